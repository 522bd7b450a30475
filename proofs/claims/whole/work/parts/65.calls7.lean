/-! clearBack -/
section CALLS7
variable {sc : Nat × (Nat → Int)} {iv iv2 : Nat → Nat → Int}
theorem clearBack_B {w h n : Nat} (H : InvW iv w h n) : Both sc 96 159 [some (Rf 1), none] [some (Rf 52), none, none] iv := by
  obtain ⟨h1, h2, h3, ⟨⟨h4, b1, b2, b3, b4, b5⟩, h4'⟩, h5, h6⟩ := id H
  obtain ⟨s1, e1, kk, z1⟩ := remAll_S (sc := sc) (iv := iv)
  have hB1 : MBk iv s1 w h := ⟨h4, by rw [kk 52 (by omega) (by omega)]; exact b1, by rw [kk 52 (by omega) (by omega)]; exact b2, b3, b4, by rw [kk 56 (by omega) (by omega), kk 55 (by omega) (by omega)]; exact b5⟩
  obtain ⟨s2, e2, jk, z2⟩ := clr_M (sc := sc) hB1 h4'
  have kj : ∀ k, k ≠ 45 → k ≠ 46 → k ≠ 55 → k ≠ 56 → s2 k = iv k := fun k a b c d => (jk k c d).trans (kk k a b)
  have v45 : ∀ j, j < 625 → s2 45 j = 0 ∧ s2 46 j = 0 := fun j hj => by rw [jk 45 (by omega) (by omega), jk 46 (by omega) (by omega)]; exact z1 j hj
  refine ⟨edgC w h (iv 45) (iv 46), s1, s2, w, h, n, ?_, e2, ?_⟩
  · rw [B_X6_clearBack_0, edg_S h4 b3 b4, aBind_some, pushR_some, B_X6_clearBack_7, e1, aBind_some, pushR_none, B_X6_clearBack_15]
  · refine H.ch (fun k _ a b _ _ _ _ _ _ _ c d _ _ _ => kj k a b c d) ⟨by rw [kj 52 (by omega) (by omega) (by omega) (by omega)], by rw [kj 52 (by omega) (by omega) (by omega) (by omega)]⟩ ?_ ?_ ⟨fun j hj => by have := v45 j hj; omega, fun j hj => by have := v45 j hj; omega, fun j hj => ?_⟩ (fun j hj => ⟨fun _ => (v45 j hj).1, fun _ => (v45 j hj).2⟩) ?_
    · unfold MLy LayB at h2 ⊢
      rw [kj 49 (by omega) (by omega) (by omega) (by omega), kj 52 (by omega) (by omega) (by omega) (by omega)]; exact h2
    · unfold YarnB at h3 ⊢
      rw [kj 6 (by omega) (by omega) (by omega) (by omega), kj 52 (by omega) (by omega) (by omega) (by omega)]; exact h3
    · have := v45 j hj
      have := z2 j hj
      omega
    · unfold TxtB MTx at h5 ⊢; rw [kj 50 (by omega) (by omega) (by omega) (by omega), kj 51 (by omega) (by omega) (by omega) (by omega), kj 63 (by omega) (by omega) (by omega) (by omega), kj 52 (by omega) (by omega) (by omega) (by omega)]; exact h5
end CALLS7
