/-! setBack -/
section CALLSA
variable {sc : Nat × (Nat → Int)} {iv s1 s2 : Nat → Nat → Int}
/-- back stitches changed alike -/
theorem InvW.bk {w h n : Nat} (H : InvW iv w h n) (kj : ∀ k, k ≠ 45 → k ≠ 46 → k ≠ 55 → k ≠ 56 → s2 k = iv k) (hb : bitB (s2 45) ∧ bitB (s2 46) ∧ ∀ j, j < 625 → s2 56 j = s2 45 j ∧ s2 55 j = s2 46 j) (ho : BkOut s2 w h) : InvW s2 w h n := by
  obtain ⟨h1, h2, h3, ⟨⟨h4, b1, b2, b3, b4, b5⟩, h4'⟩, h5, h6⟩ := id H
  refine H.ch (fun k _ a b _ _ _ _ _ _ _ c d _ _ _ => kj k a b c d) ⟨by rw [kj 52 (by omega) (by omega) (by omega) (by omega)], by rw [kj 52 (by omega) (by omega) (by omega) (by omega)]⟩ ?_ ?_ hb ho ?_
  · unfold MLy LayB at h2 ⊢
    rw [kj 49 (by omega) (by omega) (by omega) (by omega), kj 52 (by omega) (by omega) (by omega) (by omega)]; exact h2
  · unfold YarnB at h3 ⊢
    rw [kj 6 (by omega) (by omega) (by omega) (by omega), kj 52 (by omega) (by omega) (by omega) (by omega)]; exact h3
  · unfold TxtB MTx at h5 ⊢; rw [kj 50 (by omega) (by omega) (by omega) (by omega), kj 51 (by omega) (by omega) (by omega) (by omega), kj 63 (by omega) (by omega) (by omega) (by omega), kj 52 (by omega) (by omega) (by omega) (by omega)]; exact h5
/-- an outline drawn alike -/
theorem outl_B {w h n : Nat} {c : Int} (H : InvW iv w h n) (hc : 1 ≤ c ∧ c ≤ 6) : ∃ a i1 i2, Run sc 6 0 [some (Rf 44), some (I c), none, none, none, none] [] (hp iv) = some (some (I a), hp i1) ∧ Run sc 157 0 [some (Rf 52), some (I c), none, none, none, none] [] (hp i1) = some (some (I a), hp i2) ∧ InvW i2 w h n := by
  obtain ⟨h1, h2, h3, ⟨⟨h4, b1, b2, b3, b4, b5⟩, h4'⟩, h5, h6⟩ := id H
  obtain ⟨i1, e1, kk, z1⟩ := out_S (sc := sc) h4 b3 b4 hc.1
  have hB1 : MBk iv i1 w h := ⟨h4, by rw [kk 52 (by omega) (by omega)]; exact b1, by rw [kk 52 (by omega) (by omega)]; exact b2, b3, b4, by rw [kk 56 (by omega) (by omega), kk 55 (by omega) (by omega)]; exact b5⟩
  have hM1 : MGr iv i1 w h := by
    obtain ⟨a, b, c, d⟩ := h1
    exact ⟨a, by rw [kk 52 (by omega) (by omega)]; exact b, by rw [kk 52 (by omega) (by omega)]; exact c, by rw [kk 53 (by omega) (by omega)]; exact d⟩
  obtain ⟨i2, e2, jk, z2⟩ := outl_M (sc := sc) hM1 hB1 hc
  have kj : ∀ k, k ≠ 45 → k ≠ 46 → k ≠ 55 → k ≠ 56 → i2 k = iv k := fun k a b c d => (jk k c d).trans (kk k a b)
  have v : ∀ j, j < 625 → i2 45 j = nU iv c j ∧ i2 46 j = nF iv c j := fun j hj => by rw [jk 45 (by omega) (by omega), jk 46 (by omega) (by omega)]; exact z1 j hj
  have bU : ∀ j, j < 625 → 0 ≤ nU iv c j ∧ nU iv c j ≤ 1 := fun j hj => by unfold nU; have := b3 j hj; split <;> omega
  have bF : ∀ j, j < 625 → 0 ≤ nF iv c j ∧ nF iv c j ≤ 1 := fun j hj => by unfold nF; have := b4 j hj; split <;> omega
  refine ⟨_, i1, i2, e1, e2, H.bk kj ⟨fun j hj => by rw [(v j hj).1]; exact bU j hj, fun j hj => by rw [(v j hj).2]; exact bF j hj, fun j hj => ?_⟩ fun j hj => ⟨fun z => ?_, fun z => ?_⟩⟩
  · obtain ⟨a1, a2⟩ := v j hj
    obtain ⟨a3, a4⟩ := z2 j hj
    exact ⟨a3.trans a1.symm, a4.trans a2.symm⟩
  · rw [(v j hj).1]
    unfold nU
    rw [if_neg (fun y => z (outU_in h4 hc.1 pXY.1.1 pXY.2.1 y))]
    exact (h4' j hj).1 z
  · rw [(v j hj).2]
    unfold nF
    rw [if_neg (fun y => z (outF_in h4 hc.1 pXY.1.1 pXY.2.1 y))]
    exact (h4' j hj).2 z
end CALLSA
