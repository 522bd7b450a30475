/-! backs -/
section CALLS8
variable {sc : Nat × (Nat → Int)} {iv iv1 iv2 : Nat → Nat → Int}
theorem InvW.search {w h n : Nat} (H : InvW iv w h n) (o : OnlyB iv iv1) (q : OnlyQ iv1 iv2) : InvW iv2 w h n := by
  obtain ⟨h1, h2, h3, ⟨⟨h4, b1, b2, b3, b4, b5⟩, h4'⟩, h5, h6⟩ := id H
  have kj : ∀ k, k ≠ 47 → k ≠ 48 → k ≠ 44 → k ≠ 64 → k ≠ 65 → k ≠ 52 → iv2 k = iv k := fun k a b c d e f => (q.1 k d e f).trans (o.1 k a b c)
  have p52 : ∀ f, f ≠ 27 → iv2 52 f = iv 52 f := fun f hf => by rw [q.2 f hf, o.1 52 (by omega) (by omega) (by omega)]
  refine H.ch (fun k _ _ _ a b c _ _ _ f _ _ _ d e => kj k a b c d e f) ⟨p52 0 (by omega), p52 1 (by omega)⟩ ?_ ?_ ?_ ?_ ?_
  · unfold MLy LayB at h2 ⊢
    rw [kj 49 (by omega) (by omega) (by omega) (by omega) (by omega) (by omega), p52 4 (by omega), p52 5 (by omega), p52 6 (by omega)]; exact h2
  · unfold YarnB at h3 ⊢
    rw [kj 6 (by omega) (by omega) (by omega) (by omega) (by omega) (by omega), p52 2 (by omega), p52 3 (by omega)]; exact h3
  · rw [kj 45 (by omega) (by omega) (by omega) (by omega) (by omega) (by omega), kj 46 (by omega) (by omega) (by omega) (by omega) (by omega) (by omega), kj 55 (by omega) (by omega) (by omega) (by omega) (by omega) (by omega), kj 56 (by omega) (by omega) (by omega) (by omega) (by omega) (by omega)]; exact ⟨b3, b4, b5⟩
  · unfold BkOut at h4' ⊢; rw [kj 45 (by omega) (by omega) (by omega) (by omega) (by omega) (by omega), kj 46 (by omega) (by omega) (by omega) (by omega) (by omega) (by omega)]; exact h4'
  · unfold TxtB MTx at h5 ⊢; rw [kj 50 (by omega) (by omega) (by omega) (by omega) (by omega) (by omega), kj 51 (by omega) (by omega) (by omega) (by omega) (by omega) (by omega), kj 63 (by omega) (by omega) (by omega) (by omega) (by omega) (by omega), p52 17 (by omega)]; exact h5
theorem backs_B {w h n : Nat} {what : Int} (H : InvW iv w h n) : Both sc 97 163 [some (Rf 1), some (I what)] [some (Rf 52), some (I what), none, none, none, none, none, none] iv := by
  obtain ⟨h1, h2, ⟨hy, y1, y2⟩, ⟨hB, h4'⟩, h5, h6⟩ := id H
  obtain ⟨h4, b1, b2, b3, b4, b5⟩ := id hB
  obtain ⟨d1, d2, d3, d4, d5, d6⟩ := id h4
  obtain ⟨z1, z2⟩ := hy
  have fin : ∀ iv1, OnlyB iv iv1 → Run sc 97 0 [some (Rf 1), some (I what)] [] (hp iv) = some (some (I (bacF w h (iv 45) (iv 46) (iv 6 1) what)), hp iv1) → Both sc 97 163 [some (Rf 1), some (I what)] [some (Rf 52), some (I what), none, none, none, none, none, none] iv := fun iv1 o hr => by
    have e52 := o.1 52 (by omega) (by omega) (by omega)
    have hB1 : MBk iv iv1 w h := ⟨h4, by rw [e52]; exact b1, by rw [e52]; exact b2, b3, b4, by rw [o.1 56 (by omega) (by omega) (by omega), o.1 55 (by omega) (by omega) (by omega)]; exact b5⟩
    obtain ⟨iv2, e2, q⟩ := bac_M (sc := sc) (what := what) hB1 h4' (by rw [e52, y2]; exact z2)
    rw [e52, y2] at e2
    exact ⟨_, iv1, iv2, w, h, n, hr, e2, H.search o q⟩
  have hed := edgC_b (U := iv 45) (F := iv 46) d4 d6 b3 b4
  have hv := grS_b (A := adjP w h (iv 45) (iv 46)) (pt := ptN w h (iv 45) (iv 46)) 625 (Nat.le_refl _)
  obtain ⟨u1, g1, o1⟩ := sgr_S (sc := sc) (os := 0) h4 b3 b4 (Or.inl rfl)
  obtain ⟨u2, g2, o2⟩ := sgr_S (sc := sc) (os := 1) h4 b3 b4 (Or.inr rfl)
  have v1 : grV (grS (adjP w h (iv 45) (iv 46)) (ptN w h (iv 45) (iv 46)) 625) 0 = (grS (adjP w h (iv 45) (iv 46)) (ptN w h (iv 45) (iv 46)) 625).2.1 := if_pos rfl
  have v2 : grV (grS (adjP w h (iv 45) (iv 46)) (ptN w h (iv 45) (iv 46)) 625) 1 = (grS (adjP w h (iv 45) (iv 46)) (ptN w h (iv 45) (iv 46)) 625).2.2.1 := if_neg (by omega)
  rw [v1] at g1
  rw [v2] at g2
  unfold bacF at fin
  by_cases c0 : what = 0
  · refine fin iv OnlyB.rf ?_
    rw [B_X6_backs_0, if_pos c0, if_pos c0, B_X6_backs_36, edg_S h4 b3 b4, aBind_some, pushR_some, B_X6_backs_43]
  by_cases c1 : what = 1
  · refine fin u1 o1 ?_
    rw [B_X6_backs_0, if_neg c0, if_neg c0, if_pos c1, if_pos c1, B_X6_backs_44, B_X0_groups_0, g1, aBind_some, pushR_some, B_X0_groups_5, aBind_some, pushR_some, B_X6_backs_51]
  by_cases c2 : what = 2
  · refine fin u2 o2 ?_
    rw [B_X6_backs_0, if_neg c0, if_neg c0, if_neg c1, if_neg c1, if_pos c2, if_pos c2, B_X6_backs_52, B_X0_strands_0, g2, aBind_some, pushR_some, B_X0_strands_5, aBind_some, pushR_some, B_X6_backs_59]
  by_cases c3 : what = 3
  · refine fin u2 o2 ?_
    have hm := mulB (a := 2 * iv 6 1) (b := (grS (adjP w h (iv 45) (iv 46)) (ptN w h (iv 45) (iv 46)) 625).2.2.1) (m := 400) (n := 200000) (by omega) (by omega)
    rw [B_X6_backs_0, if_neg c0, if_neg c0, if_neg c1, if_neg c1, if_neg c2, if_neg c2, if_pos c3, if_pos c3, B_X6_backs_60, edg_S h4 b3 b4, aBind_some, pushR_some, B_X6_backs_69, chk_pos (by omega), chk_pos (by omega), B_X0_strands_0, g2, aBind_some, pushR_some, B_X0_strands_5, aBind_some, pushR_some, B_X6_backs_86, chk_pos (by omega), chk_pos (by omega)]
  by_cases c4 : what = 4
  · refine fin iv OnlyB.rf ?_
    rw [B_X6_backs_0, if_neg c0, if_neg c0, if_neg c1, if_neg c1, if_neg c2, if_neg c2, if_neg c3, if_neg c3, if_pos c4, if_pos c4, B_X6_backs_89, odd_S h4 b3 b4, aBind_some, pushR_some, B_X6_backs_96]
  · refine fin iv OnlyB.rf ?_
    rw [B_X6_backs_0, if_neg c0, if_neg c0, if_neg c1, if_neg c1, if_neg c2, if_neg c2, if_neg c3, if_neg c3, if_neg c4, if_neg c4, B_X6_backs_97]
end CALLS8
