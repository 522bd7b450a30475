/-! setBack, flat; outline -/
section CALLSC
variable {sc : Nat × (Nat → Int)} {iv : Nat → Nat → Int}
theorem setBackF_B {w h n : Nat} {x y on : Int} (H : InvW iv w h n) (hon : 0 ≤ on ∧ on ≤ 1) : Both sc 93 155 [some (Rf 1), some (I x), some (I y), some (I 0), some (I on)] [some (Rf 52), some (I x), some (I y), some (I 0), some (I on)] iv := by
  obtain ⟨h1, h2, h3, ⟨hB, h4'⟩, h5, h6⟩ := id H
  obtain ⟨h4, b1, b2, b3, b4, b5⟩ := id hB
  obtain ⟨d1, d2, d3, d4, d5, d6⟩ := id h4
  by_cases c : inF w h x y
  · have hj : (y * 25 + x).toNat < 625 := by omega
    have e1 := putF_S (sc := sc) h4 b4 c hon
    generalize hs1 : bkP iv 46 (y * 25 + x).toNat on = s1 at e1
    have kk : ∀ k, k ≠ 46 → s1 k = iv k := fun k u => by rw [← hs1, bkP_ne u]
    have v46 : ∀ i, s1 46 i = if i = (y * 25 + x).toNat then on else iv 46 i := fun i => by rw [← hs1, bkP_eq]
    have hB1 : MBk iv s1 w h := ⟨h4, by rw [kk 52 (by omega)]; exact b1, by rw [kk 52 (by omega)]; exact b2, b3, b4, by rw [kk 56 (by omega), kk 55 (by omega)]; exact b5⟩
    have e2 := putF_M (sc := sc) hB1 c hon
    generalize hs2 : setO s1 55 (upI (s1 55) (y * 25 + x).toNat on) = s2 at e2
    have jk : ∀ k, k ≠ 55 → s2 k = s1 k := fun k u => by rw [← hs2, setO_ne u]
    have j55 : ∀ i, s2 55 i = if i = (y * 25 + x).toNat then on else iv 55 i := fun i => by rw [← hs2, setO_same, kk 55 (by omega)]; rfl
    have g46 : ∀ i, s2 46 i = if i = (y * 25 + x).toNat then on else iv 46 i := fun i => by rw [jk 46 (by omega)]; exact v46 i
    have g45 : s2 45 = iv 45 := by rw [jk 45 (by omega), kk 45 (by omega)]
    have g56 : s2 56 = iv 56 := by rw [jk 56 (by omega), kk 56 (by omega)]
    refine ⟨if iv 46 (y * 25 + x).toNat = on then 0 else 1, s1, s2, w, h, n, ?_, ?_, H.bk (fun k _ a c _ => by rw [jk k c, kk k a]) ⟨by rw [g45]; exact b3, fun j hj => ?_, fun j hj => ⟨by rw [g56, g45]; exact (b5 j hj).1, ?_⟩⟩ fun j hj => ⟨fun z => by rw [g45]; exact (h4' j hj).1 z, fun z => ?_⟩⟩
    · rw [B_X6_setBack_0, hasF_T h4 c, aBind_some, pushR_some, B_X6_setBack_10, ite_F (by omega), e1, aBind_some, pushR_some, B_X6_setBack_25, B_X6_setBack_29]
    · rw [B_X7_setBack_0, noF_M hB1, aBind_some, pushR_some, B_X7_setBack_7, if_pos c, ite_T rfl, B_X7_setBack_14, e2, aBind_some, pushR_some, B_X7_setBack_23]
    · rw [g46]; have := b4 j hj; split <;> omega
    · rw [g46, j55, (b5 j hj).2]
    · rw [g46]
      by_cases e : j = (y * 25 + x).toNat
      · exfalso
        obtain ⟨p1, p2, p3, p4, p5⟩ := pXY (a := j)
        have ex : pX j = x := by omega
        have ey : pY j = y := by omega
        rw [ex, ey] at z
        exact z c
      · rw [if_neg e]; exact (h4' j hj).2 z
  · refine Both.same (a := -1) H ?_ ?_
    · rw [B_X6_setBack_0, hasF_F h4 c, aBind_some, pushR_some, B_X6_setBack_10, ite_T rfl, B_X6_setBack_28, B_X6_setBack_29]
    · rw [B_X7_setBack_0, noF_M hB, aBind_some, pushR_some, B_X7_setBack_7, if_neg c, ite_F (by omega), B_X7_setBack_23]
theorem outline_B {w h n : Nat} {c : Int} (H : InvW iv w h n) : Both sc 95 157 [some (Rf 1), some (I c)] [some (Rf 52), some (I c), none, none, none, none] iv := by
  by_cases hc : 1 ≤ c ∧ c ≤ 6
  · obtain ⟨a, i1, i2, e1, e2, hI⟩ := outl_B (sc := sc) H hc
    refine ⟨a, i1, i2, w, h, n, ?_, e2, hI⟩
    rw [B_X6_outline_0, isColC_T hc, aBind_some, pushR_some, B_X6_outline_4, ite_F (by omega), e1, aBind_some, pushR_some, B_X6_outline_15, B_X6_outline_20]
  · refine Both.same (a := -2) H ?_ ?_
    · rw [B_X6_outline_0, isColC_F hc, aBind_some, pushR_some, B_X6_outline_4, ite_T rfl, B_X6_outline_18, B_X6_outline_20]
    · rw [B_X7_outline_0, isCol_F hc, aBind_some, pushR_some, B_X7_outline_4, ite_T rfl]
end CALLSC
