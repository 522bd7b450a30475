/-! setBack -/
section CALLSB
variable {sc : Nat × (Nat → Int)} {iv : Nat → Nat → Int}
theorem setBackU_B {w h n : Nat} {x y on : Int} (H : InvW iv w h n) (hon : 0 ≤ on ∧ on ≤ 1) : Both sc 93 155 [some (Rf 1), some (I x), some (I y), some (I 1), some (I on)] [some (Rf 52), some (I x), some (I y), some (I 1), some (I on)] iv := by
  obtain ⟨h1, h2, h3, ⟨hB, h4'⟩, h5, h6⟩ := id H
  obtain ⟨h4, b1, b2, b3, b4, b5⟩ := id hB
  obtain ⟨d1, d2, d3, d4, d5, d6⟩ := id h4
  by_cases c : inU w h x y
  · have hj : (y * 25 + x).toNat < 625 := by omega
    have e1 := putU_S (sc := sc) h4 b3 c hon
    generalize hs1 : bkP iv 45 (y * 25 + x).toNat on = s1 at e1
    have kk : ∀ k, k ≠ 45 → s1 k = iv k := fun k u => by rw [← hs1, bkP_ne u]
    have v45 : ∀ i, s1 45 i = if i = (y * 25 + x).toNat then on else iv 45 i := fun i => by rw [← hs1, bkP_eq]
    have hB1 : MBk iv s1 w h := ⟨h4, by rw [kk 52 (by omega)]; exact b1, by rw [kk 52 (by omega)]; exact b2, b3, b4, by rw [kk 56 (by omega), kk 55 (by omega)]; exact b5⟩
    have e2 := putU_M (sc := sc) hB1 c hon
    generalize hs2 : setO s1 56 (upI (s1 56) (y * 25 + x).toNat on) = s2 at e2
    have jk : ∀ k, k ≠ 56 → s2 k = s1 k := fun k u => by rw [← hs2, setO_ne u]
    have j56 : ∀ i, s2 56 i = if i = (y * 25 + x).toNat then on else iv 56 i := fun i => by rw [← hs2, setO_same, kk 56 (by omega)]; rfl
    have g45 : ∀ i, s2 45 i = if i = (y * 25 + x).toNat then on else iv 45 i := fun i => by rw [jk 45 (by omega)]; exact v45 i
    have g46 : s2 46 = iv 46 := by rw [jk 46 (by omega), kk 46 (by omega)]
    have g55 : s2 55 = iv 55 := by rw [jk 55 (by omega), kk 55 (by omega)]
    refine ⟨if iv 45 (y * 25 + x).toNat = on then 0 else 1, s1, s2, w, h, n, ?_, ?_, H.bk (fun k a _ _ d => by rw [jk k d, kk k a]) ⟨fun j hj => ?_, by rw [g46]; exact b4, fun j hj => ⟨?_, by rw [g55, g46]; exact (b5 j hj).2⟩⟩ fun j hj => ⟨fun z => ?_, fun z => by rw [g46]; exact (h4' j hj).2 z⟩⟩
    · rw [B_X6_setBack_0, hasU_T h4 c, aBind_some, pushR_some, B_X6_setBack_10, ite_F (by omega), e1, aBind_some, pushR_some, B_X6_setBack_25, B_X6_setBack_29]
    · rw [B_X7_setBack_0, noU_M hB1, aBind_some, pushR_some, B_X7_setBack_7, if_pos c, ite_T rfl, B_X7_setBack_14, e2, aBind_some, pushR_some, B_X7_setBack_23]
    · rw [g45]; have := b3 j hj; split <;> omega
    · rw [g45, j56, (b5 j hj).1]
    · rw [g45]
      by_cases e : j = (y * 25 + x).toNat
      · exfalso
        obtain ⟨p1, p2, p3, p4, p5⟩ := pXY (a := j)
        have ex : pX j = x := by omega
        have ey : pY j = y := by omega
        rw [ex, ey] at z
        exact z c
      · rw [if_neg e]; exact (h4' j hj).1 z
  · refine Both.same (a := -1) H ?_ ?_
    · rw [B_X6_setBack_0, hasU_F h4 c, aBind_some, pushR_some, B_X6_setBack_10, ite_T rfl, B_X6_setBack_28, B_X6_setBack_29]
    · rw [B_X7_setBack_0, noU_M hB, aBind_some, pushR_some, B_X7_setBack_7, if_neg c, ite_F (by omega), B_X7_setBack_23]
end CALLSB
