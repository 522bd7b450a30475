/-! calls that only read: class and model answer alike */ -/
section CALLS1
variable {sc : Nat × (Nat → Int)} {iv : Nat → Nat → Int}
/-- a call of both answers alike, and they stay alike -/
def Both (sc : Nat × (Nat → Int)) (mc mm : Nat) (lc lm : List (Option AV)) (iv : Nat → Nat → Int) : Prop := ∃ a iv1 iv2 w h n, Run sc mc 0 lc [] (hp iv) = some (some (I a), hp iv1) ∧ Run sc mm 0 lm [] (hp iv1) = some (some (I a), hp iv2) ∧ InvW iv2 w h n
theorem Both.same {mc mm : Nat} {lc lm : List (Option AV)} {w h n : Nat} {a : Int} (H : InvW iv w h n) (h1 : Run sc mc 0 lc [] (hp iv) = some (some (I a), hp iv)) (h2 : Run sc mm 0 lm [] (hp iv) = some (some (I a), hp iv)) : Both sc mc mm lc lm iv := ⟨a, iv, iv, w, h, n, h1, h2, H⟩
theorem cell_B {w h n : Nat} {x y : Int} (H : InvW iv w h n) : Both sc 83 132 [some (Rf 1), some (I x), some (I y)] [some (Rf 52), some (I x), some (I y)] iv := by
  obtain ⟨hM, -⟩ := id H
  obtain ⟨⟨d1, d2, d3, d4, d5, d6⟩, -⟩ := id hM
  by_cases c : inC iv x y
  · refine Both.same (a := gC iv x y) H ?_ ?_
    · rw [B_X6_cell_0, has_T c, aBind_some, pushR_some, B_X6_cell_9, ite_F (by omega), colorAt_S (by omega) (by omega), aBind_some, pushR_some, B_X6_cell_21, B_X6_cell_25]
    · rw [B_X7_cell_0, cell_T hM c, aBind_some, pushR_some, B_X7_cell_6, ite_F (by omega), at_M hM, aBind_some, pushR_some, B_X7_cell_15, B_X7_cell_19, aM_in c]
  · refine Both.same (a := -1) H ?_ ?_
    · rw [B_X6_cell_0, has_F c, aBind_some, pushR_some, B_X6_cell_9, ite_T rfl, B_X6_cell_24, B_X6_cell_25]
    · rw [B_X7_cell_0, cell_F hM c, aBind_some, pushR_some, B_X7_cell_6, ite_T rfl, B_X7_cell_18, B_X7_cell_19]
theorem lone_B {w h n : Nat} {x y : Int} (H : InvW iv w h n) : Both sc 85 135 [some (Rf 1), some (I x), some (I y)] [some (Rf 52), some (I x), some (I y)] iv := by
  obtain ⟨hM, -⟩ := id H
  obtain ⟨⟨d1, d2, d3, d4, d5, d6⟩, -⟩ := id hM
  by_cases c : inC iv x y
  · have hb := lonI_b (iv := iv) (x := x) (y := y)
    have hx : -100 ≤ x ∧ x ≤ 100 := by unfold inC at c; omega
    have hy : -100 ≤ y ∧ y ≤ 100 := by unfold inC at c; omega
    refine Both.same (a := lonI iv x y) H ?_ ?_
    · rw [B_X6_isLone_0, has_T c, aBind_some, pushR_some, B_X6_isLone_9, ite_F (by omega), B_X6_isLone_14, alone_S (by omega) (by omega) hx hy, aBind_some, pushR_some, B_X6_isLone_23]
      by_cases z : lonI iv x y = 0
      · rw [if_pos z, B_X6_isLone_30, B_X6_isLone_31, z]
      · rw [if_neg z, B_X6_isLone_31, show lonI iv x y = 1 by omega]
    · rw [B_X7_isLone_0, cell_T hM c, aBind_some, pushR_some, B_X7_isLone_6, ite_F (by omega), B_X7_isLone_11, sta_M hM hx hy, aBind_some, pushR_some, B_X7_isLone_17]
      by_cases z : lonI iv x y = 0
      · rw [if_pos z, B_X7_isLone_24, B_X7_isLone_25, z]
      · rw [if_neg z, B_X7_isLone_25, show lonI iv x y = 1 by omega]
  · refine Both.same (a := -1) H ?_ ?_
    · rw [B_X6_isLone_0, has_F c, aBind_some, pushR_some, B_X6_isLone_9, ite_T rfl]
    · rw [B_X7_isLone_0, cell_F hM c, aBind_some, pushR_some, B_X7_isLone_6, ite_T rfl]
theorem pages_B {w h n : Nat} (H : InvW iv w h n) : Both sc 101 167 [some (Rf 1)] [some (Rf 52)] iv := by
  obtain ⟨hM, hL, -⟩ := id H
  refine Both.same (a := acr iv * dwn iv) H ?_ (pgs_M hM hL)
  rw [B_X6_pages_0, tot_S hL.1 hM.1, aBind_some, pushR_some, B_X6_pages_7]
theorem pageOf_B {w h n : Nat} {x y : Int} (H : InvW iv w h n) : Both sc 102 175 [some (Rf 1), some (I x), some (I y)] [some (Rf 52), some (I x), some (I y)] iv := by
  obtain ⟨hM, hL, -⟩ := id H
  obtain ⟨⟨d1, d2, d3, d4, d5, d6⟩, -⟩ := id hM
  by_cases c : inC iv x y
  · refine Both.same (a := ownC iv x y) H ?_ ?_
    · rw [B_X6_pageOf_0, has_T c, aBind_some, pushR_some, B_X6_pageOf_9, ite_F (by omega), own_S hL.1 hM.1 (by omega) (by omega), aBind_some, pushR_some, B_X6_pageOf_21, B_X6_pageOf_25]
    · rw [B_X7_pageOf_0, cell_T hM c, aBind_some, pushR_some, B_X7_pageOf_6, ite_F (by omega), own_M hM hL (by omega) (by omega), aBind_some, pushR_some, B_X7_pageOf_15, B_X7_pageOf_19]
  · refine Both.same (a := -1) H ?_ ?_
    · rw [B_X6_pageOf_0, has_F c, aBind_some, pushR_some, B_X6_pageOf_9, ite_T rfl, B_X6_pageOf_24, B_X6_pageOf_25]
    · rw [B_X7_pageOf_0, cell_F hM c, aBind_some, pushR_some, B_X7_pageOf_6, ite_T rfl, B_X7_pageOf_18, B_X7_pageOf_19]
theorem back_B {w h n : Nat} {x y u : Int} (H : InvW iv w h n) (hu : u = 0 ∨ u = 1) : Both sc 94 156 [some (Rf 1), some (I x), some (I y), some (I u)] [some (Rf 52), some (I x), some (I y), some (I u)] iv := by
  obtain ⟨hM, -, -, ⟨hB, -⟩, -⟩ := id H
  obtain ⟨hD, -, -, hU, hF, -⟩ := id hB
  obtain ⟨d1, d2, d3, d4, d5, d6⟩ := id hD
  rcases hu with rfl | rfl
  · have hb := eF_b (w := w) (h := h) (x := x) (y := y) hF (by omega) (by omega)
    by_cases c : inF w h x y
    · refine Both.same (a := eF w h (iv 46) x y) H ?_ ?_
      · rw [B_X6_back_0, hasF_T hD c, aBind_some, pushR_some, B_X6_back_10, ite_F (by omega), atF_S hD hF, aBind_some, pushR_some, B_X6_back_23, B_X6_back_27]
      · rw [B_X7_back_0, noF_M hB, aBind_some, pushR_some, B_X7_back_7, if_pos c, ite_T rfl, B_X7_back_12, hbF_M hB, aBind_some, pushR_some, B_X7_back_19]
        by_cases z : eF w h (iv 46) x y = 0
        · rw [if_pos z, B_X7_back_26, B_X7_back_27, z]
        · rw [if_neg z, B_X7_back_27, show eF w h (iv 46) x y = 1 by omega]
    · refine Both.same (a := -1) H ?_ ?_
      · rw [B_X6_back_0, hasF_F hD c, aBind_some, pushR_some, B_X6_back_10, ite_T rfl, B_X6_back_26, B_X6_back_27]
      · rw [B_X7_back_0, noF_M hB, aBind_some, pushR_some, B_X7_back_7, if_neg c, ite_F (by omega)]
  · have hb := eU_b (w := w) (h := h) (x := x) (y := y) hU (by omega) (by omega)
    by_cases c : inU w h x y
    · refine Both.same (a := eU w h (iv 45) x y) H ?_ ?_
      · rw [B_X6_back_0, hasU_T hD c, aBind_some, pushR_some, B_X6_back_10, ite_F (by omega), atU_S hD hU, aBind_some, pushR_some, B_X6_back_23, B_X6_back_27]
      · rw [B_X7_back_0, noU_M hB, aBind_some, pushR_some, B_X7_back_7, if_pos c, ite_T rfl, B_X7_back_12, hbU_M hB, aBind_some, pushR_some, B_X7_back_19]
        by_cases z : eU w h (iv 45) x y = 0
        · rw [if_pos z, B_X7_back_26, B_X7_back_27, z]
        · rw [if_neg z, B_X7_back_27, show eU w h (iv 45) x y = 1 by omega]
    · refine Both.same (a := -1) H ?_ ?_
      · rw [B_X6_back_0, hasU_F hD c, aBind_some, pushR_some, B_X6_back_10, ite_T rfl, B_X6_back_26, B_X6_back_27]
      · rw [B_X7_back_0, noU_M hB, aBind_some, pushR_some, B_X7_back_7, if_neg c, ite_F (by omega)]
theorem page_B {w h n : Nat} {p what : Int} (H : InvW iv w h n) : Both sc 99 169 [some (Rf 1), some (I p), some (I what)] [some (Rf 52), some (I p), some (I what), none, none, none, none, none, none, none, none, none] iv := by
  obtain ⟨hM, hL, -⟩ := id H
  have hD := hM.1
  have ht := tot_b hL.1 hD
  refine Both.same (a := pagF iv p what) H ?_ (pag_M hM hL)
  unfold pagF
  by_cases c : 0 ≤ p ∧ p < acr iv * dwn iv
  · have hp0 : 0 ≤ p ∧ p ≤ 2500 := by omega
    have s1 : (if iv 2 0 - lefC iv p < iv 49 1 then iv 2 0 - lefC iv p else iv 49 1) = rigC iv p - lefC iv p := by unfold rigC; split <;> split <;> omega
    have s2 : (if iv 2 1 - topC iv p < iv 49 2 then iv 2 1 - topC iv p else iv 49 2) = botC iv p - topC iv p := by unfold botC; split <;> split <;> omega
    rw [B_X6_page_0, hasP_T hL.1 hD c, aBind_some, pushR_some, B_X6_page_8, ite_F (by omega), B_X6_page_13, if_pos c]
    by_cases c0 : what = 0
    · rw [if_pos c0, if_pos c0, B_X6_page_52, lef_S hL.1 hD hp0, aBind_some, pushR_some, B_X6_page_60]
    rw [if_neg c0, if_neg c0]
    by_cases c1 : what = 1
    · rw [if_pos c1, if_pos c1, B_X6_page_61, top_S hL.1 hD hp0, aBind_some, pushR_some, B_X6_page_69]
    rw [if_neg c1, if_neg c1]
    by_cases c2 : what = 2
    · rw [if_pos c2, if_pos c2, B_X6_page_70, shownC_S hL.1 hD hp0, aBind_some, pushR_some, B_X6_page_78, s1]
    rw [if_neg c2, if_neg c2]
    by_cases c3 : what = 3
    · rw [if_pos c3, if_pos c3, B_X6_page_79, shownL_S hL.1 hD hp0, aBind_some, pushR_some, B_X6_page_87, s2]
    rw [if_neg c3, if_neg c3]
    by_cases c4 : what = 4
    · rw [if_pos c4, if_pos c4, B_X6_page_88, tal_S hL.1 hD hp0 (by omega), aBind_some, pushR_some, B_X6_page_100]
    rw [if_neg c4, if_neg c4]
    by_cases c5 : what = 5
    · rw [if_pos c5, if_pos c5, B_X6_page_101, tal_S hL.1 hD hp0 (by omega), aBind_some, pushR_some, B_X6_page_113]
    rw [if_neg c5, if_neg c5, B_X6_page_114]
  · rw [B_X6_page_0, hasP_F hL.1 hD c, aBind_some, pushR_some, B_X6_page_8, ite_T rfl, if_neg c]
end CALLS1
