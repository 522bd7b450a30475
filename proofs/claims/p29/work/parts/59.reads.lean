/-! calls that only read: cell, isLone, pages, pageOf, back, page */ -/
section READS
variable {sc : Nat × (Nat → Int)} {iv : Nat → Nat → Int} {O : Nat → Nat → Int} {w h n : Nat}
def celF (iv : Nat → Nat → Int) (x y : Int) : Int := if inC iv x y then gC iv x y else -1
theorem cell_S {x y : Int} (H : InvC iv O w h n) : Run sc 83 0 [some (Rf 1), some (I x), some (I y)] [] (hp iv) = some (some (I (celF iv x y)), hp iv) := by
  obtain ⟨⟨⟨d1, d2, d3, d4, d5, d6⟩, -⟩, -⟩ := id H
  unfold celF
  by_cases c : inC iv x y
  · rw [if_pos c, B_X6_cell_0, has_T c, aBind_some, pushR_some, B_X6_cell_9, ite_F (by omega), colorAt_S (by omega) (by omega), aBind_some, pushR_some, B_X6_cell_21, B_X6_cell_25]
  · rw [if_neg c, B_X6_cell_0, has_F c, aBind_some, pushR_some, B_X6_cell_9, ite_T rfl, B_X6_cell_24, B_X6_cell_25]
def lonF (iv : Nat → Nat → Int) (x y : Int) : Int := if inC iv x y then lonI iv x y else -1
theorem isLone_S {x y : Int} (H : InvC iv O w h n) : Run sc 85 0 [some (Rf 1), some (I x), some (I y)] [] (hp iv) = some (some (I (lonF iv x y)), hp iv) := by
  obtain ⟨⟨⟨d1, d2, d3, d4, d5, d6⟩, -⟩, -⟩ := id H
  unfold lonF
  by_cases c : inC iv x y
  · have hb := lonI_b (iv := iv) (x := x) (y := y)
    have hx : -100 ≤ x ∧ x ≤ 100 := by unfold inC at c; omega
    have hy : -100 ≤ y ∧ y ≤ 100 := by unfold inC at c; omega
    rw [if_pos c, B_X6_isLone_0, has_T c, aBind_some, pushR_some, B_X6_isLone_9, ite_F (by omega), B_X6_isLone_14, alone_S (by omega) (by omega) hx hy, aBind_some, pushR_some, B_X6_isLone_23]
    by_cases z : lonI iv x y = 0
    · rw [if_pos z, B_X6_isLone_30, B_X6_isLone_31, z]
    · rw [if_neg z, B_X6_isLone_31, show lonI iv x y = 1 by omega]
  · rw [if_neg c, B_X6_isLone_0, has_F c, aBind_some, pushR_some, B_X6_isLone_9, ite_T rfl]
theorem pages_S (H : InvC iv O w h n) : Run sc 101 0 [some (Rf 1)] [] (hp iv) = some (some (I (acr iv * dwn iv)), hp iv) := by
  obtain ⟨⟨hD, -⟩, hL, -⟩ := id H
  rw [B_X6_pages_0, tot_S hL hD, aBind_some, pushR_some, B_X6_pages_7]
def pofF (iv : Nat → Nat → Int) (x y : Int) : Int := if inC iv x y then ownC iv x y else -1
theorem pageOf_S {x y : Int} (H : InvC iv O w h n) : Run sc 102 0 [some (Rf 1), some (I x), some (I y)] [] (hp iv) = some (some (I (pofF iv x y)), hp iv) := by
  obtain ⟨⟨hD, -⟩, hL, -⟩ := id H
  obtain ⟨d1, d2, d3, d4, d5, d6⟩ := id hD
  unfold pofF
  by_cases c : inC iv x y
  · rw [if_pos c, B_X6_pageOf_0, has_T c, aBind_some, pushR_some, B_X6_pageOf_9, ite_F (by omega), own_S hL hD (by omega) (by omega), aBind_some, pushR_some, B_X6_pageOf_21, B_X6_pageOf_25]
  · rw [if_neg c, B_X6_pageOf_0, has_F c, aBind_some, pushR_some, B_X6_pageOf_9, ite_T rfl, B_X6_pageOf_24, B_X6_pageOf_25]
def bkF (iv : Nat → Nat → Int) (w h : Nat) (x y : Int) : Int := if inF w h x y then eF w h (iv 46) x y else -1
def bkU (iv : Nat → Nat → Int) (w h : Nat) (x y : Int) : Int := if inU w h x y then eU w h (iv 45) x y else -1
theorem backF_S {x y : Int} (H : InvC iv O w h n) : Run sc 94 0 [some (Rf 1), some (I x), some (I y), some (I 0)] [] (hp iv) = some (some (I (bkF iv w h x y)), hp iv) := by
  obtain ⟨⟨hD, -⟩, -, -, ⟨hU, hF, -⟩, -⟩ := id H
  unfold bkF
  by_cases c : inF w h x y
  · rw [if_pos c, B_X6_back_0, hasF_T hD c, aBind_some, pushR_some, B_X6_back_10, ite_F (by omega), atF_S hD hF, aBind_some, pushR_some, B_X6_back_23, B_X6_back_27]
  · rw [if_neg c, B_X6_back_0, hasF_F hD c, aBind_some, pushR_some, B_X6_back_10, ite_T rfl, B_X6_back_26, B_X6_back_27]
theorem backU_S {x y : Int} (H : InvC iv O w h n) : Run sc 94 0 [some (Rf 1), some (I x), some (I y), some (I 1)] [] (hp iv) = some (some (I (bkU iv w h x y)), hp iv) := by
  obtain ⟨⟨hD, -⟩, -, -, ⟨hU, hF, -⟩, -⟩ := id H
  unfold bkU
  by_cases c : inU w h x y
  · rw [if_pos c, B_X6_back_0, hasU_T hD c, aBind_some, pushR_some, B_X6_back_10, ite_F (by omega), atU_S hD hU, aBind_some, pushR_some, B_X6_back_23, B_X6_back_27]
  · rw [if_neg c, B_X6_back_0, hasU_F hD c, aBind_some, pushR_some, B_X6_back_10, ite_T rfl, B_X6_back_26, B_X6_back_27]
def pagF (g : Nat → Nat → Int) (p what : Int) : Int := if 0 ≤ p ∧ p < acr g * dwn g then
    (if what = 0 then lefC g p else if what = 1 then topC g p else if what = 2 then rigC g p - lefC g p else if what = 3 then botC g p - topC g p else if what = 4 then talC g p 1 0 6 else if what = 5 then talC g p 0 1 6 else -2) else -1
theorem page_S {p what : Int} (H : InvC iv O w h n) : Run sc 99 0 [some (Rf 1), some (I p), some (I what)] [] (hp iv) = some (some (I (pagF iv p what)), hp iv) := by
  obtain ⟨⟨hD, -⟩, hL, -⟩ := id H
  have ht := tot_b hL hD
  unfold pagF
  by_cases c : 0 ≤ p ∧ p < acr iv * dwn iv
  · have hp0 : 0 ≤ p ∧ p ≤ 2500 := by omega
    have s1 : (if iv 2 0 - lefC iv p < iv 49 1 then iv 2 0 - lefC iv p else iv 49 1) = rigC iv p - lefC iv p := by unfold rigC; split <;> split <;> omega
    have s2 : (if iv 2 1 - topC iv p < iv 49 2 then iv 2 1 - topC iv p else iv 49 2) = botC iv p - topC iv p := by unfold botC; split <;> split <;> omega
    rw [B_X6_page_0, hasP_T hL hD c, aBind_some, pushR_some, B_X6_page_8, ite_F (by omega), B_X6_page_13, if_pos c]
    by_cases c0 : what = 0
    · rw [if_pos c0, if_pos c0, B_X6_page_52, lef_S hL hD hp0, aBind_some, pushR_some, B_X6_page_60]
    rw [if_neg c0, if_neg c0]
    by_cases c1 : what = 1
    · rw [if_pos c1, if_pos c1, B_X6_page_61, top_S hL hD hp0, aBind_some, pushR_some, B_X6_page_69]
    rw [if_neg c1, if_neg c1]
    by_cases c2 : what = 2
    · rw [if_pos c2, if_pos c2, B_X6_page_70, shownC_S hL hD hp0, aBind_some, pushR_some, B_X6_page_78, s1]
    rw [if_neg c2, if_neg c2]
    by_cases c3 : what = 3
    · rw [if_pos c3, if_pos c3, B_X6_page_79, shownL_S hL hD hp0, aBind_some, pushR_some, B_X6_page_87, s2]
    rw [if_neg c3, if_neg c3]
    by_cases c4 : what = 4
    · rw [if_pos c4, if_pos c4, B_X6_page_88, tal_S hL hD hp0 (by omega), aBind_some, pushR_some, B_X6_page_100]
    rw [if_neg c4, if_neg c4]
    by_cases c5 : what = 5
    · rw [if_pos c5, if_pos c5, B_X6_page_101, tal_S hL hD hp0 (by omega), aBind_some, pushR_some, B_X6_page_113]
    rw [if_neg c5, if_neg c5, B_X6_page_114]
  · rw [B_X6_page_0, hasP_F hL hD c, aBind_some, pushR_some, B_X6_page_8, ite_T rfl, if_neg c]
end READS
