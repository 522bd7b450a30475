/-! StitchChart, StitchChart$Grid: what the small ones answer -/
section GRID
variable {sc : Nat × (Nat → Int)} {iv : Nat → Nat → Int}
abbrev inC (iv : Nat → Nat → Int) (x y : Int) : Prop := 0 ≤ x ∧ x < iv 2 0 ∧ 0 ≤ y ∧ y < iv 2 1
theorem within_T {x a b : Int} (h : a ≤ x ∧ x ≤ b) : Run sc 103 0 [some (I x), some (I a), some (I b)] [] (hp iv) = some (some (I 1), hp iv) := by
  simp (disch := omega) only [B_X6_isWithin_0, B_X6_isWithin_14, B_X6_isWithin_15, ite_T, ite_F, bck_pos]
theorem within_F {x a b : Int} (h : ¬ (a ≤ x ∧ x ≤ b)) : Run sc 103 0 [some (I x), some (I a), some (I b)] [] (hp iv) = some (some (I 0), hp iv) := by
  by_cases h1 : x < a
  · simp (disch := omega) only [B_X6_isWithin_0, B_X6_isWithin_14, B_X6_isWithin_15, ite_T, ite_F, bck_pos]
  · simp (disch := omega) only [B_X6_isWithin_0, B_X6_isWithin_14, B_X6_isWithin_15, ite_T, ite_F, bck_pos]
theorem has_T {x y : Int} (h : inC iv x y) : Run sc 50 0 [some (Rf 2), some (I x), some (I y)] [] (hp iv) = some (some (I 1), hp iv) := by
  simp (disch := omega) only [B_X3_has_0, B_X3_has_28, B_X3_has_29, ite_T, ite_F, bck_pos]
theorem has_F {x y : Int} (h : ¬ inC iv x y) : Run sc 50 0 [some (Rf 2), some (I x), some (I y)] [] (hp iv) = some (some (I 0), hp iv) := by
  simp only [B_X3_has_0, B_X3_has_28, B_X3_has_29]
  simp (disch := omega) only [bck_pos]
  split
  · rfl
  · split
    · split
      · rfl
      · split
        · omega
        · rfl
    · rfl
/-- the color of a cell, 0 outside -/
def gC (iv : Nat → Nat → Int) (x y : Int) : Int := if inC iv x y then iv 4 (y * 24 + x).toNat else 0
theorem colorAt_S {x y : Int} (hw : iv 2 0 ≤ 24) (hh : iv 2 1 ≤ 24) : Run sc 51 0 [some (Rf 2), some (I x), some (I y)] [] (hp iv) = some (some (I (gC iv x y)), hp iv) := by
  unfold gC
  by_cases h : inC iv x y
  · rw [if_pos h]
    simp (disch := omega) only [B_X3_colorAt_0, B_X3_colorAt_6, B_X3_colorAt_23, B_X3_colorAt_24, has_T h, aBind_some, pushR_some, pushR_none, ite_T, ite_F, if_true, if_false, bck_pos, chk_pos, setO_ne, setO_same, upI_same, upI_ne]
  · rw [if_neg h]
    simp (disch := omega) only [B_X3_colorAt_0, B_X3_colorAt_6, B_X3_colorAt_23, B_X3_colorAt_24, has_F h, aBind_some, pushR_some, pushR_none, ite_T, ite_F, if_true, if_false, bck_pos, chk_pos, setO_ne, setO_same, upI_same, upI_ne]
/-- how many of the neighbors have a color -/
def nT (iv : Nat → Nat → Int) (x y c dx dy : Int) : Int := if gC iv (x + dx) (y + dy) = c then 1 else 0
theorem nT_b {x y c dx dy : Int} : 0 ≤ nT iv x y c dx dy ∧ nT iv x y c dx dy ≤ 1 := by unfold nT; split <;> omega
def nbr (iv : Nat → Nat → Int) (x y c : Int) : Int := 0 + nT iv x y c (-1) (-1) + nT iv x y c 0 (-1) + nT iv x y c 1 (-1) + nT iv x y c (-1) 0 + nT iv x y c 1 0 + nT iv x y c (-1) 1 + nT iv x y c 0 1 + nT iv x y c 1 1
theorem nbr_b {x y c : Int} : 0 ≤ nbr iv x y c ∧ nbr iv x y c ≤ 8 := by
  unfold nbr
  have := nT_b (iv := iv) (x := x) (y := y) (c := c) (dx := -1) (dy := -1)
  have := nT_b (iv := iv) (x := x) (y := y) (c := c) (dx := 0) (dy := -1)
  have := nT_b (iv := iv) (x := x) (y := y) (c := c) (dx := 1) (dy := -1)
  have := nT_b (iv := iv) (x := x) (y := y) (c := c) (dx := -1) (dy := 0)
  have := nT_b (iv := iv) (x := x) (y := y) (c := c) (dx := 1) (dy := 0)
  have := nT_b (iv := iv) (x := x) (y := y) (c := c) (dx := -1) (dy := 1)
  have := nT_b (iv := iv) (x := x) (y := y) (c := c) (dx := 0) (dy := 1)
  have := nT_b (iv := iv) (x := x) (y := y) (c := c) (dx := 1) (dy := 1)
  omega
theorem nbr_step {x y c f dx dy : Int} {d : Option AV} (hw : iv 2 0 ≤ 24) (hh : iv 2 1 ≤ 24) (hx : -100 ≤ x ∧ x ≤ 100) (hy : -100 ≤ y ∧ y ≤ 100) (hf : 0 ≤ f ∧ f ≤ 100) (hdx : -1 ≤ dx ∧ dx ≤ 1) (hdy : -1 ≤ dy ∧ dy ≤ 1) (hn : ¬ (dx = 0 ∧ dy = 0)) : Run sc 55 15 [some (Rf 2), some (I x), some (I y), some (I c), some (I f), some (I dy), some (I dx), d] [] (hp iv) = Run sc 55 15 [some (Rf 2), some (I x), some (I y), some (I c), some (I (f + nT iv x y c dx dy)), some (I dy), some (I (dx + 1)), some (I 0)] [] (hp iv) := by
  rw [B_X3_neighborsOfColor_15]
  unfold nT
  by_cases h : gC iv (x + dx) (y + dy) = c
  · rw [if_pos h]
    by_cases h2 : dy = 0
    · simp (disch := omega) only [B_X3_neighborsOfColor_0, B_X3_neighborsOfColor_35, B_X3_neighborsOfColor_36, B_X3_neighborsOfColor_55, B_X3_neighborsOfColor_62, B_X3_neighborsOfColor_68, B_X3_neighborsOfColor_74, colorAt_S hw hh, aBind_some, pushR_some, pushR_none, ite_T, ite_F, if_true, if_false, bck_pos, chk_pos, setO_ne, setO_same, upI_same, upI_ne]
    · simp (disch := omega) only [B_X3_neighborsOfColor_0, B_X3_neighborsOfColor_35, B_X3_neighborsOfColor_36, B_X3_neighborsOfColor_55, B_X3_neighborsOfColor_62, B_X3_neighborsOfColor_68, B_X3_neighborsOfColor_74, colorAt_S hw hh, aBind_some, pushR_some, pushR_none, ite_T, ite_F, if_true, if_false, bck_pos, chk_pos, setO_ne, setO_same, upI_same, upI_ne]
  · rw [if_neg h]
    by_cases h2 : dy = 0
    · simp (disch := omega) only [B_X3_neighborsOfColor_0, B_X3_neighborsOfColor_35, B_X3_neighborsOfColor_36, B_X3_neighborsOfColor_55, B_X3_neighborsOfColor_62, B_X3_neighborsOfColor_68, B_X3_neighborsOfColor_74, colorAt_S hw hh, h, aBind_some, pushR_some, pushR_none, ite_T, ite_F, if_true, if_false, bck_pos, chk_pos, setO_ne, setO_same, upI_same, upI_ne, Int.add_zero]
    · simp (disch := omega) only [B_X3_neighborsOfColor_0, B_X3_neighborsOfColor_35, B_X3_neighborsOfColor_36, B_X3_neighborsOfColor_55, B_X3_neighborsOfColor_62, B_X3_neighborsOfColor_68, B_X3_neighborsOfColor_74, colorAt_S hw hh, h, aBind_some, pushR_some, pushR_none, ite_T, ite_F, if_true, if_false, bck_pos, chk_pos, setO_ne, setO_same, upI_same, upI_ne, Int.add_zero]
theorem nbr_mid {x y c f : Int} {d : Option AV} : Run sc 55 15 [some (Rf 2), some (I x), some (I y), some (I c), some (I f), some (I 0), some (I 0), d] [] (hp iv) = Run sc 55 15 [some (Rf 2), some (I x), some (I y), some (I c), some (I f), some (I 0), some (I 1), some (I 1)] [] (hp iv) := by
  rw [B_X3_neighborsOfColor_15]
  simp (disch := omega) only [B_X3_neighborsOfColor_0, B_X3_neighborsOfColor_35, B_X3_neighborsOfColor_36, B_X3_neighborsOfColor_55, B_X3_neighborsOfColor_62, B_X3_neighborsOfColor_68, B_X3_neighborsOfColor_74, aBind_some, pushR_some, pushR_none, ite_T, ite_F, if_true, if_false, bck_pos, chk_pos, setO_ne, setO_same, upI_same, upI_ne]
  simp
theorem nbr_S {x y c : Int} (hw : iv 2 0 ≤ 24) (hh : iv 2 1 ≤ 24) (hx : -100 ≤ x ∧ x ≤ 100) (hy : -100 ≤ y ∧ y ≤ 100) : Run sc 55 0 [some (Rf 2), some (I x), some (I y), some (I c), none, none, none, none] [] (hp iv) = some (some (I (nbr iv x y c)), hp iv) := by
  have b1 := nT_b (iv := iv) (x := x) (y := y) (c := c) (dx := -1) (dy := -1)
  have b2 := nT_b (iv := iv) (x := x) (y := y) (c := c) (dx := 0) (dy := -1)
  have b3 := nT_b (iv := iv) (x := x) (y := y) (c := c) (dx := 1) (dy := -1)
  have b4 := nT_b (iv := iv) (x := x) (y := y) (c := c) (dx := -1) (dy := 0)
  have b5 := nT_b (iv := iv) (x := x) (y := y) (c := c) (dx := 1) (dy := 0)
  have b6 := nT_b (iv := iv) (x := x) (y := y) (c := c) (dx := -1) (dy := 1)
  have b7 := nT_b (iv := iv) (x := x) (y := y) (c := c) (dx := 0) (dy := 1)
  unfold nbr
  rw [B_X3_neighborsOfColor_0, B_X3_neighborsOfColor_6, ite_F (by omega), nbr_step hw hh hx hy (by omega) (by omega) (by omega) (by omega), show (-1 : Int) + 1 = 0 from rfl, nbr_step hw hh hx hy (by omega) (by omega) (by omega) (by omega), show (0 : Int) + 1 = 1 from rfl, nbr_step hw hh hx hy (by omega) (by omega) (by omega) (by omega), show (1 : Int) + 1 = 2 from rfl, B_X3_neighborsOfColor_15, ite_T (by omega), B_X3_neighborsOfColor_68, chk_pos (by omega), B_X3_neighborsOfColor_6, ite_F (by omega), show (-1 : Int) + 1 = 0 from rfl, nbr_step hw hh hx hy (by omega) (by omega) (by omega) (by omega), show (-1 : Int) + 1 = 0 from rfl, nbr_mid, nbr_step hw hh hx hy (by omega) (by omega) (by omega) (by omega), show (1 : Int) + 1 = 2 from rfl, B_X3_neighborsOfColor_15, ite_T (by omega), B_X3_neighborsOfColor_68, chk_pos (by omega), show (0 : Int) + 1 = 1 from rfl, B_X3_neighborsOfColor_6, ite_F (by omega), nbr_step hw hh hx hy (by omega) (by omega) (by omega) (by omega), show (-1 : Int) + 1 = 0 from rfl, nbr_step hw hh hx hy (by omega) (by omega) (by omega) (by omega), show (0 : Int) + 1 = 1 from rfl, nbr_step hw hh hx hy (by omega) (by omega) (by omega) (by omega), show (1 : Int) + 1 = 2 from rfl, B_X3_neighborsOfColor_15, ite_T (by omega), B_X3_neighborsOfColor_68, chk_pos (by omega), show (1 : Int) + 1 = 2 from rfl, B_X3_neighborsOfColor_6, ite_T (by omega), B_X3_neighborsOfColor_74]
/-- 1 for a lone stitch -/
def lonI (iv : Nat → Nat → Int) (x y : Int) : Int := if gC iv x y = 0 then 0 else if nbr iv x y (gC iv x y) = 0 then 1 else 0
theorem lonI_b {x y : Int} : 0 ≤ lonI iv x y ∧ lonI iv x y ≤ 1 := by unfold lonI; split; omega; split <;> omega
theorem alone_S {x y : Int} (hw : iv 2 0 ≤ 24) (hh : iv 2 1 ≤ 24) (hx : -100 ≤ x ∧ x ≤ 100) (hy : -100 ≤ y ∧ y ≤ 100) : Run sc 56 0 [some (Rf 2), some (I x), some (I y), none] [] (hp iv) = some (some (I (lonI iv x y)), hp iv) := by
  unfold lonI
  by_cases h : gC iv x y = 0
  · simp (disch := omega) only [B_X3_standsAlone_0, B_X3_standsAlone_6, B_X3_standsAlone_18, B_X3_standsAlone_25, B_X3_standsAlone_26, colorAt_S hw hh, h, aBind_some, pushR_some, pushR_none, ite_T, ite_F, if_true, if_false, bck_pos, chk_pos, setO_ne, setO_same, upI_same, upI_ne]
  · by_cases h2 : nbr iv x y (gC iv x y) = 0
    · simp (disch := omega) only [B_X3_standsAlone_0, B_X3_standsAlone_6, B_X3_standsAlone_18, B_X3_standsAlone_25, B_X3_standsAlone_26, colorAt_S hw hh, nbr_S hw hh hx hy, h, h2, aBind_some, pushR_some, pushR_none, ite_T, ite_F, if_true, if_false, bck_pos, chk_pos, setO_ne, setO_same, upI_same, upI_ne]
    · simp (disch := omega) only [B_X3_standsAlone_0, B_X3_standsAlone_6, B_X3_standsAlone_18, B_X3_standsAlone_25, B_X3_standsAlone_26, colorAt_S hw hh, nbr_S hw hh hx hy, h, h2, aBind_some, pushR_some, pushR_none, ite_T, ite_F, if_true, if_false, bck_pos, chk_pos, setO_ne, setO_same, upI_same, upI_ne]
end GRID
