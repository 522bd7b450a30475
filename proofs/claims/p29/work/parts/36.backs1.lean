/-! StitchChart$BackStitches: edges -/
section BACKS1
variable {sc : Nat × (Nat → Int)} {iv : Nat → Nat → Int}
abbrev inU (w h x y : Int) : Prop := 0 ≤ x ∧ x ≤ w ∧ 0 ≤ y ∧ y ≤ h - 1
abbrev inF (w h x y : Int) : Prop := 0 ≤ x ∧ x ≤ w - 1 ∧ 0 ≤ y ∧ y ≤ h
/-- back stitches at an upright and at a flat edge -/
def eU (w h : Int) (U : Nat → Int) (x y : Int) : Int := if inU w h x y then U (y * 25 + x).toNat else 0
def eF (w h : Int) (F : Nat → Int) (x y : Int) : Int := if inF w h x y then F (y * 25 + x).toNat else 0
def ptF (w h : Int) (U F : Nat → Int) (x y : Int) : Int := eU w h U x y + eU w h U x (y - 1) + eF w h F x y + eF w h F (x - 1) y
def bitB (U : Nat → Int) : Prop := ∀ j, j < 625 → 0 ≤ U j ∧ U j ≤ 1
theorem eU_b {w h x y : Int} {U : Nat → Int} (hU : bitB U) (hw : w ≤ 24) (hh : h ≤ 24) : 0 ≤ eU w h U x y ∧ eU w h U x y ≤ 1 := by
  unfold eU
  split
  · exact hU _ (by omega)
  · omega
theorem eF_b {w h x y : Int} {F : Nat → Int} (hF : bitB F) (hw : w ≤ 24) (hh : h ≤ 24) : 0 ≤ eF w h F x y ∧ eF w h F x y ≤ 1 := by
  unfold eF
  split
  · exact hF _ (by omega)
  · omega
theorem ptF_b {w h x y : Int} {U F : Nat → Int} (hU : bitB U) (hF : bitB F) (hw : w ≤ 24) (hh : h ≤ 24) : 0 ≤ ptF w h U F x y ∧ ptF w h U F x y ≤ 4 := by
  unfold ptF
  have := eU_b (x := x) (y := y) hU hw hh
  have := eU_b (x := x) (y := y - 1) hU hw hh
  have := eF_b (x := x) (y := y) hF hw hh
  have := eF_b (x := x - 1) (y := y) hF hw hh
  omega
theorem hasU_T {w h : Nat} {x y : Int} (hD : DimB iv w h) (c : inU w h x y) : Run sc 3 0 [some (Rf 44), some (I x), some (I y), some (I 1), none, none] [] (hp iv) = some (some (I 1), hp iv) := by
  obtain ⟨d1, d2, d3, d4, d5, d6⟩ := hD
  rw [B_X0_hasEdge_0, ite_F (by omega), B_X0_hasEdge_23, ite_F (by omega), chk_pos (by omega), B_X0_hasEdge_48, ite_F (by omega), ite_F (by omega), ite_F (by omega), ite_F (by omega), B_X0_hasEdge_75, bck_pos (by omega)]
theorem hasU_F {w h : Nat} {x y : Int} (hD : DimB iv w h) (c : ¬ inU w h x y) : Run sc 3 0 [some (Rf 44), some (I x), some (I y), some (I 1), none, none] [] (hp iv) = some (some (I 0), hp iv) := by
  obtain ⟨d1, d2, d3, d4, d5, d6⟩ := hD
  rw [B_X0_hasEdge_0, ite_F (by omega), B_X0_hasEdge_23, ite_F (by omega), chk_pos (by omega), B_X0_hasEdge_48, B_X0_hasEdge_74, B_X0_hasEdge_75, bck_pos (by omega)]
  by_cases c1 : x < 0
  · rw [if_pos c1]
  · rw [if_neg c1]
    by_cases c2 : iv 2 0 < x
    · rw [if_pos c2]
    · rw [if_neg c2]
      by_cases c3 : y < 0
      · rw [if_pos c3]
      · rw [if_neg c3, ite_T (by omega)]
theorem hasF_T {w h : Nat} {x y : Int} (hD : DimB iv w h) (c : inF w h x y) : Run sc 3 0 [some (Rf 44), some (I x), some (I y), some (I 0), none, none] [] (hp iv) = some (some (I 1), hp iv) := by
  obtain ⟨d1, d2, d3, d4, d5, d6⟩ := hD
  rw [B_X0_hasEdge_0, ite_T (by omega), B_X0_hasEdge_14, chk_pos (by omega), B_X0_hasEdge_23, ite_T (by omega), B_X0_hasEdge_41, B_X0_hasEdge_48, ite_F (by omega), ite_F (by omega), ite_F (by omega), ite_F (by omega), B_X0_hasEdge_75, bck_pos (by omega)]
theorem hasF_F {w h : Nat} {x y : Int} (hD : DimB iv w h) (c : ¬ inF w h x y) : Run sc 3 0 [some (Rf 44), some (I x), some (I y), some (I 0), none, none] [] (hp iv) = some (some (I 0), hp iv) := by
  obtain ⟨d1, d2, d3, d4, d5, d6⟩ := hD
  rw [B_X0_hasEdge_0, ite_T (by omega), B_X0_hasEdge_14, chk_pos (by omega), B_X0_hasEdge_23, ite_T (by omega), B_X0_hasEdge_41, B_X0_hasEdge_48, B_X0_hasEdge_74, B_X0_hasEdge_75, bck_pos (by omega)]
  by_cases c1 : x < 0
  · rw [if_pos c1]
  · rw [if_neg c1]
    by_cases c2 : iv 2 0 - 1 < x
    · rw [if_pos c2]
    · rw [if_neg c2]
      by_cases c3 : y < 0
      · rw [if_pos c3]
      · rw [if_neg c3, ite_T (by omega)]
theorem atU_S {w h : Nat} {x y : Int} (hD : DimB iv w h) (hU : bitB (iv 45)) : Run sc 4 0 [some (Rf 44), some (I x), some (I y), some (I 1), none] [] (hp iv) = some (some (I (eU w h (iv 45) x y)), hp iv) := by
  obtain ⟨d1, d2, d3, d4, d5, d6⟩ := id hD
  unfold eU
  by_cases c : inU w h x y
  · have hb := hU (y * 25 + x).toNat (by omega)
    rw [if_pos c, B_X0_stitchesAt_0, hasU_T hD c, aBind_some, pushR_some, B_X0_stitchesAt_7, ite_F (by omega), B_X0_stitchesAt_12, chk_pos (by omega), chk_pos (by omega), ite_F (by omega), bck_pos (by omega)]
    by_cases e : iv 45 (y * 25 + x).toNat = 0
    · rw [if_pos e, B_X0_stitchesAt_51, B_X0_stitchesAt_52, e]
    · rw [if_neg e, B_X0_stitchesAt_47, B_X0_stitchesAt_52, show iv 45 (y * 25 + x).toNat = 1 by omega]
  · rw [if_neg c, B_X0_stitchesAt_0, hasU_F hD c, aBind_some, pushR_some, B_X0_stitchesAt_7, ite_T (by omega)]
theorem atF_S {w h : Nat} {x y : Int} (hD : DimB iv w h) (hF : bitB (iv 46)) : Run sc 4 0 [some (Rf 44), some (I x), some (I y), some (I 0), none] [] (hp iv) = some (some (I (eF w h (iv 46) x y)), hp iv) := by
  obtain ⟨d1, d2, d3, d4, d5, d6⟩ := id hD
  unfold eF
  by_cases c : inF w h x y
  · have hb := hF (y * 25 + x).toNat (by omega)
    rw [if_pos c, B_X0_stitchesAt_0, hasF_T hD c, aBind_some, pushR_some, B_X0_stitchesAt_7, ite_F (by omega), B_X0_stitchesAt_12, chk_pos (by omega), chk_pos (by omega), ite_T (by omega), B_X0_stitchesAt_37, bck_pos (by omega)]
    by_cases e : iv 46 (y * 25 + x).toNat = 0
    · rw [if_pos e, B_X0_stitchesAt_51, B_X0_stitchesAt_52, e]
    · rw [if_neg e, B_X0_stitchesAt_47, B_X0_stitchesAt_52, show iv 46 (y * 25 + x).toNat = 1 by omega]
  · rw [if_neg c, B_X0_stitchesAt_0, hasF_F hD c, aBind_some, pushR_some, B_X0_stitchesAt_7, ite_T (by omega)]
/-- a row of bits, one of them set -/
def bkP (iv : Nat → Nat → Int) (a j : Nat) (on : Int) : Nat → Nat → Int := if iv a j = on then iv else setO iv a (upI (iv a) j on)
theorem bkP_ne {a j k : Nat} {on : Int} (h : k ≠ a) : bkP iv a j on k = iv k := by
  unfold bkP; split
  · rfl
  · rw [setO_ne h]
theorem bkP_eq {a j i : Nat} {on : Int} : bkP iv a j on a i = if i = j then on else iv a i := by
  unfold bkP
  by_cases e : iv a j = on
  · rw [if_pos e]
    by_cases q : i = j
    · rw [if_pos q, q, e]
    · rw [if_neg q]
  · rw [if_neg e, setO_same]; rfl
theorem putU_S {w h : Nat} {x y on : Int} (hD : DimB iv w h) (hU : bitB (iv 45)) (c : inU w h x y) (ho : 0 ≤ on ∧ on ≤ 1) : Run sc 5 0 [some (Rf 44), some (I x), some (I y), some (I 1), some (I on), none, none] [] (hp iv) = some (some (I (if iv 45 (y * 25 + x).toNat = on then 0 else 1)), hp (bkP iv 45 (y * 25 + x).toNat on)) := by
  obtain ⟨d1, d2, d3, d4, d5, d6⟩ := id hD
  have hb := hU (y * 25 + x).toNat (by omega)
  rw [B_X0_put_0, atU_S hD hU, aBind_some, pushR_some, B_X0_put_7]
  unfold eU
  rw [if_pos c]
  have e0 : (if iv 45 (y * 25 + x).toNat = 1 then Run sc 5 16 [some (Rf 44), some (I x), some (I y), some (I 1), some (I on), none, none] [I 1] (hp iv) else Run sc 5 15 [some (Rf 44), some (I x), some (I y), some (I 1), some (I on), none, none] [] (hp iv)) = Run sc 5 16 [some (Rf 44), some (I x), some (I y), some (I 1), some (I on), none, none] [I (iv 45 (y * 25 + x).toNat)] (hp iv) := by
    by_cases e : iv 45 (y * 25 + x).toNat = 1
    · rw [if_pos e, e]
    · rw [if_neg e, B_X0_put_15, show iv 45 (y * 25 + x).toNat = 0 by omega]
  rw [e0, B_X0_put_16, hasU_T hD c, aBind_some, pushR_some, B_X0_put_25, ite_F (by omega)]
  unfold bkP
  by_cases e : iv 45 (y * 25 + x).toNat = on
  · rw [if_pos e, if_pos e, if_pos e, B_X0_put_35]
  · rw [if_neg e, if_neg e, if_neg e, B_X0_put_37, chk_pos (by omega), chk_pos (by omega), ite_F (by omega), bck_pos (by omega), bck_pos (by omega), B_X0_put_58, B_X0_put_70]
theorem putF_S {w h : Nat} {x y on : Int} (hD : DimB iv w h) (hF : bitB (iv 46)) (c : inF w h x y) (ho : 0 ≤ on ∧ on ≤ 1) : Run sc 5 0 [some (Rf 44), some (I x), some (I y), some (I 0), some (I on), none, none] [] (hp iv) = some (some (I (if iv 46 (y * 25 + x).toNat = on then 0 else 1)), hp (bkP iv 46 (y * 25 + x).toNat on)) := by
  obtain ⟨d1, d2, d3, d4, d5, d6⟩ := id hD
  have hb := hF (y * 25 + x).toNat (by omega)
  rw [B_X0_put_0, atF_S hD hF, aBind_some, pushR_some, B_X0_put_7]
  unfold eF
  rw [if_pos c]
  have e0 : (if iv 46 (y * 25 + x).toNat = 1 then Run sc 5 16 [some (Rf 44), some (I x), some (I y), some (I 0), some (I on), none, none] [I 1] (hp iv) else Run sc 5 15 [some (Rf 44), some (I x), some (I y), some (I 0), some (I on), none, none] [] (hp iv)) = Run sc 5 16 [some (Rf 44), some (I x), some (I y), some (I 0), some (I on), none, none] [I (iv 46 (y * 25 + x).toNat)] (hp iv) := by
    by_cases e : iv 46 (y * 25 + x).toNat = 1
    · rw [if_pos e, e]
    · rw [if_neg e, B_X0_put_15, show iv 46 (y * 25 + x).toNat = 0 by omega]
  rw [e0, B_X0_put_16, hasF_T hD c, aBind_some, pushR_some, B_X0_put_25, ite_F (by omega)]
  unfold bkP
  by_cases e : iv 46 (y * 25 + x).toNat = on
  · rw [if_pos e, if_pos e, if_pos e, B_X0_put_35]
  · rw [if_neg e, if_neg e, if_neg e, B_X0_put_37, chk_pos (by omega), chk_pos (by omega), ite_T (by omega), B_X0_put_61, bck_pos (by omega), bck_pos (by omega), B_X0_put_70]
theorem pt_S {w h : Nat} {x y : Int} (hD : DimB iv w h) (hU : bitB (iv 45)) (hF : bitB (iv 46)) (hx : -100 ≤ x ∧ x ≤ 100) (hy : -100 ≤ y ∧ y ≤ 100) : Run sc 8 0 [some (Rf 44), some (I x), some (I y)] [] (hp iv) = some (some (I (ptF w h (iv 45) (iv 46) x y)), hp iv) := by
  obtain ⟨d1, d2, d3, d4, d5, d6⟩ := id hD
  have b1 := eU_b (w := w) (h := h) (x := x) (y := y) hU (by omega) (by omega)
  have b2 := eU_b (w := w) (h := h) (x := x) (y := y - 1) hU (by omega) (by omega)
  have b3 := eF_b (w := w) (h := h) (x := x) (y := y) hF (by omega) (by omega)
  have b4 := eF_b (w := w) (h := h) (x := x - 1) (y := y) hF (by omega) (by omega)
  rw [B_X0_stitchesAtPoint_0, atU_S hD hU, aBind_some, pushR_some, B_X0_stitchesAtPoint_7, chk_pos (by omega), atU_S hD hU, aBind_some, pushR_some, B_X0_stitchesAtPoint_16, chk_pos (by omega), atF_S hD hF, aBind_some, pushR_some, B_X0_stitchesAtPoint_24, chk_pos (by omega), chk_pos (by omega), atF_S hD hF, aBind_some, pushR_some, B_X0_stitchesAtPoint_34, chk_pos (by omega)]
  rfl
def edgC (w h : Nat) (U F : Nat → Int) : Int := sumN (fun j => sumN (fun i => eU w h U i j + eF w h F i j) (w + 1)) (h + 1)
def oddC (w h : Nat) (U F : Nat → Int) : Int := sumN (fun j => sumN (fun i => ptF w h U F i j % 2) (w + 1)) (h + 1)
theorem edg_S {w h : Nat} (hD : DimB iv w h) (hU : bitB (iv 45)) (hF : bitB (iv 46)) : Run sc 7 0 [some (Rf 44), none, none, none] [] (hp iv) = some (some (I (edgC w h (iv 45) (iv 46))), hp iv) := by
  obtain ⟨d1, d2, d3, d4, d5, d6⟩ := id hD
  rw [B_X0_edges_0]
  have bd : ∀ (i j : Nat), (0 ≤ eU w h (iv 45) i j ∧ eU w h (iv 45) i j ≤ 1) ∧ 0 ≤ eF w h (iv 46) i j ∧ eF w h (iv 46) i j ≤ 1 := fun i j => ⟨eU_b hU (by omega) (by omega), eF_b hF (by omega) (by omega)⟩
  obtain ⟨e, q⟩ := loop2 (fun j a (d : Option AV) => Run sc 7 4 [some (Rf 44), some (I a), some (I j), d] [] (hp iv)) (fun j i a d => Run sc 7 17 [some (Rf 44), some (I a), some (I j), some (I i)] [] (hp iv)) (fun j i => eU w h (iv 45) i j + eF w h (iv 46) i j) (w + 1) (h + 1) (by omega) (by omega) (fun j i _ _ => by have := bd i j; omega)
    (fun j a d hj ha => ⟨d, by rw [B_X0_edges_4, ite_F (by omega)]⟩)
    (fun j i a d hj hi ha => by
      have := bd i j
      refine ⟨d, ?_⟩
      rw [B_X0_edges_17, ite_F (by omega), atU_S hD hU, aBind_some, pushR_some, B_X0_edges_36, atF_S hD hF, aBind_some, pushR_some, B_X0_edges_43, chk_pos (by omega), chk_pos (by omega), chk_pos (by omega)])
    (fun j a d hj ha => ⟨some (I ((w + 1 : Nat) : Int)), by rw [B_X0_edges_17, ite_T (by omega), B_X0_edges_52, chk_pos (by omega)]⟩) none
  rw [q, B_X0_edges_4, ite_T (by omega), B_X0_edges_58]
  rfl
theorem odd_S {w h : Nat} (hD : DimB iv w h) (hU : bitB (iv 45)) (hF : bitB (iv 46)) : Run sc 9 0 [some (Rf 44), none, none, none] [] (hp iv) = some (some (I (oddC w h (iv 45) (iv 46))), hp iv) := by
  obtain ⟨d1, d2, d3, d4, d5, d6⟩ := id hD
  rw [B_X0_oddPoints_0]
  obtain ⟨e, q⟩ := loop2 (fun j a (d : Option AV) => Run sc 9 4 [some (Rf 44), some (I a), some (I j), d] [] (hp iv)) (fun j i a d => Run sc 9 17 [some (Rf 44), some (I a), some (I j), some (I i)] [] (hp iv)) (fun j i => ptF w h (iv 45) (iv 46) i j % 2) (w + 1) (h + 1) (by omega) (by omega) (fun j i _ _ => by omega)
    (fun j a d hj ha => ⟨d, by rw [B_X0_oddPoints_4, ite_F (by omega)]⟩)
    (fun j i a d hj hi ha => by
      refine ⟨d, ?_⟩
      have := ptF_b (w := w) (h := h) (x := i) (y := j) hU hF (by omega) (by omega)
      rw [B_X0_oddPoints_17, ite_F (by omega), pt_S hD hU hF (by omega) (by omega), aBind_some, pushR_some, B_X0_oddPoints_35, chk_pos (by omega), chk_pos (by omega)]
      rfl)
    (fun j a d hj ha => ⟨some (I ((w + 1 : Nat) : Int)), by rw [B_X0_oddPoints_17, ite_T (by omega), B_X0_oddPoints_45, chk_pos (by omega)]⟩) none
  rw [q, B_X0_oddPoints_4, ite_T (by omega), B_X0_oddPoints_51]
  rfl
theorem remAll_S : ∃ iv2, Run sc 2 0 [some (Rf 44), none] [] (hp iv) = some (none, hp iv2) ∧ (∀ k, k ≠ 45 → k ≠ 46 → iv2 k = iv k) ∧ ∀ j, j < 625 → iv2 45 j = 0 ∧ iv2 46 j = 0 := by
  rw [B_X0_removeAll_0]
  obtain ⟨s, e, g1, g2⟩ := loop_ex (fun i (s : Nat → Nat → Int) => Run sc 2 2 [some (Rf 44), some (I i)] [] (hp s)) (fun i s => (∀ k, k ≠ 45 → k ≠ 46 → s k = iv k) ∧ ∀ j, j < i → s 45 j = 0 ∧ s 46 j = 0) 625 0 iv (Nat.zero_le _) ⟨fun _ _ _ => rfl, fun j hj => absurd hj (Nat.not_lt_zero _)⟩ (fun i s _ hi hP => by
    obtain ⟨a1, a2⟩ := hP
    refine ⟨setO (setO s 45 (upI (s 45) i 0)) 46 (upI (s 46) i 0), ?_, fun k b1 b2 => by rw [setO_ne b2, setO_ne b1, a1 k b1 b2], fun j hj => ?_⟩
    · rw [B_X0_removeAll_2, ite_T (by omega), bck_pos (by omega), bck_pos (by omega), B_X0_removeAll_16, bck_pos (by omega), bck_pos (by omega), B_X0_removeAll_23, chk_pos (by omega), Int.toNat_natCast, setO_ne (show 46 ≠ 45 by omega)]
    · rw [setO_ne (show 45 ≠ 46 by omega), setO_same, setO_same]
      by_cases q : j = i
      · rw [q, upI_same, upI_same]; exact ⟨rfl, rfl⟩
      · rw [upI_ne q, upI_ne q]; exact a2 j (by omega))
  refine ⟨s, (show _ = _ from e).trans ?_, g1, g2⟩
  show Run sc 2 2 [some (Rf 44), some (I ((625 : Nat) : Int))] [] (hp s) = _
  rw [B_X0_removeAll_2, ite_F (by omega), B_X0_removeAll_29]
end BACKS1
