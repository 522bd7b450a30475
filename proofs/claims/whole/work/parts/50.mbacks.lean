/-! StitchChartModel: edges -/
section MBACKS
variable {sc : Nat × (Nat → Int)} {iv g : Nat → Nat → Int}
/-- the model's back stitches are g's class ones -/
def MBk (g iv : Nat → Nat → Int) (w h : Nat) : Prop := DimB g w h ∧ iv 52 0 = w ∧ iv 52 1 = h ∧ bitB (g 45) ∧ bitB (g 46) ∧ ∀ j, j < 625 → iv 56 j = g 45 j ∧ iv 55 j = g 46 j
/-- none lie outside -/
def BkOut (g : Nat → Nat → Int) (w h : Nat) : Prop := ∀ j, j < 625 → (¬ inU w h (pX j) (pY j) → g 45 j = 0) ∧ (¬ inF w h (pX j) (pY j) → g 46 j = 0)
theorem noU_M {w h : Nat} {x y : Int} (hB : MBk g iv w h) : Run sc 151 0 [some (Rf 52), some (I x), some (I y), some (I 1)] [] (hp iv) = some (some (I (if inU w h x y then 0 else 1)), hp iv) := by
  obtain ⟨⟨d1, d2, d3, d4, d5, d6⟩, e1, e2, e3⟩ := hB
  rw [B_X7_noEdge_0, ite_F (by omega), B_X7_noEdge_19, e1]
  by_cases c : 0 ≤ x ∧ x ≤ w
  · rw [in_T c, aBind_some, pushR_some, B_X7_noEdge_22, ite_F (by omega), ite_F (by omega), e2, chk_pos (by omega), B_X7_noEdge_44]
    by_cases c2 : 0 ≤ y ∧ y ≤ (h : Int) - 1
    · rw [in_T c2, aBind_some, pushR_some, B_X7_noEdge_47, ite_F (by omega), B_X7_noEdge_54, B_X7_noEdge_55, bck_pos (by omega), if_pos (by omega)]
    · rw [in_F c2, aBind_some, pushR_some, B_X7_noEdge_47, ite_T (by omega), B_X7_noEdge_50, B_X7_noEdge_55, bck_pos (by omega), if_neg (by omega)]
  · rw [in_F c, aBind_some, pushR_some, B_X7_noEdge_22, ite_T (by omega), B_X7_noEdge_50, B_X7_noEdge_55, bck_pos (by omega), if_neg (by omega)]
theorem noF_M {w h : Nat} {x y : Int} (hB : MBk g iv w h) : Run sc 151 0 [some (Rf 52), some (I x), some (I y), some (I 0)] [] (hp iv) = some (some (I (if inF w h x y then 0 else 1)), hp iv) := by
  obtain ⟨⟨d1, d2, d3, d4, d5, d6⟩, e1, e2, e3⟩ := hB
  rw [B_X7_noEdge_0, ite_T (by omega), B_X7_noEdge_13, e1, chk_pos (by omega), B_X7_noEdge_19]
  by_cases c : 0 ≤ x ∧ x ≤ (w : Int) - 1
  · rw [in_T c, aBind_some, pushR_some, B_X7_noEdge_22, ite_F (by omega), ite_T (by omega), B_X7_noEdge_40, e2, B_X7_noEdge_44]
    by_cases c2 : 0 ≤ y ∧ y ≤ h
    · rw [in_T c2, aBind_some, pushR_some, B_X7_noEdge_47, ite_F (by omega), B_X7_noEdge_54, B_X7_noEdge_55, bck_pos (by omega), if_pos (by omega)]
    · rw [in_F c2, aBind_some, pushR_some, B_X7_noEdge_47, ite_T (by omega), B_X7_noEdge_50, B_X7_noEdge_55, bck_pos (by omega), if_neg (by omega)]
  · rw [in_F c, aBind_some, pushR_some, B_X7_noEdge_22, ite_T (by omega), B_X7_noEdge_50, B_X7_noEdge_55, bck_pos (by omega), if_neg (by omega)]
theorem edg_M {x y : Int} (hx : -100 ≤ x ∧ x ≤ 100) (hy : -100 ≤ y ∧ y ≤ 100) : Run sc 152 0 [some (I x), some (I y)] [] (hp iv) = some (some (I (25 * y + x)), hp iv) := by
  rw [B_X7_edge_0, chk_pos (by omega), chk_pos (by omega)]
theorem hbU_M {w h : Nat} {x y : Int} (hB : MBk g iv w h) : Run sc 153 0 [some (Rf 52), some (I x), some (I y), some (I 1)] [] (hp iv) = some (some (I (eU w h (g 45) x y)), hp iv) := by
  obtain ⟨⟨d1, d2, d3, d4, d5, d6⟩, e1, e2, e3, e4, e5⟩ := id hB
  rw [B_X7_hasBack_0, noU_M hB, aBind_some, pushR_some, B_X7_hasBack_7]
  unfold eU
  by_cases c : inU w h x y
  · have hb := e3 (y * 25 + x).toNat (by omega)
    rw [if_pos c, if_pos rfl, ite_F (by omega), edg_M (by omega) (by omega), aBind_some, pushR_some, B_X7_hasBack_23, bck_pos (by omega), (e5 _ (by omega)).1, show (25 * y + x).toNat = (y * 25 + x).toNat by omega, if_pos c]
    by_cases z : g 45 (y * 25 + x).toNat = 0
    · rw [if_pos z, B_X7_hasBack_47, B_X7_hasBack_48, bck_pos (by omega), z]
    · rw [if_neg z, B_X7_hasBack_43, B_X7_hasBack_48, bck_pos (by omega), show g 45 (y * 25 + x).toNat = 1 by omega]
  · rw [if_neg c, if_neg (by omega), B_X7_hasBack_47, B_X7_hasBack_48, bck_pos (by omega), if_neg c]
theorem hbF_M {w h : Nat} {x y : Int} (hB : MBk g iv w h) : Run sc 153 0 [some (Rf 52), some (I x), some (I y), some (I 0)] [] (hp iv) = some (some (I (eF w h (g 46) x y)), hp iv) := by
  obtain ⟨⟨d1, d2, d3, d4, d5, d6⟩, e1, e2, e3, e4, e5⟩ := id hB
  rw [B_X7_hasBack_0, noF_M hB, aBind_some, pushR_some, B_X7_hasBack_7]
  unfold eF
  by_cases c : inF w h x y
  · have hb := e4 (y * 25 + x).toNat (by omega)
    rw [if_pos c, if_pos rfl, ite_T (by omega), B_X7_hasBack_30, edg_M (by omega) (by omega), aBind_some, pushR_some, B_X7_hasBack_39, bck_pos (by omega), (e5 _ (by omega)).2, show (25 * y + x).toNat = (y * 25 + x).toNat by omega, if_pos c]
    by_cases z : g 46 (y * 25 + x).toNat = 0
    · rw [if_pos z, B_X7_hasBack_47, B_X7_hasBack_48, bck_pos (by omega), z]
    · rw [if_neg z, B_X7_hasBack_43, B_X7_hasBack_48, bck_pos (by omega), show g 46 (y * 25 + x).toNat = 1 by omega]
  · rw [if_neg c, if_neg (by omega), B_X7_hasBack_47, B_X7_hasBack_48, bck_pos (by omega), if_neg c]
theorem putU_M {w h : Nat} {x y on : Int} (hB : MBk g iv w h) (c : inU w h x y) (ho : 0 ≤ on ∧ on ≤ 1) : Run sc 154 0 [some (Rf 52), some (I x), some (I y), some (I 1), some (I on), none] [] (hp iv) = some (some (I (if g 45 (y * 25 + x).toNat = on then 0 else 1)), hp (setO iv 56 (upI (iv 56) (y * 25 + x).toNat on))) := by
  obtain ⟨⟨d1, d2, d3, d4, d5, d6⟩, e1, e2, e3, e4, e5⟩ := id hB
  have ev : eU w h (g 45) x y = g 45 (y * 25 + x).toNat := if_pos c
  have s1 : (if g 45 (y * 25 + x).toNat = on then Run sc 154 16 [some (Rf 52), some (I x), some (I y), some (I 1), some (I on), none] [] (hp iv) else Run sc 154 17 [some (Rf 52), some (I x), some (I y), some (I 1), some (I on), none] [I 1] (hp iv)) = Run sc 154 17 [some (Rf 52), some (I x), some (I y), some (I 1), some (I on), none] [I (if g 45 (y * 25 + x).toNat = on then 0 else 1)] (hp iv) := by
    by_cases z : g 45 (y * 25 + x).toNat = on
    · rw [if_pos z, if_pos z, B_X7_putBack_16]
    · rw [if_neg z, if_neg z]
  rw [B_X7_putBack_0, hbU_M hB, aBind_some, pushR_some, B_X7_putBack_7, ev, s1, B_X7_putBack_17, ite_F (by omega), edg_M (by omega) (by omega), aBind_some, pushR_some, B_X7_putBack_32, bck_pos (by omega), bck_pos (by omega), B_X7_putBack_35, B_X7_putBack_50, show (25 * y + x).toNat = (y * 25 + x).toNat by omega]
theorem putF_M {w h : Nat} {x y on : Int} (hB : MBk g iv w h) (c : inF w h x y) (ho : 0 ≤ on ∧ on ≤ 1) : Run sc 154 0 [some (Rf 52), some (I x), some (I y), some (I 0), some (I on), none] [] (hp iv) = some (some (I (if g 46 (y * 25 + x).toNat = on then 0 else 1)), hp (setO iv 55 (upI (iv 55) (y * 25 + x).toNat on))) := by
  obtain ⟨⟨d1, d2, d3, d4, d5, d6⟩, e1, e2, e3, e4, e5⟩ := id hB
  have ev : eF w h (g 46) x y = g 46 (y * 25 + x).toNat := if_pos c
  have s1 : (if g 46 (y * 25 + x).toNat = on then Run sc 154 16 [some (Rf 52), some (I x), some (I y), some (I 0), some (I on), none] [] (hp iv) else Run sc 154 17 [some (Rf 52), some (I x), some (I y), some (I 0), some (I on), none] [I 1] (hp iv)) = Run sc 154 17 [some (Rf 52), some (I x), some (I y), some (I 0), some (I on), none] [I (if g 46 (y * 25 + x).toNat = on then 0 else 1)] (hp iv) := by
    by_cases z : g 46 (y * 25 + x).toNat = on
    · rw [if_pos z, if_pos z, B_X7_putBack_16]
    · rw [if_neg z, if_neg z]
  rw [B_X7_putBack_0, hbF_M hB, aBind_some, pushR_some, B_X7_putBack_7, ev, s1, B_X7_putBack_17, ite_T (by omega), B_X7_putBack_38, edg_M (by omega) (by omega), aBind_some, pushR_some, B_X7_putBack_47, bck_pos (by omega), bck_pos (by omega), B_X7_putBack_50, show (25 * y + x).toNat = (y * 25 + x).toNat by omega]
theorem bat_M {w h : Nat} {x y : Int} (hB : MBk g iv w h) (hx : -100 ≤ x ∧ x ≤ 100) (hy : -100 ≤ y ∧ y ≤ 100) : Run sc 160 0 [some (Rf 52), some (I x), some (I y)] [] (hp iv) = some (some (I (ptF w h (g 45) (g 46) x y)), hp iv) := by
  obtain ⟨⟨d1, d2, d3, d4, d5, d6⟩, e1, e2, e3, e4, e5⟩ := id hB
  have b1 := eU_b (w := w) (h := h) (x := x) (y := y) e3 (by omega) (by omega)
  have b2 := eU_b (w := w) (h := h) (x := x) (y := y - 1) e3 (by omega) (by omega)
  have b3 := eF_b (w := w) (h := h) (x := x) (y := y) e4 (by omega) (by omega)
  have b4 := eF_b (w := w) (h := h) (x := x - 1) (y := y) e4 (by omega) (by omega)
  unfold ptF
  rw [B_X7_backsAt_0, hbU_M hB, aBind_some, pushR_some, B_X7_backsAt_7]
  have s1 : ∀ e : Int, (0 ≤ e ∧ e ≤ 1) → (if e = 0 then Run sc 160 14 [some (Rf 52), some (I x), some (I y)] [] (hp iv) else Run sc 160 15 [some (Rf 52), some (I x), some (I y)] [I 1] (hp iv)) = Run sc 160 15 [some (Rf 52), some (I x), some (I y)] [I e] (hp iv) := fun e he => by
    by_cases z : e = 0
    · rw [if_pos z, B_X7_backsAt_14, z]
    · rw [if_neg z, show e = 1 by omega]
  have s2 : ∀ e u : Int, (0 ≤ e ∧ e ≤ 1) → (if e = 0 then Run sc 160 29 [some (Rf 52), some (I x), some (I y)] [I u] (hp iv) else Run sc 160 30 [some (Rf 52), some (I x), some (I y)] [I 1, I u] (hp iv)) = Run sc 160 30 [some (Rf 52), some (I x), some (I y)] [I e, I u] (hp iv) := fun e u he => by
    by_cases z : e = 0
    · rw [if_pos z, B_X7_backsAt_29, z]
    · rw [if_neg z, show e = 1 by omega]
  have s3 : ∀ e u : Int, (0 ≤ e ∧ e ≤ 1) → (if e = 0 then Run sc 160 47 [some (Rf 52), some (I x), some (I y)] [I u] (hp iv) else Run sc 160 48 [some (Rf 52), some (I x), some (I y)] [I 1, I u] (hp iv)) = Run sc 160 48 [some (Rf 52), some (I x), some (I y)] [I e, I u] (hp iv) := fun e u he => by
    by_cases z : e = 0
    · rw [if_pos z, B_X7_backsAt_47, z]
    · rw [if_neg z, show e = 1 by omega]
  have s4 : ∀ e u : Int, (0 ≤ e ∧ e ≤ 1) → (if e = 0 then Run sc 160 65 [some (Rf 52), some (I x), some (I y)] [I u] (hp iv) else Run sc 160 66 [some (Rf 52), some (I x), some (I y)] [I 1, I u] (hp iv)) = Run sc 160 66 [some (Rf 52), some (I x), some (I y)] [I e, I u] (hp iv) := fun e u he => by
    by_cases z : e = 0
    · rw [if_pos z, B_X7_backsAt_65, z]
    · rw [if_neg z, show e = 1 by omega]
  rw [s1 _ b1, B_X7_backsAt_15, hbF_M hB, aBind_some, pushR_some, B_X7_backsAt_22, s2 _ _ b3, B_X7_backsAt_30, chk_pos (by omega), chk_pos (by omega), hbU_M hB, aBind_some, pushR_some, B_X7_backsAt_40, s3 _ _ b2, B_X7_backsAt_48, chk_pos (by omega), chk_pos (by omega), hbF_M hB, aBind_some, pushR_some, B_X7_backsAt_58, s4 _ _ b4, B_X7_backsAt_66, chk_pos (by omega), show eU w h (g 45) x y + eF w h (g 46) x y + eU w h (g 45) x (y - 1) = eU w h (g 45) x y + eU w h (g 45) x (y - 1) + eF w h (g 46) x y by omega]
/-- a sum over all points, line by line -/
theorem sumN_lines {f : Nat → Int} : ∀ n, sumN f (n * 25) = sumN (fun y => sumN (fun x => f (y * 25 + x)) 25) n := by
  have app : ∀ a m, sumN f (a + m) = sumN f a + sumN (fun x => f (a + x)) m := by
    intro a m
    induction m with
    | zero => show sumN f a = sumN f a + 0; omega
    | succ m ih =>
      show sumN f (a + m) + f (a + m) = sumN f a + (sumN (fun x => f (a + x)) m + f (a + m))
      omega
  intro n
  induction n with
  | zero => rfl
  | succ n ih =>
    rw [show (n + 1) * 25 = n * 25 + 25 by omega, app, ih]
    rfl
theorem sumN_pts {f : Nat → Int} {w h : Nat} (hw : w ≤ 24) (hh : h ≤ 24) (h0 : ∀ x y, x < 25 → y < 25 → (w < x ∨ h < y) → f (y * 25 + x) = 0) : sumN f 625 = sumN (fun y => sumN (fun x => f (y * 25 + x)) (w + 1)) (h + 1) := by
  have e : sumN f 625 = sumN f (25 * 25) := rfl
  rw [e, sumN_lines]
  have e2 : sumN (fun y => sumN (fun x => f (y * 25 + x)) 25) 25 = sumN (fun i => sumN (fun x => f ((0 + i) * 25 + x)) 25) (h + 1) := sumN_win (a := 0) (m := h + 1) (by omega) (fun y hy hc => sumN_zero fun x hx => h0 x y hx hy (by omega))
  rw [e2]
  apply sumN_congr
  intro y hy
  have e3 : sumN (fun x => f ((0 + y) * 25 + x)) 25 = sumN (fun i => f ((0 + y) * 25 + (0 + i))) (w + 1) := sumN_win (a := 0) (m := w + 1) (by omega) (fun x hx hc => by rw [Nat.zero_add]; exact h0 x y hx (by omega) (by omega))
  rw [e3]
  simp only [Nat.zero_add]
theorem all_M {w h : Nat} (hB : MBk g iv w h) (hO : BkOut g w h) : Run sc 158 0 [some (Rf 52), none, none] [] (hp iv) = some (some (I (edgC w h (g 45) (g 46))), hp iv) := by
  obtain ⟨⟨d1, d2, d3, d4, d5, d6⟩, e1, e2, e3, e4, e5⟩ := id hB
  rw [B_X7_allBacks_0]
  obtain ⟨s, e, q, -⟩ := loop_ex (fun i (s : Int) => Run sc 158 4 [some (Rf 52), some (I s), some (I i)] [] (hp iv)) (fun i s => s = sumN (fun j => g 46 j + g 45 j) i ∧ 0 ≤ s ∧ s ≤ 2 * i) 625 0 0 (Nat.zero_le _) ⟨rfl, by simp, by simp⟩ (fun i s _ hi hP => by
    obtain ⟨p1, p2, p3⟩ := hP
    have b1 := e3 i hi
    have b2 := e4 i hi
    refine ⟨s + (g 46 i + g 45 i), ?_, by rw [p1]; rfl, by omega, by omega⟩
    have s1 : (if g 46 i = 0 then Run sc 158 25 [some (Rf 52), some (I s), some (I i)] [I s] (hp iv) else Run sc 158 26 [some (Rf 52), some (I s), some (I i)] [I 1, I s] (hp iv)) = Run sc 158 26 [some (Rf 52), some (I s), some (I i)] [I (g 46 i), I s] (hp iv) := by
      by_cases z : g 46 i = 0
      · rw [if_pos z, B_X7_allBacks_25, z]
      · rw [if_neg z, show g 46 i = 1 by omega]
    have s2 : (if g 45 i = 0 then Run sc 158 39 [some (Rf 52), some (I s), some (I i)] [I (g 46 i), I s] (hp iv) else Run sc 158 40 [some (Rf 52), some (I s), some (I i)] [I 1, I (g 46 i), I s] (hp iv)) = Run sc 158 40 [some (Rf 52), some (I s), some (I i)] [I (g 45 i), I (g 46 i), I s] (hp iv) := by
      by_cases z : g 45 i = 0
      · rw [if_pos z, B_X7_allBacks_39, z]
      · rw [if_neg z, show g 45 i = 1 by omega]
    rw [B_X7_allBacks_4, ite_T (by omega), bck_pos (by omega), Int.toNat_natCast, (e5 i hi).2, s1, B_X7_allBacks_26, bck_pos (by omega), Int.toNat_natCast, (e5 i hi).1, s2, B_X7_allBacks_40, chk_pos (by omega), chk_pos (by omega), chk_pos (by omega)])
  refine (show _ = _ from e).trans ?_
  show Run sc 158 4 [some (Rf 52), some (I s), some (I ((625 : Nat) : Int))] [] (hp iv) = _
  rw [B_X7_allBacks_4, ite_F (by omega), B_X7_allBacks_49, q]
  have pt : ∀ x y, x < 25 → y < 25 → pX (y * 25 + x) = x ∧ pY (y * 25 + x) = y := fun x y hx hy => by
    unfold pX pY; constructor
    · rw [show (y * 25 + x) % 25 = x by omega]
    · rw [show (y * 25 + x) / 25 = y by omega]
  rw [sumN_pts d4 d6 (fun x y hx hy hc => by
    obtain ⟨z1, z2⟩ := hO (y * 25 + x) (by omega)
    obtain ⟨k1, k2⟩ := pt x y hx hy
    rw [z1 (by omega), z2 (by omega)]; rfl)]
  unfold edgC
  refine congrArg (fun z => some (some (I z), hp iv)) ?_
  apply sumN_congr
  intro y hy
  apply sumN_congr
  intro x hx
  obtain ⟨z1, z2⟩ := hO (y * 25 + x) (by omega)
  obtain ⟨k1, k2⟩ := pt x y (by omega) (by omega)
  rw [k1, k2] at z1 z2
  unfold eU eF
  rw [show ((y : Int) * 25 + x).toNat = y * 25 + x by omega]
  by_cases c1 : inU w h x y
  · rw [if_pos c1]
    by_cases c2 : inF w h x y
    · rw [if_pos c2]; omega
    · rw [if_neg c2, z2 c2]; omega
  · rw [if_neg c1, z1 c1]
    by_cases c2 : inF w h x y
    · rw [if_pos c2]; omega
    · rw [if_neg c2, z2 c2]
theorem clr_M {w h : Nat} (hB : MBk g iv w h) (hO : BkOut g w h) : ∃ iv2, Run sc 159 0 [some (Rf 52), none, none] [] (hp iv) = some (some (I (edgC w h (g 45) (g 46))), hp iv2) ∧ (∀ k, k ≠ 55 → k ≠ 56 → iv2 k = iv k) ∧ ∀ j, j < 625 → iv2 56 j = 0 ∧ iv2 55 j = 0 := by
  rw [B_X7_clearBack_0, all_M hB hO, aBind_some, pushR_some, B_X7_clearBack_4]
  obtain ⟨s, e, g1, g2⟩ := loop_ex (fun i (s : Nat → Nat → Int) => Run sc 159 7 [some (Rf 52), some (I (edgC w h (g 45) (g 46))), some (I i)] [] (hp s)) (fun i s => (∀ k, k ≠ 55 → k ≠ 56 → s k = iv k) ∧ ∀ j, j < i → s 56 j = 0 ∧ s 55 j = 0) 625 0 iv (Nat.zero_le _) ⟨fun _ _ _ => rfl, fun j hj => absurd hj (Nat.not_lt_zero _)⟩ (fun i s _ hi hP => by
    obtain ⟨a1, a2⟩ := hP
    refine ⟨setO (setO s 55 (upI (s 55) i 0)) 56 (upI (s 56) i 0), ?_, fun k b1 b2 => by rw [setO_ne b2, setO_ne b1, a1 k b1 b2], fun j hj => ?_⟩
    · rw [B_X7_clearBack_7, ite_T (by omega), bck_pos (by omega), bck_pos (by omega), B_X7_clearBack_21, bck_pos (by omega), bck_pos (by omega), B_X7_clearBack_28, chk_pos (by omega), Int.toNat_natCast, setO_ne (show 56 ≠ 55 by omega)]
    · rw [setO_ne (show 55 ≠ 56 by omega), setO_same, setO_same]
      by_cases q : j = i
      · rw [q, upI_same, upI_same]; exact ⟨rfl, rfl⟩
      · rw [upI_ne q, upI_ne q]; exact a2 j (by omega))
  refine ⟨s, (show _ = _ from e).trans ?_, g1, g2⟩
  show Run sc 159 7 [some (Rf 52), some (I (edgC w h (g 45) (g 46))), some (I ((625 : Nat) : Int))] [] (hp s) = _
  rw [B_X7_clearBack_7, ite_F (by omega), B_X7_clearBack_34]
end MBACKS
