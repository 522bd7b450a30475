/-! StitchChartModel: cells. g is a heap whose class cells hold what the model's cells hold. -/
section MGRID
variable {sc : Nat × (Nat → Int)} {iv g : Nat → Nat → Int}
def MGr (g iv : Nat → Nat → Int) (w h : Nat) : Prop := DimB g w h ∧ iv 52 0 = w ∧ iv 52 1 = h ∧ ∀ j, j < 576 → iv 53 j = g 4 j ∧ 0 ≤ g 4 j ∧ g 4 j ≤ 6
theorem in_T {x a b : Int} (h : a ≤ x ∧ x ≤ b) : Run sc 109 0 [some (I x), some (I a), some (I b)] [] (hp iv) = some (some (I 1), hp iv) := by
  simp (disch := omega) only [B_X7_in_0, B_X7_in_14, B_X7_in_15, ite_T, ite_F, bck_pos]
theorem in_F {x a b : Int} (h : ¬ (a ≤ x ∧ x ≤ b)) : Run sc 109 0 [some (I x), some (I a), some (I b)] [] (hp iv) = some (some (I 0), hp iv) := by
  by_cases h1 : x < a
  · simp (disch := omega) only [B_X7_in_0, B_X7_in_14, B_X7_in_15, ite_T, ite_F, bck_pos]
  · simp (disch := omega) only [B_X7_in_0, B_X7_in_14, B_X7_in_15, ite_T, ite_F, bck_pos]
theorem cell_T {w h : Nat} {x y : Int} (hM : MGr g iv w h) (c : inC g x y) : Run sc 112 0 [some (Rf 52), some (I x), some (I y)] [] (hp iv) = some (some (I 1), hp iv) := by
  obtain ⟨⟨d1, d2, d3, d4, d5, d6⟩, e1, e2, e3⟩ := hM
  rw [B_X7_isCell_0, chk_pos (by omega), in_T (by omega), aBind_some, pushR_some, B_X7_isCell_11, ite_F (by omega), chk_pos (by omega), in_T (by omega), aBind_some, pushR_some, B_X7_isCell_25, ite_F (by omega), B_X7_isCell_33, bck_pos (by omega)]
theorem cell_F {w h : Nat} {x y : Int} (hM : MGr g iv w h) (c : ¬ inC g x y) : Run sc 112 0 [some (Rf 52), some (I x), some (I y)] [] (hp iv) = some (some (I 0), hp iv) := by
  obtain ⟨⟨d1, d2, d3, d4, d5, d6⟩, e1, e2, e3⟩ := hM
  by_cases cx : 0 ≤ x ∧ x ≤ iv 52 0 - 1
  · rw [B_X7_isCell_0, chk_pos (by omega), in_T cx, aBind_some, pushR_some, B_X7_isCell_11, ite_F (by omega), chk_pos (by omega), in_F (by omega), aBind_some, pushR_some, B_X7_isCell_25, ite_T (by omega), B_X7_isCell_32, B_X7_isCell_33, bck_pos (by omega)]
  · rw [B_X7_isCell_0, chk_pos (by omega), in_F cx, aBind_some, pushR_some, B_X7_isCell_11, ite_T (by omega), B_X7_isCell_32, B_X7_isCell_33, bck_pos (by omega)]
/-- the model's color of a cell -/
def aM (g : Nat → Nat → Int) (x y : Int) : Int := if inC g x y then gC g x y else -4
theorem aM_in {x y : Int} (c : inC g x y) : aM g x y = gC g x y := if_pos c
theorem at_M {w h : Nat} {x y : Int} (hM : MGr g iv w h) : Run sc 113 0 [some (Rf 52), some (I x), some (I y)] [] (hp iv) = some (some (I (aM g x y)), hp iv) := by
  obtain ⟨⟨d1, d2, d3, d4, d5, d6⟩, e1, e2, e3⟩ := id hM
  unfold aM
  by_cases c : inC g x y
  · rw [if_pos c, B_X7_at_0, cell_T hM c, aBind_some, pushR_some, B_X7_at_6, ite_F (by omega), chk_pos (by omega), chk_pos (by omega), bck_pos (by omega), B_X7_at_25]
    unfold gC
    rw [if_pos c, (e3 _ (by omega)).1, show (24 * y + x).toNat = (y * 24 + x).toNat by omega]
  · rw [if_neg c, B_X7_at_0, cell_F hM c, aBind_some, pushR_some, B_X7_at_6, ite_T (by omega), B_X7_at_23, B_X7_at_25]
theorem aM_eq {x y c : Int} (hc : 1 ≤ c) : aM g x y = c ↔ gC g x y = c := by
  unfold aM
  by_cases q : inC g x y
  · rw [if_pos q]
  · rw [if_neg q, gC_out q]; omega
theorem aro_step {w h : Nat} {x y c f k dx dy : Int} (hM : MGr g iv w h) (hc : 1 ≤ c) (hx : -100 ≤ x ∧ x ≤ 100) (hy : -100 ≤ y ∧ y ≤ 100) (hf : 0 ≤ f ∧ f ≤ 100) (hk : 0 ≤ k ∧ k < 9) (hk4 : k ≠ 4) (hdx : k % 3 - 1 = dx) (hdy : k / 3 - 1 = dy) : Run sc 133 6 [some (Rf 52), some (I x), some (I y), some (I c), some (I f), some (I k)] [] (hp iv) = Run sc 133 6 [some (Rf 52), some (I x), some (I y), some (I c), some (I (f + nT g x y c dx dy)), some (I (k + 1))] [] (hp iv) := by
  rw [B_X7_around_6, ite_T (by omega), ite_F hk4, bck_pos (by omega), bck_pos (by omega), chk_pos (by omega), chk_pos (by omega), bck_pos (by omega), bck_pos (by omega), chk_pos (by omega), chk_pos (by omega), at_M hM, aBind_some, pushR_some, B_X7_around_41, show x + k % 3 - 1 = x + dx by omega, show y + k / 3 - 1 = y + dy by omega]
  unfold nT
  by_cases q : gC g (x + dx) (y + dy) = c
  · rw [if_pos ((aM_eq hc).mpr q), if_pos q, B_X7_around_50, chk_pos (by omega), chk_pos (by omega)]
  · rw [if_neg (fun z => q ((aM_eq hc).mp z)), if_neg q, B_X7_around_49, B_X7_around_50, chk_pos (by omega), chk_pos (by omega)]
theorem aro_M {w h : Nat} {x y c : Int} (hM : MGr g iv w h) (hc : 1 ≤ c) (hx : -100 ≤ x ∧ x ≤ 100) (hy : -100 ≤ y ∧ y ≤ 100) : Run sc 133 0 [some (Rf 52), some (I x), some (I y), some (I c), none, none] [] (hp iv) = some (some (I (nbr g x y c)), hp iv) := by
  have b1 := nT_b (iv := g) (x := x) (y := y) (c := c) (dx := -1) (dy := -1)
  have b2 := nT_b (iv := g) (x := x) (y := y) (c := c) (dx := 0) (dy := -1)
  have b3 := nT_b (iv := g) (x := x) (y := y) (c := c) (dx := 1) (dy := -1)
  have b4 := nT_b (iv := g) (x := x) (y := y) (c := c) (dx := -1) (dy := 0)
  have b5 := nT_b (iv := g) (x := x) (y := y) (c := c) (dx := 1) (dy := 0)
  have b6 := nT_b (iv := g) (x := x) (y := y) (c := c) (dx := -1) (dy := 1)
  have b7 := nT_b (iv := g) (x := x) (y := y) (c := c) (dx := 0) (dy := 1)
  have b8 := nT_b (iv := g) (x := x) (y := y) (c := c) (dx := 1) (dy := 1)
  unfold nbr
  rw [B_X7_around_0, aro_step (dx := -1) (dy := -1) hM hc hx hy (by omega) (by omega) (by omega) (by omega) (by omega), show (0 : Int) + 1 = 1 from rfl,
    aro_step (k := 1) (dx := 0) (dy := -1) hM hc hx hy (by omega) (by omega) (by omega) (by omega) (by omega), show (1 : Int) + 1 = 2 from rfl,
    aro_step (k := 2) (dx := 1) (dy := -1) hM hc hx hy (by omega) (by omega) (by omega) (by omega) (by omega), show (2 : Int) + 1 = 3 from rfl,
    aro_step (k := 3) (dx := -1) (dy := 0) hM hc hx hy (by omega) (by omega) (by omega) (by omega) (by omega), show (3 : Int) + 1 = 4 from rfl,
    B_X7_around_6, ite_T (by omega), ite_T (by omega), B_X7_around_49, B_X7_around_50, chk_pos (by omega), chk_pos (by omega), Int.add_zero, show (4 : Int) + 1 = 5 from rfl,
    aro_step (k := 5) (dx := 1) (dy := 0) hM hc hx hy (by omega) (by omega) (by omega) (by omega) (by omega), show (5 : Int) + 1 = 6 from rfl,
    aro_step (k := 6) (dx := -1) (dy := 1) hM hc hx hy (by omega) (by omega) (by omega) (by omega) (by omega), show (6 : Int) + 1 = 7 from rfl,
    aro_step (k := 7) (dx := 0) (dy := 1) hM hc hx hy (by omega) (by omega) (by omega) (by omega) (by omega), show (7 : Int) + 1 = 8 from rfl,
    aro_step (k := 8) (dx := 1) (dy := 1) hM hc hx hy (by omega) (by omega) (by omega) (by omega) (by omega), B_X7_around_6, ite_F (by omega), B_X7_around_59]
theorem aM_b {w h : Nat} {x y : Int} (hM : MGr g iv w h) : -4 ≤ aM g x y ∧ aM g x y ≤ 6 := by
  obtain ⟨⟨d1, d2, d3, d4, d5, d6⟩, e1, e2, e3⟩ := hM
  unfold aM gC
  split
  · have := e3 (y * 24 + x).toNat (by omega); omega
  · omega
theorem sta_M {w h : Nat} {x y : Int} (hM : MGr g iv w h) (hx : -100 ≤ x ∧ x ≤ 100) (hy : -100 ≤ y ∧ y ≤ 100) : Run sc 134 0 [some (Rf 52), some (I x), some (I y)] [] (hp iv) = some (some (I (lonI g x y)), hp iv) := by
  have hb := aM_b (x := x) (y := y) hM
  rw [B_X7_stands_0, at_M hM, aBind_some, pushR_some, B_X7_stands_6]
  unfold lonI
  by_cases c : 0 < aM g x y
  · have e := (aM_eq (g := g) (x := x) (y := y) (c := aM g x y) (by omega)).mp rfl
    rw [if_pos c, at_M hM, aBind_some, pushR_some, B_X7_stands_18, aro_M hM (by omega) hx hy, aBind_some, pushR_some, B_X7_stands_21, e, if_neg (show ¬ aM g x y = 0 by omega)]
    by_cases q : nbr g x y (aM g x y) = 0
    · rw [if_pos q, if_pos q, B_X7_stands_29, bck_pos (by omega)]
    · rw [if_neg q, if_neg q, B_X7_stands_28, B_X7_stands_29, bck_pos (by omega)]
  · have e : gC g x y = 0 := by
      by_cases q : inC g x y
      · rw [aM_in q] at c
        obtain ⟨⟨d1, d2, d3, d4, d5, d6⟩, e1, e2, e3⟩ := hM
        have := e3 (y * 24 + x).toNat (by omega)
        unfold gC at c ⊢
        rw [if_pos q] at c ⊢
        omega
      · exact gC_out q
    rw [if_neg c, if_pos e, B_X7_stands_28, B_X7_stands_29, bck_pos (by omega)]
theorem mer_M {w h : Nat} {x y : Int} (hM : MGr g iv w h) (hin : inC g x y) (hx : -100 ≤ x ∧ x ≤ 100) (hy : -100 ≤ y ∧ y ≤ 100) : Run sc 137 0 [some (Rf 52), some (I x), some (I y), none, none, none, none] [] (hp iv) = some (some (I (bestB (nbr g x y) (gC g x y) 6).1), hp iv) := by
  rw [B_X7_merged_0, at_M hM, aBind_some, pushR_some, B_X7_merged_6, aM_in hin]
  obtain ⟨s, e, q⟩ := loop_ex (fun i (s : (Int × Int) × Option AV) => Run sc 137 13 [some (Rf 52), some (I x), some (I y), some (I s.1.1), some (I s.1.2), some (I (i + 1)), s.2] [] (hp iv)) (fun i s => s.1 = bestB (nbr g x y) (gC g x y) i) 6 0 ((gC g x y, 0), none) (Nat.zero_le _) rfl (fun i s _ hi hP => by
    have hb := nbr_b (iv := g) (x := x) (y := y) (c := ((i : Int) + 1))
    refine ⟨(bestB (nbr g x y) (gC g x y) (i + 1), some (I (nbr g x y (i + 1)))), ?_, rfl⟩
    show Run sc 137 13 [some (Rf 52), some (I x), some (I y), some (I s.1.1), some (I s.1.2), some (I (i + 1)), s.2] [] (hp iv) = Run sc 137 13 [some (Rf 52), some (I x), some (I y), some (I (stepB (nbr g x y) (i + 1) (bestB (nbr g x y) (gC g x y) i)).1), some (I (stepB (nbr g x y) (i + 1) (bestB (nbr g x y) (gC g x y) i)).2), some (I (i + 1 + 1)), some (I (nbr g x y (i + 1)))] [] (hp iv)
    rw [← hP]
    unfold stepB
    rw [B_X7_merged_13, ite_F (by omega), aro_M hM (by omega) hx hy, aBind_some, pushR_some, B_X7_merged_28]
    have e1 : ((i + 1 : Nat) : Int) = (i : Int) + 1 := rfl
    rw [e1]
    by_cases hc : s.1.2 < nbr g x y (i + 1)
    · rw [if_pos hc, if_pos hc, B_X7_merged_43, if_pos hc, B_X7_merged_58, chk_pos (by omega)]
    · rw [if_neg hc, if_neg hc, B_X7_merged_42, B_X7_merged_43, if_neg hc, B_X7_merged_56, B_X7_merged_58, chk_pos (by omega)])
  refine (show _ = _ from e).trans ?_
  show Run sc 137 13 [some (Rf 52), some (I x), some (I y), some (I s.1.1), some (I s.1.2), some (I (6 + 1)), s.2] [] (hp iv) = _
  rw [B_X7_merged_13, ite_T (by omega), B_X7_merged_66, q]
theorem tak_M {w h : Nat} (hM : MGr g iv w h) : ∃ iv2, Run sc 126 0 [some (Rf 52), none] [] (hp iv) = some (none, hp iv2) ∧ (∀ k, k ≠ 54 → iv2 k = iv k) ∧ ∀ j, j < 576 → iv2 54 j = g 4 j := by
  obtain ⟨-, -, -, e3⟩ := hM
  rw [B_X7_takeOver_0]
  obtain ⟨s, e, g1, g2⟩ := loop_ex (fun i (s : Nat → Nat → Int) => Run sc 126 2 [some (Rf 52), some (I i)] [] (hp s)) (fun i s => (∀ k, k ≠ 54 → s k = iv k) ∧ ∀ j, j < i → s 54 j = g 4 j) 576 0 iv (Nat.zero_le _) ⟨fun _ _ => rfl, fun j hj => absurd hj (Nat.not_lt_zero _)⟩ (fun i s _ hi hP => by
    obtain ⟨a1, a2⟩ := hP
    obtain ⟨c1, c2⟩ := e3 i hi
    have a3 := a1 53 (by omega)
    refine ⟨setO s 54 (upI (s 54) i (g 4 i)), ?_, fun k hk => by rw [setO_ne hk, a1 k hk], fun j hj => ?_⟩
    · rw [B_X7_takeOver_2, ite_T (by omega), bck_pos (by omega), bck_pos (by omega), Int.toNat_natCast, a3, c1, bck_pos (by omega), B_X7_takeOver_21, chk_pos (by omega)]
    · rw [setO_same]
      by_cases q : j = i
      · rw [q, upI_same]
      · rw [upI_ne q]; exact a2 j (by omega))
  refine ⟨s, (show _ = _ from e).trans ?_, g1, g2⟩
  show Run sc 126 2 [some (Rf 52), some (I ((576 : Nat) : Int))] [] (hp s) = _
  rw [B_X7_takeOver_2, ite_F (by omega), B_X7_takeOver_27]
/-- a set of colors -/
def tb (m c : Nat) : Prop := m / 2 ^ c % 2 = 1
theorem tb_bit {m c : Nat} : tb m c ↔ m.testBit c = true := by
  unfold tb
  rw [Nat.testBit_eq_decide_div_mod_eq]
  simp
theorem tb_or {m a b c : Nat} : tb (m ||| (2 ^ a ||| 2 ^ b)) c ↔ tb m c ∨ a = c ∨ b = c := by
  rw [tb_bit, tb_bit, Nat.testBit_or, Nat.testBit_or, Nat.testBit_two_pow, Nat.testBit_two_pow]
  simp
theorem orB_lt {m a b : Nat} (hm : m < 128) (ha : a ≤ 6) (hb : b ≤ 6) : (2 ^ a ||| 2 ^ b) < 128 ∧ (m ||| (2 ^ a ||| 2 ^ b)) < 128 ∧ 2 ^ a < 128 ∧ 2 ^ b < 128 := by
  have h1 : 2 ^ a < 2 ^ 7 := Nat.pow_lt_pow_right (by omega) (by omega)
  have h2 : 2 ^ b < 2 ^ 7 := Nat.pow_lt_pow_right (by omega) (by omega)
  have h3 := Nat.or_lt_two_pow h1 h2
  exact ⟨h3, Nat.or_lt_two_pow (n := 7) hm h3, h1, h2⟩
set_option maxHeartbeats 1000000 in
/-- newColor becomes colorOf: how many change, and which colors are concerned -/
theorem chg_M {m : Nat} {N O : Nat → Int} (hm : iv 52 24 = m) (hm2 : m < 128) (hN : ∀ j, j < 576 → iv 54 j = N j ∧ 0 ≤ N j ∧ N j ≤ 6) (hO : ∀ j, j < 576 → iv 53 j = O j ∧ 0 ≤ O j ∧ O j ≤ 6) :
    ∃ iv2 m2, Run sc 127 0 [some (Rf 52), none, none] [] (hp iv) = some (some (I (sumN (fun j => if O j = N j then 0 else 1) 576)), hp iv2) ∧ (∀ k, k ≠ 52 → k ≠ 53 → iv2 k = iv k) ∧ (∀ f, f ≠ 24 → iv2 52 f = iv 52 f) ∧ iv2 52 24 = ((m2 : Nat) : Int) ∧ m2 < 128 ∧ (∀ j, j < 576 → iv2 53 j = N j) ∧ ∀ c : Nat, tb m2 c ↔ tb m c ∨ ∃ j, j < 576 ∧ O j ≠ N j ∧ (O j = c ∨ N j = c) := by
  rw [B_X7_change_0]
  obtain ⟨s, e, g1, g2, g3, g4, ⟨m2, g5, g6, g7⟩⟩ := loop_ex (fun i (s : Int × (Nat → Nat → Int)) => Run sc 127 4 [some (Rf 52), some (I s.1), some (I i)] [] (hp s.2)) (fun i s => (s.1 = sumN (fun j => if O j = N j then 0 else 1) i ∧ 0 ≤ s.1 ∧ s.1 ≤ i) ∧ (∀ k, k ≠ 52 → k ≠ 53 → s.2 k = iv k) ∧ (∀ f, f ≠ 24 → s.2 52 f = iv 52 f) ∧ (∀ j, s.2 53 j = if j < i then N j else iv 53 j) ∧ ∃ m2 : Nat, s.2 52 24 = (m2 : Int) ∧ m2 < 128 ∧ ∀ c : Nat, tb m2 c ↔ tb m c ∨ ∃ j, j < i ∧ O j ≠ N j ∧ (O j = c ∨ N j = c)) 576 0 (0, iv) (Nat.zero_le _) ⟨⟨rfl, by simp, by simp⟩, fun _ _ _ => rfl, fun _ _ => rfl, fun j => by rw [if_neg (by omega)], m, hm, hm2, fun c => ⟨fun z => Or.inl z, fun z => by
      rcases z with z | ⟨j, hj, -⟩
      · exact z
      · exact absurd hj (Nat.not_lt_zero _)⟩⟩ (fun i s _ hi hP => by
    obtain ⟨a, s⟩ := s
    obtain ⟨⟨a0, b0, c0⟩, a1, a2, a3, m2, a4, a5, a6⟩ := hP
    dsimp only at a0 b0 c0 a1 a2 a3 a4
    obtain ⟨n1, n2⟩ := hN i hi
    obtain ⟨o1, o2⟩ := hO i hi
    have v54 : s 54 i = N i := by rw [a1 54 (by omega) (by omega), n1]
    have v53 : s 53 i = O i := by rw [a3, if_neg (by omega), o1]
    by_cases q : N i = O i
    · refine ⟨(a, s), ?_, ⟨?_, b0, by show a ≤ ((i + 1 : Nat) : Int); omega⟩, a1, a2, fun j => ?_, m2, a4, a5, fun c => ?_⟩
      · show Run sc 127 4 [some (Rf 52), some (I a), some (I i)] [] (hp s) = Run sc 127 4 [some (Rf 52), some (I a), some (I ((i : Int) + 1))] [] (hp s)
        rw [B_X7_change_4, ite_T (by omega), bck_pos (by omega), bck_pos (by omega), Int.toNat_natCast, v54, v53, if_pos q, B_X7_change_67, chk_pos (by omega)]
      · show a = sumN (fun j => if O j = N j then 0 else 1) i + if O i = N i then 0 else 1
        rw [if_pos q.symm]; omega
      · show s 53 j = _
        rw [a3]
        by_cases e1 : j = i
        · rw [e1, if_neg (by omega), if_pos (by omega), o1, q]
        · by_cases e2 : j < i
          · rw [if_pos e2, if_pos (by omega)]
          · rw [if_neg e2, if_neg (by omega)]
      · rw [a6]
        constructor
        · rintro (z | ⟨j, z1, z2⟩)
          · exact Or.inl z
          · exact Or.inr ⟨j, by omega, z2⟩
        · rintro (z | ⟨j, z1, z2, z3⟩)
          · exact Or.inl z
          · refine Or.inr ⟨j, ?_, z2, z3⟩
            by_cases e1 : j = i
            · rw [e1] at z2; exact absurd q.symm z2
            · omega
    · obtain ⟨k1, k2, k3, k4⟩ := orB_lt (m := m2) (a := (O i).toNat) (b := (N i).toNat) a5 (by omega) (by omega)
      refine ⟨(a + 1, setO (setO s 52 (upI (s 52) 24 ((m2 ||| (2 ^ (O i).toNat ||| 2 ^ (N i).toNat) : Nat) : Int))) 53 (upI (s 53) i (N i))), ?_, ⟨?_, by show 0 ≤ a + 1; omega, by show a + 1 ≤ ((i + 1 : Nat) : Int); omega⟩, fun k z1 z2 => ?_, fun f z1 => ?_, fun j => ?_, m2 ||| (2 ^ (O i).toNat ||| 2 ^ (N i).toNat), ?_, k2, fun c => ?_⟩
      · show Run sc 127 4 [some (Rf 52), some (I a), some (I i)] [] (hp s) = Run sc 127 4 [some (Rf 52), some (I (a + 1)), some (I ((i : Int) + 1))] [] (hp (setO (setO s 52 (upI (s 52) 24 ((m2 ||| (2 ^ (O i).toNat ||| 2 ^ (N i).toNat) : Nat) : Int))) 53 (upI (s 53) i (N i))))
        rw [B_X7_change_4, ite_T (by omega), bck_pos (by omega), bck_pos (by omega), Int.toNat_natCast, v54, v53, if_neg q, chk_pos (by omega), bck_pos (by omega), bck_pos (by omega), bck_pos (by omega), bck_pos (by omega), a4]
        generalize 2 ^ (N i).toNat = pn at *
        generalize 2 ^ (O i).toNat = po at *
        simp only [Int.toNat_natCast]
        rw [bck_pos (by omega), bck_pos (by omega), bck_pos (by omega), bck_pos (by omega), bck_pos (by omega), B_X7_change_55]
        rw [setO_ne (show 54 ≠ 52 by omega), setO_ne (show 53 ≠ 52 by omega), Int.toNat_natCast, v54, bck_pos (by omega), bck_pos (by omega), bck_pos (by omega), B_X7_change_67, chk_pos (by omega)]
      · show a + 1 = sumN (fun j => if O j = N j then 0 else 1) i + if O i = N i then 0 else 1
        rw [if_neg (fun z => q z.symm)]; omega
      · dsimp only
        rw [setO_ne z2, setO_ne z1]; exact a1 k z1 z2
      · dsimp only
        rw [setO_ne (by omega), setO_same, upI_ne z1]; exact a2 f z1
      · dsimp only
        rw [setO_same]
        by_cases e1 : j = i
        · rw [e1, upI_same, if_pos (by omega)]
        · rw [upI_ne e1, a3]
          by_cases e2 : j < i
          · rw [if_pos e2, if_pos (by omega)]
          · rw [if_neg e2, if_neg (by omega)]
      · dsimp only
        rw [setO_ne (by omega), setO_same, upI_same]
      · rw [tb_or, a6]
        constructor
        · rintro ((z | ⟨j, z1, z2⟩) | z | z)
          · exact Or.inl z
          · exact Or.inr ⟨j, by omega, z2⟩
          · exact Or.inr ⟨i, by omega, fun y => q y.symm, Or.inl (by omega)⟩
          · exact Or.inr ⟨i, by omega, fun y => q y.symm, Or.inr (by omega)⟩
        · rintro (z | ⟨j, z1, z2, z3⟩)
          · exact Or.inl (Or.inl z)
          · by_cases e1 : j = i
            · rw [e1] at z3
              rcases z3 with z3 | z3
              · exact Or.inr (Or.inl (by omega))
              · exact Or.inr (Or.inr (by omega))
            · exact Or.inl (Or.inr ⟨j, by omega, z2, z3⟩))
  obtain ⟨a, s⟩ := s
  dsimp only at g1 g2 g3 g4 g5
  refine ⟨s, m2, (show _ = _ from e).trans ?_, g2, g3, g5, g6, fun j hj => by rw [g4, if_pos hj], g7⟩
  show Run sc 127 4 [some (Rf 52), some (I a), some (I ((576 : Nat) : Int))] [] (hp s) = _
  rw [B_X7_change_4, ite_F (by omega), B_X7_change_73, g1.1]
end MGRID
