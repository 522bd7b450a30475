/-! the law: merges -/
theorem sumN_cut {f : Nat → Int} {m : Nat} : ∀ n, m ≤ n → (∀ j, m ≤ j → j < n → f j = 0) → sumN f n = sumN f m := by
  intro n hm
  induction hm with
  | refl => intro _; rfl
  | step hm ih =>
    rename_i n
    intro hz
    show sumN f n + f n = _
    rw [ih (fun j a b => hz j a (by omega)), hz n hm (by omega), Int.add_zero]
theorem sumN_app {f : Nat → Int} {a : Nat} : ∀ b, sumN f (a + b) = sumN f a + sumN (fun i => f (a + i)) b := by
  intro b
  induction b with
  | zero => show sumN f a = sumN f a + 0; omega
  | succ b ih =>
    show sumN f (a + b) + f (a + b) = sumN f a + (sumN (fun i => f (a + i)) b + f (a + b))
    rw [ih]; omega
/-- a sum line by line -/
theorem sumN_lines {f : Nat → Int} {a : Nat} : ∀ b, sumN f (b * a) = sumN (fun j => sumN (fun i => f (j * a + i)) a) b := by
  intro b
  induction b with
  | zero => rw [Nat.zero_mul]; rfl
  | succ b ih =>
    rw [Nat.succ_mul, sumN_app, ih]
    rfl
theorem divmod {a i j : Nat} (hi : i < a) : (j * a + i) % a = i ∧ (j * a + i) / a = j := by
  rw [Nat.mul_comm]
  exact ⟨by rw [Nat.mul_add_mod]; exact Nat.mod_eq_of_lt hi, by rw [Nat.mul_add_div (by omega), Nat.div_eq_of_lt hi, Nat.add_zero]⟩
/-- the cells of a chart, in lines of its width or of 24 -/
theorem sum_chart {T : Nat → Nat → Int} {w h : Nat} (hw : w ≤ 24) (hh : h ≤ 24) : sumN (fun k => T (k % w) (k / w)) (h * w) = sumN (fun j => if j % 24 < w ∧ j / 24 < h then T (j % 24) (j / 24) else 0) 576 := by
  rw [sumN_lines, show 576 = 24 * 24 from rfl, sumN_lines]
  have e1 : sumN (fun j => sumN (fun i => T ((j * w + i) % w) ((j * w + i) / w)) w) h = sumN (fun j => sumN (fun i => T i j) w) h := sumN_congr fun j _ => sumN_congr fun i hi => by rw [(divmod hi).1, (divmod hi).2]
  have e2 : sumN (fun j => sumN (fun i => if (j * 24 + i) % 24 < w ∧ (j * 24 + i) / 24 < h then T ((j * 24 + i) % 24) ((j * 24 + i) / 24) else 0) 24) 24 = sumN (fun j => sumN (fun i => if i < w ∧ j < h then T i j else 0) 24) 24 := sumN_congr fun j _ => sumN_congr fun i hi => by rw [(divmod hi).1, (divmod hi).2]
  rw [e1, e2, sumN_cut (m := h) 24 hh (fun j hj _ => sumN_zero fun i _ => if_neg (by omega))]
  apply sumN_congr
  intro j hj
  rw [sumN_cut (m := w) 24 hw (fun i hi _ => if_neg (by omega))]
  exact (sumN_congr fun i hi => if_pos ⟨hi, hj⟩).symm
section LMERGES
variable {sc : Nat × (Nat → Int)} {g iv iv2 : Nat → Nat → Int} {O : Nat → Nat → Int} {w h n : Nat} {cs cs2 : List (Nat × Nat)} {a b : Nat}
theorem in_chart {k w h : Nat} (hk : k < h * w) : k % w < w ∧ k / w < h := by
  have hw : 0 < w := Nat.pos_of_ne_zero (fun z => by subst z; simp at hk)
  exact ⟨Nat.mod_lt _ hw, Nat.div_lt_of_lt_mul (by rw [Nat.mul_comm]; exact hk)⟩
set_option maxHeartbeats 4000000 in
/-- the votes of the neighbors for a color -/
theorem votes_L {x y c x5 x6 x9 : Int} (C : Cur g O w h n cs iv) (hin : inC g x y) (hc : 1 ≤ c ∧ c ≤ 6) : Run sc 115 124 [some (Rf 1), some (I (w : Int)), some (I (h : Int)), some (Rf a), some (Rf b), some (I x5), some (I x6), some (I x), some (I y), some (I x9), some (I c), some (I 0), some (I 0)] [] (hq cs iv) = Run sc 115 180 [some (Rf 1), some (I (w : Int)), some (I (h : Int)), some (Rf a), some (Rf b), some (I x5), some (I x6), some (I x), some (I y), some (I x9), some (I c), some (I (nbr g x y c)), some (I 9)] [] (hq cs iv) := by
  obtain ⟨⟨⟨d1, d2, d3, d4, d5, d6⟩, a3⟩, -⟩ := id C.1
  have hin2 := hin
  unfold inC at hin2
  have key : ∀ dx dy : Int, (celF g (x + dx) (y + dy) = c ↔ nT g x y c dx dy = 1) := fun dx dy => by
    unfold celF nT
    by_cases z : inC g (x + dx) (y + dy)
    · rw [if_pos z]
      by_cases q : gC g (x + dx) (y + dy) = c
      · rw [if_pos q]; exact ⟨fun _ => rfl, fun _ => q⟩
      · rw [if_neg q]; exact ⟨fun k => absurd k q, fun k => by omega⟩
    · rw [if_neg z, gC_out z, if_neg (by omega)]
      exact ⟨fun k => by omega, fun k => by omega⟩
  have st : ∀ f k dx dy : Int, (0 ≤ k ∧ k < 9) → k ≠ 4 → x + k % 3 - 1 = x + dx → y + k / 3 - 1 = y + dy → (0 ≤ f ∧ f ≤ 20) → Run sc 115 124 [some (Rf 1), some (I (w : Int)), some (I (h : Int)), some (Rf a), some (Rf b), some (I x5), some (I x6), some (I x), some (I y), some (I x9), some (I c), some (I f), some (I k)] [] (hq cs iv) = Run sc 115 124 [some (Rf 1), some (I (w : Int)), some (I (h : Int)), some (Rf a), some (Rf b), some (I x5), some (I x6), some (I x), some (I y), some (I x9), some (I c), some (I (f + nT g x y c dx dy)), some (I (k + 1))] [] (hq cs iv) := fun f k dx dy hk h4 e1 e2 hf => by
    have tb := nT_b (iv := g) (x := x) (y := y) (c := c) (dx := dx) (dy := dy)
    rw [B_L_merges_124, if_pos (by omega), if_neg h4, bck_pos (by omega), bck_pos (by omega), chk_pos (by omega), chk_pos (by omega), bck_pos (by omega), bck_pos (by omega), chk_pos (by omega), chk_pos (by omega), e1, e2, cell_L C, aBind_some, pushR_some, B_L_merges_161]
    by_cases q : nT g x y c dx dy = 1
    · rw [if_pos ((key dx dy).mpr q), B_L_merges_171, chk_pos (by omega), chk_pos (by omega), q]
    · rw [if_neg (fun z => q ((key dx dy).mp z)), B_L_merges_170, B_L_merges_171, chk_pos (by omega), chk_pos (by omega), show nT g x y c dx dy = 0 by omega]
  have s4 : ∀ f : Int, (0 ≤ f ∧ f ≤ 20) → Run sc 115 124 [some (Rf 1), some (I (w : Int)), some (I (h : Int)), some (Rf a), some (Rf b), some (I x5), some (I x6), some (I x), some (I y), some (I x9), some (I c), some (I f), some (I 4)] [] (hq cs iv) = Run sc 115 124 [some (Rf 1), some (I (w : Int)), some (I (h : Int)), some (Rf a), some (Rf b), some (I x5), some (I x6), some (I x), some (I y), some (I x9), some (I c), some (I f), some (I 5)] [] (hq cs iv) := fun f hf => by
    rw [B_L_merges_124, if_pos (by omega), if_pos rfl, B_L_merges_170, B_L_merges_171, chk_pos (by omega), chk_pos (by omega), Int.add_zero]
    rfl
  have b1 := nT_b (iv := g) (x := x) (y := y) (c := c) (dx := -1) (dy := -1)
  have b2 := nT_b (iv := g) (x := x) (y := y) (c := c) (dx := 0) (dy := -1)
  have b3 := nT_b (iv := g) (x := x) (y := y) (c := c) (dx := 1) (dy := -1)
  have b4 := nT_b (iv := g) (x := x) (y := y) (c := c) (dx := -1) (dy := 0)
  have b5 := nT_b (iv := g) (x := x) (y := y) (c := c) (dx := 1) (dy := 0)
  have b6 := nT_b (iv := g) (x := x) (y := y) (c := c) (dx := -1) (dy := 1)
  have b7 := nT_b (iv := g) (x := x) (y := y) (c := c) (dx := 0) (dy := 1)
  have b8 := nT_b (iv := g) (x := x) (y := y) (c := c) (dx := 1) (dy := 1)
  unfold nbr
  rw [st 0 0 (-1) (-1) (by omega) (by omega) (by omega) (by omega) (by omega), show (0 : Int) + 1 = 1 from rfl, st _ 1 0 (-1) (by omega) (by omega) (by omega) (by omega) (by omega), show (1 : Int) + 1 = 2 from rfl, st _ 2 1 (-1) (by omega) (by omega) (by omega) (by omega) (by omega), show (2 : Int) + 1 = 3 from rfl, st _ 3 (-1) 0 (by omega) (by omega) (by omega) (by omega) (by omega), show (3 : Int) + 1 = 4 from rfl, s4 _ (by omega), st _ 5 1 0 (by omega) (by omega) (by omega) (by omega) (by omega), show (5 : Int) + 1 = 6 from rfl, st _ 6 (-1) 1 (by omega) (by omega) (by omega) (by omega) (by omega), show (6 : Int) + 1 = 7 from rfl, st _ 7 0 1 (by omega) (by omega) (by omega) (by omega) (by omega), show (7 : Int) + 1 = 8 from rfl, st _ 8 1 1 (by omega) (by omega) (by omega) (by omega) (by omega), show (8 : Int) + 1 = 9 from rfl, B_L_merges_124, if_neg (by omega)]
/-- a change by merging -/
def mcT (g : Nat → Nat → Int) (x y : Nat) : Int := if mrgC g (x : Int) (y : Int) = gC g (x : Int) (y : Int) then 0 else 1
theorem mcT_b {x y : Nat} : 0 ≤ mcT g x y ∧ mcT g x y ≤ 1 := by unfold mcT; split <;> omega
set_option maxHeartbeats 4000000 in
/-- one cell: what is due -/
theorem due_L {k : Nat} {x5 : Int} (C : Cur g O w h n cs iv) (hk : k < h * w) (h64 : h * w ≤ 64) (ha : kOf (hq cs iv).1 a = some (8, 64)) (hb : kOf (hq cs iv).1 b = some (8, 64)) (ha1 : 52 ≤ a ∧ a ≤ 51 + cs.length) (hb1 : 52 ≤ b ∧ b ≤ 51 + cs.length) (hab : a ≠ b) (h5 : 0 ≤ x5 ∧ x5 ≤ 100) (d7 d8 d9 d10 d11 d12 : Option AV) : ∃ iv2 e7 e8 e9 e10 e11 e12, Run sc 115 52 [some (Rf 1), some (I (w : Int)), some (I (h : Int)), some (Rf a), some (Rf b), some (I x5), some (I ((k : Int))), d7, d8, d9, d10, d11, d12] [] (hq cs iv) = Run sc 115 52 [some (Rf 1), some (I (w : Int)), some (I (h : Int)), some (Rf a), some (Rf b), some (I (x5 + mcT g (k % w) (k / w))), some (I ((k : Int) + 1)), e7, e8, e9, e10, e11, e12] [] (hq cs iv2) ∧ Cur g O w h n cs iv2 ∧ iv2 b k = mrgC g ((k % w : Nat) : Int) ((k / w : Nat) : Int) ∧ ∀ q, q ≠ k → iv2 b q = iv b q := by
  obtain ⟨⟨⟨d1, d2, d3, d4, d5, d6⟩, a3⟩, -⟩ := id C.1
  obtain ⟨hx, hy⟩ := in_chart hk
  have hwh : (w : Int) * (h : Int) = ((h * w : Nat) : Int) := by rw [Int.natCast_mul, Int.mul_comm]
  have ex : (k : Int) % (w : Int) = ((k % w : Nat) : Int) := rfl
  have ey : (k : Int) / (w : Int) = ((k / w : Nat) : Int) := rfl
  generalize hX : k % w = X at *
  generalize hY : k / w = Y at *
  have hin : inC g (X : Int) (Y : Int) := by unfold inC; omega
  have eC : celF g (X : Int) (Y : Int) = gC g X Y := if_pos hin
  have gb := gC_bd C.1 (X : Int) (Y : Int)
  have lb := lonI_b (iv := g) (x := X) (y := Y)
  have kv : ∀ (u : Nat → Nat → Int) (r : Nat), kOf (hq cs u).1 r = kOf (hq cs iv).1 r := fun _ _ => rfl
  -- the two stores
  obtain ⟨v1, hv1⟩ : ∃ v1, setO iv a (upI (iv a) k (gC g X Y)) = v1 := ⟨_, rfl⟩
  have C1 : Cur g O w h n cs v1 := by rw [← hv1]; exact C.arr ha1.1 ha1.2
  have e1 : v1 a k = gC g X Y := by rw [← hv1, setO_same, upI_same]
  have f1 : v1 b = iv b := by rw [← hv1, setO_ne (fun z => hab z.symm)]
  obtain ⟨v2, hv2⟩ : ∃ v2, setO v1 b (upI (v1 b) k (v1 a k)) = v2 := ⟨_, rfl⟩
  have C2 : Cur g O w h n cs v2 := by rw [← hv2]; exact C1.arr hb1.1 hb1.2
  have e2 : v2 b k = gC g X Y := by rw [← hv2, setO_same, upI_same, e1]
  have e2a : v2 a k = gC g X Y := by rw [← hv2, setO_ne hab]; exact e1
  have f2 : ∀ q, q ≠ k → v2 b q = iv b q := fun q hq => by rw [← hv2, setO_same, upI_ne hq, f1]
  rw [B_L_merges_52, chk_pos (by omega), if_pos (by omega), bck_pos (by omega), bck_pos (by omega), bck_pos (by omega), bck_pos (by omega), ex, ey, cell_L C, eC, aBind_some, pushR_some, B_L_merges_83 (ha0 := ha), bck_pos (by omega), bck_pos (by omega), Int.toNat_natCast, hv1, B_L_merges_84 (ha0 := ((kv v1 a).trans ha)) (ha1 := ((kv v1 b).trans hb)), bck_pos (by omega), bck_pos (by omega), Int.toNat_natCast, bck_pos (by omega), hv2, B_L_merges_93]
  -- the end of a cell
  have fin : ∀ (u : Nat → Nat → Int) (x9 x10 : Int) (c11 c12 : Option AV), Cur g O w h n cs u → u b k = mrgC g X Y → u a k = gC g X Y → Run sc 115 224 [some (Rf 1), some (I (w : Int)), some (I (h : Int)), some (Rf a), some (Rf b), some (I x5), some (I ((k : Int))), some (I ((X : Int))), some (I ((Y : Int))), some (I x9), some (I x10), c11, c12] [] (hq cs u) = Run sc 115 52 [some (Rf 1), some (I (w : Int)), some (I (h : Int)), some (Rf a), some (Rf b), some (I (x5 + mcT g X Y)), some (I ((k : Int) + 1)), some (I ((X : Int))), some (I ((Y : Int))), some (I x9), some (I x10), c11, c12] [] (hq cs u) := fun u x9 x10 c11 c12 Cu eb ea => by
    have mb := mcT_b (g := g) (x := X) (y := Y)
    rw [B_L_merges_224 (ha0 := ((kv u a).trans ha)) (ha1 := ((kv u b).trans hb)), bck_pos (by omega), bck_pos (by omega), Int.toNat_natCast, eb, ea]
    have em : mcT g X Y = if mrgC g (X : Int) (Y : Int) = gC g (X : Int) (Y : Int) then 0 else 1 := rfl
    rw [em] at mb ⊢
    by_cases z : mrgC g (X : Int) (Y : Int) = gC g (X : Int) (Y : Int)
    · rw [if_pos z] at mb ⊢
      rw [if_pos z, B_L_merges_243, chk_pos (by omega), chk_pos (by omega)]
    · rw [if_neg z] at mb ⊢
      rw [if_neg z, B_L_merges_242, B_L_merges_243, chk_pos (by omega), chk_pos (by omega)]
  by_cases hl : lonI g (X : Int) (Y : Int) = 1
  · obtain ⟨s, e, q1, q2, q3, q4⟩ := loop_ex (fun i (s : (Nat → Nat → Int) × Int × Option AV × Option AV) => Run sc 115 99 [some (Rf 1), some (I (w : Int)), some (I (h : Int)), some (Rf a), some (Rf b), some (I x5), some (I ((k : Int))), some (I ((X : Int))), some (I ((Y : Int))), some (I s.2.1), some (I (i + 1)), s.2.2.1, s.2.2.2] [] (hq cs s.1)) (fun i s => Cur g O w h n cs s.1 ∧ (s.1 b k = (bestB (nbr g X Y) (gC g X Y) i).1 ∧ s.2.1 = (bestB (nbr g X Y) (gC g X Y) i).2) ∧ s.1 a k = gC g X Y ∧ ∀ q, q ≠ k → s.1 b q = iv b q) 6 0 (v2, 0, d11, d12) (Nat.zero_le _) ⟨C2, ⟨e2, rfl⟩, e2a, f2⟩ (fun i s _ hi hP => by
      obtain ⟨u, x9, s11, s12⟩ := s
      obtain ⟨p1, ⟨p2, p2'⟩, p3, p4⟩ := hP
      dsimp only at p1 p2 p2' p3 p4
      have nb := nbr_b (iv := g) (x := X) (y := Y) (c := (i : Int) + 1)
      have bb := bestB_b (f := nbr g X Y) (b := gC g X Y) (fun c => nbr_b) i
      have bc := bestB_c (f := nbr g X Y) (b := gC g X Y) gb i (by omega)
      have es : bestB (nbr g X Y) (gC g X Y) (i + 1) = if (bestB (nbr g X Y) (gC g X Y) i).2 < nbr g X Y ((i + 1 : Nat) : Int) then (((i + 1 : Nat) : Int), nbr g X Y ((i + 1 : Nat) : Int)) else bestB (nbr g X Y) (gC g X Y) i := rfl
      rw [es]
      rw [← p2'] at bb ⊢
      rw [← p2] at bc
      have c1 : ((i + 1 : Nat) : Int) = (i : Int) + 1 := rfl
      rw [c1]
      have pre : Run sc 115 99 [some (Rf 1), some (I (w : Int)), some (I (h : Int)), some (Rf a), some (Rf b), some (I x5), some (I ((k : Int))), some (I ((X : Int))), some (I ((Y : Int))), some (I x9), some (I ((i : Int) + 1)), s11, s12] [] (hq cs u) = Run sc 115 180 [some (Rf 1), some (I (w : Int)), some (I (h : Int)), some (Rf a), some (Rf b), some (I x5), some (I ((k : Int))), some (I ((X : Int))), some (I ((Y : Int))), some (I x9), some (I ((i : Int) + 1)), some (I (nbr g X Y ((i : Int) + 1))), some (I 9)] [] (hq cs u) := by
        rw [B_L_merges_99, if_pos (by omega), lone_L p1 hin, aBind_some, pushR_some, B_L_merges_114, if_pos hl, votes_L p1 hin (by omega)]
      have ku := (kv u b).trans hb
      by_cases z : x9 < nbr g X Y ((i : Int) + 1)
      · rw [if_pos z]
        refine ⟨(setO u b (upI (u b) k ((i : Int) + 1)), nbr g X Y ((i : Int) + 1), some (I (nbr g X Y ((i : Int) + 1))), some (I 9)), ?_, p1.arr hb1.1 hb1.2, ⟨by dsimp only; rw [setO_same, upI_same], rfl⟩, by dsimp only; rw [setO_ne hab]; exact p3, fun q hq => by dsimp only; rw [setO_same, upI_ne hq]; exact p4 q hq⟩
        dsimp only
        rw [pre, B_L_merges_180, if_pos z, B_L_merges_201 (ha1 := ku), bck_pos (by omega), bck_pos (by omega), Int.toNat_natCast, B_L_merges_202, if_pos z, B_L_merges_216, chk_pos (by omega)]
      · rw [if_neg z]
        refine ⟨(setO u b (upI (u b) k (u b k)), x9, some (I (nbr g X Y ((i : Int) + 1))), some (I 9)), ?_, p1.arr hb1.1 hb1.2, ⟨by dsimp only; rw [setO_same, upI_same]; exact p2, p2'⟩, by dsimp only; rw [setO_ne hab]; exact p3, fun q hq => by dsimp only; rw [setO_same, upI_ne hq]; exact p4 q hq⟩
        dsimp only
        rw [pre, B_L_merges_180, if_neg z, B_L_merges_196 (ha1 := ku), bck_pos (by omega), Int.toNat_natCast, B_L_merges_201 (ha1 := ku), bck_pos (by omega), bck_pos (by omega), Int.toNat_natCast, B_L_merges_202, if_neg z, B_L_merges_214, B_L_merges_216, chk_pos (by omega)])
    obtain ⟨u, x9, s11, s12⟩ := s
    dsimp only at q1 q2 q3 q4 e
    have em : mrgC g (X : Int) (Y : Int) = (bestB (nbr g X Y) (gC g X Y) 6).1 := by
      unfold mrgC
      rw [if_neg (by omega)]
    refine ⟨u, some (I (X : Int)), some (I (Y : Int)), some (I x9), some (I (6 + 1)), s11, s12, ?_, q1, by rw [em]; exact q2.1, q4⟩
    rw [show ((0 : Nat) : Int) + 1 = 1 from rfl] at e
    rw [e]
    rw [show ((6 : Nat) : Int) + 1 = 6 + 1 from rfl]
    rw [B_L_merges_99, if_neg (by omega)]
    exact fin u x9 _ s11 s12 q1 (by rw [em]; exact q2.1) q3
  · have em : mrgC g (X : Int) (Y : Int) = gC g X Y := by
      unfold mrgC
      rw [if_pos (by omega)]
    refine ⟨v2, some (I (X : Int)), some (I (Y : Int)), some (I 0), some (I 1), d11, d12, ?_, C2, by rw [em]; exact e2, f2⟩
    rw [B_L_merges_99, if_pos (by omega), lone_L C2 hin, aBind_some, pushR_some, B_L_merges_114, if_neg hl]
    exact fin v2 0 1 d11 d12 C2 (by rw [em]; exact e2) e2a
set_option maxHeartbeats 4000000 in
/-- merges answers true; the cells are those of a round, or as they were -/
theorem merges_L (H0 : InvC iv O w h n) (hz : Zr cs iv) : ∃ iv2 O2, Run sc 115 0 [some (Rf 1), some (I (w : Int)), some (I (h : Int)), none, none, none, none, none, none, none, none, none, none] [] (hq cs iv) = some (some (I 1), hq (cs ++ [(8, 64)] ++ [(8, 64)]) iv2) ∧ InvC iv2 O2 w h n ∧ Zr (cs ++ [(8, 64)] ++ [(8, 64)]) iv2 ∧ iv2 6 = iv 6 := by
  obtain ⟨⟨⟨d1, d2, d3, d4, d5, d6⟩, a3⟩, -⟩ := id H0
  have hmb := mulB (a := (w : Int)) (b := (h : Int)) (m := 24) (n := 24) (by omega) (by omega)
  obtain ⟨a, ha⟩ : ∃ a, a = 52 + cs.length := ⟨_, rfl⟩
  obtain ⟨b, hb⟩ : ∃ b, b = 52 + (cs ++ [(8, 64)]).length := ⟨_, rfl⟩
  have C := ((Cur.rf H0 hz).more (q := (8, 64))).more (q := (8, 64))
  have ka : ∀ u : Nat → Nat → Int, kOf (hq (cs ++ [(8, 64)] ++ [(8, 64)]) u).1 a = some (8, 64) := fun u => kOf_more (iv := u) (by rw [ha]; exact kOf_new)
  have kb : ∀ u : Nat → Nat → Int, kOf (hq (cs ++ [(8, 64)] ++ [(8, 64)]) u).1 b = some (8, 64) := fun u => by rw [hb]; exact kOf_new
  have lb : b = 53 + cs.length := by rw [hb, List.length_append]; show 52 + (cs.length + 1) = _; omega
  have ll : (cs ++ [(8, 64)] ++ [(8, 64)]).length = cs.length + 2 := by rw [List.length_append, List.length_append]; rfl
  rw [B_L_merges_0, ← ha, B_L_merges_4, ← hb]
  generalize cs ++ [(8, 64)] ++ [(8, 64)] = cs2 at *
  rw [B_L_merges_9, chk_pos (by omega)]
  have hwh : (w : Int) * (h : Int) = ((h * w : Nat) : Int) := by rw [Int.natCast_mul, Int.mul_comm]
  by_cases big : (64 : Int) < (w : Int) * h
  · refine ⟨iv, O, ?_, H0, C.2.2.2, rfl⟩
    rw [if_pos big, Run_ex (merge_bad (by omega)), aBind_some, pushR_some, B_L_merges_27, if_pos rfl, Run_ex (merge_bad (by omega)), aBind_some, pushR_some, B_L_merges_38, if_pos rfl, B_L_merges_48, bck_pos (by omega)]
  rw [if_neg big, B_L_merges_49]
  obtain ⟨s, e, q1, q2, q3, -⟩ := loop_ex (fun k (s : (Nat → Nat → Int) × Int × Option AV × Option AV × Option AV × Option AV × Option AV × Option AV) => Run sc 115 52 [some (Rf 1), some (I (w : Int)), some (I (h : Int)), some (Rf a), some (Rf b), some (I s.2.1), some (I k), s.2.2.1, s.2.2.2.1, s.2.2.2.2.1, s.2.2.2.2.2.1, s.2.2.2.2.2.2.1, s.2.2.2.2.2.2.2] [] (hq cs2 s.1)) (fun k s => Cur iv O w h n cs2 s.1 ∧ (∀ q, q < k → s.1 b q = mrgC iv ((q % w : Nat) : Int) ((q / w : Nat) : Int)) ∧ s.2.1 = sumN (fun q => mcT iv (q % w) (q / w)) k ∧ 0 ≤ s.2.1 ∧ s.2.1 ≤ k) (h * w) 0 (iv, 0, none, none, none, none, none, none) (Nat.zero_le _) ⟨C, fun q hq => absurd hq (Nat.not_lt_zero _), rfl, by show (0 : Int) ≤ 0 ∧ (0 : Int) ≤ (0 : Nat); omega⟩ (fun k s _ hk hP => by
    obtain ⟨u, x5, s7, s8, s9, s10, s11, s12⟩ := s
    obtain ⟨p1, p2, p3, p4⟩ := hP
    dsimp only at p1 p2 p3 p4
    obtain ⟨v, e7, e8, e9, e10, e11, e12, ev, r1, r2, r3⟩ := due_L (sc := sc) (a := a) (b := b) (k := k) (x5 := x5) p1 hk (by omega) (ka u) (kb u) (by omega) (by omega) (by omega) (by omega) s7 s8 s9 s10 s11 s12
    have mb := mcT_b (g := iv) (x := k % w) (y := k / w)
    refine ⟨(v, x5 + mcT iv (k % w) (k / w), e7, e8, e9, e10, e11, e12), ev, r1, fun q hq => ?_, by show x5 + _ = sumN _ k + _; rw [p3], by show 0 ≤ x5 + _ ∧ x5 + _ ≤ ((k + 1 : Nat) : Int); omega⟩
    by_cases z : q = k
    · rw [z]; exact r2
    · dsimp only; rw [r3 q z]; exact p2 q (by omega))
  obtain ⟨u, x5, s7, s8, s9, s10, s11, s12⟩ := s
  dsimp only at q1 q2 q3 e
  rw [show (((0 : Nat) : Int)) = 0 from rfl] at e
  -- the class's round
  obtain ⟨s, K, em, hm, k1, k2, k3⟩ := merge_S (sc := sc) (N := 1) q1.2.1 (by omega)
  have u4 : u 4 = iv 4 := q1.e (by omega)
  have u2 : u 2 = iv 2 := q1.e (by omega)
  have eA : ∀ j, mgA u w h 1 j = if j % 24 < w ∧ j / 24 < h then mrgC iv ((j % 24 : Nat) : Int) ((j / 24 : Nat) : Int) else iv 4 j := fun j => by
    show (if j % 24 < w ∧ j / 24 < h then mrgC (setO u 4 (u 4)) ((j % 24 : Nat) : Int) ((j / 24 : Nat) : Int) else u 4 j) = _
    rw [setO_self, u4, mrgC_congr u2 u4]
  have eR : mgR u w h 0 = sumN (fun q => mcT iv (q % w) (q / w)) (h * w) := by
    rw [sum_chart d4 d6]
    unfold mgR
    apply sumN_congr
    intro j hj
    rw [eA]
    show (if u 4 j = _ then (0 : Int) else 1) = _
    rw [u4]
    by_cases z : j % 24 < w ∧ j / 24 < h
    · have eg : gC iv ((j % 24 : Nat) : Int) ((j / 24 : Nat) : Int) = iv 4 j := by
        rw [gC_in d1 d2 z.1 z.2]
        unfold gN
        rw [show j / 24 * 24 + j % 24 = j by omega]
      rw [if_pos z, if_pos z]
      unfold mcT
      rw [eg]
      by_cases y : iv 4 j = mrgC iv ((j % 24 : Nat) : Int) ((j / 24 : Nat) : Int)
      · rw [if_pos y, if_pos y.symm]
      · rw [if_neg y, if_neg (fun q => y q.symm)]
    · rw [if_neg z, if_neg z, if_pos rfl]
  have eV : sumN (mgR u w h) K = x5 := by
    rw [q3, ← eR]
    have hK : K = 0 ∨ K = 1 := by omega
    rcases hK with z | z
    · subst z
      have := k3.resolve_left (by omega)
      rw [this]; rfl
    · subst z
      show 0 + mgR u w h 0 = _
      omega
  have eE : mgE K 1 = 1 := by
    unfold mgE
    by_cases z : K = 1
    · rw [if_pos z]; exact z
    · rw [if_neg z]; omega
  rw [eE] at hm
  rw [eV] at em
  have em2 := Run_ex (cs := cs2) em
  rw [show (((1 : Nat) : Int)) = 1 from rfl] at em2
  have hI := hm.inv q1.2.1
  have Cs : Cur s (newO (mgD u w h 1) s O w h) w h n cs2 s := Cur.rf hI (fun k hk j => by rw [hm.1 k (by omega) (by omega) (by omega)]; exact q1.2.2.2 k hk j)
  have sb : s b = u b := hm.1 b (by omega) (by omega) (by omega)
  refine ⟨s, _, ?_, hI, Cs.2.2.2, by rw [hm.1 6 (by omega) (by omega) (by omega)]; exact q1.e (by omega)⟩
  rw [e, B_L_merges_52, chk_pos (by omega), if_neg (by omega), B_L_merges_252, em2, aBind_some, pushR_some, B_L_merges_257, if_pos rfl, B_L_merges_264]
  obtain ⟨t, e2, -⟩ := loop_ex (fun k (_ : Unit) => Run sc 115 267 [some (Rf 1), some (I (w : Int)), some (I (h : Int)), some (Rf a), some (Rf b), some (I x5), some (I k), s7, s8, s9, s10, s11, s12] [] (hq cs2 s)) (fun _ _ => True) (h * w) 0 () (Nat.zero_le _) trivial (fun k _ _ hk _ => ⟨(), by
    obtain ⟨hx, hy⟩ := in_chart hk
    have ex : (k : Int) % (w : Int) = ((k % w : Nat) : Int) := rfl
    have ey : (k : Int) / (w : Int) = ((k / w : Nat) : Int) := rfl
    have ec : celF s ((k % w : Nat) : Int) ((k / w : Nat) : Int) = mrgC iv ((k % w : Nat) : Int) ((k / w : Nat) : Int) := by
      rw [cel_in hI hx hy]
      unfold gN
      have := divmod (a := 24) (i := k % w) (j := k / w) (by omega)
      rw [hm.2.1, eA, this.1, this.2, if_pos ⟨hx, hy⟩]
    rw [B_L_merges_267, chk_pos (by omega), if_pos (by omega), bck_pos (by omega), bck_pos (by omega), bck_pos (by omega), bck_pos (by omega), ex, ey, cell_L Cs, ec, aBind_some, pushR_some, B_L_merges_287 (ha1 := kb s), bck_pos (by omega), Int.toNat_natCast, sb, q2 k hk, if_pos rfl, B_L_merges_297, chk_pos (by omega)], trivial⟩)
  rw [show (((0 : Nat) : Int)) = 0 from rfl] at e2
  rw [e2, B_L_merges_267, chk_pos (by omega), if_neg (by omega), B_L_merges_303, bck_pos (by omega)]
end LMERGES
