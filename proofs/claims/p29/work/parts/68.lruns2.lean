/-! the law: runs, all lines, threads, all colors -/
section LRUNS2
variable {sc : Nat × (Nat → Int)} {g iv iv2 : Nat → Nat → Int} {O : Nat → Nat → Int} {w h n : Nat} {cs : List (Nat × Nat)} {x5 x6 x7 x8 r t c : Int} {N : Nat}
theorem rowSum_b {y : Nat} (hw : w ≤ 24) : 0 ≤ sumN (isC g c y) w ∧ sumN (isC g c y) w ≤ 24 := by
  have h1 := sumN_le (f := isC g c y) (n := w) (c := 1) (fun i _ => isC_b.2)
  have h2 := sumN_nonneg (f := isC g c y) (n := w) (fun i _ => isC_b.1)
  omega
theorem scanAll {k : Nat} (C : Cur g O w h n cs iv) (hk : k < 6) (hc : c = (k : Int) + 1) (ht : iv 3 (k + 1) = 0) (hN : N = nK (gN g) w h k) (d14 d15 d16 d17 d18 : Option AV) : ∃ e14 e15 e16 e17 e18, Run sc 111 40 [some (Rf 1), some (I ((w : Int))), some (I ((h : Int))), some (I r), some (I t), some (I x5), some (I x6), some (I x7), some (I x8), some (I c), some (I ((N : Int))), some (I 0), some (I 0), some (I 0), d14, d15, d16, d17, d18] [] (hq cs iv) = Run sc 111 221 [some (Rf 1), some (I ((w : Int))), some (I ((h : Int))), some (I r), some (I t), some (I x5), some (I x6), some (I x7), some (I x8), some (I c), some (I ((N : Int))), some (I ((N : Int))), some (I (sumN (fun j => sumN (isC g c j) w) h)), some (I ((h : Int))), e14, e15, e16, e17, e18] [] (hq cs iv) := by
  obtain ⟨⟨⟨d1, d2, d3, d4, d5, d6⟩, -⟩, -⟩ := id C.1
  obtain ⟨s, e, q, -, qm⟩ := loop_ex (fun y (s : (Int × Int) × Option AV × Option AV × Option AV × Option AV × Option AV) => Run sc 111 40 [some (Rf 1), some (I ((w : Int))), some (I ((h : Int))), some (I r), some (I t), some (I x5), some (I x6), some (I x7), some (I x8), some (I c), some (I ((N : Int))), some (I s.1.2), some (I s.1.1), some (I y), s.2.1, s.2.2.1, s.2.2.2.1, s.2.2.2.2.1, s.2.2.2.2.2] [] (hq cs iv)) (fun y s => s.1.1 = sumN (fun j => sumN (isC g c j) w) y ∧ (0 ≤ s.1.1 ∧ s.1.1 ≤ 24 * y) ∧ s.1.2 = nR (gN g) c w y 0) h 0 ((0, nR (gN g) c w 0 0), d14, d15, d16, d17, d18) (Nat.zero_le _) ⟨rfl, by show (0 : Int) ≤ 0 ∧ (0 : Int) ≤ 24 * (0 : Nat); omega, rfl⟩ (fun y s _ hy hP => by
    obtain ⟨⟨o, m⟩, s14, s15, s16, s17, s18⟩ := s
    obtain ⟨p1, p2, pm⟩ := hP
    dsimp only at p1 p2 pm
    subst pm
    have rb := rowSum_b (g := g) (c := c) (y := y) d4
    obtain ⟨e15, e16, e17, e18, er⟩ := scanRow (sc := sc) (x5 := x5) (x6 := x6) (x7 := x7) (x8 := x8) (r := r) (t := t) (N := N) (y := y) (own := o) C hk hc ht hy hN (by omega) s15 s16 s17 s18
    refine ⟨((o + sumN (isC g c y) w, (nR (gN g) c w (y + 1) 0 : Int)), some (I (w : Int)), e15, e16, e17, e18), ?_, ?_, ?_, rfl⟩
    · dsimp only
      rw [B_L_runs_40, if_pos (by omega), er]
    · show o + sumN (isC g c y) w = sumN (fun j => sumN (isC g c j) w) y + sumN (isC g c y) w
      rw [p1]
    · show 0 ≤ o + sumN (isC g c y) w ∧ o + sumN (isC g c y) w ≤ 24 * ((y + 1 : Nat) : Int)
      omega)
  obtain ⟨⟨o, m⟩, s14, s15, s16, s17, s18⟩ := s
  dsimp only at q qm e
  have em : m = (N : Int) := by rw [qm, hN, hc]; rfl
  subst em
  refine ⟨s14, s15, s16, s17, s18, ?_⟩
  rw [show ((nR (gN g) c w 0 0 : Nat) : Int) = 0 from rfl, show (((0 : Nat) : Int)) = 0 from rfl] at e
  rw [e, B_L_runs_40, if_neg (by omega), q]
/-- a term of the number of starts -/
def staT (X Y : Nat → Int) (r : Int) (Q : Nat → Int) (p : Nat) : Int := if p = 0 then 0 else if r < wayF X Y (Q (p - 1)).toNat (Q p).toNat then 1 else 0
theorem staT_b {X Y : Nat → Int} {r : Int} {Q : Nat → Int} {p : Nat} : 0 ≤ staT X Y r Q p ∧ staT X Y r Q p ≤ 1 := by
  unfold staT
  split
  · omega
  · split <;> omega
theorem thr_split {N : Nat} {X Y L : Nat → Int} {r t : Int} {Q : Nat → Int} : thrF N X Y L r t Q = (if N = 0 then 0 else 2 * t) + 48 * sumN L N + sumN (cpF X Y r t Q) N := by
  unfold thrF
  rw [sumN_add, sumN_mul]
  omega
theorem sta_split {N : Nat} {X Y : Nat → Int} {r : Int} {Q : Nat → Int} : staF N X Y r Q = if N = 0 then 0 else 1 + sumN (staT X Y r Q) N := rfl
set_option maxHeartbeats 4000000 in
theorem threads {k : Nat} {own x13 : Int} (C : Cur g O w h n cs iv) (hk : k < 6) (hc : c = (k : Int) + 1) (ht : iv 3 (k + 1) = 0) (hN : N = nK (gN g) w h k) (ho : own = cvC g O w h 0 k) (hr : g 6 0 = r) (htl : g 6 1 = t) (d14 d15 d16 d17 d18 : Option AV) : ∃ x15 e16 e17 e18, Run sc 111 221 [some (Rf 1), some (I ((w : Int))), some (I ((h : Int))), some (I r), some (I t), some (I x5), some (I x6), some (I x7), some (I x8), some (I c), some (I ((N : Int))), some (I ((N : Int))), some (I own), some (I x13), d14, d15, d16, d17, d18] [] (hq cs iv) = Run sc 111 378 [some (Rf 1), some (I ((w : Int))), some (I ((h : Int))), some (I r), some (I t), some (I x5), some (I x6), some (I x7), some (I x8), some (I c), some (I ((N : Int))), some (I ((N : Int))), some (I own), some (I (cvC g O w h 3 k)), some (I (cvC g O w h 4 k)), some (I x15), e16, e17, e18] [] (hq cs iv) := by
  obtain ⟨⟨⟨d1, d2, d3, d4, d5, d6⟩, -⟩, -, ⟨y1, y2⟩, -⟩ := id C.1
  rw [hr] at y1
  rw [htl] at y2
  obtain ⟨⟨b1, b2⟩, hO, -⟩ := C.1.bnd hk
  have hcp : ∀ p, p < nK (gN g) w h k → 0 ≤ cpF (xK (gN g) w h k) (yK (gN g) w h k) r t (O k) p ∧ cpF (xK (gN g) w h k) (yK (gN g) w h k) r t (O k) p ≤ 1000 := fun p hpp => by
    rw [← hr, ← htl]; exact C.1.cp_b hk hpp
  have ob := cvC_b (what := 0) C.1 hk
  have oe : cvC g O w h 0 k = sumN (lK (gN g) w h k) (nK (gN g) w h k) := by
    rw [kOK.total]
    unfold cvC
    rw [if_pos rfl]
  have ob2 : own ≤ 576 := by
    rw [ho]
    unfold cvC
    rw [if_pos rfl]
    unfold cnC
    have := sum2_b (f := fun j i => if gN g i j = (k : Int) + 1 then 1 else 0) d4 d6 (fun j i => by split <;> omega)
    omega
  have e3 : cvC g O w h 3 k = (if N = 0 then 0 else 2 * t) + 48 * own + sumN (cpF (xK (gN g) w h k) (yK (gN g) w h k) r t (O k)) N := by
    rw [ho, oe, hN, ← hr, ← htl, ← thr_split]
    unfold cvC
    rw [if_neg (by omega), if_neg (by omega), if_neg (by omega), if_pos rfl]
  have e4 : cvC g O w h 4 k = if N = 0 then 0 else 1 + sumN (staT (xK (gN g) w h k) (yK (gN g) w h k) r (O k)) N := by
    rw [hN, ← hr, ← sta_split]
    unfold cvC
    rw [if_neg (by omega), if_neg (by omega), if_neg (by omega), if_neg (by omega)]
  have rx : ∀ a : Int, 0 ≤ a ∧ a < N → Run sc 87 0 [some (Rf 1), some (I c), some (I a), some (I 0), none] [] (hq cs iv) = some (some (I (xK (gN g) w h k a.toNat)), hq cs iv) := fun a ha => by
    rw [run_L C hk hc ht, runF_0 (by omega)]
  have ry : ∀ a : Int, 0 ≤ a ∧ a < N → Run sc 87 0 [some (Rf 1), some (I c), some (I a), some (I 1), none] [] (hq cs iv) = some (some (I (yK (gN g) w h k a.toNat)), hq cs iv) := fun a ha => by
    rw [run_L C hk hc ht, runF_1 (by omega)]
  have ra : ∀ p : Nat, p < N → Run sc 88 0 [some (Rf 1), some (I c), some (I (p : Int)), none] [] (hq cs iv) = some (some (I (O k p)), hq cs iv) := fun p hpp => by
    rw [runAt_L C hk hc ht, ratF_in (by omega) (by omega), Int.toNat_natCast]
  rw [e3, e4]
  rw [← hN] at hO hcp b1 b2
  by_cases z : N = 0
  · rw [if_pos z, if_pos z, z]
    have oz : own = 0 := by rw [ho, oe, ← hN, z]; rfl
    refine ⟨1, d16, d17, d18, ?_⟩
    rw [B_L_runs_221, if_pos (by omega), B_L_runs_240, if_pos (by omega), B_L_runs_252, B_L_runs_257, if_neg (by omega), oz]
    rfl
  · rw [if_neg z, if_neg z]
    obtain ⟨s, e, q1, -, q2, -⟩ := loop_ex (fun i (s : (Int × Int) × Option AV × Option AV × Option AV) => Run sc 111 257 [some (Rf 1), some (I ((w : Int))), some (I ((h : Int))), some (I r), some (I t), some (I x5), some (I x6), some (I x7), some (I x8), some (I c), some (I ((N : Int))), some (I ((N : Int))), some (I own), some (I s.1.1), some (I s.1.2), some (I i), s.2.1, s.2.2.1, s.2.2.2] [] (hq cs iv)) (fun i s => s.1.1 = 2 * t + 48 * own + sumN (cpF (xK (gN g) w h k) (yK (gN g) w h k) r t (O k)) i ∧ (0 ≤ s.1.1 ∧ s.1.1 ≤ 100000 + 1000 * i) ∧ s.1.2 = 1 + sumN (staT (xK (gN g) w h k) (yK (gN g) w h k) r (O k)) i ∧ (0 ≤ s.1.2 ∧ s.1.2 ≤ 1 + i)) N 1 ((2 * t + 48 * own, 1), d16, d17, d18) (by omega) ⟨by show 2 * t + 48 * own = 2 * t + 48 * own + (0 + 0); omega, by show 0 ≤ 2 * t + 48 * own ∧ 2 * t + 48 * own ≤ 100000 + 1000 * ((1 : Nat) : Int); omega, by show (1 : Int) = 1 + (0 + 0); omega, by show (0 : Int) ≤ 1 ∧ (1 : Int) ≤ 1 + ((1 : Nat) : Int); omega⟩ (fun i s hi1 hi2 hP => by
      obtain ⟨⟨a13, a14⟩, s16, s17, s18⟩ := s
      obtain ⟨p1, p2, p3, p4⟩ := hP
      dsimp only at p1 p2 p3 p4
      have o1 := hO (i - 1) (by omega)
      have o2 := hO i hi2
      have v1 := b2 (O k (i - 1)).toNat (by omega)
      have v2 := b2 (O k i).toNat (by omega)
      have wb := wayF_b (X := xK (gN g) w h k) (Y := yK (gN g) w h k) (a := (O k (i - 1)).toNat) (b := (O k i).toNat) (by omega) (by omega) (by omega) (by omega)
      have ab1 := absI_b (z := xK (gN g) w h k (O k (i - 1)).toNat - xK (gN g) w h k (O k i).toNat) (m := 24) (by omega)
      have ab2 := absI_b (z := yK (gN g) w h k (O k (i - 1)).toNat - yK (gN g) w h k (O k i).toNat) (m := 24) (by omega)
      have c1 := hcp i hi2
      have we : 10 * (absI (xK (gN g) w h k (O k (i - 1)).toNat - xK (gN g) w h k (O k i).toNat) + absI (yK (gN g) w h k (O k (i - 1)).toNat - yK (gN g) w h k (O k i).toNat)) = wayF (xK (gN g) w h k) (yK (gN g) w h k) (O k (i - 1)).toNat (O k i).toNat := rfl
      have ce : cpF (xK (gN g) w h k) (yK (gN g) w h k) r t (O k) i = cstF r t (wayF (xK (gN g) w h k) (yK (gN g) w h k) (O k (i - 1)).toNat (O k i).toNat) := if_neg (by omega)
      have se : staT (xK (gN g) w h k) (yK (gN g) w h k) r (O k) i = if r < wayF (xK (gN g) w h k) (yK (gN g) w h k) (O k (i - 1)).toNat (O k i).toNat then 1 else 0 := if_neg (by omega)
      have sb := staT_b (X := xK (gN g) w h k) (Y := yK (gN g) w h k) (r := r) (Q := O k) (p := i)
      refine ⟨((a13 + cpF (xK (gN g) w h k) (yK (gN g) w h k) r t (O k) i, a14 + staT (xK (gN g) w h k) (yK (gN g) w h k) r (O k) i), some (I (O k (i - 1))), some (I (O k i)), some (I (wayF (xK (gN g) w h k) (yK (gN g) w h k) (O k (i - 1)).toNat (O k i).toNat))), ?_, ?_, ?_, ?_, ?_⟩
      · dsimp only
        rw [B_L_runs_257, if_pos (by omega), chk_pos (by omega), show (i : Int) - 1 = ((i - 1 : Nat) : Int) by omega, ra (i - 1) (by omega), aBind_some, pushR_some, B_L_runs_274, ra i hi2, aBind_some, pushR_some, B_L_runs_284, rx _ o1, aBind_some, pushR_some, B_L_runs_297, rx _ o2, aBind_some, pushR_some, B_L_runs_306, chk_pos (by omega), size_L (by omega), aBind_some, pushR_some, B_L_runs_310, ry _ o1, aBind_some, pushR_some, B_L_runs_319, ry _ o2, aBind_some, pushR_some, B_L_runs_328, chk_pos (by omega), size_L (by omega), aBind_some, pushR_some, B_L_runs_332, chk_pos (by omega), chk_pos (by omega), we]
        rw [ce] at c1 ⊢
        rw [se] at sb ⊢
        generalize wayF (xK (gN g) w h k) (yK (gN g) w h k) (O k (i - 1)).toNat (O k i).toNat = W at *
        unfold cstF at c1 ⊢
        by_cases q : r < W
        · rw [if_pos q] at c1
          rw [if_pos q, if_pos q, if_pos q, B_L_runs_349, chk_pos (by omega), B_L_runs_353, chk_pos (by omega), if_pos q, B_L_runs_368, B_L_runs_369, chk_pos (by omega), chk_pos (by omega)]
        · rw [if_neg q] at c1
          rw [if_neg q, if_neg q, if_neg q, B_L_runs_353, chk_pos (by omega), if_neg q, B_L_runs_369, chk_pos (by omega), chk_pos (by omega)]
      · show a13 + _ = _ + (sumN _ i + _)
        rw [p1]; omega
      · show 0 ≤ a13 + _ ∧ a13 + _ ≤ 100000 + 1000 * ((i + 1 : Nat) : Int)
        omega
      · show a14 + _ = _ + (sumN _ i + _)
        rw [p3]; omega
      · show 0 ≤ a14 + _ ∧ a14 + _ ≤ 1 + ((i + 1 : Nat) : Int)
        omega)
    obtain ⟨⟨a13, a14⟩, s16, s17, s18⟩ := s
    dsimp only at q1 q2 e
    refine ⟨N, s16, s17, s18, ?_⟩
    rw [show (((1 : Nat) : Int)) = 1 from rfl] at e
    rw [B_L_runs_221, if_neg (by omega), B_L_runs_230, chk_pos (by omega), chk_pos (by omega), chk_pos (by omega), B_L_runs_240, if_neg (by omega), B_L_runs_251, B_L_runs_252, e, B_L_runs_257, if_neg (by omega), q1, q2]
set_option maxHeartbeats 4000000 in
theorem checks {k : Nat} {x15 : Int} (C : Cur g O w h n cs iv) (hk : k < 6) (hc : c = (k : Int) + 1) (ht : iv 3 (k + 1) = 0) (hN : N = nK (gN g) w h k) (hx : (0 ≤ x5 ∧ x5 ≤ 6000000) ∧ (0 ≤ x6 ∧ x6 ≤ 6000000) ∧ (0 ≤ x7 ∧ x7 ≤ 6000000) ∧ 0 ≤ x8 ∧ x8 ≤ 6000000) (d16 d17 d18 : Option AV) : Run sc 111 378 [some (Rf 1), some (I ((w : Int))), some (I ((h : Int))), some (I r), some (I t), some (I x5), some (I x6), some (I x7), some (I x8), some (I c), some (I ((N : Int))), some (I ((N : Int))), some (I (cvC g O w h 0 k)), some (I (cvC g O w h 3 k)), some (I (cvC g O w h 4 k)), some (I x15), d16, d17, d18] [] (hq cs iv) = Run sc 111 15 [some (Rf 1), some (I ((w : Int))), some (I ((h : Int))), some (I r), some (I t), some (I (x5 + cvC g O w h 0 k)), some (I (x6 + (N : Int))), some (I (x7 + cvC g O w h 3 k)), some (I (x8 + cvC g O w h 4 k)), some (I (c + 1)), some (I ((N : Int))), some (I ((N : Int))), some (I (cvC g O w h 0 k)), some (I (cvC g O w h 3 k)), some (I (cvC g O w h 4 k)), some (I x15), d16, d17, d18] [] (hq cs iv) := by
  obtain ⟨⟨b1, b2⟩, hO, -⟩ := C.1.bnd hk
  have v0 := cvC_b (what := 0) C.1 hk
  have v3 := cvC_b (what := 3) C.1 hk
  have v4 := cvC_b (what := 4) C.1 hk
  have r1 : ratF g O w h k (N : Int) = -4 := by unfold ratF; rw [if_neg (by omega), if_neg (by omega)]
  have r2 : ratF g O w h k (-1) = -2 := if_pos (by omega)
  rw [B_L_runs_378, if_pos rfl, count1_L C hk hc (by omega) ht, aBind_some, pushR_some, B_L_runs_392, if_pos rfl, count1_L C hk hc (by omega) ht, aBind_some, pushR_some, B_L_runs_404, if_pos rfl, count1_L C hk hc (by omega) ht, aBind_some, pushR_some, B_L_runs_416, if_pos rfl, runAt_L C hk hc ht, r1, aBind_some, pushR_some, B_L_runs_429, if_pos rfl, runAt_L C hk hc ht, r2, aBind_some, pushR_some, B_L_runs_441, if_pos rfl, run_L C hk hc ht, runF_no (by omega), aBind_some, pushR_some, B_L_runs_456, if_pos rfl, B_L_runs_462, chk_pos (by omega), chk_pos (by omega), chk_pos (by omega), chk_pos (by omega), chk_pos (by omega)]
set_option maxHeartbeats 4000000 in
/-- runs answers true -/
theorem runs_L (C : Cur g O w h n cs iv) (hr : g 6 0 = r) (htl : g 6 1 = t) : ∃ iv2, Run sc 111 0 [some (Rf 1), some (I (w : Int)), some (I (h : Int)), some (I r), some (I t), none, none, none, none, none, none, none, none, none, none, none, none, none, none] [] (hq cs iv) = some (some (I 1), hq cs iv2) ∧ Cur g O w h n cs iv2 ∧ Hi iv iv2 := by
  obtain ⟨s, e, qs, qb, qC, qH⟩ := loop_ex (fun i (s : (Nat → Nat → Int) × (Int × Int × Int × Int) × Option AV × Option AV × Option AV × Option AV × Option AV × Option AV × Option AV × Option AV × Option AV) => Run sc 111 15 [some (Rf 1), some (I ((w : Int))), some (I ((h : Int))), some (I r), some (I t), some (I s.2.1.1), some (I s.2.1.2.1), some (I s.2.1.2.2.1), some (I s.2.1.2.2.2), some (I (i + 1)), s.2.2.1, s.2.2.2.1, s.2.2.2.2.1, s.2.2.2.2.2.1, s.2.2.2.2.2.2.1, s.2.2.2.2.2.2.2.1, s.2.2.2.2.2.2.2.2.1, s.2.2.2.2.2.2.2.2.2.1, s.2.2.2.2.2.2.2.2.2.2] [] (hq cs s.1)) (fun i s => (s.2.1.1 = sumN (cvC g O w h 0) i ∧ s.2.1.2.1 = sumN (cvC g O w h 2) i ∧ s.2.1.2.2.1 = sumN (cvC g O w h 3) i ∧ s.2.1.2.2.2 = sumN (cvC g O w h 4) i) ∧ ((0 ≤ s.2.1.1 ∧ s.2.1.1 ≤ 1000000 * i) ∧ (0 ≤ s.2.1.2.1 ∧ s.2.1.2.1 ≤ 1000000 * i) ∧ (0 ≤ s.2.1.2.2.1 ∧ s.2.1.2.2.1 ≤ 1000000 * i) ∧ 0 ≤ s.2.1.2.2.2 ∧ s.2.1.2.2.2 ≤ 1000000 * i) ∧ Cur g O w h n cs s.1 ∧ Hi iv s.1) 6 0 (iv, (0, 0, 0, 0), none, none, none, none, none, none, none, none, none) (Nat.zero_le _) ⟨⟨rfl, rfl, rfl, rfl⟩, by simp, C, fun _ _ => rfl⟩ (fun i s _ hi hP => by
    obtain ⟨u, ⟨x5, x6, x7, x8⟩, s10, s11, s12, s13, s14, s15, s16, s17, s18⟩ := s
    obtain ⟨⟨p1, p2, p3, p4⟩, ⟨pa, pb, pc, pd⟩, pC, pH⟩ := hP
    dsimp only at p1 p2 p3 p4 pa pb pc pd pC pH
    obtain ⟨v, e1, C2, hi2, tch⟩ := look_L (sc := sc) (c := (i : Int) + 1) pC hi rfl
    obtain ⟨N, hN⟩ : ∃ N, N = nK (gN g) w h i := ⟨_, rfl⟩
    rw [← hN] at e1
    obtain ⟨a14, a15, a16, a17, a18, ea⟩ := scanAll (sc := sc) (x5 := x5) (x6 := x6) (x7 := x7) (x8 := x8) (r := r) (t := t) (c := (i : Int) + 1) C2 hi rfl tch hN s14 s15 s16 s17 s18
    have e0 : sumN (fun j => sumN (isC g ((i : Int) + 1) j) w) h = cvC g O w h 0 i := by
      unfold cvC
      rw [if_pos rfl]
      rfl
    obtain ⟨y15, b16, b17, b18, eb⟩ := threads (sc := sc) (x5 := x5) (x6 := x6) (x7 := x7) (x8 := x8) (x13 := (h : Int)) (c := (i : Int) + 1) C2 hi rfl tch hN e0 hr htl a14 a15 a16 a17 a18
    rw [e0] at ea eb
    have ek := checks (sc := sc) (x5 := x5) (x6 := x6) (x7 := x7) (x8 := x8) (r := r) (t := t) (x15 := y15) (c := (i : Int) + 1) C2 hi rfl tch hN (by omega) b16 b17 b18
    have v0 := cvC_b (what := 0) C.1 hi
    have v2 := cvC_b (what := 2) C.1 hi
    have v3 := cvC_b (what := 3) C.1 hi
    have v4 := cvC_b (what := 4) C.1 hi
    have ev2 : cvC g O w h 2 i = (N : Int) := by
      unfold cvC
      rw [if_neg (by omega), if_neg (by omega), if_pos rfl, hN]
    rw [ev2] at v2
    refine ⟨(v, (x5 + cvC g O w h 0 i, x6 + N, x7 + cvC g O w h 3 i, x8 + cvC g O w h 4 i), some (I (N : Int)), some (I (N : Int)), some (I (cvC g O w h 0 i)), some (I (cvC g O w h 3 i)), some (I (cvC g O w h 4 i)), some (I y15), b16, b17, b18), ?_, ⟨?_, ?_, ?_, ?_⟩, ?_, C2, fun k hk => (hi2 k hk).trans (pH k hk)⟩
    · dsimp only
      rw [B_L_runs_15, if_pos (by omega), e1, aBind_some, pushR_some, B_L_runs_29, ea, eb, ek]
    · show x5 + _ = sumN _ i + _; rw [p1]
    · show x6 + _ = sumN _ i + _; rw [p2, ev2]
    · show x7 + _ = sumN _ i + _; rw [p3]
    · show x8 + _ = sumN _ i + _; rw [p4]
    · show (0 ≤ x5 + _ ∧ x5 + _ ≤ 1000000 * ((i + 1 : Nat) : Int)) ∧ (0 ≤ x6 + _ ∧ x6 + _ ≤ 1000000 * ((i + 1 : Nat) : Int)) ∧ (0 ≤ x7 + _ ∧ x7 + _ ≤ 1000000 * ((i + 1 : Nat) : Int)) ∧ 0 ≤ x8 + _ ∧ x8 + _ ≤ 1000000 * ((i + 1 : Nat) : Int)
      omega)
  obtain ⟨u, ⟨x5, x6, x7, x8⟩, s10, s11, s12, s13, s14, s15, s16, s17, s18⟩ := s
  dsimp only at qs qC qH e
  obtain ⟨q1, q2, q3, q4⟩ := qs
  obtain ⟨v1, f1, C1, h1⟩ := count_L (sc := sc) (c := 0) (what := 0) qC (by omega) (by omega)
  obtain ⟨v2, f2, C2, h2⟩ := count_L (sc := sc) (c := 0) (what := 2) C1 (by omega) (by omega)
  obtain ⟨v3, f3, C3, h3⟩ := count_L (sc := sc) (c := 0) (what := 3) C2 (by omega) (by omega)
  obtain ⟨v4, f4, C4, h4⟩ := count_L (sc := sc) (c := 0) (what := 4) C3 (by omega) (by omega)
  rw [selT_0] at f1 f2 f3 f4
  refine ⟨v4, ?_, C4, fun k hk => (h4 k hk).trans ((h3 k hk).trans ((h2 k hk).trans ((h1 k hk).trans (qH k hk))))⟩
  rw [B_L_runs_0]
  refine (show _ = _ from e).trans ?_
  rw [show ((6 : Nat) : Int) + 1 = 7 from rfl]
  rw [B_L_runs_15, if_neg (by omega), B_L_runs_496, f1, aBind_some, pushR_some, B_L_runs_502, if_pos q1.symm, f2, aBind_some, pushR_some, B_L_runs_513, if_pos q2.symm, f3, aBind_some, pushR_some, B_L_runs_524, if_pos q3.symm, f4, aBind_some, pushR_some, B_L_runs_535, if_pos q4.symm, countBad_L (by omega), aBind_some, pushR_some, B_L_runs_547, if_pos rfl, countBad_L (by omega), aBind_some, pushR_some, B_L_runs_558, if_pos rfl, B_L_runs_568, bck_pos (by omega)]
end LRUNS2
