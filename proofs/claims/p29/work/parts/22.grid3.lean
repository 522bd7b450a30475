/-! StitchChart$Grid: a round of merging, a new start -/
section GRID3
variable {sc : Nat × (Nat → Int)} {iv : Nat → Nat → Int}
theorem gC_congr {iv iv' : Nat → Nat → Int} (h2 : iv' 2 = iv 2) (h4 : iv' 4 = iv 4) (x y : Int) : gC iv' x y = gC iv x y := by
  unfold gC inC; rw [h2, h4]
theorem nbr_congr {iv iv' : Nat → Nat → Int} (h2 : iv' 2 = iv 2) (h4 : iv' 4 = iv 4) (x y c : Int) : nbr iv' x y c = nbr iv x y c := by
  unfold nbr nT; simp only [gC_congr h2 h4]
theorem lonI_congr {iv iv' : Nat → Nat → Int} (h2 : iv' 2 = iv 2) (h4 : iv' 4 = iv 4) (x y : Int) : lonI iv' x y = lonI iv x y := by
  unfold lonI; simp only [gC_congr h2 h4, nbr_congr h2 h4]
theorem mrgC_congr {iv iv' : Nat → Nat → Int} (h2 : iv' 2 = iv 2) (h4 : iv' 4 = iv 4) (x y : Int) : mrgC iv' x y = mrgC iv x y := by
  have e : nbr iv' x y = nbr iv x y := funext fun c => nbr_congr h2 h4 x y c
  unfold mrgC; rw [lonI_congr h2 h4, gC_congr h2 h4, e]
theorem gC_b {x y : Int} {w hh : Nat} (hw : iv 2 0 = w) (hw2 : w ≤ 24) (hh1 : iv 2 1 = hh) (hh2 : hh ≤ 24) (hg : ∀ j, j < 576 → 0 ≤ iv 4 j ∧ iv 4 j ≤ 6) : 0 ≤ gC iv x y ∧ gC iv x y ≤ 6 := by
  unfold gC
  by_cases h : inC iv x y
  · rw [if_pos h]
    have h9 : (y * 24 + x).toNat < 576 := by have := h.1; have := h.2.1; have := h.2.2.1; have := h.2.2.2; omega
    exact hg _ h9
  · rw [if_neg h]; omega
theorem mrgC_b {x y : Int} {w hh : Nat} (hw : iv 2 0 = w) (hw2 : w ≤ 24) (hh1 : iv 2 1 = hh) (hh2 : hh ≤ 24) (hg : ∀ j, j < 576 → 0 ≤ iv 4 j ∧ iv 4 j ≤ 6) : 0 ≤ mrgC iv x y ∧ mrgC iv x y ≤ 6 := by
  unfold mrgC
  split
  · exact gC_b hw hw2 hh1 hh2 hg
  · exact bestB_c (gC_b hw hw2 hh1 hh2 hg) 6 (by omega)
theorem mergeA_row {x0 y : Int} {w hh : Nat} {j : Nat} {d3 : Option AV} {iv0 : Nat → Nat → Int} (hw : iv0 2 0 = w) (hw2 : w ≤ 24) (hh1 : iv0 2 1 = hh) (hh2 : hh ≤ 24) (hj : j < hh) (hg : ∀ j, j < 576 → 0 ≤ iv0 4 j ∧ iv0 4 j ≤ 6) (hk : ∀ k, k ≠ 5 → iv k = iv0 k) (hm : ∀ x y : Nat, x < w → y < j → iv 5 (y * 24 + x) = mrgC iv0 x y) :
    ∃ iv2, Run sc 59 12 [some (Rf 2), some (I j), some (I 0), d3] [] (hp iv) = Run sc 59 52 [some (Rf 2), some (I j), some (I w), d3] [] (hp iv2) ∧ (∀ k, k ≠ 5 → iv2 k = iv0 k) ∧ ∀ x y : Nat, x < w → y < j + 1 → iv2 5 (y * 24 + x) = mrgC iv0 x y := by
  obtain ⟨s, e, h1, h2, h3⟩ := loop_ex (fun i (s : Nat → Nat → Int) => Run sc 59 12 [some (Rf 2), some (I j), some (I i), d3] [] (hp s)) (fun i s => (∀ k, k ≠ 5 → s k = iv0 k) ∧ (∀ x y : Nat, x < w → y < j → s 5 (y * 24 + x) = mrgC iv0 x y) ∧ ∀ x : Nat, x < i → s 5 (j * 24 + x) = mrgC iv0 x j) w 0 iv (Nat.zero_le _) ⟨hk, hm, fun x hx => absurd hx (by omega)⟩ (fun i s _ hi hP => by
    obtain ⟨a1, a2, a3⟩ := hP
    have k2 := a1 2 (by omega)
    have k4 := a1 4 (by omega)
    have hin : inC s i j := by unfold inC; rw [k2]; omega
    have hb := mrgC_b (x := i) (y := j) hw hw2 hh1 hh2 hg
    refine ⟨setO s 5 (upI (s 5) (j * 24 + i) (mrgC iv0 i j)), ?_, fun k hk => by rw [setO_ne hk]; exact a1 k hk, fun x y hx hy => ?_, fun x hx => ?_⟩
    · rw [B_X3_mergeOnce_12, ite_T (by rw [k2]; omega), has_T hin, aBind_some, pushR_some, B_X3_mergeOnce_26, ite_F (by omega), chk_pos (by omega), chk_pos (by omega), merging_S (by rw [k2]; omega) (by rw [k2]; omega) (by omega) (by omega), aBind_some, pushR_some, mrgC_congr k2 k4, B_X3_mergeOnce_45, bck_pos (by omega), bck_pos (by omega), B_X3_mergeOnce_46, chk_pos (by omega)]
      rw [show ((j : Int) * 24 + i).toNat = j * 24 + i by omega]
    · rw [setO_same, upI_ne (by omega)]; exact a2 x y hx hy
    · rw [setO_same]
      by_cases ex : x = i
      · rw [ex, upI_same]
      · rw [upI_ne (by omega)]; exact a3 x (by omega))
  refine ⟨s, (show _ = _ from e).trans ?_, h1, fun x y hx hy => ?_⟩
  · show Run sc 59 12 [some (Rf 2), some (I j), some (I w), d3] [] (hp s) = _
    rw [B_X3_mergeOnce_12, ite_F (by rw [h1 2 (by omega)]; omega)]
  · by_cases ey : y = j
    · rw [ey]; exact h3 x hx
    · exact h2 x y hx (by omega)
theorem mergeB_row {w hh : Nat} {j : Nat} {r0 : Int} {iv1 : Nat → Nat → Int} {M : Nat → Nat → Int} (hw : iv1 2 0 = w) (hw2 : w ≤ 24) (hh1 : iv1 2 1 = hh) (hh2 : hh ≤ 24) (hj : j < hh) (hM : ∀ x y : Nat, x < w → y < hh → iv1 5 (y * 24 + x) = M x y ∧ 0 ≤ M x y ∧ M x y ≤ 6)
    (hch : ChG iv1 iv r0) (hd : ∀ x y : Nat, x < w → y < j → iv 4 (y * 24 + x) = M x y) (hn : ∀ k : Nat, (∀ x y : Nat, x < w → y < j → k ≠ y * 24 + x) → iv 4 k = iv1 4 k) :
    ∃ r2 iv2, Run sc 59 72 [some (Rf 2), some (I r0), some (I j), some (I 0)] [] (hp iv) = Run sc 59 115 [some (Rf 2), some (I r2), some (I j), some (I w)] [] (hp iv2) ∧ ChG iv1 iv2 r2 ∧ (∀ x y : Nat, x < w → y < j + 1 → iv2 4 (y * 24 + x) = M x y) ∧ ∀ k : Nat, (∀ x y : Nat, x < w → y < j + 1 → k ≠ y * 24 + x) → iv2 4 k = iv1 4 k := by
  obtain ⟨s, e, h1, h2, h3, h4⟩ := loop_ex (fun i (s : Int × (Nat → Nat → Int)) => Run sc 59 72 [some (Rf 2), some (I s.1), some (I j), some (I i)] [] (hp s.2)) (fun i s => ChG iv1 s.2 s.1 ∧ (∀ x y : Nat, x < w → y < j → s.2 4 (y * 24 + x) = M x y) ∧ (∀ x : Nat, x < i → s.2 4 (j * 24 + x) = M x j) ∧ ∀ k : Nat, (∀ x y : Nat, x < w → y < j → k ≠ y * 24 + x) → (∀ x : Nat, x < i → k ≠ j * 24 + x) → s.2 4 k = iv1 4 k) w 0 (r0, iv) (Nat.zero_le _) ⟨hch, hd, fun x hx => absurd hx (by omega), fun k a _ => hn k a⟩ (fun i s _ hi hP => by
    obtain ⟨r, ivx⟩ := s
    obtain ⟨a1, a2, a3, a4⟩ := hP
    dsimp only at a1 a2 a3 a4 ⊢
    have k2 := a1.1 2 (by omega) (by omega)
    have k5 := a1.1 5 (by omega) (by omega)
    have hin : inC ivx i j := by unfold inC; rw [k2]; omega
    have hrb := a1.n_b
    obtain ⟨m1, m2, m3⟩ := hM i j hi hj
    have hidx : ((j : Int) * 24 + i).toNat = j * 24 + i := by omega
    have hput := a1.put (c := M i j) (j0 := j * 24 + i) (by omega) (a4 _ (fun x y hx hy => by omega) (fun x hx => by omega)) ⟨m2, m3⟩
    have hpn : 0 ≤ putN ivx (j * 24 + i) (M i j) ∧ putN ivx (j * 24 + i) (M i j) ≤ 1 := by unfold putN; split <;> omega
    refine ⟨(r + putN ivx (j * 24 + i) (M i j), putS ivx (j * 24 + i) (M i j)), ?_, hput, fun x y hx hy => ?_, fun x hx => ?_, fun k q1 q2 => ?_⟩
    · have hg := a1.2.2.2.2.1 (j * 24 + i) (by omega)
      rw [B_X3_mergeOnce_72, ite_T (by rw [k2]; omega), has_T hin, aBind_some, pushR_some, B_X3_mergeOnce_86, ite_F (by omega), chk_pos (by omega), chk_pos (by omega), bck_pos (by omega), hidx, k5, m1, put_S (by rw [k2]; omega) (by rw [k2]; omega) hin ⟨m2, m3⟩ (by rw [hidx]; exact hg), aBind_some, pushR_some, hidx, B_X3_mergeOnce_107, chk_pos (by omega), B_X3_mergeOnce_109, chk_pos (by omega)]
    · show putS ivx (j * 24 + i) (M i j) 4 (y * 24 + x) = M x y
      rw [putS_4, if_neg (by omega)]; exact a2 x y hx hy
    · show putS ivx (j * 24 + i) (M i j) 4 (j * 24 + x) = M x j
      rw [putS_4]
      by_cases ex : x = i
      · rw [ex, if_pos rfl]
      · rw [if_neg (by omega)]; exact a3 x (by omega)
    · show putS ivx (j * 24 + i) (M i j) 4 k = iv1 4 k
      rw [putS_4, if_neg (q2 i (by omega))]; exact a4 k q1 (fun x hx => q2 x (by omega)))
  obtain ⟨r, ivx⟩ := s
  dsimp only at h1 h2 h3 h4
  refine ⟨r, ivx, (show _ = _ from e).trans ?_, h1, fun x y hx hy => ?_, fun k q => h4 k (fun x y hx hy => q x y hx (by omega)) (fun x hx => q x j hx (by omega))⟩
  · show Run sc 59 72 [some (Rf 2), some (I r), some (I j), some (I w)] [] (hp ivx) = _
    rw [B_X3_mergeOnce_72, ite_F (by rw [h1.1 2 (by omega) (by omega)]; omega)]
  · by_cases ey : y = j
    · rw [ey]; exact h3 x hx
    · exact h2 x y hx (by omega)
theorem mergeOnce_S {w hh : Nat} (hw : iv 2 0 = w) (hw2 : w ≤ 24) (hh1 : iv 2 1 = hh) (hh2 : hh ≤ 24) (hg : ∀ j, j < 576 → 0 ≤ iv 4 j ∧ iv 4 j ≤ 6) :
    ∃ r iv1 iv2, Run sc 59 0 [some (Rf 2), none, none, none] [] (hp iv) = some (some (I r), hp iv2) ∧ (∀ k, k ≠ 5 → iv1 k = iv k) ∧ ChG iv1 iv2 r ∧ (∀ x y : Nat, x < w → y < hh → iv2 4 (y * 24 + x) = mrgC iv x y) ∧ ∀ k : Nat, (∀ x y : Nat, x < w → y < hh → k ≠ y * 24 + x) → iv2 4 k = iv 4 k := by
  rw [B_X3_mergeOnce_0]
  obtain ⟨s, e, h1, h2⟩ := loop_ex (fun i (s : Option AV × (Nat → Nat → Int)) => Run sc 59 2 [some (Rf 2), some (I i), s.1, none] [] (hp s.2)) (fun i s => (∀ k, k ≠ 5 → s.2 k = iv k) ∧ ∀ x y : Nat, x < w → y < i → s.2 5 (y * 24 + x) = mrgC iv x y) hh 0 (none, iv) (Nat.zero_le _) ⟨fun _ _ => rfl, fun x y hx hy => absurd hy (by omega)⟩ (fun i s _ hi hP => by
    obtain ⟨iv2, e1, b1, b2⟩ := mergeA_row (sc := sc) (iv := s.2) (x0 := 0) (y := 0) (d3 := none) hw hw2 hh1 hh2 hi hg hP.1 hP.2
    refine ⟨(some (I w), iv2), ?_, b1, b2⟩
    show Run sc 59 2 [some (Rf 2), some (I i), s.1, none] [] (hp s.2) = Run sc 59 2 [some (Rf 2), some (I (i + 1)), some (I w), none] [] (hp iv2)
    rw [B_X3_mergeOnce_2, ite_T (by rw [hP.1 2 (by omega)]; omega), e1, B_X3_mergeOnce_52, chk_pos (by omega)])
  obtain ⟨d, iv1⟩ := s
  dsimp only at h1 h2
  have k2 := h1 2 (by omega)
  have k4 := h1 4 (by omega)
  have e2 : Run sc 59 2 [some (Rf 2), some (I 0), none, none] [] (hp iv) = Run sc 59 62 [some (Rf 2), some (I 0), some (I 0), none] [] (hp iv1) := by
    refine (show _ = _ from e).trans ?_
    show Run sc 59 2 [some (Rf 2), some (I hh), d, none] [] (hp iv1) = _
    rw [B_X3_mergeOnce_2, ite_F (by rw [k2]; omega), B_X3_mergeOnce_58]
  rw [e2]
  obtain ⟨s, e3, g1, g2, g3⟩ := loop_ex (fun i (s : (Int × Option AV) × (Nat → Nat → Int)) => Run sc 59 62 [some (Rf 2), some (I s.1.1), some (I i), s.1.2] [] (hp s.2)) (fun i s => ChG iv1 s.2 s.1.1 ∧ (∀ x y : Nat, x < w → y < i → s.2 4 (y * 24 + x) = mrgC iv x y) ∧ ∀ k : Nat, (∀ x y : Nat, x < w → y < i → k ≠ y * 24 + x) → s.2 4 k = iv1 4 k) hh 0 ((0, none), iv1) (Nat.zero_le _) ⟨ChG.rf (by rw [k4]; exact hg), fun x y hx hy => absurd hy (by omega), fun _ _ => rfl⟩ (fun i s _ hi hP => by
    obtain ⟨⟨r, d⟩, ivx⟩ := s
    obtain ⟨a1, a2, a3⟩ := hP
    dsimp only at a1 a2 a3 ⊢
    obtain ⟨r2, iv2, e1, b1, b2, b3⟩ := mergeB_row (sc := sc) (iv := ivx) (M := fun x y => mrgC iv x y) (by rw [k2]; exact hw) hw2 (by rw [k2]; exact hh1) hh2 hi (fun x y hx hy => ⟨h2 x y hx hy, mrgC_b hw hw2 hh1 hh2 hg⟩) a1 a2 a3
    refine ⟨((r2, some (I w)), iv2), ?_, b1, b2, b3⟩
    show Run sc 59 62 [some (Rf 2), some (I r), some (I i), d] [] (hp ivx) = Run sc 59 62 [some (Rf 2), some (I r2), some (I (i + 1)), some (I w)] [] (hp iv2)
    rw [B_X3_mergeOnce_62, ite_T (by rw [a1.1 2 (by omega) (by omega), k2]; omega), e1, B_X3_mergeOnce_115, chk_pos (by omega)])
  obtain ⟨⟨r, d⟩, ivx⟩ := s
  dsimp only at g1 g2 g3
  refine ⟨r, iv1, ivx, (show _ = _ from e3).trans ?_, h1, g1, g2, fun k q => by rw [g3 k q, k4]⟩
  show Run sc 59 62 [some (Rf 2), some (I r), some (I hh), d] [] (hp ivx) = _
  rw [B_X3_mergeOnce_62, ite_F (by rw [g1.1 2 (by omega) (by omega), k2]; omega), B_X3_mergeOnce_121]
/-- a new start of the grid -/
theorem startAnew_S {x y : Int} (hx : 1 ≤ x ∧ x ≤ 24) (hy : 1 ≤ y ∧ y ≤ 24) : ∃ iv2, Run sc 49 0 [some (Rf 2), some (I x), some (I y), none] [] (hp iv) = some (none, hp iv2) ∧ (∀ k, k ≠ 2 → k ≠ 3 → k ≠ 4 → iv2 k = iv k) ∧ iv2 2 0 = x ∧ iv2 2 1 = y ∧ (∀ j, j < 576 → iv2 4 j = 0) ∧ ∀ c, c ≤ 6 → iv2 3 c = 1 := by
  rw [B_X3_startAnew_0, bck_pos (by omega), B_X3_startAnew_5, bck_pos (by omega), B_X3_startAnew_10]
  generalize hiv : setO (setO iv 2 (upI (iv 2) 0 x)) 2 (upI (setO iv 2 (upI (iv 2) 0 x) 2) 1 y) = iv1
  have k0 : iv1 2 0 = x := by rw [← hiv, setO_same, upI_ne (by omega), setO_same, upI_same]
  have k1 : iv1 2 1 = y := by rw [← hiv, setO_same, upI_same]
  have kk : ∀ k, k ≠ 2 → iv1 k = iv k := fun k hk => by rw [← hiv, setO_ne hk, setO_ne hk]
  obtain ⟨s, e, h1, h2⟩ := loop_ex (fun i (s : Nat → Nat → Int) => Run sc 49 12 [some (Rf 2), some (I x), some (I y), some (I i)] [] (hp s)) (fun i s => (∀ k, k ≠ 4 → s k = iv1 k) ∧ ∀ j, j < i → s 4 j = 0) 576 0 iv1 (Nat.zero_le _) ⟨fun _ _ => rfl, fun j hj => absurd hj (by omega)⟩ (fun i s _ hi hP => by
    refine ⟨setO s 4 (upI (s 4) i 0), ?_, fun k hk => by rw [setO_ne hk]; exact hP.1 k hk, fun j hj => ?_⟩
    · rw [B_X3_startAnew_12, ite_T (by omega), bck_pos (by omega), bck_pos (by omega), B_X3_startAnew_26, chk_pos (by omega)]
      rfl
    · rw [setO_same]
      by_cases ej : j = i
      · rw [ej, upI_same]
      · rw [upI_ne ej]; exact hP.2 j (by omega))
  have e1 : Run sc 49 12 [some (Rf 2), some (I x), some (I y), some (I 0)] [] (hp iv1) = Run sc 49 34 [some (Rf 2), some (I x), some (I y), some (I 0)] [] (hp s) := by
    refine (show _ = _ from e).trans ?_
    show Run sc 49 12 [some (Rf 2), some (I x), some (I y), some (I 576)] [] (hp s) = _
    rw [B_X3_startAnew_12, ite_F (by omega), B_X3_startAnew_32]
  rw [e1]
  obtain ⟨s2, e3, g1, g2⟩ := loop_ex (fun i (t : Nat → Nat → Int) => Run sc 49 34 [some (Rf 2), some (I x), some (I y), some (I i)] [] (hp t)) (fun i t => (∀ k, k ≠ 3 → t k = s k) ∧ ∀ j, j < i → t 3 j = 1) 7 0 s (Nat.zero_le _) ⟨fun _ _ => rfl, fun j hj => absurd hj (by omega)⟩ (fun i t _ hi hP => by
    refine ⟨setO t 3 (upI (t 3) i 1), ?_, fun k hk => by rw [setO_ne hk]; exact hP.1 k hk, fun j hj => ?_⟩
    · rw [B_X3_startAnew_34, ite_F (by omega), bck_pos (by omega), bck_pos (by omega), B_X3_startAnew_47, chk_pos (by omega)]
      rfl
    · rw [setO_same]
      by_cases ej : j = i
      · rw [ej, upI_same]
      · rw [upI_ne ej]; exact hP.2 j (by omega))
  refine ⟨s2, (show _ = _ from e3).trans ?_, fun k a b c => by rw [g1 k b, h1 k c, kk k a], by rw [g1 2 (by omega), h1 2 (by omega), k0], by rw [g1 2 (by omega), h1 2 (by omega), k1], fun j hj => by rw [g1 4 (by omega)]; exact h2 j hj, fun c hc => g2 c (by omega)⟩
  show Run sc 49 34 [some (Rf 2), some (I x), some (I y), some (I 7)] [] (hp s2) = _
  rw [B_X3_startAnew_34, ite_T (by omega), B_X3_startAnew_53]
end GRID3
