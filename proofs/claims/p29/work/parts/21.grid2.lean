/-! StitchChart$Grid: loops and changes -/
theorem sumN_upd {f g : Nat → Int} {n j0 : Nat} (h0 : j0 < n) (h : ∀ j, j < n → j ≠ j0 → g j = f j) : sumN g n = sumN f n + (g j0 - f j0) := by
  induction n with
  | zero => omega
  | succ n ih =>
    show sumN g n + g n = sumN f n + f n + (g j0 - f j0)
    by_cases e : j0 = n
    · subst e
      rw [sumN_congr (g := f) (fun i hi => h i (by omega) (by omega))]
      omega
    · rw [ih (by omega) (fun j hj => h j (by omega)), h n (by omega) (fun q => e q.symm)]
      omega
section GRID2
variable {sc : Nat × (Nat → Int)} {iv : Nat → Nat → Int}
/-- lone stitches of a color -/
theorem loneRow {c f y : Int} {w : Nat} (hw : iv 2 0 = w) (hw2 : w ≤ 24) (hh : iv 2 1 ≤ 24) (hy : 0 ≤ y ∧ y ≤ 24) (hf : 0 ≤ f ∧ f ≤ 600) : Run sc 57 15 [some (Rf 2), some (I c), some (I f), some (I y), some (I 0)] [] (hp iv) = Run sc 57 54 [some (Rf 2), some (I c), some (I (f + sumN (fun i => if gC iv i y = c then lonI iv i y else 0) w)), some (I y), some (I w)] [] (hp iv) := by
  obtain ⟨s, e, h⟩ := loop_ex (fun i s => Run sc 57 15 [some (Rf 2), some (I c), some (I s), some (I y), some (I i)] [] (hp iv)) (fun i s => s = f + sumN (fun i => if gC iv i y = c then lonI iv i y else 0) i ∧ s ≤ f + i) w 0 f (Nat.zero_le _) ⟨by simp [sumN], by omega⟩ (fun i s _ hi hP => by
    obtain ⟨h1, h2⟩ := hP
    have hb := lonI_b (iv := iv) (x := i) (y := y)
    have hs : 0 ≤ sumN (fun i => if gC iv i y = c then lonI iv i y else 0) i := sumN_nonneg (fun j _ => by have := lonI_b (iv := iv) (x := j) (y := y); split <;> omega)
    refine ⟨f + sumN (fun i => if gC iv i y = c then lonI iv i y else 0) (i + 1), ?_, rfl, ?_⟩
    · rw [B_X3_loneStitches_15]
      show _ = Run sc 57 15 [some (Rf 2), some (I c), some (I (f + (sumN (fun i => if gC iv i y = c then lonI iv i y else 0) i + if gC iv i y = c then lonI iv i y else 0))), some (I y), some (I (i + 1))] [] (hp iv)
      by_cases hc : gC iv i y = c
      · by_cases hl : lonI iv i y = 0
        · simp (disch := omega) only [B_X3_loneStitches_0, B_X3_loneStitches_31, B_X3_loneStitches_42, B_X3_loneStitches_48, B_X3_loneStitches_54, B_X3_loneStitches_60, colorAt_S (show iv 2 0 ≤ 24 by omega) hh, alone_S (show iv 2 0 ≤ 24 by omega) hh, hc, hl, aBind_some, pushR_some, pushR_none, ite_T, ite_F, if_true, if_false, bck_pos, chk_pos, setO_ne, setO_same, upI_same, upI_ne, h1, Int.add_zero]
        · have hl1 : lonI iv i y = 1 := by omega
          simp (disch := omega) only [B_X3_loneStitches_0, B_X3_loneStitches_31, B_X3_loneStitches_42, B_X3_loneStitches_48, B_X3_loneStitches_54, B_X3_loneStitches_60, colorAt_S (show iv 2 0 ≤ 24 by omega) hh, alone_S (show iv 2 0 ≤ 24 by omega) hh, hc, hl1, aBind_some, pushR_some, pushR_none, ite_T, ite_F, if_true, if_false, bck_pos, chk_pos, setO_ne, setO_same, upI_same, upI_ne, h1, Int.add_assoc]
      · simp (disch := omega) only [B_X3_loneStitches_0, B_X3_loneStitches_31, B_X3_loneStitches_42, B_X3_loneStitches_48, B_X3_loneStitches_54, B_X3_loneStitches_60, colorAt_S (show iv 2 0 ≤ 24 by omega) hh, hc, aBind_some, pushR_some, pushR_none, ite_T, ite_F, if_true, if_false, bck_pos, chk_pos, setO_ne, setO_same, upI_same, upI_ne, h1, Int.add_zero]
    · show f + (sumN (fun i => if gC iv i y = c then lonI iv i y else 0) i + if gC iv i y = c then lonI iv i y else 0) ≤ f + ((i + 1 : Nat) : Int)
      split <;> omega)
  refine e.trans ?_
  rw [B_X3_loneStitches_15, ite_F (by omega), h.1]
def loneC (iv : Nat → Nat → Int) (w h : Nat) (c : Int) : Int := sumN (fun j => sumN (fun i => if gC iv i j = c then lonI iv i j else 0) w) h
theorem lone_S {c : Int} {w hh : Nat} (hw : iv 2 0 = w) (hw2 : w ≤ 24) (hh1 : iv 2 1 = hh) (hh2 : hh ≤ 24) : Run sc 57 0 [some (Rf 2), some (I c), none, none, none] [] (hp iv) = some (some (I (loneC iv w hh c)), hp iv) := by
  rw [B_X3_loneStitches_0]
  obtain ⟨s, e, h⟩ := loop_ex (fun i (s : Int × Option AV) => Run sc 57 4 [some (Rf 2), some (I c), some (I s.1), some (I i), s.2] [] (hp iv)) (fun i s => s.1 = loneC iv w i c ∧ s.1 ≤ 24 * i ∧ 0 ≤ s.1) hh 0 (0, none) (Nat.zero_le _) ⟨rfl, by simp, by simp⟩ (fun i s _ hi hP => by
    obtain ⟨h1, h2, h3⟩ := hP
    refine ⟨(loneC iv w (i + 1) c, some (I w)), ?_, rfl, ?_⟩
    · show Run sc 57 4 [some (Rf 2), some (I c), some (I s.1), some (I i), s.2] [] (hp iv) = Run sc 57 4 [some (Rf 2), some (I c), some (I (loneC iv w (i + 1) c)), some (I (i + 1)), some (I w)] [] (hp iv)
      rw [B_X3_loneStitches_4, ite_T (by omega), loneRow hw hw2 (by omega) (by omega) (by omega), B_X3_loneStitches_54, chk_pos (by omega), h1]
      rfl
    · have hr : sumN (fun k => if gC iv k i = c then lonI iv k i else 0) w ≤ w * 1 := sumN_le (fun k _ => by have := lonI_b (iv := iv) (x := k) (y := i); split <;> omega)
      have hr0 : 0 ≤ sumN (fun k => if gC iv k i = c then lonI iv k i else 0) w := sumN_nonneg (fun k _ => by have := lonI_b (iv := iv) (x := k) (y := i); split <;> omega)
      have e1 : loneC iv w (i + 1) c = loneC iv w i c + sumN (fun k => if gC iv k i = c then lonI iv k i else 0) w := rfl
      constructor
      · show loneC iv w (i + 1) c ≤ 24 * ((i + 1 : Nat) : Int)
        omega
      · show 0 ≤ loneC iv w (i + 1) c
        omega)
  refine (show _ = _ from e).trans ?_
  show Run sc 57 4 [some (Rf 2), some (I c), some (I s.1), some (I hh), s.2] [] (hp iv) = _
  rw [B_X3_loneStitches_4, ite_F (by omega), B_X3_loneStitches_60, h.1]
/-- the color with most votes, the lowest of them -/
def stepB (f : Int → Int) (c : Nat) (s : Int × Int) : Int × Int := if s.2 < f c then ((c : Int), f c) else s
def bestB (f : Int → Int) (b : Int) : Nat → Int × Int
  | 0 => (b, 0)
  | n + 1 => stepB f (n + 1) (bestB f b n)
theorem bestB_b {f : Int → Int} {b : Int} (hf : ∀ c, 0 ≤ f c ∧ f c ≤ 8) : ∀ n, 0 ≤ (bestB f b n).2 ∧ (bestB f b n).2 ≤ 8 := by
  intro n
  induction n with
  | zero => exact ⟨Int.le_refl 0, by show (0 : Int) ≤ 8; omega⟩
  | succ n ih =>
    show 0 ≤ (stepB f (n + 1) (bestB f b n)).2 ∧ (stepB f (n + 1) (bestB f b n)).2 ≤ 8
    unfold stepB
    split
    · exact hf _
    · exact ih
theorem bestB_c {f : Int → Int} {b : Int} (hb : 0 ≤ b ∧ b ≤ 6) : ∀ n, n ≤ 6 → 0 ≤ (bestB f b n).1 ∧ (bestB f b n).1 ≤ 6 := by
  intro n
  induction n with
  | zero => intro _; exact hb
  | succ n ih =>
    intro hn
    show 0 ≤ (stepB f (n + 1) (bestB f b n)).1 ∧ (stepB f (n + 1) (bestB f b n)).1 ≤ 6
    unfold stepB
    split
    · show (0 : Int) ≤ ((n + 1 : Nat) : Int) ∧ ((n + 1 : Nat) : Int) ≤ 6; omega
    · exact ih (by omega)
def mrgC (iv : Nat → Nat → Int) (x y : Int) : Int := if lonI iv x y = 0 then gC iv x y else (bestB (nbr iv x y) (gC iv x y) 6).1
theorem merging_S {x y : Int} (hw : iv 2 0 ≤ 24) (hh : iv 2 1 ≤ 24) (hx : -100 ≤ x ∧ x ≤ 100) (hy : -100 ≤ y ∧ y ≤ 100) : Run sc 58 0 [some (Rf 2), some (I x), some (I y), none, none, none, none] [] (hp iv) = some (some (I (mrgC iv x y)), hp iv) := by
  unfold mrgC
  by_cases hl : lonI iv x y = 0
  · simp (disch := omega) only [B_X3_colorAfterMerging_0, B_X3_colorAfterMerging_6, B_X3_colorAfterMerging_13, B_X3_colorAfterMerging_18, B_X3_colorAfterMerging_39, B_X3_colorAfterMerging_55, B_X3_colorAfterMerging_61, colorAt_S hw hh, alone_S hw hh hx hy, hl, aBind_some, pushR_some, pushR_none, ite_T, ite_F, if_true, if_false, bck_pos, chk_pos, setO_ne, setO_same, upI_same, upI_ne]
  · have hl1 : lonI iv x y = 1 := by have := lonI_b (iv := iv) (x := x) (y := y); omega
    rw [B_X3_colorAfterMerging_0, colorAt_S hw hh, aBind_some, pushR_some, B_X3_colorAfterMerging_6, alone_S hw hh hx hy, aBind_some, pushR_some, hl1, B_X3_colorAfterMerging_13, ite_F (by omega), B_X3_colorAfterMerging_18]
    obtain ⟨s, e, h⟩ := loop_ex (fun i (s : (Int × Int) × Option AV) => Run sc 58 24 [some (Rf 2), some (I x), some (I y), some (I s.1.1), some (I s.1.2), some (I (i + 1)), s.2] [] (hp iv)) (fun i s => s.1 = bestB (nbr iv x y) (gC iv x y) i) 6 0 ((gC iv x y, 0), none) (Nat.zero_le _) rfl (fun i s _ hi hP => by
      have hb := nbr_b (iv := iv) (x := x) (y := y) (c := ((i : Int) + 1))
      refine ⟨(bestB (nbr iv x y) (gC iv x y) (i + 1), some (I (nbr iv x y (i + 1)))), ?_, rfl⟩
      show Run sc 58 24 [some (Rf 2), some (I x), some (I y), some (I s.1.1), some (I s.1.2), some (I (i + 1)), s.2] [] (hp iv) = Run sc 58 24 [some (Rf 2), some (I x), some (I y), some (I (stepB (nbr iv x y) (i + 1) (bestB (nbr iv x y) (gC iv x y) i)).1), some (I (stepB (nbr iv x y) (i + 1) (bestB (nbr iv x y) (gC iv x y) i)).2), some (I (i + 1 + 1)), some (I (nbr iv x y (i + 1)))] [] (hp iv)
      rw [← hP]
      unfold stepB
      rw [B_X3_colorAfterMerging_24, ite_F (by omega), nbr_S hw hh hx hy, aBind_some, pushR_some, B_X3_colorAfterMerging_39]
      have e1 : ((i + 1 : Nat) : Int) = (i : Int) + 1 := rfl
      rw [e1]
      by_cases hc : s.1.2 < nbr iv x y (i + 1)
      · rw [if_pos hc, if_pos hc, B_X3_colorAfterMerging_55, chk_pos (by omega)]
      · rw [if_neg hc, if_neg hc, B_X3_colorAfterMerging_55, chk_pos (by omega)])
    refine (show _ = _ from e).trans ?_
    show Run sc 58 24 [some (Rf 2), some (I x), some (I y), some (I s.1.1), some (I s.1.2), some (I (6 + 1)), s.2] [] (hp iv) = _
    rw [B_X3_colorAfterMerging_24, ite_T (by omega), B_X3_colorAfterMerging_61, h]
    rfl
/-- a cell gets a color -/
def putS (iv : Nat → Nat → Int) (j : Nat) (c : Int) : Nat → Nat → Int := if iv 4 j = c then iv else setO (setO iv 4 (upI (iv 4) j c)) 3 (upI (upI (iv 3) (iv 4 j).toNat 1) c.toNat 1)
def putN (iv : Nat → Nat → Int) (j : Nat) (c : Int) : Int := if iv 4 j = c then 0 else 1
theorem touch_S {c : Int} (hc : 0 ≤ c ∧ c ≤ 6) : Run sc 53 0 [some (Rf 2), some (I c)] [] (hp iv) = some (none, hp (setO iv 3 (upI (iv 3) c.toNat 1))) := by
  rw [B_X3_touch_0, within_T (by omega), aBind_some, pushR_some, B_X3_touch_7, if_neg (by omega), bck_pos (by omega), bck_pos (by omega), B_X3_touch_17]
theorem put_S {x y c : Int} (hw : iv 2 0 ≤ 24) (hh : iv 2 1 ≤ 24) (hin : inC iv x y) (hc : 0 ≤ c ∧ c ≤ 6) (hg : 0 ≤ iv 4 (y * 24 + x).toNat ∧ iv 4 (y * 24 + x).toNat ≤ 6) : Run sc 52 0 [some (Rf 2), some (I x), some (I y), some (I c), none] [] (hp iv) = some (some (I (putN iv (y * 24 + x).toNat c)), hp (putS iv (y * 24 + x).toNat c)) := by
  have hgc : gC iv x y = iv 4 (y * 24 + x).toNat := if_pos hin
  unfold putN putS
  by_cases h : iv 4 (y * 24 + x).toNat = c
  · rw [if_pos h, if_pos h]
    simp (disch := omega) only [B_X3_put_0, B_X3_put_6, B_X3_put_14, B_X3_put_24, B_X3_put_33, B_X3_put_35, B_X3_put_47, B_X3_put_53, B_X3_put_58, colorAt_S hw hh, has_T hin, within_T, hgc, aBind_some, pushR_some, pushR_none, ite_T, ite_F, if_true, if_false, bck_pos, chk_pos, setO_ne, setO_same, upI_same, upI_ne]
  · rw [if_neg h, if_neg h]
    simp (disch := omega) only [B_X3_put_0, B_X3_put_6, B_X3_put_14, B_X3_put_24, B_X3_put_33, B_X3_put_35, B_X3_put_47, B_X3_put_53, B_X3_put_58, colorAt_S hw hh, has_T hin, within_T, touch_S, hgc, aBind_some, pushR_some, pushR_none, ite_T, ite_F, if_true, if_false, bck_pos, chk_pos, setO_ne, setO_same, upI_same, upI_ne]
    rw [setO_setO]
/-- since iv0, cells changed: n of them, and the colors concerned are touched -/
def ChG (iv0 iv : Nat → Nat → Int) (n : Int) : Prop := (∀ k, k ≠ 3 → k ≠ 4 → iv k = iv0 k) ∧
  (∀ c : Nat, (∃ j, j < 576 ∧ iv0 4 j ≠ iv 4 j ∧ (iv0 4 j = c ∨ iv 4 j = c)) → iv 3 c = 1) ∧
  (∀ c : Nat, (¬ ∃ j, j < 576 ∧ iv0 4 j ≠ iv 4 j ∧ (iv0 4 j = c ∨ iv 4 j = c)) → iv 3 c = iv0 3 c) ∧
  n = sumN (fun j => if iv0 4 j = iv 4 j then 0 else 1) 576 ∧ (∀ j, j < 576 → 0 ≤ iv 4 j ∧ iv 4 j ≤ 6) ∧ ∀ j, 576 ≤ j → iv 4 j = iv0 4 j
theorem ChG.rf {iv : Nat → Nat → Int} (h : ∀ j, j < 576 → 0 ≤ iv 4 j ∧ iv 4 j ≤ 6) : ChG iv iv 0 :=
  ⟨fun _ _ _ => rfl, fun c ⟨j, _, h, _⟩ => absurd rfl h, fun c _ => rfl, (sumN_zero (fun j _ => if_pos rfl)).symm, h, fun _ _ => rfl⟩
theorem ChG.n_b {iv0 iv : Nat → Nat → Int} {n : Int} (h : ChG iv0 iv n) : 0 ≤ n ∧ n ≤ 576 := by
  obtain ⟨-, -, -, h4, -⟩ := h
  rw [h4]
  have h1 : sumN (fun j => if iv0 4 j = iv 4 j then (0 : Int) else 1) 576 ≤ (576 : Nat) * 1 := sumN_le (fun j _ => by split <;> omega)
  have h2 : 0 ≤ sumN (fun j => if iv0 4 j = iv 4 j then (0 : Int) else 1) 576 := sumN_nonneg (fun j _ => by split <;> omega)
  omega
theorem ChG.put {iv0 iv : Nat → Nat → Int} {n c : Int} {j0 : Nat} (h : ChG iv0 iv n) (hj : j0 < 576) (he : iv 4 j0 = iv0 4 j0) (hc : 0 ≤ c ∧ c ≤ 6) : ChG iv0 (putS iv j0 c) (n + putN iv j0 c) := by
  obtain ⟨h1, h2, h3, h4, h5, h6⟩ := h
  have hg := h5 j0 hj
  unfold putS putN
  by_cases e : iv 4 j0 = c
  · rw [if_pos e, if_pos e]
    exact ⟨h1, h2, h3, by omega, h5, h6⟩
  · rw [if_neg e, if_neg e]
    generalize hiv : setO (setO iv 4 (upI (iv 4) j0 c)) 3 (upI (upI (iv 3) (iv 4 j0).toNat 1) c.toNat 1) = iv2
    have g4 : iv2 4 = upI (iv 4) j0 c := by rw [← hiv, setO_ne (by omega), setO_same]
    have g3 : iv2 3 = upI (upI (iv 3) (iv 4 j0).toNat 1) c.toNat 1 := by rw [← hiv, setO_same]
    have gk : ∀ k, k ≠ 3 → k ≠ 4 → iv2 k = iv k := fun k a b => by rw [← hiv, setO_ne a, setO_ne b]
    have gj : ∀ j, j ≠ j0 → iv2 4 j = iv 4 j := fun j hne => by rw [g4, upI_ne hne]
    have g0 : iv2 4 j0 = c := by rw [g4, upI_same]
    refine ⟨fun k a b => (gk k a b).trans (h1 k a b), fun d hd => ?_, fun d hd => ?_, ?_, fun j hj2 => ?_, fun j hj2 => ?_⟩
    · rw [g3]
      by_cases e1 : d = c.toNat
      · rw [e1, upI_same]
      · rw [upI_ne e1]
        by_cases e2 : d = (iv 4 j0).toNat
        · rw [e2, upI_same]
        · rw [upI_ne e2]
          refine h2 d ?_
          obtain ⟨j, a1, a2, a3⟩ := hd
          by_cases ej : j = j0
          · subst ej
            rw [g0] at a2 a3
            omega
          · rw [gj j ej] at a2 a3
            exact ⟨j, a1, a2, a3⟩
    · have d1 : d ≠ c.toNat := fun q => hd ⟨j0, hj, by rw [g0]; omega, Or.inr (by rw [g0]; omega)⟩
      have d2 : d ≠ (iv 4 j0).toNat := fun q => hd ⟨j0, hj, by rw [g0]; omega, Or.inl (by omega)⟩
      rw [g3, upI_ne d1, upI_ne d2]
      refine h3 d (fun ⟨j, a1, a2, a3⟩ => hd ?_)
      by_cases ej : j = j0
      · subst ej; exact absurd he.symm a2
      · exact ⟨j, a1, by rw [gj j ej]; exact a2, by rw [gj j ej]; exact a3⟩
    · rw [sumN_upd (f := fun j => if iv0 4 j = iv 4 j then 0 else 1) hj (fun j _ hne => by rw [gj j hne]), ← h4, g0, if_pos he.symm, if_neg (by omega)]
      omega
    · by_cases ej : j = j0
      · subst ej; rw [g0]; exact hc
      · rw [gj j ej]; exact h5 j hj2
    · rw [gj j (by omega)]; exact h6 j hj2
theorem putS_4 {iv : Nat → Nat → Int} {j0 j : Nat} {c : Int} : putS iv j0 c 4 j = if j = j0 then c else iv 4 j := by
  unfold putS
  by_cases e : iv 4 j0 = c
  · rw [if_pos e]
    split
    · rename_i h; rw [h, e]
    · rfl
  · rw [if_neg e, setO_ne (by omega), setO_same]
    rfl
theorem putS_2 {iv : Nat → Nat → Int} {j0 : Nat} {c : Int} {k : Nat} (h3 : k ≠ 3) (h4 : k ≠ 4) : putS iv j0 c k = iv k := by
  unfold putS
  split
  · rfl
  · rw [setO_ne h3, setO_ne h4]
/-- a row of cells -/
theorem putRow_S {iv0 : Nat → Nat → Int} {x y c n0 : Int} {w hh len : Nat} (hw : iv 2 0 = w) (hw2 : w ≤ 24) (hh1 : iv 2 1 = hh) (hh2 : hh ≤ 24) (hx : 0 ≤ x) (hxl : x + len ≤ w) (hy : 0 ≤ y ∧ y < hh) (hc : 0 ≤ c ∧ c ≤ 6) (hch : ChG iv0 iv n0) (hfr : ∀ j : Nat, y * 24 + x ≤ j → (j : Int) < y * 24 + x + len → iv 4 j = iv0 4 j) :
    ∃ r iv2, Run sc 54 0 [some (Rf 2), some (I x), some (I y), some (I len), some (I c), none, none] [] (hp iv) = some (some (I r), hp iv2) ∧ ChG iv0 iv2 (n0 + r) ∧ 0 ≤ r ∧ r ≤ len ∧ ∀ j : Nat, iv2 4 j = if y * 24 + x ≤ j ∧ (j : Int) < y * 24 + x + len then c else iv 4 j := by
  rw [B_X3_putRow_0]
  obtain ⟨s, e, h⟩ := loop_ex (fun i (s : Int × (Nat → Nat → Int)) => Run sc 54 6 [some (Rf 2), some (I x), some (I y), some (I len), some (I c), some (I s.1), some (I i)] [] (hp s.2)) (fun i s => ChG iv0 s.2 (n0 + s.1) ∧ 0 ≤ s.1 ∧ s.1 ≤ i ∧ ∀ j : Nat, s.2 4 j = if y * 24 + x ≤ j ∧ (j : Int) < y * 24 + x + i then c else iv 4 j) len 0 (0, iv) (Nat.zero_le _) ⟨by rw [Int.add_zero]; exact hch, by omega, by omega, fun j => by rw [if_neg (by omega)]⟩ (fun i s _ hi hP => by
    obtain ⟨a1, a2, a3, a4⟩ := hP
    obtain ⟨r, iv1⟩ := s
    dsimp only at a1 a2 a3 a4 ⊢
    have k0 : iv1 2 = iv 2 := (a1.1 2 (by omega) (by omega)).trans (hch.1 2 (by omega) (by omega)).symm
    have hin : inC iv1 (x + i) y := by unfold inC; rw [k0]; omega
    have hj : (y * 24 + (x + i)).toNat < 576 := by omega
    have hval : iv1 4 (y * 24 + (x + i)).toNat = iv 4 (y * 24 + (x + i)).toNat := by rw [a4, if_neg (by omega)]
    have hput := a1.put (c := c) hj (by rw [hval]; exact hfr _ (by omega) (by omega)) hc
    refine ⟨(r + putN iv1 (y * 24 + (x + i)).toNat c, putS iv1 (y * 24 + (x + i)).toNat c), ?_, ?_, ?_, ?_, ?_⟩
    · have hpn : 0 ≤ putN iv1 (y * 24 + (x + i)).toNat c ∧ putN iv1 (y * 24 + (x + i)).toNat c ≤ 1 := by unfold putN; split <;> omega
      rw [B_X3_putRow_6, ite_T (by omega), chk_pos (by omega), put_S (by rw [k0]; omega) (by rw [k0]; omega) hin hc (a1.2.2.2.2.1 _ hj), aBind_some, pushR_some, B_X3_putRow_25, chk_pos (by omega), chk_pos (by omega)]
    · show ChG iv0 (putS iv1 (y * 24 + (x + i)).toNat c) (n0 + (r + putN iv1 (y * 24 + (x + i)).toNat c))
      rw [show n0 + (r + putN iv1 (y * 24 + (x + i)).toNat c) = n0 + r + putN iv1 (y * 24 + (x + i)).toNat c by omega]; exact hput
    · unfold putN; split <;> omega
    · unfold putN; split <;> omega
    · intro j
      show putS iv1 (y * 24 + (x + i)).toNat c 4 j = if y * 24 + x ≤ j ∧ (j : Int) < y * 24 + x + ((i + 1 : Nat) : Int) then c else iv 4 j
      rw [putS_4]
      by_cases ej : j = (y * 24 + (x + i)).toNat
      · rw [if_pos ej, if_pos (by omega)]
      · rw [if_neg ej, a4]
        by_cases q : y * 24 + x ≤ j ∧ (j : Int) < y * 24 + x + i
        · rw [if_pos q, if_pos (by omega)]
        · rw [if_neg q, if_neg (by omega)])
  obtain ⟨r, iv1⟩ := s
  obtain ⟨a1, a2, a3, a4⟩ := h
  refine ⟨r, iv1, (show _ = _ from e).trans ?_, a1, a2, a3, a4⟩
  show Run sc 54 6 [some (Rf 2), some (I x), some (I y), some (I len), some (I c), some (I r), some (I len)] [] (hp iv1) = _
  rw [B_X3_putRow_6, ite_F (by omega), B_X3_putRow_34]
end GRID2
