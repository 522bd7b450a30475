/-! StitchChart$Yarn, StitchChart$ColorRuns: what is read -/
section RUNS1
variable {sc : Nat × (Nat → Int)} {iv : Nat → Nat → Int}
def YarnB (iv : Nat → Nat → Int) : Prop := (0 ≤ iv 6 0 ∧ iv 6 0 ≤ 1000) ∧ 0 ≤ iv 6 1 ∧ iv 6 1 ≤ 200
/-- n runs of a color, within the chart -/
def RunsB (iv : Nat → Nat → Int) (k n : Nat) : Prop := iv (8 + 6 * k) 3 = n ∧ n ≤ 288 ∧ (∀ r, r < n → (0 ≤ iv (9 + 6 * k) r ∧ iv (9 + 6 * k) r ≤ 23) ∧ (0 ≤ iv (10 + 6 * k) r ∧ iv (10 + 6 * k) r ≤ 23) ∧ 0 ≤ iv (11 + 6 * k) r ∧ iv (11 + 6 * k) r ≤ 24)
def OrdB (iv : Nat → Nat → Int) (k n : Nat) : Prop := ∀ p, p < n → 0 ≤ iv (12 + 6 * k) p ∧ iv (12 + 6 * k) p < n
theorem carries_S {x : Int} : Run sc 74 0 [some (Rf 6), some (I x)] [] (hp iv) = some (some (I (if iv 6 0 < x then 0 else 1)), hp iv) := by
  by_cases h : iv 6 0 < x
  · rw [if_pos h]; simp (disch := omega) only [B_X5_carries_0, B_X5_carries_12, B_X5_carries_13, aBind_some, pushR_some, pushR_none, ite_T, ite_F, if_true, if_false, bck_pos, chk_pos, setO_ne, setO_same, upI_same, upI_ne]
  · rw [if_neg h]; simp (disch := omega) only [B_X5_carries_0, B_X5_carries_12, B_X5_carries_13, aBind_some, pushR_some, pushR_none, ite_T, ite_F, if_true, if_false, bck_pos, chk_pos, setO_ne, setO_same, upI_same, upI_ne]
theorem cost_S {x : Int} (hy : YarnB iv) : Run sc 75 0 [some (Rf 6), some (I x)] [] (hp iv) = some (some (I (cstF (iv 6 0) (iv 6 1) x)), hp iv) := by
  obtain ⟨h1, h2⟩ := hy
  unfold cstF
  by_cases h : iv 6 0 < x
  · rw [if_pos h]; simp (disch := omega) only [B_X5_cost_0, B_X5_cost_5, B_X5_cost_12, B_X5_cost_18, carries_S, aBind_some, pushR_some, pushR_none, ite_T, ite_F, if_true, if_false, bck_pos, chk_pos, setO_ne, setO_same, upI_same, upI_ne]
  · rw [if_neg h]; simp (disch := omega) only [B_X5_cost_0, B_X5_cost_5, B_X5_cost_12, B_X5_cost_18, carries_S, aBind_some, pushR_some, pushR_none, ite_T, ite_F, if_true, if_false, bck_pos, chk_pos, setO_ne, setO_same, upI_same, upI_ne]
theorem hasR_T {k n : Nat} (hk : k < 6) {x : Int} (hR : RunsB iv k n) (h : 0 ≤ x ∧ x < n) : Run sc 30 0 [some (Rf (8 + 6 * k)), some (I x)] [] (hp iv) = some (some (I 1), hp iv) := by
  have h1 := hR.1
  rw [B_X2_has_0 _ _ _ hk, ite_F (by omega), ite_T (by omega), B_X2_has_17 _ _ _ hk, bck_pos (by omega)]
theorem hasR_F {k n : Nat} (hk : k < 6) {x : Int} (hR : RunsB iv k n) (h : ¬ (0 ≤ x ∧ x < n)) : Run sc 30 0 [some (Rf (8 + 6 * k)), some (I x)] [] (hp iv) = some (some (I 0), hp iv) := by
  have h1 := hR.1
  by_cases h2 : x < 0
  · rw [B_X2_has_0 _ _ _ hk, ite_T (by omega), B_X2_has_16 _ _ _ hk, B_X2_has_17 _ _ _ hk, bck_pos (by omega)]
  · rw [B_X2_has_0 _ _ _ hk, ite_F (by omega), ite_F (by omega), B_X2_has_16 _ _ _ hk, B_X2_has_17 _ _ _ hk, bck_pos (by omega)]
theorem way_S {k n a b : Nat} (hk : k < 6) (hR : RunsB iv k n) (ha : a < n) (hb : b < n) : Run sc 35 0 [some (Rf (8 + 6 * k)), some (I a), some (I b)] [] (hp iv) = some (some (I (wayF (iv (9 + 6 * k)) (iv (10 + 6 * k)) a b)), hp iv) := by
  obtain ⟨h1, h2, h3⟩ := id hR
  have ea := h3 a ha
  have eb := h3 b hb
  have f1 := absI_b (z := iv (9 + 6 * k) a - iv (9 + 6 * k) b) (m := 23) (by omega)
  have f2 := absI_b (z := iv (10 + 6 * k) a - iv (10 + 6 * k) b) (m := 23) (by omega)
  rw [B_X2_wayBetween_0 _ _ _ hk, hasR_T hk hR (by omega), aBind_some, pushR_some, B_X2_wayBetween_5 _ _ _ hk, ite_F (by omega), hasR_T hk hR (by omega), aBind_some, pushR_some, B_X2_wayBetween_13 _ _ _ hk, ite_F (by omega), B_X2_wayBetween_18 _ _ _ hk]
  simp only [Int.toNat_natCast]
  unfold absI at f1 f2
  unfold wayF absI
  simp (disch := omega) only [bck_pos, chk_pos]
theorem runAtP_S {k n : Nat} {p : Int} (hk : k < 6) (hR : RunsB iv k n) : Run sc 36 0 [some (Rf (8 + 6 * k)), some (I p)] [] (hp iv) = some (some (I (rP n (iv (12 + 6 * k)) p)), hp iv) := by
  have h2 := hR.2.1
  unfold rP
  by_cases h : 0 ≤ p ∧ p < n
  · rw [if_pos h, B_X2_runAtPlace_0 _ _ _ hk, hasR_T hk hR h, aBind_some, pushR_some, B_X2_runAtPlace_5 _ _ _ hk, ite_F (by omega), bck_pos (by omega), B_X2_runAtPlace_18 _ _ _ hk]
  · rw [if_neg h, B_X2_runAtPlace_0 _ _ _ hk, hasR_F hk hR h, aBind_some, pushR_some, B_X2_runAtPlace_5 _ _ _ hk, ite_T (by omega), B_X2_runAtPlace_17 _ _ _ hk, B_X2_runAtPlace_18 _ _ _ hk]
theorem costB_S {k n : Nat} {a b : Int} (hk : k < 6) (hR : RunsB iv k n) (hy : YarnB iv) : Run sc 37 0 [some (Rf (8 + 6 * k)), some (I a), some (I b)] [] (hp iv) = some (some (I (cB n (iv (9 + 6 * k)) (iv (10 + 6 * k)) (iv 6 0) (iv 6 1) a b)), hp iv) := by
  have h2 := hR.2.1
  unfold cB
  by_cases h : (0 ≤ a ∧ a < n) ∧ (0 ≤ b ∧ b < n)
  · rw [if_pos h]
    have e1 : a = ((a.toNat : Nat) : Int) := by omega
    have e2 : b = ((b.toNat : Nat) : Int) := by omega
    rw [B_X2_costBetween_0 _ _ _ hk, hasR_T hk hR h.1, aBind_some, pushR_some, B_X2_costBetween_5 _ _ _ hk, ite_F (by omega), hasR_T hk hR h.2, aBind_some, pushR_some, B_X2_costBetween_13 _ _ _ hk, ite_F (by omega)]
    have hw := way_S (sc := sc) (a := a.toNat) (b := b.toNat) hk hR (by omega) (by omega)
    rw [← e1, ← e2] at hw
    rw [hw, aBind_some, pushR_some, B_X2_costBetween_26 _ _ _ hk, cost_S hy, aBind_some, pushR_some, B_X2_costBetween_29 _ _ _ hk, B_X2_costBetween_33 _ _ _ hk]
  · rw [if_neg h]
    by_cases ha : 0 ≤ a ∧ a < n
    · rw [B_X2_costBetween_0 _ _ _ hk, hasR_T hk hR ha, aBind_some, pushR_some, B_X2_costBetween_5 _ _ _ hk, ite_F (by omega), hasR_F hk hR (fun z => h ⟨ha, z⟩), aBind_some, pushR_some, B_X2_costBetween_13 _ _ _ hk, ite_T (by omega), B_X2_costBetween_32 _ _ _ hk, B_X2_costBetween_33 _ _ _ hk]
    · rw [B_X2_costBetween_0 _ _ _ hk, hasR_F hk hR ha, aBind_some, pushR_some, B_X2_costBetween_5 _ _ _ hk, ite_T (by omega), B_X2_costBetween_32 _ _ _ hk, B_X2_costBetween_33 _ _ _ hk]
theorem cB_b {k n : Nat} {a b : Int} (hR : RunsB iv k n) (hy : YarnB iv) : 0 ≤ cB n (iv (9 + 6 * k)) (iv (10 + 6 * k)) (iv 6 0) (iv 6 1) a b ∧ cB n (iv (9 + 6 * k)) (iv (10 + 6 * k)) (iv 6 0) (iv 6 1) a b ≤ 1000 := by
  unfold cB
  split
  · rename_i h
    have ea := hR.2.2 a.toNat (by omega)
    have eb := hR.2.2 b.toNat (by omega)
    have hw := wayF_b (X := iv (9 + 6 * k)) (Y := iv (10 + 6 * k)) (a := a.toNat) (b := b.toNat) ea.1 eb.1 ea.2.1 eb.2.1
    exact cstF_b hy.1 hy.2 hw.1
  · omega
theorem sum288 {f : Nat → Int} {n : Nat} {c : Int} (hn : n ≤ 288) (hc : 0 ≤ c ∧ c ≤ 2000) (h : ∀ i, i < n → 0 ≤ f i ∧ f i ≤ c) : 0 ≤ sumN f n ∧ sumN f n ≤ 576000 := by
  refine ⟨sumN_nonneg fun i hi => (h i hi).1, ?_⟩
  have h1 := sumN_le (n := n) (fun i hi => (h i hi).2)
  have h2 : (n : Int) * c ≤ 288 * 2000 := Int.mul_le_mul (by omega) hc.2 hc.1 (by omega)
  omega
theorem stitches_S {k n : Nat} (hk : k < 6) (hR : RunsB iv k n) : Run sc 38 0 [some (Rf (8 + 6 * k)), none, none] [] (hp iv) = some (some (I (sumN (iv (11 + 6 * k)) n)), hp iv) := by
  obtain ⟨h1, h2, h3⟩ := id hR
  rw [B_X2_stitches_0 _ _ _ hk]
  obtain ⟨s, e, h⟩ := loop_ex (fun i s => Run sc 38 4 [some (Rf (8 + 6 * k)), some (I s), some (I i)] [] (hp iv)) (fun i s => s = sumN (iv (11 + 6 * k)) i) n 0 0 (Nat.zero_le _) rfl (fun i s _ hi hP => by
    have hs := sum288 (f := iv (11 + 6 * k)) (n := i) (c := 24) (by omega) (by omega) (fun j hj => (h3 j (by omega)).2.2)
    have hl := h3 i hi
    refine ⟨sumN (iv (11 + 6 * k)) (i + 1), ?_, rfl⟩
    show Run sc 38 4 [some (Rf (8 + 6 * k)), some (I s), some (I i)] [] (hp iv) = Run sc 38 4 [some (Rf (8 + 6 * k)), some (I (sumN (iv (11 + 6 * k)) i + iv (11 + 6 * k) i)), some (I (i + 1))] [] (hp iv)
    rw [B_X2_stitches_4 _ _ _ hk, ite_T (by omega), bck_pos (by omega), Int.toNat_natCast, hP, chk_pos (by omega), chk_pos (by omega)])
  refine (show _ = _ from e).trans ?_
  show Run sc 38 4 [some (Rf (8 + 6 * k)), some (I s), some (I n)] [] (hp iv) = _
  rw [B_X2_stitches_4 _ _ _ hk, ite_F (by omega), B_X2_stitches_27 _ _ _ hk, h]
theorem cpF_cB {k n p : Nat} (hO : OrdB iv k n) (hp0 : p ≠ 0) (hpn : p < n) : cB n (iv (9 + 6 * k)) (iv (10 + 6 * k)) (iv 6 0) (iv 6 1) (rP n (iv (12 + 6 * k)) ((p : Int) - 1)) (rP n (iv (12 + 6 * k)) p) = cpF (iv (9 + 6 * k)) (iv (10 + 6 * k)) (iv 6 0) (iv 6 1) (iv (12 + 6 * k)) p := by
  have e1 : ((p : Int) - 1) = ((p - 1 : Nat) : Int) := by omega
  have h1 := hO p hpn
  have h2 := hO (p - 1) (by omega)
  rw [e1, rP_in (by omega), rP_in hpn]
  unfold cB cpF
  rw [if_pos ⟨h2, h1⟩, if_neg hp0]
theorem cpF_b {k n p : Nat} (hR : RunsB iv k n) (hy : YarnB iv) (hO : OrdB iv k n) (hpn : p < n) : 0 ≤ cpF (iv (9 + 6 * k)) (iv (10 + 6 * k)) (iv 6 0) (iv 6 1) (iv (12 + 6 * k)) p ∧ cpF (iv (9 + 6 * k)) (iv (10 + 6 * k)) (iv 6 0) (iv 6 1) (iv (12 + 6 * k)) p ≤ 1000 := by
  by_cases h : p = 0
  · unfold cpF; rw [if_pos h]; omega
  · rw [← cpF_cB hO h hpn]; exact cB_b hR hy
theorem thread_S {k n : Nat} (hk : k < 6) (hR : RunsB iv k n) (hy : YarnB iv) (hO : OrdB iv k n) : Run sc 39 0 [some (Rf (8 + 6 * k)), none, none] [] (hp iv) = some (some (I (thrF n (iv (9 + 6 * k)) (iv (10 + 6 * k)) (iv (11 + 6 * k)) (iv 6 0) (iv 6 1) (iv (12 + 6 * k)))), hp iv) := by
  obtain ⟨h1, h2, h3⟩ := id hR
  obtain ⟨y1, y2⟩ := id hy
  rw [B_X2_threadLength_0 _ _ _ hk]
  by_cases hn : n = 0
  · subst hn
    rw [ite_T (by omega)]
    rfl
  · have hs := sum288 (f := iv (11 + 6 * k)) (n := n) (c := 24) (by omega) (by omega) (fun j hj => (h3 j (by omega)).2.2)
    rw [ite_F (by omega), B_X2_threadLength_9 _ _ _ hk, chk_pos (by omega), stitches_S hk hR, aBind_some, pushR_some, B_X2_threadLength_24 _ _ _ hk, chk_pos (by omega), chk_pos (by omega)]
    obtain ⟨s, e, h⟩ := loop_ex (fun i s => Run sc 39 29 [some (Rf (8 + 6 * k)), some (I s), some (I i)] [] (hp iv)) (fun i s => s = 2 * iv 6 1 + 48 * sumN (iv (11 + 6 * k)) n + sumN (cpF (iv (9 + 6 * k)) (iv (10 + 6 * k)) (iv 6 0) (iv 6 1) (iv (12 + 6 * k))) i) n 1 (2 * iv 6 1 + 48 * sumN (iv (11 + 6 * k)) n) (by omega) (by show _ = _ + (0 + cpF _ _ _ _ _ 0); unfold cpF; rw [if_pos rfl]; omega) (fun i s hi1 hi hP => by
      have hc := sum288 (f := cpF (iv (9 + 6 * k)) (iv (10 + 6 * k)) (iv 6 0) (iv 6 1) (iv (12 + 6 * k))) (n := i) (c := 1000) (by omega) (by omega) (fun j hj => cpF_b hR hy hO (by omega))
      have hb := cpF_b hR hy hO hi
      refine ⟨s + cpF (iv (9 + 6 * k)) (iv (10 + 6 * k)) (iv 6 0) (iv 6 1) (iv (12 + 6 * k)) i, ?_, by rw [hP]; show _ = _ + (_ + _); omega⟩
      rw [B_X2_threadLength_29 _ _ _ hk, ite_T (by omega), chk_pos (by omega), runAtP_S hk hR, aBind_some, pushR_some, B_X2_threadLength_46 _ _ _ hk, runAtP_S hk hR, aBind_some, pushR_some, B_X2_threadLength_51 _ _ _ hk, costB_S hk hR hy, aBind_some, pushR_some, cpF_cB hO (by omega) hi, B_X2_threadLength_54 _ _ _ hk, chk_pos (by omega), chk_pos (by omega)])
    refine (show _ = _ from e).trans ?_
    show Run sc 39 29 [some (Rf (8 + 6 * k)), some (I s), some (I n)] [] (hp iv) = _
    rw [B_X2_threadLength_29 _ _ _ hk, ite_F (by omega), B_X2_threadLength_62 _ _ _ hk, h]
    unfold thrF
    rw [if_neg hn, sumN_add, sumN_mul]
    rw [Int.add_assoc]
theorem starts_S {k n : Nat} (hk : k < 6) (hR : RunsB iv k n) (hO : OrdB iv k n) : Run sc 40 0 [some (Rf (8 + 6 * k)), none, none] [] (hp iv) = some (some (I (staF n (iv (9 + 6 * k)) (iv (10 + 6 * k)) (iv 6 0) (iv (12 + 6 * k)))), hp iv) := by
  obtain ⟨h1, h2, h3⟩ := id hR
  rw [B_X2_starts_0 _ _ _ hk]
  unfold staF
  by_cases hn : n = 0
  · subst hn
    rw [ite_T (by omega), if_pos rfl]
  · rw [ite_F (by omega), B_X2_starts_9 _ _ _ hk, if_neg hn]
    obtain ⟨s, e, h⟩ := loop_ex (fun i s => Run sc 40 13 [some (Rf (8 + 6 * k)), some (I s), some (I i)] [] (hp iv)) (fun i s => s = 1 + sumN (fun p => if p = 0 then 0 else if iv 6 0 < wayF (iv (9 + 6 * k)) (iv (10 + 6 * k)) (iv (12 + 6 * k) (p - 1)).toNat (iv (12 + 6 * k) p).toNat then 1 else 0) i ∧ 0 ≤ s ∧ s ≤ i) n 1 1 (by omega) ⟨rfl, by omega, by omega⟩ (fun i s hi1 hi hP => by
      obtain ⟨p1, p2, p3⟩ := hP
      have o1 := hO i hi
      have o2 := hO (i - 1) (by omega)
      have e1 : ((i : Int) - 1) = ((i - 1 : Nat) : Int) := by omega
      have e2 : iv (12 + 6 * k) i = ((iv (12 + 6 * k) i).toNat : Int) := by omega
      have e3 : iv (12 + 6 * k) (i - 1) = ((iv (12 + 6 * k) (i - 1)).toNat : Int) := by omega
      have hw := way_S (sc := sc) (a := (iv (12 + 6 * k) (i - 1)).toNat) (b := (iv (12 + 6 * k) i).toNat) hk hR (by omega) (by omega)
      rw [← e2, ← e3] at hw
      refine ⟨s + (if iv 6 0 < wayF (iv (9 + 6 * k)) (iv (10 + 6 * k)) (iv (12 + 6 * k) (i - 1)).toNat (iv (12 + 6 * k) i).toNat then 1 else 0), ?_, ?_, ?_, ?_⟩
      · rw [B_X2_starts_13 _ _ _ hk, ite_T (by omega), chk_pos (by omega), runAtP_S hk hR, aBind_some, pushR_some, B_X2_starts_33 _ _ _ hk, runAtP_S hk hR, aBind_some, pushR_some, e1, rP_in (p := i - 1) (by omega), rP_in hi, B_X2_starts_38 _ _ _ hk, hw, aBind_some, pushR_some, B_X2_starts_41 _ _ _ hk, carries_S, aBind_some, pushR_some, B_X2_starts_44 _ _ _ hk]
        by_cases c : iv 6 0 < wayF (iv (9 + 6 * k)) (iv (10 + 6 * k)) (iv (12 + 6 * k) (i - 1)).toNat (iv (12 + 6 * k) i).toNat
        · rw [if_pos c, if_pos rfl, if_pos c, chk_pos (by omega), B_X2_starts_50 _ _ _ hk, chk_pos (by omega)]
        · rw [if_neg c, if_neg (by omega), if_neg c, B_X2_starts_50 _ _ _ hk, chk_pos (by omega), Int.add_zero]
      · rw [p1]
        show _ = 1 + (_ + if i = 0 then 0 else _)
        rw [if_neg (show ¬ i = 0 by omega)]
        omega
      · split <;> omega
      · split <;> omega)
    refine (show _ = _ from e).trans ?_
    show Run sc 40 13 [some (Rf (8 + 6 * k)), some (I s), some (I n)] [] (hp iv) = _
    rw [B_X2_starts_13 _ _ _ hk, ite_F (by omega), B_X2_starts_56 _ _ _ hk, h.1]
theorem saved_S {k n a b : Nat} (hk : k < 6) (hR : RunsB iv k n) (hy : YarnB iv) (ha : a < n) (hb : b < n) : Run sc 45 0 [some (Rf (8 + 6 * k)), some (I a), some (I b), none, none, none, none, none, none, none] [] (hp iv) = some (some (I (svF n (iv (9 + 6 * k)) (iv (10 + 6 * k)) (iv 6 0) (iv 6 1) (iv (12 + 6 * k)) a b)), hp iv) := by
  have h2 := hR.2.1
  have cb := fun (x y : Int) => cB_b (a := x) (b := y) hR hy
  have fin : ∀ (u v : Int) (d8 d9 : Option AV), Run sc 45 58 [some (Rf (8 + 6 * k)), some (I a), some (I b), some (I (rP n (iv (12 + 6 * k)) a)), some (I (rP n (iv (12 + 6 * k)) (a - 1))), some (I (rP n (iv (12 + 6 * k)) (a + 1))), some (I u), none, none, none] [(I v)] (hp iv) = some (some (I ((cB n (iv (9 + 6 * k)) (iv (10 + 6 * k)) (iv 6 0) (iv 6 1) (rP n (iv (12 + 6 * k)) (a - 1)) (rP n (iv (12 + 6 * k)) a) + cB n (iv (9 + 6 * k)) (iv (10 + 6 * k)) (iv 6 0) (iv 6 1) (rP n (iv (12 + 6 * k)) a) (rP n (iv (12 + 6 * k)) (a + 1)) + cB n (iv (9 + 6 * k)) (iv (10 + 6 * k)) (iv 6 0) (iv 6 1) u v) - (cB n (iv (9 + 6 * k)) (iv (10 + 6 * k)) (iv 6 0) (iv 6 1) (rP n (iv (12 + 6 * k)) (a - 1)) (rP n (iv (12 + 6 * k)) (a + 1)) + cB n (iv (9 + 6 * k)) (iv (10 + 6 * k)) (iv 6 0) (iv 6 1) u (rP n (iv (12 + 6 * k)) a) + cB n (iv (9 + 6 * k)) (iv (10 + 6 * k)) (iv 6 0) (iv 6 1) (rP n (iv (12 + 6 * k)) a) v))), hp iv) := by
    intro u v d8 d9
    have c1 := cb (rP n (iv (12 + 6 * k)) (a - 1)) (rP n (iv (12 + 6 * k)) a)
    have c2 := cb (rP n (iv (12 + 6 * k)) a) (rP n (iv (12 + 6 * k)) (a + 1))
    have c3 := cb u v
    have c4 := cb (rP n (iv (12 + 6 * k)) (a - 1)) (rP n (iv (12 + 6 * k)) (a + 1))
    have c5 := cb u (rP n (iv (12 + 6 * k)) a)
    have c6 := cb (rP n (iv (12 + 6 * k)) a) v
    rw [B_X2_savedByMove_58 _ _ _ hk, costB_S hk hR hy, aBind_some, pushR_some, B_X2_savedByMove_67 _ _ _ hk, costB_S hk hR hy, aBind_some, pushR_some, B_X2_savedByMove_74 _ _ _ hk, chk_pos (by omega), costB_S hk hR hy, aBind_some, pushR_some, B_X2_savedByMove_83 _ _ _ hk, chk_pos (by omega), costB_S hk hR hy, aBind_some, pushR_some, B_X2_savedByMove_94 _ _ _ hk, costB_S hk hR hy, aBind_some, pushR_some, B_X2_savedByMove_101 _ _ _ hk, chk_pos (by omega), costB_S hk hR hy, aBind_some, pushR_some, B_X2_savedByMove_109 _ _ _ hk, chk_pos (by omega), chk_pos (by omega)]
  unfold svF
  rw [B_X2_savedByMove_0 _ _ _ hk, runAtP_S hk hR, aBind_some, pushR_some, B_X2_savedByMove_5 _ _ _ hk, chk_pos (by omega), runAtP_S hk hR, aBind_some, pushR_some, B_X2_savedByMove_13 _ _ _ hk, chk_pos (by omega), runAtP_S hk hR, aBind_some, pushR_some, B_X2_savedByMove_22 _ _ _ hk]
  by_cases c : (a : Int) < b
  · rw [if_pos c, if_pos c, if_pos c, B_X2_savedByMove_37 _ _ _ hk, runAtP_S hk hR, aBind_some, pushR_some, B_X2_savedByMove_40 _ _ _ hk, if_pos c, chk_pos (by omega), B_X2_savedByMove_55 _ _ _ hk, runAtP_S hk hR, aBind_some, pushR_some, fin _ _ none none]
  · rw [if_neg c, if_neg c, if_neg c, B_X2_savedByMove_34 _ _ _ hk, chk_pos (by omega), B_X2_savedByMove_37 _ _ _ hk, runAtP_S hk hR, aBind_some, pushR_some, B_X2_savedByMove_40 _ _ _ hk, if_neg c, B_X2_savedByMove_54 _ _ _ hk, B_X2_savedByMove_55 _ _ _ hk, runAtP_S hk hR, aBind_some, pushR_some, fin _ _ none none]
end RUNS1
