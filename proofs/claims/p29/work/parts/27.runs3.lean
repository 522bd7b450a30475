/-! StitchChart$ColorRuns: the first order -/
section RUNS3
variable {sc : Nat × (Nat → Int)} {iv : Nat → Nat → Int}
theorem nearF_s {d : Nat → Int} {pl : Nat → Bool} {n : Nat} : nearF d pl (n + 1) = match nearF d pl n with
    | none => if pl n = true then none else some n
    | some b => if pl n = true then some b else if d n < d b then some n else some b := rfl
theorem nearest_S {k n a b : Nat} {pl : Nat → Bool} (hk : k < 6) (hR : RunsB iv k n) (ha : a < n) (hpl : ∀ r, r < n → (pl r = true → iv (13 + 6 * k) r ≠ -1) ∧ (pl r = false → iv (13 + 6 * k) r = -1)) (hb : nearF (wayF (iv (9 + 6 * k)) (iv (10 + 6 * k)) a) pl n = some b) :
    Run sc 34 0 [some (Rf (8 + 6 * k)), some (I a), none, none, none, none] [] (hp iv) = some (some (I b), hp iv) := by
  obtain ⟨h1, h2, h3⟩ := id hR
  rw [B_X2_nearestWithoutPlace_0 _ _ _ hk]
  obtain ⟨s, e, g⟩ := loop_ex (fun i (s : (Int × Int) × Option AV) => Run sc 34 7 [some (Rf (8 + 6 * k)), some (I a), some (I s.1.1), some (I s.1.2), some (I i), s.2] [] (hp iv)) (fun i s => (nearF (wayF (iv (9 + 6 * k)) (iv (10 + 6 * k)) a) pl i = none ∧ s.1.1 = -1) ∨ ∃ b, nearF (wayF (iv (9 + 6 * k)) (iv (10 + 6 * k)) a) pl i = some b ∧ s.1.1 = (b : Nat) ∧ s.1.2 = wayF (iv (9 + 6 * k)) (iv (10 + 6 * k)) a b) n 0 ((-1, 0), none) (Nat.zero_le _) (Or.inl ⟨rfl, rfl⟩) (fun i s _ hi hP => by
    obtain ⟨⟨x2, x3⟩, d⟩ := s
    dsimp only at hP ⊢
    have hw := way_S (sc := sc) (a := a) (b := i) hk hR ha hi
    generalize hd : wayF (iv (9 + 6 * k)) (iv (10 + 6 * k)) a = D at *
    obtain ⟨p1, p2⟩ := hpl i hi
    rw [nearF_s]
    cases hp9 : pl i with
    | true =>
      have q := p1 hp9
      refine ⟨((x2, x3), d), ?_, ?_⟩
      · show Run sc 34 7 [some (Rf (8 + 6 * k)), some (I a), some (I x2), some (I x3), some (I i), d] [] (hp iv) = Run sc 34 7 [some (Rf (8 + 6 * k)), some (I a), some (I x2), some (I x3), some (I (i + 1)), d] [] (hp iv)
        rw [B_X2_nearestWithoutPlace_7 _ _ _ hk, ite_T (by omega), bck_pos (by omega), Int.toNat_natCast, ite_F q, B_X2_nearestWithoutPlace_53 _ _ _ hk, chk_pos (by omega)]
      · rcases hP with ⟨c1, c2⟩ | ⟨b1, c1, c2, c3⟩
        · rw [c1]; exact Or.inl ⟨if_pos rfl, c2⟩
        · rw [c1]; exact Or.inr ⟨b1, if_pos rfl, c2, c3⟩
    | false =>
      have q := p2 hp9
      rcases hP with ⟨c1, c2⟩ | ⟨b1, c1, c2, c3⟩
      · refine ⟨((i, D i), some (I (D i))), ?_, Or.inr ⟨i, by rw [c1]; exact if_neg (by decide), rfl, rfl⟩⟩
        show Run sc 34 7 [some (Rf (8 + 6 * k)), some (I a), some (I x2), some (I x3), some (I i), d] [] (hp iv) = Run sc 34 7 [some (Rf (8 + 6 * k)), some (I a), some (I i), some (I (D i)), some (I (i + 1)), some (I (D i))] [] (hp iv)
        rw [B_X2_nearestWithoutPlace_7 _ _ _ hk, ite_T (by omega), bck_pos (by omega), Int.toNat_natCast, ite_T q, hw, aBind_some, pushR_some, B_X2_nearestWithoutPlace_34 _ _ _ hk, ite_T (by omega), B_X2_nearestWithoutPlace_47 _ _ _ hk, B_X2_nearestWithoutPlace_53 _ _ _ hk, chk_pos (by omega)]
      · have e0 : Run sc 34 7 [some (Rf (8 + 6 * k)), some (I a), some (I x2), some (I x3), some (I i), d] [] (hp iv) = if D i < D b1 then Run sc 34 47 [some (Rf (8 + 6 * k)), some (I a), some (I x2), some (I x3), some (I i), some (I (D i))] [] (hp iv) else Run sc 34 53 [some (Rf (8 + 6 * k)), some (I a), some (I x2), some (I x3), some (I i), some (I (D i))] [] (hp iv) := by
          rw [B_X2_nearestWithoutPlace_7 _ _ _ hk, ite_T (by omega), bck_pos (by omega), Int.toNat_natCast, ite_T q, hw, aBind_some, pushR_some, B_X2_nearestWithoutPlace_34 _ _ _ hk, ite_F (by omega), c3]
        by_cases c : D i < D b1
        · refine ⟨((i, D i), some (I (D i))), ?_, Or.inr ⟨i, by rw [c1]; dsimp only; rw [if_neg (by decide), if_pos c], rfl, rfl⟩⟩
          show Run sc 34 7 [some (Rf (8 + 6 * k)), some (I a), some (I x2), some (I x3), some (I i), d] [] (hp iv) = Run sc 34 7 [some (Rf (8 + 6 * k)), some (I a), some (I i), some (I (D i)), some (I (i + 1)), some (I (D i))] [] (hp iv)
          rw [e0, if_pos c, B_X2_nearestWithoutPlace_47 _ _ _ hk, B_X2_nearestWithoutPlace_53 _ _ _ hk, chk_pos (by omega)]
        · refine ⟨((x2, x3), some (I (D i))), ?_, Or.inr ⟨b1, by rw [c1]; dsimp only; rw [if_neg (by decide), if_neg c], c2, c3⟩⟩
          show Run sc 34 7 [some (Rf (8 + 6 * k)), some (I a), some (I x2), some (I x3), some (I i), d] [] (hp iv) = Run sc 34 7 [some (Rf (8 + 6 * k)), some (I a), some (I x2), some (I x3), some (I (i + 1)), some (I (D i))] [] (hp iv)
          rw [e0, if_neg c, B_X2_nearestWithoutPlace_53 _ _ _ hk, chk_pos (by omega)])
  obtain ⟨⟨x2, x3⟩, d⟩ := s
  dsimp only at g
  refine (show _ = _ from e).trans ?_
  show Run sc 34 7 [some (Rf (8 + 6 * k)), some (I a), some (I x2), some (I x3), some (I n), d] [] (hp iv) = _
  rw [B_X2_nearestWithoutPlace_7 _ _ _ hk, ite_F (by omega), B_X2_nearestWithoutPlace_59 _ _ _ hk]
  rcases g with ⟨c1, -⟩ | ⟨b1, c1, c2, -⟩
  · rw [c1] at hb; cases hb
  · rw [c1] at hb; cases hb; rw [c2]
set_option maxHeartbeats 4000000 in
theorem firstOrd_S {k n : Nat} (hk : k < 6) (hR : RunsB iv k n) :
    ∃ iv2, Run sc 33 0 [some (Rf (8 + 6 * k)), none, none] [] (hp iv) = some (none, hp iv2) ∧ OnlyO iv iv2 k ∧ (∀ p, p < n → iv2 (12 + 6 * k) p = foO n (iv (9 + 6 * k)) (iv (10 + 6 * k)) p) ∧ ∀ r, r < n → iv2 (13 + 6 * k) r = foI n (iv (9 + 6 * k)) (iv (10 + 6 * k)) n r := by
  have h2 := hR.2.1
  generalize hX : iv (9 + 6 * k) = X at *
  generalize hY : iv (10 + 6 * k) = Y at *
  rw [B_X2_makeOrderFirst_0 _ _ _ hk]
  obtain ⟨s, e, g1, g2⟩ := loop_ex (fun i (s : Nat → Nat → Int) => Run sc 33 2 [some (Rf (8 + 6 * k)), some (I i), none] [] (hp s)) (fun i s => OnlyO iv s k ∧ ∀ r, r < i → s (13 + 6 * k) r = -1) n 0 iv (Nat.zero_le _) ⟨OnlyO.rf, fun r hr => absurd hr (by omega)⟩ (fun i s _ hi hP => by
    obtain ⟨a1, a2⟩ := hP
    refine ⟨setO s (13 + 6 * k) (upI (s (13 + 6 * k)) i (-1)), ?_, fun j q1 q2 => by rw [setO_ne q2]; exact a1 j q1 q2, fun r hr => ?_⟩
    · rw [B_X2_makeOrderFirst_2 _ _ _ hk, ite_T (by rw [(hR.only a1).1]; omega), bck_pos (by omega), bck_pos (by omega), Int.toNat_natCast, B_X2_makeOrderFirst_17 _ _ _ hk, chk_pos (by omega)]
    · rw [setO_same]
      by_cases e1 : r = i
      · rw [e1, upI_same]
      · rw [upI_ne e1]; exact a2 r (by omega))
  have e0 : Run sc 33 2 [some (Rf (8 + 6 * k)), some (I 0), none] [] (hp iv) = Run sc 33 27 [some (Rf (8 + 6 * k)), some (I 0), some (I 0)] [] (hp s) := by
    refine (show _ = _ from e).trans ?_
    show Run sc 33 2 [some (Rf (8 + 6 * k)), some (I n), none] [] (hp s) = _
    rw [B_X2_makeOrderFirst_2 _ _ _ hk, ite_F (by rw [(hR.only g1).1]; omega), B_X2_makeOrderFirst_23 _ _ _ hk]
  rw [e0]
  obtain ⟨q, e2, f1, f2, f3, f4⟩ := loop_ex (fun i (s : Int × (Nat → Nat → Int)) => Run sc 33 27 [some (Rf (8 + 6 * k)), some (I s.1), some (I i)] [] (hp s.2)) (fun i s => OnlyO iv s.2 k ∧ s.1 = (foS n X Y i).1 ∧ (∀ p, p < i → s.2 (12 + 6 * k) p = foO n X Y p) ∧ ∀ r, r < n → s.2 (13 + 6 * k) r = if (foS n X Y i).2 r = true then (foI n X Y i r : Int) else -1) n 0 (0, s) (Nat.zero_le _) ⟨g1, rfl, fun p hp => absurd hp (by omega), fun r hr => by show s (13 + 6 * k) r = if (false = true) then ((foI n X Y 0 r : Nat) : Int) else -1; rw [if_neg (by decide)]; exact g2 r hr⟩ (fun i s _ hi hP => by
    obtain ⟨x1, ivx⟩ := s
    obtain ⟨a1, a2, a3, a4⟩ := hP
    dsimp only at a1 a2 a3 a4 ⊢
    have hR1 := hR.only a1
    obtain ⟨k1, k2, k3, k4⟩ := foO_ok (n := n) (X := X) (Y := Y) hi
    have first : Run sc 33 27 [some (Rf (8 + 6 * k)), some (I x1), some (I i)] [] (hp ivx) = Run sc 33 45 [some (Rf (8 + 6 * k)), some (I (foO n X Y i)), some (I i)] [] (hp ivx) := by
      rw [B_X2_makeOrderFirst_27 _ _ _ hk, ite_T (by rw [hR1.1]; omega)]
      by_cases h0 : i = 0
      · rw [ite_F (by omega), k4 h0, a2, h0]; rfl
      · have hl : (foS n X Y i).1 < n := by
          obtain ⟨j, rfl⟩ : ∃ j, i = j + 1 := ⟨i - 1, by omega⟩
          exact (foO_ok (n := n) (X := X) (Y := Y) (k := j) (by omega)).1
        have hn := k3 h0
        rw [ite_T (by omega), a2, nearest_S (pl := (foS n X Y i).2) hk hR1 hl (fun r hr => ⟨fun z => by rw [a4 r hr, if_pos z]; omega, fun z => by rw [a4 r hr, if_neg (by rw [z]; decide)]⟩) (by rw [a1 (9 + 6 * k) (by omega) (by omega), a1 (10 + 6 * k) (by omega) (by omega), hX, hY]; exact hn), aBind_some, pushR_some, B_X2_makeOrderFirst_44 _ _ _ hk]
    refine ⟨((foO n X Y i : Int), setO (setO ivx (12 + 6 * k) (upI (ivx (12 + 6 * k)) i (foO n X Y i))) (13 + 6 * k) (upI (ivx (13 + 6 * k)) (foO n X Y i) i)), ?_, fun j q1 q2 => by show setO (setO ivx (12 + 6 * k) (upI (ivx (12 + 6 * k)) i (foO n X Y i))) (13 + 6 * k) (upI (ivx (13 + 6 * k)) (foO n X Y i) i) j = _; rw [setO_ne q2, setO_ne q1]; exact a1 j q1 q2, rfl, fun p hp => ?_, fun r hr => ?_⟩
    · show Run sc 33 27 [some (Rf (8 + 6 * k)), some (I x1), some (I i)] [] (hp ivx) = Run sc 33 27 [some (Rf (8 + 6 * k)), some (I (foO n X Y i)), some (I (i + 1))] [] (hp (setO (setO ivx (12 + 6 * k) (upI (ivx (12 + 6 * k)) i (foO n X Y i))) (13 + 6 * k) (upI (ivx (13 + 6 * k)) (foO n X Y i) i)))
      rw [first, B_X2_makeOrderFirst_45 _ _ _ hk, hasR_T hk hR1 (by omega), aBind_some, pushR_some, B_X2_makeOrderFirst_50 _ _ _ hk, ite_F (by omega), bck_pos (by omega), bck_pos (by omega), B_X2_makeOrderFirst_60 _ _ _ hk, bck_pos (by omega), bck_pos (by omega), B_X2_makeOrderFirst_67 _ _ _ hk, chk_pos (by omega), setO_ne (show 13 + 6 * k ≠ 12 + 6 * k by omega)]
      simp only [Int.toNat_natCast]
    · show setO (setO ivx (12 + 6 * k) (upI (ivx (12 + 6 * k)) i (foO n X Y i))) (13 + 6 * k) (upI (ivx (13 + 6 * k)) (foO n X Y i) i) (12 + 6 * k) p = _
      rw [setO_ne (by omega), setO_same]
      by_cases e1 : p = i
      · rw [e1, upI_same]
      · rw [upI_ne e1]; exact a3 p (by omega)
    · show setO (setO ivx (12 + 6 * k) (upI (ivx (12 + 6 * k)) i (foO n X Y i))) (13 + 6 * k) (upI (ivx (13 + 6 * k)) (foO n X Y i) i) (13 + 6 * k) r = _
      rw [setO_same, foS_2]
      have ef : foI n X Y (i + 1) r = if foO n X Y i = r then i else foI n X Y i r := rfl
      rw [ef]
      by_cases e1 : r = foO n X Y i
      · rw [e1, upI_same, decide_eq_true rfl, Bool.or_true, if_pos rfl, if_pos rfl]
      · rw [upI_ne e1, a4 r hr, decide_eq_false e1, Bool.or_false, if_neg (show ¬ foO n X Y i = r from fun z => e1 z.symm)])
  obtain ⟨x1, ivx⟩ := q
  dsimp only at f1 f2 f3 f4
  refine ⟨ivx, (show _ = _ from e2).trans ?_, f1, f3, fun r hr => by rw [f4 r hr, if_pos (foS_all hr)]⟩
  show Run sc 33 27 [some (Rf (8 + 6 * k)), some (I x1), some (I n)] [] (hp ivx) = _
  rw [B_X2_makeOrderFirst_27 _ _ _ hk, ite_F (by rw [(hR.only f1).1]; omega), B_X2_makeOrderFirst_73 _ _ _ hk]
end RUNS3
