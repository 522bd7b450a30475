/-! StitchChartModel: orders changed -/
section MORD
variable {sc : Nat × (Nat → Int)} {iv : Nat → Nat → Int}
/-- only the order of a color and what is placed differ -/
def OnlyM (iv iv2 : Nat → Nat → Int) (c : Nat) : Prop := (∀ k, k ≠ 61 → k ≠ 62 → iv2 k = iv k) ∧ ∀ j, (j < 288 * c ∨ 288 * c + 288 ≤ j) → iv2 61 j = iv 61 j
theorem OnlyM.rf {c : Nat} : OnlyM iv iv c := ⟨fun _ _ _ => rfl, fun _ _ => rfl⟩
theorem OnlyM.tr {iv iv2 iv3 : Nat → Nat → Int} {c : Nat} (h : OnlyM iv iv2 c) (h2 : OnlyM iv2 iv3 c) : OnlyM iv iv3 c := ⟨fun j a b => (h2.1 j a b).trans (h.1 j a b), fun f a => (h2.2 f a).trans (h.2 f a)⟩
theorem OnlyM.X {iv iv2 : Nat → Nat → Int} {c d : Nat} (h : OnlyM iv iv2 c) : mX iv2 d = mX iv d ∧ mY iv2 d = mY iv d ∧ mL iv2 d = mL iv d := by
  refine ⟨?_, ?_, ?_⟩
  · funext r; unfold mX; rw [h.1 58 (by omega) (by omega)]
  · funext r; unfold mY; rw [h.1 59 (by omega) (by omega)]
  · funext r; unfold mL; rw [h.1 60 (by omega) (by omega)]
theorem MRunB.only {iv iv2 : Nat → Nat → Int} {c d n : Nat} (hR : MRunB iv d n) (h : OnlyM iv iv2 c) : MRunB iv2 d n := by
  unfold MRunB at hR ⊢
  rw [h.1 57 (by omega) (by omega), h.X.1, h.X.2.1, h.X.2.2]; exact hR
theorem OnlyM.yarn {iv iv2 : Nat → Nat → Int} {c : Nat} (hy : MYarn iv) (h : OnlyM iv iv2 c) : MYarn iv2 := by
  unfold MYarn at hy ⊢
  rw [h.1 52 (by omega) (by omega)]; exact hy
/-- an order set at a place -/
theorem setM_O {c p q : Nat} {v : Int} : mO (setO iv 61 (upI (iv 61) (288 * c + p) v)) c q = if q = p then v else mO iv c q := by
  unfold mO
  rw [setO_same]
  by_cases e : q = p
  · rw [if_pos e, e, upI_same]
  · rw [if_neg e, upI_ne (by omega)]
theorem setM_only {c p : Nat} {v : Int} (hpp : p < 288) : OnlyM iv (setO iv 61 (upI (iv 61) (288 * c + p) v)) c := ⟨fun k a _ => by rw [setO_ne a], fun j hj => by rw [setO_same, upI_ne (by omega)]⟩
set_option maxHeartbeats 2000000 in
theorem lord_M {c n : Nat} (hR : MRunB iv c n) : ∃ iv2, Run sc 117 0 [some (Rf 52), some (I c), none, none, none, none] [] (hp iv) = some (none, hp iv2) ∧ OnlyM iv iv2 c ∧ ∀ p, p < n → mO iv2 c p = foO n (mX iv c) (mY iv c) p := by
  obtain ⟨h0, h1, h2, h3⟩ := id hR
  rw [B_X7_layOrder_0]
  obtain ⟨s, e, g1, g2⟩ := loop_ex (fun i (s : Nat → Nat → Int) => Run sc 117 2 [some (Rf 52), some (I c), some (I i), none, none, none] [] (hp s)) (fun i s => OnlyM iv s c ∧ ∀ r, r < i → s 62 r = 0) n 0 iv (Nat.zero_le _) ⟨OnlyM.rf, fun r hr => absurd hr (Nat.not_lt_zero _)⟩ (fun i s _ hi hP => by
    obtain ⟨a1, a2⟩ := hP
    refine ⟨setO s 62 (upI (s 62) i 0), ?_, ⟨fun k b1 b2 => by rw [setO_ne b2]; exact a1.1 k b1 b2, fun j hj => by rw [setO_ne (by omega)]; exact a1.2 j hj⟩, fun r hr => ?_⟩
    · rw [B_X7_layOrder_2, bck_pos (by omega), Int.toNat_natCast, (hR.only a1).2.1, ite_T (by omega), bck_pos (by omega), bck_pos (by omega), B_X7_layOrder_19, chk_pos (by omega), Int.toNat_natCast]
    · rw [setO_same]
      by_cases q : r = i
      · rw [q, upI_same]
      · rw [upI_ne q]; exact a2 r (by omega))
  have e0 : Run sc 117 2 [some (Rf 52), some (I c), some (I 0), none, none, none] [] (hp iv) = Run sc 117 29 [some (Rf 52), some (I c), some (I 0), some (I 0), none, none] [] (hp s) := by
    refine (show _ = _ from e).trans ?_
    show Run sc 117 2 [some (Rf 52), some (I c), some (I n), none, none, none] [] (hp s) = _
    rw [B_X7_layOrder_2, bck_pos (by omega), Int.toNat_natCast, (hR.only g1).2.1, ite_F (by omega), B_X7_layOrder_25]
  rw [e0]
  obtain ⟨q, e2, f1, f2, f3, f4⟩ := loop_ex (fun k (s : (Int × Option AV × Option AV) × (Nat → Nat → Int)) => Run sc 117 29 [some (Rf 52), some (I c), some (I s.1.1), some (I k), s.1.2.1, s.1.2.2] [] (hp s.2)) (fun k s => OnlyM iv s.2 c ∧ s.1.1 = (foS n (mX iv c) (mY iv c) k).1 ∧ (∀ p, p < k → mO s.2 c p = foO n (mX iv c) (mY iv c) p) ∧ ∀ r, r < n → s.2 62 r = if (foS n (mX iv c) (mY iv c) k).2 r = true then 1 else 0) n 0 ((0, none, none), s) (Nat.zero_le _) ⟨g1, rfl, fun p hpp => absurd hpp (Nat.not_lt_zero _), fun r hr => by show s 62 r = if (false = true) then 1 else 0; rw [if_neg (by decide)]; exact g2 r hr⟩ (fun k s _ hk hP => by
    obtain ⟨⟨l, d4, d5⟩, ivx⟩ := s
    obtain ⟨a1, a2, a3, a4⟩ := hP
    dsimp only at a1 a2 a3 a4
    have hRx := hR.only a1
    obtain ⟨x1, x2, x3⟩ := a1.X (d := c)
    obtain ⟨k1, k2, k3, k4⟩ := foO_ok (n := n) (X := mX iv c) (Y := mY iv c) hk
    have hl : (foS n (mX iv c) (mY iv c) k).1 < n := by
      by_cases z : k = 0
      · rw [z]; show 0 < n; omega
      · obtain ⟨j, rfl⟩ : ∃ j, k = j + 1 := ⟨k - 1, by omega⟩
        exact (foO_ok (n := n) (X := mX iv c) (Y := mY iv c) (k := j) (by omega)).1
    generalize hln : (foS n (mX iv c) (mY iv c) k).1 = ln at *
    generalize hpl : (foS n (mX iv c) (mY iv c) k).2 = pl at *
    have hwf := fun (b : Nat) (hb : b < n) => way_M (sc := sc) (a := ln) (b := b) hRx hl hb
    rw [x1, x2] at hwf
    generalize hD : wayF (mX iv c) (mY iv c) ln = D at *
    obtain ⟨t, e3, w1⟩ := loop_ex (fun r (s : Int) => Run sc 117 46 [some (Rf 52), some (I c), some (I l), some (I k), some (I s), some (I r)] [] (hp ivx)) (fun r s => (nearF D pl r = none ∧ s = -4) ∨ ∃ b, nearF D pl r = some b ∧ s = (b : Nat)) n 0 (-4) (Nat.zero_le _) (Or.inl ⟨rfl, rfl⟩) (fun r s _ hr hP => by
      have a4r := a4 r hr
      have hd : Run sc 117 46 [some (Rf 52), some (I c), some (I l), some (I k), some (I s), some (I r)] [] (hp ivx) = if ivx 62 r = 0 then (if s < 0 then Run sc 117 91 [some (Rf 52), some (I c), some (I l), some (I k), some (I s), some (I r)] [] (hp ivx) else aBind (Run sc 115 0 [some (Rf 52), some (I c), some (I l), some (I r), none, none] [] (hp ivx)) (fun v h2 => Run sc 117 80 [some (Rf 52), some (I c), some (I l), some (I k), some (I s), some (I r)] (pushR v []) h2)) else Run sc 117 95 [some (Rf 52), some (I c), some (I l), some (I k), some (I s), some (I r)] [] (hp ivx) := by
        rw [B_X7_layOrder_46, bck_pos (by omega), Int.toNat_natCast, hRx.2.1, ite_T (by omega), bck_pos (by omega), Int.toNat_natCast]
      rw [nearF_s]
      cases hp9 : pl r with
      | true =>
        rw [hp9, if_pos rfl] at a4r
        refine ⟨s, ?_, ?_⟩
        · rw [hd, if_neg (by omega), B_X7_layOrder_95, chk_pos (by omega)]
        · rcases hP with ⟨c1, c2⟩ | ⟨b1, c1, c2⟩
          · rw [c1]; exact Or.inl ⟨if_pos rfl, c2⟩
          · rw [c1]; exact Or.inr ⟨b1, if_pos rfl, c2⟩
      | false =>
        rw [hp9, if_neg (by decide)] at a4r
        rcases hP with ⟨c1, c2⟩ | ⟨b1, c1, c2⟩
        · refine ⟨r, ?_, Or.inr ⟨r, by rw [c1]; exact if_neg (by decide), rfl⟩⟩
          rw [hd, if_pos a4r, if_pos (by omega), B_X7_layOrder_91, B_X7_layOrder_95, chk_pos (by omega)]
        · have hb1 := (nearF_lt c1).1
          have hd2 : Run sc 117 46 [some (Rf 52), some (I c), some (I l), some (I k), some (I s), some (I r)] [] (hp ivx) = if D r < D b1 then Run sc 117 91 [some (Rf 52), some (I c), some (I l), some (I k), some (I s), some (I r)] [] (hp ivx) else Run sc 117 95 [some (Rf 52), some (I c), some (I l), some (I k), some (I s), some (I r)] [] (hp ivx) := by
            rw [hd, if_pos a4r, if_neg (by omega), a2, hwf r hr, aBind_some, pushR_some, B_X7_layOrder_80, c2, hwf b1 (by omega), aBind_some, pushR_some, B_X7_layOrder_88]
          by_cases z : D r < D b1
          · refine ⟨r, ?_, Or.inr ⟨r, by rw [c1]; dsimp only; rw [if_neg (by decide), if_pos z], rfl⟩⟩
            rw [hd2, if_pos z, B_X7_layOrder_91, B_X7_layOrder_95, chk_pos (by omega)]
          · refine ⟨s, ?_, Or.inr ⟨b1, by rw [c1]; dsimp only; rw [if_neg (by decide), if_neg z], c2⟩⟩
            rw [hd2, if_neg z, B_X7_layOrder_95, chk_pos (by omega)])
    have e4 : Run sc 117 29 [some (Rf 52), some (I c), some (I l), some (I k), d4, d5] [] (hp ivx) = Run sc 117 111 [some (Rf 52), some (I c), some (I l), some (I k), some (I t), some (I n)] [I (foO n (mX iv c) (mY iv c) k)] (hp ivx) := by
      rw [B_X7_layOrder_29, bck_pos (by omega), Int.toNat_natCast, hRx.2.1, ite_T (by omega)]
      refine (show _ = _ from e3).trans ?_
      show Run sc 117 46 [some (Rf 52), some (I c), some (I l), some (I k), some (I t), some (I n)] [] (hp ivx) = _
      rw [B_X7_layOrder_46, bck_pos (by omega), Int.toNat_natCast, hRx.2.1, ite_F (by omega), B_X7_layOrder_101]
      by_cases z : k = 0
      · rw [if_pos (by omega), k4 z]; rfl
      · have hn := k3 z
        rw [if_neg (by omega), B_X7_layOrder_109]
        rcases w1 with ⟨c1, -⟩ | ⟨b1, c1, c2⟩
        · rw [c1] at hn; cases hn
        · rw [c1] at hn; cases hn; rw [c2]
    refine ⟨((foO n (mX iv c) (mY iv c) k, some (I t), some (I n)), setO (setO ivx 61 (upI (ivx 61) (288 * c + k) (foO n (mX iv c) (mY iv c) k))) 62 (upI (ivx 62) (foO n (mX iv c) (mY iv c) k) 1)), ?_, ?_, rfl, fun p hpp => ?_, fun r hr => ?_⟩
    · show Run sc 117 29 [some (Rf 52), some (I c), some (I l), some (I k), d4, d5] [] (hp ivx) = Run sc 117 29 [some (Rf 52), some (I c), some (I (foO n (mX iv c) (mY iv c) k)), some (I ((k : Int) + 1)), some (I t), some (I n)] [] (hp (setO (setO ivx 61 (upI (ivx 61) (288 * c + k) (foO n (mX iv c) (mY iv c) k))) 62 (upI (ivx 62) (foO n (mX iv c) (mY iv c) k) 1)))
      rw [e4, B_X7_layOrder_111, chk_pos (by omega), chk_pos (by omega), bck_pos (by omega), bck_pos (by omega), B_X7_layOrder_125, bck_pos (by omega), bck_pos (by omega), B_X7_layOrder_132, chk_pos (by omega), show (288 * (c : Int) + k).toNat = 288 * c + k by omega, Int.toNat_natCast, setO_ne (show 62 ≠ 61 by omega)]
    · show OnlyM iv (setO (setO ivx 61 _) 62 _) c
      refine a1.tr ⟨fun j b1 b2 => by rw [setO_ne b2, setO_ne b1], fun j hj => by rw [setO_ne (by omega), setO_same, upI_ne (by omega)]⟩
    · show mO (setO (setO ivx 61 _) 62 _) c p = _
      have e5 : mO (setO (setO ivx 61 (upI (ivx 61) (288 * c + k) (foO n (mX iv c) (mY iv c) k))) 62 (upI (ivx 62) (foO n (mX iv c) (mY iv c) k) 1)) c p = mO (setO ivx 61 (upI (ivx 61) (288 * c + k) (foO n (mX iv c) (mY iv c) k))) c p := by unfold mO; rw [setO_ne (by omega)]
      rw [e5, setM_O]
      by_cases z : p = k
      · rw [if_pos z, z]
      · rw [if_neg z]; exact a3 p (by omega)
    · dsimp only
      rw [setO_same, foS_2, hpl]
      by_cases z : r = foO n (mX iv c) (mY iv c) k
      · rw [z, upI_same, decide_eq_true rfl, Bool.or_true, if_pos rfl]
      · rw [upI_ne z, a4 r hr, decide_eq_false z, Bool.or_false])
  obtain ⟨⟨l, d4, d5⟩, ivx⟩ := q
  dsimp only at f1 f2 f3 f4
  refine ⟨ivx, (show _ = _ from e2).trans ?_, f1, f3⟩
  show Run sc 117 29 [some (Rf 52), some (I c), some (I l), some (I n), d4, d5] [] (hp ivx) = _
  rw [B_X7_layOrder_29, bck_pos (by omega), Int.toNat_natCast, (hR.only f1).2.1, ite_F (by omega), B_X7_layOrder_138]
set_option maxHeartbeats 2000000 in
theorem shi_M {c n a b : Nat} (hR : MRunB iv c n) (hO : MOrdB iv c n) (ha : a < n) (hb : b < n) : ∃ iv2, Run sc 142 0 [some (Rf 52), some (I c), some (I a), some (I b), none, none] [] (hp iv) = some (none, hp iv2) ∧ OnlyM iv iv2 c ∧ ∀ p, p < n → mO iv2 c p = mvO (mO iv c) a b p := by
  obtain ⟨h0, h1, h2, h3⟩ := id hR
  have hoa := hO a ha
  rw [B_X7_shift_0, pla_M h0 (by omega), aBind_some, pushR_some, B_X7_shift_6]
  generalize hOg : mO iv c = O at *
  have hOb : ∀ p, p < n → 0 ≤ O p ∧ O p < n := fun p hpp => by have := hO p hpp; rw [hOg] at this; exact this
  have up : ∃ iv1 z, Run sc 142 11 [some (Rf 52), some (I c), some (I a), some (I b), some (I (O a)), some (I a)] [] (hp iv) = Run sc 142 51 [some (Rf 52), some (I c), some (I a), some (I b), some (I (O a)), some (I z)] [] (hp iv1) ∧ OnlyM iv iv1 c ∧ ∀ p, p < n → mO iv1 c p = if a ≤ p ∧ p < b then O (p + 1) else O p := by
    by_cases hab : a ≤ b
    · obtain ⟨s, e, g1, g2⟩ := loop_ex (fun i (s : Nat → Nat → Int) => Run sc 142 11 [some (Rf 52), some (I c), some (I a), some (I b), some (I (O a)), some (I i)] [] (hp s)) (fun i s => OnlyM iv s c ∧ ∀ p, p < n → mO s c p = if a ≤ p ∧ p < i then O (p + 1) else O p) b a iv hab ⟨OnlyM.rf, fun p _ => by rw [if_neg (by omega), hOg]⟩ (fun i s hi1 hi hP => by
        obtain ⟨a1, a2⟩ := hP
        have v : mO s c (i + 1) = O (i + 1) := by rw [a2 _ (by omega), if_neg (by omega)]
        have vb := hOb (i + 1) (by omega)
        refine ⟨setO s 61 (upI (s 61) (288 * c + i) (O (i + 1))), ?_, a1.tr (setM_only (by omega)), fun p hpp => ?_⟩
        · have fv : s 61 (288 * (c : Int) + i + 1).toNat = O (i + 1) := by rw [show (288 * (c : Int) + i + 1).toNat = 288 * c + (i + 1) by omega]; exact v
          rw [B_X7_shift_11, ite_T (by omega), chk_pos (by omega), chk_pos (by omega), chk_pos (by omega), chk_pos (by omega), chk_pos (by omega), bck_pos (by omega), bck_pos (by omega), fv, bck_pos (by omega), B_X7_shift_45, chk_pos (by omega), show (288 * (c : Int) + i).toNat = 288 * c + i by omega]
        · rw [setM_O]
          by_cases z : p = i
          · rw [if_pos z, z, if_pos (by omega)]
          · rw [if_neg z, a2 p hpp]
            by_cases y : a ≤ p ∧ p < i
            · rw [if_pos y, if_pos (by omega)]
            · rw [if_neg y, if_neg (by omega)])
      refine ⟨s, b, (show _ = _ from e).trans ?_, g1, g2⟩
      show Run sc 142 11 [some (Rf 52), some (I c), some (I a), some (I b), some (I (O a)), some (I b)] [] (hp s) = _
      rw [B_X7_shift_11, ite_F (by omega)]
    · refine ⟨iv, a, ?_, OnlyM.rf, fun p _ => by rw [if_neg (by omega), hOg]⟩
      rw [B_X7_shift_11, ite_F (by omega)]
  obtain ⟨iv1, z1, e1, f1, f2⟩ := up
  rw [e1, B_X7_shift_51]
  have dn : ∃ iv2 z, Run sc 142 54 [some (Rf 52), some (I c), some (I a), some (I b), some (I (O a)), some (I a)] [] (hp iv1) = Run sc 142 94 [some (Rf 52), some (I c), some (I a), some (I b), some (I (O a)), some (I z)] [] (hp iv2) ∧ OnlyM iv iv2 c ∧ ∀ p, p < n → mO iv2 c p = if a ≤ p ∧ p < b then O (p + 1) else if b < p ∧ p ≤ a then O (p - 1) else O p := by
    by_cases hab : b < a
    · obtain ⟨s, e, g1, g2⟩ := loop_ex (fun i (s : Nat → Nat → Int) => Run sc 142 54 [some (Rf 52), some (I c), some (I a), some (I b), some (I (O a)), some (I (a - i))] [] (hp s)) (fun i s => OnlyM iv s c ∧ ∀ p, p < n → mO s c p = if a < p + i ∧ p ≤ a then O (p - 1) else O p) (a - b) 0 iv1 (Nat.zero_le _) ⟨f1, fun p hpp => by rw [f2 p hpp, if_neg (by omega), if_neg (by omega)]⟩ (fun i s hi1 hi hP => by
        obtain ⟨a1, a2⟩ := hP
        have v : mO s c (a - i - 1) = O (a - i - 1) := by rw [a2 _ (by omega), if_neg (by omega)]
        have vb := hOb (a - i - 1) (by omega)
        refine ⟨setO s 61 (upI (s 61) (288 * c + (a - i)) (O (a - i - 1))), ?_, a1.tr (setM_only (by omega)), fun p hpp => ?_⟩
        · have fv : s 61 (288 * (c : Int) + (a - i) - 1).toNat = O (a - i - 1) := by rw [show (288 * (c : Int) + (a - i) - 1).toNat = 288 * c + (a - i - 1) by omega]; exact v
          rw [B_X7_shift_54, ite_T (by omega), chk_pos (by omega), chk_pos (by omega), chk_pos (by omega), chk_pos (by omega), chk_pos (by omega), bck_pos (by omega), bck_pos (by omega), fv, bck_pos (by omega), B_X7_shift_88, chk_pos (by omega), show (288 * (c : Int) + (a - i)).toNat = 288 * c + (a - i) by omega, show (a : Int) - i + -1 = a - (i + 1) by omega]
        · rw [setM_O]
          by_cases z : p = a - i
          · rw [if_pos z, z, if_pos (by omega)]
          · rw [if_neg z, a2 p hpp]
            by_cases y : a < p + i ∧ p ≤ a
            · rw [if_pos y, if_pos (by omega)]
            · rw [if_neg y, if_neg (by omega)])
      refine ⟨s, b, ?_, g1, fun p hpp => ?_⟩
      · have e' := (show _ = _ from e)
        rw [show ((a : Int) - ((0 : Nat) : Int)) = a by omega, show ((a : Int) - ((a - b : Nat) : Int)) = b by omega] at e'
        rw [e', B_X7_shift_54, ite_F (by omega)]
      · rw [g2 p hpp, if_neg (show ¬ (a ≤ p ∧ p < b) by omega)]
        by_cases y : b < p ∧ p ≤ a
        · rw [if_pos y, if_pos (by omega)]
        · rw [if_neg y, if_neg (by omega)]
    · refine ⟨iv1, a, ?_, f1, fun p hpp => ?_⟩
      · rw [B_X7_shift_54, ite_F (by omega)]
      · rw [f2 p hpp]
        by_cases y : a ≤ p ∧ p < b
        · rw [if_pos y, if_pos y]
        · rw [if_neg y, if_neg y, if_neg (by omega)]
  obtain ⟨iv2, z2, e2, k1, k2⟩ := dn
  refine ⟨setO iv2 61 (upI (iv2 61) (288 * c + b) (O a)), ?_, k1.tr (setM_only (by omega)), fun p hpp => ?_⟩
  · have vb := hOb a ha
    rw [e2, B_X7_shift_94, chk_pos (by omega), chk_pos (by omega), bck_pos (by omega), bck_pos (by omega), B_X7_shift_108, show (288 * (c : Int) + b).toNat = 288 * c + b by omega]
  · rw [setM_O]
    unfold mvO
    by_cases z : p = b
    · rw [if_pos z, if_pos z]
    · rw [if_neg z, if_neg z]; exact k2 p hpp
end MORD
