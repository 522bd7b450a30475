/-! StitchChartModel: shortening -/
section MSHORT
variable {sc : Nat × (Nat → Int)} {iv : Nat → Nat → Int}
/-- the run at a place, -4 outside -/
def nxF (n : Nat) (O : Nat → Int) (p : Int) : Int := if 0 ≤ p ∧ p < n then O p.toNat else -4
theorem nx_1 {n : Nat} {X Y O : Nat → Int} {r t p v : Int} : cB n X Y r t (nxF n O p) v = cB n X Y r t (rP n O p) v := by
  unfold nxF rP
  split
  · rfl
  · rw [cB_out (Or.inl (by omega)), cB_out (Or.inl (by omega))]
theorem nx_2 {n : Nat} {X Y O : Nat → Int} {r t p v : Int} : cB n X Y r t v (nxF n O p) = cB n X Y r t v (rP n O p) := by
  unfold nxF rP
  split
  · rfl
  · rw [cB_out (Or.inr (by omega)), cB_out (Or.inr (by omega))]
theorem nx_lt {n : Nat} {O : Nat → Int} {p : Int} (hO : OrdN n O) : -4 ≤ nxF n O p ∧ (nxF n O p < n ∨ n = 0) := by
  unfold nxF
  split
  · have := hO p.toNat (by omega); omega
  · omega
theorem pw_M {c n out : Nat} {k : Int} (hR : MRunB iv c n) (hk : -1 ≤ k ∧ k ≤ n) : Run sc 145 0 [some (Rf 52), some (I c), some (I k), some (I out)] [] (hp iv) = some (some (I (if 0 ≤ k ∧ k ≤ (n : Int) - 2 then (if k < out then mO iv c k.toNat else mO iv c (k + 1).toNat) else -4)), hp iv) := by
  obtain ⟨h0, h1, h2, h3⟩ := hR
  rw [B_X7_placedWithout_0, bck_pos (by omega), Int.toNat_natCast, h1, chk_pos (by omega)]
  by_cases q : 0 ≤ k ∧ k ≤ (n : Int) - 2
  · rw [if_pos q, in_T q, aBind_some, pushR_some, B_X7_placedWithout_13, ite_F (by omega)]
    by_cases q2 : k < out
    · have hpl := pla_M (sc := sc) (iv := iv) (p := k.toNat) h0 (by omega)
      rw [show ((k.toNat : Nat) : Int) = k by omega] at hpl
      rw [if_pos q2, if_pos q2, B_X7_placedWithout_30, hpl, aBind_some, pushR_some, B_X7_placedWithout_33, B_X7_placedWithout_38]
    · have hpl := pla_M (sc := sc) (iv := iv) (p := (k + 1).toNat) h0 (by omega)
      rw [show (((k + 1).toNat : Nat) : Int) = k + 1 by omega] at hpl
      rw [if_neg q2, if_neg q2, B_X7_placedWithout_27, chk_pos (by omega), B_X7_placedWithout_30, hpl, aBind_some, pushR_some, B_X7_placedWithout_33, B_X7_placedWithout_38]
  · rw [if_neg q, in_F q, aBind_some, pushR_some, B_X7_placedWithout_13, ite_T (by omega), B_X7_placedWithout_36, B_X7_placedWithout_38]
abbrev mcB (iv : Nat → Nat → Int) (c n : Nat) (a b : Int) : Int := cB n (mX iv c) (mY iv c) (iv 52 2) (iv 52 3) a b
theorem mcB_b {c n : Nat} {a b : Int} (hR : MRunB iv c n) (hy : MYarn iv) : 0 ≤ cB n (mX iv c) (mY iv c) (iv 52 2) (iv 52 3) a b ∧ cB n (mX iv c) (mY iv c) (iv 52 2) (iv 52 3) a b ≤ 1000 := by
  unfold cB
  split
  · exact mcost_b hR hy (by omega) (by omega)
  · omega
theorem cif_M {c n : Nat} {a b : Int} (hR : MRunB iv c n) (hy : MYarn iv) (ha : a < n) (hb : b < n) : Run sc 146 0 [some (Rf 52), some (I c), some (I a), some (I b)] [] (hp iv) = some (some (I (cB n (mX iv c) (mY iv c) (iv 52 2) (iv 52 3) a b)), hp iv) := by
  rw [B_X7_costsIf_0]
  by_cases q : a < 0
  · rw [if_pos q, B_X7_costsIf_8, B_X7_costsIf_19, cB_out (Or.inl q)]
  · rw [if_neg q]
    by_cases q2 : b < 0
    · rw [if_pos q2, B_X7_costsIf_8, B_X7_costsIf_19, cB_out (Or.inr q2)]
    · have hcm := cost_M (sc := sc) hR hy (a := a.toNat) (b := b.toNat) (by omega) (by omega)
      rw [show ((a.toNat : Nat) : Int) = a by omega, show ((b.toNat : Nat) : Int) = b by omega] at hcm
      rw [if_neg q2, B_X7_costsIf_12, hcm, aBind_some, pushR_some, B_X7_costsIf_19]
      unfold cB
      rw [if_pos (by omega)]
theorem gain_M {c n : Nat} {u l r : Int} (hR : MRunB iv c n) (hy : MYarn iv) (hu : u < n) (hl : l < n) (hr : r < n) : Run sc 147 0 [some (Rf 52), some (I c), some (I u), some (I l), some (I r)] [] (hp iv) = some (some (I (cB n (mX iv c) (mY iv c) (iv 52 2) (iv 52 3) l u + cB n (mX iv c) (mY iv c) (iv 52 2) (iv 52 3) u r - cB n (mX iv c) (mY iv c) (iv 52 2) (iv 52 3) l r)), hp iv) := by
  have b1 := mcB_b (a := l) (b := u) hR hy
  have b2 := mcB_b (a := u) (b := r) hR hy
  have b3 := mcB_b (a := l) (b := r) hR hy
  rw [B_X7_gain_0, cif_M hR hy hl hu, aBind_some, pushR_some, B_X7_gain_7, cif_M hR hy hu hr, aBind_some, pushR_some, B_X7_gain_15, chk_pos (by omega), cif_M hR hy hl hr, aBind_some, pushR_some, B_X7_gain_24, chk_pos (by omega)]
theorem bet_M {c n a b : Nat} (hR : MRunB iv c n) (hy : MYarn iv) (hO : MOrdB iv c n) (ha : a < n) (hb : b < n) (hab : a ≠ b) : Run sc 148 0 [some (Rf 52), some (I c), some (I a), some (I b), none, none] [] (hp iv) = some (some (I (if 0 < svF n (mX iv c) (mY iv c) (iv 52 2) (iv 52 3) (mO iv c) a b then 1 else 0)), hp iv) := by
  obtain ⟨h0, h1, h2, h3⟩ := id hR
  have hOn : OrdN n (mO iv c) := hO
  have w1 : (if 0 ≤ (a : Int) - 1 ∧ (a : Int) - 1 ≤ (n : Int) - 2 then (if (a : Int) - 1 < a then mO iv c ((a : Int) - 1).toNat else mO iv c ((a : Int) - 1 + 1).toNat) else -4) = nxF n (mO iv c) ((a : Int) - 1) := by
    unfold nxF
    by_cases q : 0 ≤ (a : Int) - 1
    · rw [if_pos (by omega), if_pos (by omega), if_pos (by omega)]
    · rw [if_neg (by omega), if_neg (by omega)]
  have w2 : (if 0 ≤ (a : Int) ∧ (a : Int) ≤ (n : Int) - 2 then (if (a : Int) < a then mO iv c (a : Int).toNat else mO iv c ((a : Int) + 1).toNat) else -4) = nxF n (mO iv c) ((a : Int) + 1) := by
    unfold nxF
    by_cases q : (a : Int) ≤ (n : Int) - 2
    · rw [if_pos (by omega), if_neg (by omega), if_pos (by omega)]
    · rw [if_neg (by omega), if_neg (by omega)]
  have w3 : (if 0 ≤ (b : Int) - 1 ∧ (b : Int) - 1 ≤ (n : Int) - 2 then (if (b : Int) - 1 < a then mO iv c ((b : Int) - 1).toNat else mO iv c ((b : Int) - 1 + 1).toNat) else -4) = nxF n (mO iv c) (if (a : Int) < b then (b : Int) else (b : Int) - 1) := by
    unfold nxF
    by_cases q : (a : Int) < b
    · rw [if_pos q, if_pos (by omega), if_neg (by omega), if_pos (by omega), show (b : Int) - 1 + 1 = b by omega]
    · rw [if_neg q]
      by_cases q2 : 0 ≤ (b : Int) - 1
      · rw [if_pos (by omega), if_pos (by omega), if_pos (by omega)]
      · rw [if_neg (by omega), if_neg (by omega)]
  have w4 : (if 0 ≤ (b : Int) ∧ (b : Int) ≤ (n : Int) - 2 then (if (b : Int) < a then mO iv c (b : Int).toNat else mO iv c ((b : Int) + 1).toNat) else -4) = nxF n (mO iv c) (if (a : Int) < b then (b : Int) + 1 else (b : Int)) := by
    unfold nxF
    by_cases q : (a : Int) < b
    · rw [if_pos q]
      by_cases q2 : (b : Int) ≤ (n : Int) - 2
      · rw [if_pos (by omega), if_neg (by omega), if_pos (by omega)]
      · rw [if_neg (by omega), if_neg (by omega)]
    · rw [if_neg q, if_pos (by omega), if_pos (by omega), if_pos (by omega)]
  have l1 := nx_lt (p := (a : Int) - 1) hOn
  have l2 := nx_lt (p := (a : Int) + 1) hOn
  have l3 := nx_lt (p := if (a : Int) < b then (b : Int) else (b : Int) - 1) hOn
  have l4 := nx_lt (p := if (a : Int) < b then (b : Int) + 1 else (b : Int)) hOn
  have oa := hO a ha
  rw [B_X7_isBetter_0, pla_M h0 (by omega), aBind_some, pushR_some, B_X7_isBetter_6, chk_pos (by omega), pw_M hR (by omega), aBind_some, pushR_some, w1, B_X7_isBetter_21, pw_M hR (by omega), aBind_some, pushR_some, w2, B_X7_isBetter_28, gain_M hR hy (by omega) (by omega) (by omega), aBind_some, pushR_some, B_X7_isBetter_31, chk_pos (by omega), pw_M hR (by omega), aBind_some, pushR_some, w3, B_X7_isBetter_46, pw_M hR (by omega), aBind_some, pushR_some, w4, B_X7_isBetter_53, gain_M hR hy (by omega) (by omega) (by omega), aBind_some, pushR_some, B_X7_isBetter_56]
  unfold svF
  rw [rP_in ha]
  simp only [nx_1, nx_2]
  generalize cB n (mX iv c) (mY iv c) (iv 52 2) (iv 52 3) = C
  by_cases q : C (rP n (mO iv c) (if (a : Int) < b then (b : Int) else (b : Int) - 1)) (mO iv c a) + C (mO iv c a) (rP n (mO iv c) (if (a : Int) < b then (b : Int) + 1 else (b : Int))) - C (rP n (mO iv c) (if (a : Int) < b then (b : Int) else (b : Int) - 1)) (rP n (mO iv c) (if (a : Int) < b then (b : Int) + 1 else (b : Int))) < C (rP n (mO iv c) ((a : Int) - 1)) (mO iv c a) + C (mO iv c a) (rP n (mO iv c) ((a : Int) + 1)) - C (rP n (mO iv c) ((a : Int) - 1)) (rP n (mO iv c) ((a : Int) + 1))
  · rw [if_pos q, if_pos (by omega), B_X7_isBetter_66, bck_pos (by omega)]
  · rw [if_neg q, if_neg (by omega), B_X7_isBetter_65, B_X7_isBetter_66, bck_pos (by omega)]
theorem mcost_all {c n : Nat} (hR : MRunB iv c n) (hy : MYarn iv) (O' : Nat → Int) (hO : OrdN n O') : 0 ≤ sumN (cpF (mX iv c) (mY iv c) (iv 52 2) (iv 52 3) O') n ∧ sumN (cpF (mX iv c) (mY iv c) (iv 52 2) (iv 52 3) O') n ≤ 576000 := by
  refine sum288 (c := 1000) hR.2.2.1 (by omega) fun i hi => ?_
  unfold cpF
  by_cases q : i = 0
  · rw [if_pos q]; omega
  · have o1 := hO i hi
    have o2 := hO (i - 1) (by omega)
    rw [if_neg q]; exact mcost_b hR hy (by omega) (by omega)
/-- a state of the shortening: heap, moves so far, whether there were any -/
def StM (iv0 : Nat → Nat → Int) (c n : Nat) (base : Int) (σ : (Nat → Int) × Int) (iv : Nat → Nat → Int) (cnt fl : Int) : Prop := OnlyM iv0 iv c ∧ (∀ p, p < n → mO iv c p = σ.1 p) ∧ cnt = base + σ.2 ∧ fl = if 0 < σ.2 then 1 else 0
set_option maxHeartbeats 2000000 in
theorem row_M {iv0 : Nat → Nat → Int} {c n a : Nat} {base : Int} {s0 σ : (Nat → Int) × Int} {cnt fl : Int} (hR : MRunB iv0 c n) (hy : MYarn iv0) (ha : a < n) (hb : 0 ≤ base ∧ base ≤ 576000) (h0 : OrdN n s0.1) (hs0 : s0.2 = 0) (hS : SavM n (mX iv0 c) (mY iv0 c) (iv0 52 2) (iv0 52 3) s0 σ) (H : StM iv0 c n base σ iv cnt fl) :
    ∃ iv2 cnt2 fl2, Run sc 149 37 [some (Rf 52), some (I c), some (I cnt), some (I fl), some (I a), some (I 0)] [] (hp iv) = Run sc 149 37 [some (Rf 52), some (I c), some (I cnt2), some (I fl2), some (I a), some (I n)] [] (hp iv2) ∧ StM iv0 c n base (rowM n (mX iv0 c) (mY iv0 c) (iv0 52 2) (iv0 52 3) a σ n) iv2 cnt2 fl2 := by
  obtain ⟨s, e, q⟩ := loop_ex (fun i (s : (Int × Int) × (Nat → Nat → Int)) => Run sc 149 37 [some (Rf 52), some (I c), some (I s.1.1), some (I s.1.2), some (I a), some (I i)] [] (hp s.2)) (fun i s => StM iv0 c n base (rowM n (mX iv0 c) (mY iv0 c) (iv0 52 2) (iv0 52 3) a σ i) s.2 s.1.1 s.1.2) n 0 ((cnt, fl), iv) (Nat.zero_le _) H (fun i s _ hi hP => by
    obtain ⟨⟨ct, f⟩, ivx⟩ := s
    dsimp only at hP ⊢
    obtain ⟨rc, -, rn, -⟩ := id hR
    have hsv := rowM_sav (X := mX iv0 c) (Y := mY iv0 c) (r := iv0 52 2) (t := iv0 52 3) ha hS i (by omega)
    have er : rowM n (mX iv0 c) (mY iv0 c) (iv0 52 2) (iv0 52 3) a σ (i + 1) = tryM n (mX iv0 c) (mY iv0 c) (iv0 52 2) (iv0 52 3) a i (rowM n (mX iv0 c) (mY iv0 c) (iv0 52 2) (iv0 52 3) a σ i) := rfl
    rw [er]
    generalize rowM n (mX iv0 c) (mY iv0 c) (iv0 52 2) (iv0 52 3) a σ i = τ at *
    obtain ⟨g1, g2, g3, g4⟩ := hP
    obtain ⟨v1, v2, v3⟩ := hsv
    have c1 := mcost_all hR hy _ v1
    have c2 := mcost_all hR hy _ h0
    obtain ⟨x1, x2, x3⟩ := g1.X (d := c)
    have x4 : ivx 52 = iv0 52 := g1.1 52 (by omega) (by omega)
    have hRx := hR.only g1
    have hyx := g1.yarn hy
    have hOx : MOrdB ivx c n := fun p hpp => by rw [g2 p hpp]; exact v1 p hpp
    unfold tryM
    by_cases z : i = a
    · rw [if_pos z]
      refine ⟨((ct, f), ivx), ?_, g1, g2, g3, g4⟩
      dsimp only
      rw [B_X7_shorten_37, bck_pos (by omega), Int.toNat_natCast, hRx.2.1, ite_T (by omega), if_pos (by omega), B_X7_shorten_81, chk_pos (by omega)]
    · rw [if_neg z]
      have hd : Run sc 149 37 [some (Rf 52), some (I c), some (I ct), some (I f), some (I a), some (I i)] [] (hp ivx) = Run sc 149 64 [some (Rf 52), some (I c), some (I ct), some (I f), some (I a), some (I i)] [I (if 0 < svF n (mX iv0 c) (mY iv0 c) (iv0 52 2) (iv0 52 3) τ.1 a i then 1 else 0)] (hp ivx) := by
        rw [B_X7_shorten_37, bck_pos (by omega), Int.toNat_natCast, hRx.2.1, ite_T (by omega), if_neg (by omega), bet_M hRx hyx hOx ha hi (by omega), aBind_some, pushR_some, x1, x2, x4, svF_congr g2]
      by_cases y : 0 < svF n (mX iv0 c) (mY iv0 c) (iv0 52 2) (iv0 52 3) τ.1 a i
      · rw [if_pos y] at hd ⊢
        obtain ⟨iv2, e2, k1, k2⟩ := shi_M (sc := sc) hRx hOx ha hi
        refine ⟨((ct + 1, 1), iv2), ?_, g1.tr k1, fun p hpp => ?_, by show ct + 1 = base + (τ.2 + 1); omega, by show (1 : Int) = if 0 < τ.2 + 1 then 1 else 0; rw [if_pos (by omega)]⟩
        · dsimp only
          rw [hd, B_X7_shorten_64, ite_F (by omega), e2, aBind_some, pushR_none, B_X7_shorten_76, chk_pos (by omega), B_X7_shorten_81, chk_pos (by omega)]
        · rw [k2 p hpp]; exact mvO_congr g2 ha hi hpp
      · rw [if_neg y] at hd ⊢
        refine ⟨((ct, f), ivx), ?_, g1, g2, g3, g4⟩
        dsimp only
        rw [hd, B_X7_shorten_64, ite_T rfl, B_X7_shorten_81, chk_pos (by omega)])
  obtain ⟨⟨ct, f⟩, ivx⟩ := s
  exact ⟨ivx, ct, f, e, q⟩
set_option maxHeartbeats 2000000 in
theorem pas_M {iv0 : Nat → Nat → Int} {c n : Nat} {base : Int} {s0 : (Nat → Int) × Int} {d : Option AV} (hR : MRunB iv0 c n) (hy : MYarn iv0) (hb : 0 ≤ base ∧ base ≤ 576000) (h0 : OrdN n s0.1) (hs0 : s0.2 = 0) (H : StM iv0 c n base s0 iv base 0) :
    ∃ iv2 cnt2 fl2 d2, Run sc 149 23 [some (Rf 52), some (I c), some (I base), some (I 0), some (I 0), d] [] (hp iv) = Run sc 149 14 [some (Rf 52), some (I c), some (I cnt2), some (I fl2), some (I n), d2] [] (hp iv2) ∧ StM iv0 c n base (pasM n (mX iv0 c) (mY iv0 c) (iv0 52 2) (iv0 52 3) s0 n) iv2 cnt2 fl2 := by
  obtain ⟨h1, h2, h3, h4⟩ := id hR
  obtain ⟨s, e, q⟩ := loop_ex (fun i (s : (Int × Int × Option AV) × (Nat → Nat → Int)) => Run sc 149 23 [some (Rf 52), some (I c), some (I s.1.1), some (I s.1.2.1), some (I i), s.1.2.2] [] (hp s.2)) (fun i s => StM iv0 c n base (pasM n (mX iv0 c) (mY iv0 c) (iv0 52 2) (iv0 52 3) s0 i) s.2 s.1.1 s.1.2.1) n 0 ((base, 0, d), iv) (Nat.zero_le _) H (fun i s _ hi hP => by
    obtain ⟨⟨ct, f, d⟩, ivx⟩ := s
    dsimp only at hP ⊢
    have hsv := pasM_sav (X := mX iv0 c) (Y := mY iv0 c) (r := iv0 52 2) (t := iv0 52 3) h0 i (by omega)
    obtain ⟨iv2, ct2, f2, e2, k⟩ := row_M (sc := sc) hR hy hi hb h0 hs0 hsv hP
    refine ⟨((ct2, f2, some (I n)), iv2), ?_, k⟩
    dsimp only
    rw [B_X7_shorten_23, bck_pos (by omega), Int.toNat_natCast, (hR.only hP.1).2.1, ite_T (by omega), e2, B_X7_shorten_37, bck_pos (by omega), Int.toNat_natCast, (hR.only k.1).2.1, ite_F (by omega), B_X7_shorten_87, chk_pos (by omega)])
  obtain ⟨⟨ct, f, d⟩, ivx⟩ := s
  dsimp only at q
  refine ⟨ivx, ct, f, d, (show _ = _ from e).trans ?_, q⟩
  show Run sc 149 23 [some (Rf 52), some (I c), some (I ct), some (I f), some (I n), d] [] (hp ivx) = _
  rw [B_X7_shorten_23, bck_pos (by omega), Int.toNat_natCast, (hR.only q.1).2.1, ite_F (by omega), B_X7_shorten_93]
theorem isCol_T {x : Int} (h : 1 ≤ x ∧ x ≤ 6) : Run sc 129 0 [some (I x)] [] (hp iv) = some (some (I 1), hp iv) := by
  rw [B_X7_isColor_0, in_T h, aBind_some, pushR_some, B_X7_isColor_7, bck_pos (by omega)]
theorem isCol_F {x : Int} (h : ¬ (1 ≤ x ∧ x ≤ 6)) : Run sc 129 0 [some (I x)] [] (hp iv) = some (some (I 0), hp iv) := by
  rw [B_X7_isColor_0, in_F h, aBind_some, pushR_some, B_X7_isColor_7, bck_pos (by omega)]
set_option maxHeartbeats 2000000 in
theorem sho_M {c n K : Nat} {O0 : Nat → Int} (hR : MRunB iv c n) (hy : MYarn iv) (hO0 : ∀ p, p < n → mO iv c p = O0 p) (hord0 : OrdN n O0) (hK0 : mvN n (mX iv c) (mY iv c) (iv 52 2) (iv 52 3) O0 K = 0) (hK1 : ∀ j, j < K → mvN n (mX iv c) (mY iv c) (iv 52 2) (iv 52 3) O0 j ≠ 0) :
    ∃ iv2, Run sc 149 0 [some (Rf 52), some (I c), none, none, none, none] [] (hp iv) = some (some (I (itM n (mX iv c) (mY iv c) (iv 52 2) (iv 52 3) O0 K).2), hp iv2) ∧ OnlyM iv iv2 c ∧ ∀ p, p < n → mO iv2 c p = (itM n (mX iv c) (mY iv c) (iv 52 2) (iv 52 3) O0 (K + 1)).1 p := by
  obtain ⟨h1, h2, h3, h4⟩ := id hR
  have hcost := mcost_all hR hy
  have mb : ∀ i, 0 ≤ (itM n (mX iv c) (mY iv c) (iv 52 2) (iv 52 3) O0 i).2 ∧ (itM n (mX iv c) (mY iv c) (iv 52 2) (iv 52 3) O0 i).2 ≤ 576000 := fun i => by
    obtain ⟨h1, h3, h4⟩ := itM_ok (X := mX iv c) (Y := mY iv c) (r := iv 52 2) (t := iv 52 3) hord0 i
    have := hcost _ h1
    have := hcost _ hord0
    omega
  have one : ∀ (ivx : Nat → Nat → Int) (i : Nat) (d4 d5 : Option AV), OnlyM iv ivx c → (∀ p, p < n → mO ivx c p = (itM n (mX iv c) (mY iv c) (iv 52 2) (iv 52 3) O0 i).1 p) → ∃ iv2 d2, Run sc 149 14 [some (Rf 52), some (I c), some (I (itM n (mX iv c) (mY iv c) (iv 52 2) (iv 52 3) O0 i).2), some (I 1), d4, d5] [] (hp ivx) = Run sc 149 14 [some (Rf 52), some (I c), some (I (itM n (mX iv c) (mY iv c) (iv 52 2) (iv 52 3) O0 (i + 1)).2), some (I (if 0 < mvN n (mX iv c) (mY iv c) (iv 52 2) (iv 52 3) O0 i then 1 else 0)), some (I n), d2] [] (hp iv2) ∧ OnlyM iv iv2 c ∧ ∀ p, p < n → mO iv2 c p = (itM n (mX iv c) (mY iv c) (iv 52 2) (iv 52 3) O0 (i + 1)).1 p := by
    intro ivx i d4 d5 a1 a2
    have hst : StM iv c n (itM n (mX iv c) (mY iv c) (iv 52 2) (iv 52 3) O0 i).2 ((itM n (mX iv c) (mY iv c) (iv 52 2) (iv 52 3) O0 i).1, 0) ivx (itM n (mX iv c) (mY iv c) (iv 52 2) (iv 52 3) O0 i).2 0 := ⟨a1, a2, by show _ = _ + (0 : Int); omega, by show (0 : Int) = if (0 : Int) < 0 then 1 else 0; rw [if_neg (by omega)]⟩
    obtain ⟨iv2, ct, f, d2, e, k1, k2, k3, k4⟩ := pas_M (sc := sc) (d := d5) (s0 := ((itM n (mX iv c) (mY iv c) (iv 52 2) (iv 52 3) O0 i).1, 0)) hR hy (mb i) (itM_ok hord0 i).1 rfl hst
    refine ⟨iv2, d2, ?_, k1, k2⟩
    rw [B_X7_shorten_14, ite_F (by omega), e, k3, k4]
    rfl
  rw [B_X7_shorten_0, isCol_T (by omega), aBind_some, pushR_some, B_X7_shorten_4, ite_F (by omega), B_X7_shorten_10]
  obtain ⟨s, e, g1, g2⟩ := loop_ex (fun i (s : (Option AV × Option AV) × (Nat → Nat → Int)) => Run sc 149 14 [some (Rf 52), some (I c), some (I (itM n (mX iv c) (mY iv c) (iv 52 2) (iv 52 3) O0 i.toNat).2), some (I 1), s.1.1, s.1.2] [] (hp s.2)) (fun i s => OnlyM iv s.2 c ∧ ∀ p, p < n → mO s.2 c p = (itM n (mX iv c) (mY iv c) (iv 52 2) (iv 52 3) O0 i).1 p) K 0 ((none, none), iv) (Nat.zero_le _) ⟨OnlyM.rf, hO0⟩ (fun i s _ hi hP => by
    obtain ⟨⟨d4, d5⟩, ivx⟩ := s
    obtain ⟨a1, a2⟩ := hP
    obtain ⟨iv2, d2, e, b1, b2⟩ := one ivx i d4 d5 a1 a2
    have hpos : 0 < mvN n (mX iv c) (mY iv c) (iv 52 2) (iv 52 3) O0 i := by
      have := hK1 i hi
      have := mvN_nonneg (X := mX iv c) (Y := mY iv c) (r := iv 52 2) (t := iv 52 3) hord0 i
      omega
    rw [if_pos hpos] at e
    refine ⟨((some (I n), d2), iv2), ?_, b1, b2⟩
    rw [show ((i : Int) + 1).toNat = i + 1 by omega, Int.toNat_natCast]
    exact e)
  obtain ⟨⟨d4, d5⟩, ivx⟩ := s
  dsimp only at g1 g2
  obtain ⟨iv2, d2, e2, b1, b2⟩ := one ivx K d4 d5 g1 g2
  refine ⟨iv2, (show _ = _ from e).trans ?_, b1, b2⟩
  rw [Int.toNat_natCast]
  show Run sc 149 14 [some (Rf 52), some (I c), some (I (itM n (mX iv c) (mY iv c) (iv 52 2) (iv 52 3) O0 K).2), some (I 1), d4, d5] [] (hp ivx) = _
  rw [e2, if_neg (by omega), B_X7_shorten_14, ite_T rfl, B_X7_shorten_96]
  have em : (itM n (mX iv c) (mY iv c) (iv 52 2) (iv 52 3) O0 (K + 1)).2 = (itM n (mX iv c) (mY iv c) (iv 52 2) (iv 52 3) O0 K).2 + mvN n (mX iv c) (mY iv c) (iv 52 2) (iv 52 3) O0 K := rfl
  rw [em, hK0, Int.add_zero]
end MSHORT
