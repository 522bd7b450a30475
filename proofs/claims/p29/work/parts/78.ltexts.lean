/-! the law: texts, errors -/
section FLT
variable {T : Nat → Int} {w h : Int}
theorem cfF_0 {len i : Nat} {a b : Int} : cfF T len 0 i a b = if 1 ≤ ncI a b ∧ ncI a b ≤ 24 then (if b = 0 then -1 else (len : Int)) else len - b := rfl
theorem nc_1 {a b : Int} (hb : b ≠ 0) : ncI a b = a := if_neg hb
theorem fl1 (h0 : 49 ≤ T 0 ∧ T 0 ≤ 51) : fltF T 1 w h = 1 := by
  have e : cfF T 1 1 0 0 0 = 1 := by
    rw [cfF_s, if_pos (by omega), if_neg (by omega), cfF_0, nc_1 (by omega), if_pos (by omega), if_neg (by omega)]
    rfl
  unfold fltF
  rw [e, if_neg (by omega)]
theorem fl2 (h0 : 49 ≤ T 0 ∧ T 0 ≤ 51) (h1 : T 1 = 120) : fltF T 2 w h = 1 := by
  have e : cfF T 2 2 0 0 0 = 1 := by
    rw [cfF_s, if_pos (by omega), if_neg (by omega), cfF_s, show (0 + 1 : Nat) = 1 from rfl, h1, if_neg (by omega), nc_1 (by omega), if_pos (by omega), if_neg (by omega)]
    rfl
  unfold fltF
  rw [e, if_neg (by omega)]
theorem fl3 (h0 : T 0 = 50) (h1 : T 1 = 53) : fltF T 2 w h = 0 := by
  have e : cfF T 2 2 0 0 0 = 0 := by
    rw [cfF_s, if_pos (by omega), if_neg (by omega), cfF_s, show (0 + 1 : Nat) = 1 from rfl, h1, h0, if_pos (by omega), if_neg (by omega), cfF_0, nc_1 (by omega), if_neg (by omega)]
    rfl
  unfold fltF
  rw [e, if_neg (by omega)]
theorem fl4 (h0 : T 0 = 50) (h1 : T 1 = 53) (h2 : T 2 = 49) : fltF T 3 w h = 2 := by
  have e : cfF T 3 3 0 0 0 = 2 := by
    rw [cfF_s, if_pos (by omega), if_neg (by omega), cfF_s, show (0 + 1 : Nat) = 1 from rfl, h1, h0, if_pos (by omega), if_neg (by omega), cfF_s, show (1 + 1 : Nat) = 2 from rfl, h2, if_pos (by omega), if_pos (by omega)]
    rfl
  unfold fltF
  rw [e, if_neg (by omega)]
theorem fl5 (hw : 1 ≤ w ∧ w ≤ 24) (hh : 1 ≤ h) (h0 : T 0 = 50) (h1 : T 1 = 52) (h2 : T 2 = 97) (h3 : T 3 = 97) : fltF T 4 w h = 120 := by
  have e : cfF T 4 4 0 0 0 = -1 := by
    rw [cfF_s, if_pos (by omega), if_neg (by omega), cfF_s, show (0 + 1 : Nat) = 1 from rfl, h1, h0, if_pos (by omega), if_neg (by omega), cfF_s, show (1 + 1 : Nat) = 2 from rfl, h2, if_neg (by omega), nc_1 (by omega), if_pos (by omega), if_pos (by omega), cfF_s, show (2 + 1 : Nat) = 3 from rfl, h3, if_neg (by omega), show ncI 0 0 = 1 from rfl, if_pos (by omega), if_pos (by omega), cfF_0, show ncI 0 0 = 1 from rfl, if_pos (by omega), if_pos rfl]
  have f : fiF T w h 4 0 0 0 0 0 = false := by
    rw [fiF_s, if_pos (by omega), if_neg (by omega), fiF_s, show (0 + 1 : Nat) = 1 from rfl, h1, h0, if_pos (by omega), if_neg (by omega), fiF_s, show (1 + 1 : Nat) = 2 from rfl, h2, if_neg (by omega), if_neg (by omega), nc_1 (by omega)]
    by_cases z : w < 0 + (10 * (10 * 0 + (50 - 48)) + (52 - 48)) ∨ h ≤ 0
    · rw [if_pos z]
    · rw [if_neg z, fiF_s, show (2 + 1 : Nat) = 3 from rfl, h3, if_neg (by omega), if_neg (by omega), show ncI 0 0 = 1 from rfl, if_pos (by omega)]
  unfold fltF
  rw [e, if_pos rfl, f, if_neg (by decide)]
end FLT
section LTEXT
variable {sc : Nat × (Nat → Int)} {iv iv2 : Nat → Nat → Int} {O : Nat → Nat → Int} {w h n : Nat} {cs : List (Nat × Nat)} {G : Int}
theorem readNone2_S (H : InvC iv O w h 0) : ∃ s O2, Run sc 80 0 [some (Rf 1), none] [] (hp iv) = some (some (I 0), hp s) ∧ InvC s O2 w h 0 ∧ ∀ k, 51 < k → s k = iv k := by
  have hT := H.2.2.2.2.1
  obtain ⟨⟨⟨d1, d2, d3, d4, d5, d6⟩, a3⟩, -⟩ := id H
  obtain ⟨a, b, e1⟩ := flt_S (sc := sc) (w := w) (h := h) hT (by omega) (by omega)
  have ef : fltF (iv 51) 0 w h = -1 := rfl
  have t4 : tx iv 0 0 4 = iv 4 := tx_ne (by omega)
  obtain ⟨s1, m2, a2', b2', g1, g2, g3⟩ := draw_S (sc := sc) (n := 0) (w := w) (h := h) hT d1 d2 ⟨d3, d4⟩ ⟨d5, d6⟩ 0 0 0 0 0 0 0 none (tx iv 0 0) (by omega) digB.z (by omega) (by omega) (by omega) rfl rfl (ChG.rf (fun j hj => by rw [t4]; exact a3 j hj)) (fun j _ => by rw [t4])
  have e4 : s1 4 = iv 4 := by rw [g3]; exact t4
  have em : m2 = 0 := by
    rw [g2.2.2.2.1, e4, tx_ne (show 4 ≠ 50 by omega)]
    exact sumN_zero fun j _ => if_pos rfl
  subst em
  have H0 : InvC (tx iv a2' b2') O w h 0 := H.tx (fun k x _ => tx_ne x) (by
    unfold TxtB at hT ⊢
    rw [tx_1, tx_ne (show 51 ≠ 50 by omega)]; exact hT)
  refine ⟨s1, _, ?_, H0.chG g2, fun k hk => by rw [g2.1 k (by omega) (by omega), tx_ne (by omega)]⟩
  rw [B_X6_readChart_0, d1, d2, e1, aBind_some, pushR_some, ef, B_X6_readChart_21, if_pos rfl, B_X1_drawOn_0, startN_T, aBind_some, pushR_none, B_X1_drawOn_4]
  rw [show (((0 : Nat) : Int)) = 0 from rfl] at g1
  rw [g1, aBind_some, pushR_some, B_X6_readChart_38, B_X6_readChart_45]
set_option maxHeartbeats 4000000 in
theorem ltexts_L (H : InvC iv O w h n) (hZ : Zr cs iv) : ∃ iv2 O2, Run sc 121 0 [some (Rf 1), some (I G), none, none, none, none, none, none] [] (hq cs iv) = some (some (I 1), hq cs iv2) ∧ InvC iv2 O2 w h 0 ∧ Zr cs iv2 := by
  obtain ⟨⟨⟨d1, d2, d3, d4, d5, d6⟩, -⟩, -⟩ := id H
  have zr : ∀ {a b : Nat → Nat → Int}, Zr cs a → (∀ k, k ≠ 50 → k ≠ 51 → b k = a k) → Zr cs b := fun za f k hk j => by rw [f k (by omega) (by omega)]; exact za k hk j
  have zr1 : ∀ {a b : Nat → Nat → Int}, Zr cs a → (∀ k, k ≠ 50 → b k = a k) → Zr cs b := fun za f k hk j => by rw [f k (by omega)]; exact za k hk j
  have hd := lowF_b (v := G) (m := 3) (by omega)
  -- a digit, then x
  obtain ⟨s1, e1, H1, k1⟩ := clearText_S (sc := sc) H
  obtain ⟨s2, e2, H2, k2, t2⟩ := type_S (sc := sc) (c := (48 + (1 + lowF G 3)) % 65536) H1 (by omega) (by omega)
  have a20 : 49 ≤ s2 51 0 ∧ s2 51 0 ≤ 51 := by rw [t2, upI_same]; omega
  have f2 : fltF (s2 51) (0 + 1) w h = 1 := fl1 a20
  obtain ⟨s3, e3, H3, k3⟩ := readBad_S (sc := sc) H2 (by rw [f2]; omega)
  rw [f2, show (-100 - 1 : Int) = -101 from rfl] at e3
  obtain ⟨s4, e4, H4, k4, t4⟩ := type_S (sc := sc) (c := 120) H3 (by omega) (by omega)
  have f4 : fltF (s4 51) (0 + 1 + 1) w h = 1 := fl2 (by rw [t4, upI_ne (by omega), k3 51 (by omega)]; exact a20) (by rw [t4, upI_same])
  obtain ⟨s5, e5, H5, k5⟩ := readBad_S (sc := sc) H4 (by rw [f4]; omega)
  rw [f4, show (-100 - 1 : Int) = -101 from rfl] at e5
  -- 25, then 1
  obtain ⟨u1, g1, I1, j1⟩ := clearText_S (sc := sc) H5
  obtain ⟨u2, g2, I2, j2, r2⟩ := type_S (sc := sc) (c := 50) I1 (by omega) (by omega)
  obtain ⟨u3, g3, I3, j3, r3⟩ := type_S (sc := sc) (c := 53) I2 (by omega) (by omega)
  have b0 : u3 51 0 = 50 := by rw [r3, upI_ne (by omega), r2, upI_same]
  have b1 : u3 51 1 = 53 := by rw [r3, upI_same]
  have f5 : fltF (u3 51) (0 + 1 + 1) w h = 0 := fl3 b0 b1
  obtain ⟨u4, g4, I4, j4⟩ := readBad_S (sc := sc) I3 (by rw [f5]; omega)
  rw [f5, show (-100 - 0 : Int) = -100 from rfl] at g4
  obtain ⟨u5, g5, I5, j5, r5⟩ := type_S (sc := sc) (c := 49) I4 (by omega) (by omega)
  have f6 : fltF (u5 51) (0 + 1 + 1 + 1) w h = 2 := fl4 (by rw [r5, upI_ne (by omega), j4 51 (by omega)]; exact b0) (by rw [r5, upI_ne (by omega), j4 51 (by omega)]; exact b1) (by rw [r5, upI_same])
  obtain ⟨u6, g6, I6, j6⟩ := readBad_S (sc := sc) I5 (by rw [f6]; omega)
  rw [f6, show (-100 - 2 : Int) = -102 from rfl] at g6
  -- 24aa
  obtain ⟨v1, m1, J1, q1⟩ := clearText_S (sc := sc) I6
  obtain ⟨v2, m2, J2, q2, p2⟩ := type_S (sc := sc) (c := 50) J1 (by omega) (by omega)
  obtain ⟨v3, m3, J3, q3, p3⟩ := type_S (sc := sc) (c := 52) J2 (by omega) (by omega)
  obtain ⟨v4, m4, J4, q4, p4⟩ := type_S (sc := sc) (c := 97) J3 (by omega) (by omega)
  obtain ⟨v5, m5, J5, q5, p5⟩ := type_S (sc := sc) (c := 97) J4 (by omega) (by omega)
  have f7 : fltF (v5 51) (0 + 1 + 1 + 1 + 1) w h = 120 := fl5 (by omega) (by omega) (by rw [p5, upI_ne (by omega), p4, upI_ne (by omega), p3, upI_ne (by omega), p2, upI_same]) (by rw [p5, upI_ne (by omega), p4, upI_ne (by omega), p3, upI_same]) (by rw [p5, upI_ne (by omega), p4, upI_same]) (by rw [p5, upI_same])
  obtain ⟨v6, m6, J6, q6⟩ := readBad_S (sc := sc) J5 (by rw [f7]; omega)
  rw [f7, show (-100 - 120 : Int) = -220 from rfl] at m6
  obtain ⟨v7, m7, J7, q7⟩ := clearText_S (sc := sc) J6
  obtain ⟨v8, O8, m8, J8, q8⟩ := readNone2_S (sc := sc) J7
  have Z7 : Zr cs v7 := zr1 (zr1 (zr (zr (zr (zr (zr1 (zr1 (zr (zr1 (zr (zr (zr1 (zr1 (zr (zr1 (zr (zr1 hZ k1) k2) k3) k4) k5) j1) j2) j3) j4) j5) j6) q1) q2) q3) q4) q5) q6) q7
  refine ⟨v8, O8, ?_, J8, fun k hk j => by rw [q8 k (by omega)]; exact Z7 k hk j⟩
  rw [B_L_texts_0, Run_ex e1, aBind_some, pushR_some, B_L_texts_4, low_L (by omega), aBind_some, pushR_some, B_L_texts_11, chk_pos (by omega), chk_pos (by omega), Run_ex e2, aBind_some, pushR_some, B_L_texts_22, Run_ex e3, aBind_some, pushR_some, B_L_texts_27, if_pos rfl, B_L_texts_37, Run_ex e4, aBind_some, pushR_some, B_L_texts_44, Run_ex e5, aBind_some, pushR_some, B_L_texts_49, if_pos rfl, B_L_texts_59, Run_ex g1, aBind_some, pushR_some, B_L_texts_65, Run_ex g2, aBind_some, pushR_some, B_L_texts_72, Run_ex g3, aBind_some, pushR_some, B_L_texts_79, Run_ex g4, aBind_some, pushR_some, B_L_texts_84, if_pos rfl, B_L_texts_94, Run_ex g5, aBind_some, pushR_some, B_L_texts_102, Run_ex g6, aBind_some, pushR_some, B_L_texts_107, if_pos rfl, B_L_texts_117, Run_ex m1, aBind_some, pushR_some, B_L_texts_123, Run_ex m2, aBind_some, pushR_some, B_L_texts_130, Run_ex m3, aBind_some, pushR_some, B_L_texts_137, Run_ex m4, aBind_some, pushR_some, B_L_texts_144, Run_ex m5, aBind_some, pushR_some, B_L_texts_151, Run_ex m6, aBind_some, pushR_some, B_L_texts_156, if_pos rfl, B_L_texts_167, if_neg (by omega), if_neg (by omega), if_neg (by omega), if_neg (by omega), if_neg (by omega), Run_ex m7, aBind_some, pushR_some, B_L_texts_197, if_pos (by omega), Run_ex m8, aBind_some, pushR_some, B_L_texts_205, if_pos rfl, B_L_texts_213, bck_pos (by omega)]
set_option maxHeartbeats 4000000 in
theorem lerrors_L (H : InvC iv O w h n) : Run sc 122 0 [some (Rf 1), some (I (w : Int)), some (I (h : Int)), none, none] [] (hq cs iv) = some (some (I 1), hq cs iv) := by
  obtain ⟨⟨⟨d1, d2, d3, d4, d5, d6⟩, -⟩, -⟩ := id H
  have i1 : ¬ inC iv w 0 := by unfold inC; omega
  have i2 : inC iv 0 0 := by unfold inC; omega
  have i3 : ¬ inC iv 0 h := by unfold inC; omega
  rw [B_L_errors_0, Run_ex (reset_bad (by omega)), aBind_some, pushR_some, B_L_errors_9, if_pos rfl, Run_ex (reset_bad (by omega)), aBind_some, pushR_some, B_L_errors_20, if_pos rfl, Run_ex ((setCell_no H).1 i1), aBind_some, pushR_some, B_L_errors_32, if_pos rfl, Run_ex ((setCell_no H).2 i2 (by omega)), aBind_some, pushR_some, B_L_errors_44, if_pos rfl, Run_ex ((fill_no H).1 i3), aBind_some, pushR_some, B_L_errors_57, if_pos rfl, chk_pos (by omega), Run_ex ((fill_no H).2 i2 (by omega)), aBind_some, pushR_some, B_L_errors_72, if_pos rfl, Run_ex ((fill_no H).2 i2 (by omega)), aBind_some, pushR_some, B_L_errors_86, if_pos rfl, Run_ex ((fill_no H).2 i2 (by omega)), aBind_some, pushR_some, B_L_errors_99, if_pos rfl, Run_ex (setThread_bad (by omega)), aBind_some, pushR_some, B_L_errors_111, if_pos rfl, Run_ex (setThread_bad (by omega)), aBind_some, pushR_some, B_L_errors_123, if_pos rfl, B_L_errors_132, if_neg (by omega), Run_ex (setPages_bad (by omega)), aBind_some, pushR_some, B_L_errors_146, if_pos rfl, Run_ex (setPages_bad (by omega)), aBind_some, pushR_some, B_L_errors_158, if_pos rfl, Run_ex (setPages_bad (by omega)), aBind_some, pushR_some, B_L_errors_169, if_pos rfl, Run_ex (run_bad (by omega)), aBind_some, pushR_some, B_L_errors_180, if_pos rfl, Run_ex (run_bad (by omega)), aBind_some, pushR_some, B_L_errors_192, if_pos rfl, Run_ex (setBackU_no H (by unfold inU; omega)), aBind_some, pushR_some, B_L_errors_204, if_pos rfl, Run_ex (setBackF_no H (by unfold inF; omega)), aBind_some, pushR_some, B_L_errors_216, if_pos rfl, B_L_errors_225, bck_pos (by omega)]
end LTEXT
