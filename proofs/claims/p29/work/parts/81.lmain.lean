/-! the law: its loop, its end -/
section LMAIN
variable {sc : Nat × (Nat → Int)} {g iv iv2 : Nat → Nat → Int} {O : Nat → Nat → Int} {w h n : Nat} {cs : List (Nat × Nat)} {A B D r t c X Y : Int} {e : Nat} {d13 d14 d15 d16 d17 : Option AV}
theorem ev_L {S : Int} (hS : 0 ≤ S ∧ S < 9) (H : InvC iv O w h n) (hZ : Zr cs iv) (h6 : iv 6 0 = r ∧ iv 6 1 = t) (hx : 0 ≤ X ∧ X < w) (hy : 0 ≤ Y ∧ Y < h) (hc : 0 ≤ c ∧ c < 7) : EvE A w h n cs (Run sc 0 145 [some (Rf 0), some (Rf 1), some (I A), some (I (w : Int)), some (I (h : Int)), some (I r), some (I t), some (I ((e : Int))), some (I B), some (I D), some (I S), some (I X), some (I Y), d13, d14, d15, d16, d17] [(I c)] (hq cs iv)) (fun r t x14 x15 x16 x17 cs iv => Run sc 0 694 [some (Rf 0), some (Rf 1), some (I A), some (I (w : Int)), some (I (h : Int)), some (I r), some (I t), some (I ((e : Int))), some (I B), some (I D), some (I S), some (I X), some (I Y), some (I c), x14, x15, x16, x17] [] (hq cs iv)) := by
  have key : S = 0 ∨ S = 1 ∨ S = 2 ∨ S = 3 ∨ S = 4 ∨ S = 5 ∨ S = 6 ∨ S = 7 ∨ S = 8 := by omega
  rcases key with rfl | rfl | rfl | rfl | rfl | rfl | rfl | rfl | rfl
  · obtain ⟨iv2, O2, x14, e1, H2, Z2, e6⟩ := evSet_L (sc := sc) (A := A) (B := B) (D := D) (r := r) (t := t) (e := e) (d13 := d13) (d14 := d14) (d15 := d15) (d16 := d16) (d17 := d17) H hZ hx hy hc
    exact EvE.same e1 H2 Z2 e6 h6
  · obtain ⟨iv2, O2, x14, x15, x16, x17, e1, H2, Z2, e6⟩ := evFill_L (sc := sc) (A := A) (B := B) (D := D) (r := r) (t := t) (e := e) (d13 := d13) (d14 := d14) (d15 := d15) (d16 := d16) (d17 := d17) (x := X.toNat) (y := Y.toNat) (X := X) (Y := Y) H hZ (by omega) (by omega) (by omega) (by omega) hc
    exact EvE.same e1 H2 Z2 e6 h6
  · exact evMerges_L H hZ h6
  · exact evMerge_L H hZ h6
  · exact evThread_L H hZ h6
  · exact evOrders_L H hZ h6
  · exact evOutlines_L H hZ h6
  · exact evBack_L H hZ h6 hx hy
  · exact evPages_L H hZ h6
set_option maxHeartbeats 4000000 in
/-- what is checked behind each event -/
theorem behind_L {x10 x11 x12 x13 : Int} {x14 x15 x16 x17 : Option AV} (H : InvC iv O w h n) (hZ : Zr cs iv) (h6 : iv 6 0 = r ∧ iv 6 1 = t) (he : e < 34) : ∃ iv2, Run sc 0 694 [some (Rf 0), some (Rf 1), some (I A), some (I (w : Int)), some (I (h : Int)), some (I r), some (I t), some (I ((e : Int))), some (I B), some (I D), some (I x10), some (I x11), some (I x12), some (I x13), x14, x15, x16, x17] [] (hq cs iv) = Run sc 0 62 [some (Rf 0), some (Rf 1), some (I A), some (I (w : Int)), some (I (h : Int)), some (I r), some (I t), some (I ((e : Int) + 1)), some (I B), some (I D), some (I x10), some (I x11), some (I x12), some (I x13), x14, x15, x16, x17] [] (hq (cs ++ [(8, 7)]) iv2) ∧ InvC iv2 O w h n ∧ Zr (cs ++ [(8, 7)]) iv2 ∧ iv2 6 = iv 6 := by
  have C0 : Cur iv O w h n cs iv := Cur.rf H hZ
  obtain ⟨v1, e1, C1, -⟩ := runs_L (sc := sc) C0 h6.1 h6.2
  obtain ⟨v2, e2, C2⟩ := alone_L (sc := sc) C1
  by_cases z : (e : Int) % 3 = 0
  · obtain ⟨v3, e3, C3, -⟩ := lbacks_L (sc := sc) C2 h6.2
    obtain ⟨v4, e4, C4, -⟩ := lpages_L (sc := sc) (G := D) C3
    refine ⟨v4, ?_, C4.2.1, C4.2.2.2, C4.e (by omega)⟩
    rw [B_L_law_694, e1, aBind_some, pushR_some, B_L_law_705, if_neg (by omega), e2, aBind_some, pushR_some, B_L_law_715, if_neg (by omega), bck_pos (by omega), bck_pos (by omega), if_pos z, e3, aBind_some, pushR_some, B_L_law_734, if_neg (by omega), e4, aBind_some, pushR_some, B_L_law_746, if_neg (by omega), B_L_law_751, chk_pos (by omega)]
  · refine ⟨v2, ?_, C2.2.1, C2.2.2.2, C2.e (by omega)⟩
    rw [B_L_law_694, e1, aBind_some, pushR_some, B_L_law_705, if_neg (by omega), e2, aBind_some, pushR_some, B_L_law_715, if_neg (by omega), bck_pos (by omega), bck_pos (by omega), if_neg z, B_L_law_751, chk_pos (by omega)]
set_option maxHeartbeats 4000000 in
/-- the script's ints of an event -/
theorem before_L {x8 x9 x10 x11 x12 x13 x14 x15 x16 x17 : Option AV} (hw : 1 ≤ w ∧ w ≤ 24) (hh : 1 ≤ h ∧ h ≤ 24) (he : e < 34) : ∃ B D S X Y c : Int, (0 ≤ S ∧ S < 9) ∧ (0 ≤ X ∧ X < w) ∧ (0 ≤ Y ∧ Y < h) ∧ (0 ≤ c ∧ c < 7) ∧ Run sc 0 62 [some (Rf 0), some (Rf 1), some (I A), some (I (w : Int)), some (I (h : Int)), some (I r), some (I t), some (I ((e : Int))), x8, x9, x10, x11, x12, x13, x14, x15, x16, x17] [] (hq cs iv) = Run sc 0 145 [some (Rf 0), some (Rf 1), some (I A), some (I (w : Int)), some (I (h : Int)), some (I r), some (I t), some (I ((e : Int))), some (I B), some (I D), some (I S), some (I X), some (I Y), x13, x14, x15, x16, x17] [(I c)] (hq cs iv) := by
  obtain ⟨S, hS, fS⟩ : ∃ S : Int, (0 ≤ S ∧ S < 9) ∧ Run sc 0 91 [some (Rf 0), some (Rf 1), some (I A), some (I (w : Int)), some (I (h : Int)), some (I r), some (I t), some (I ((e : Int))), some (I (scF sc (1 + 2 * (e : Int)))), x9, x10, x11, x12, x13, x14, x15, x16, x17] [(I (scF sc (2 + 2 * (e : Int))))] (hq cs iv) = Run sc 0 114 [some (Rf 0), some (Rf 1), some (I A), some (I (w : Int)), some (I (h : Int)), some (I r), some (I t), some (I ((e : Int))), some (I (scF sc (1 + 2 * (e : Int)))), some (I (scF sc (2 + 2 * (e : Int)))), x10, x11, x12, x13, x14, x15, x16, x17] [(I S)] (hq cs iv) := by
    by_cases z : (e : Int) < 8
    · refine ⟨(e : Int) % 2, by omega, ?_⟩
      rw [B_L_law_91, if_pos z, bck_pos (by omega), bck_pos (by omega)]
    · have b := lowF_b (v := scF sc (1 + 2 * (e : Int))) (m := 9) (by omega)
      refine ⟨lowF (scF sc (1 + 2 * (e : Int))) 9, b, ?_⟩
      rw [B_L_law_91, if_neg z, B_L_law_107, low_L (by omega), aBind_some, pushR_some]
  refine ⟨scF sc (1 + 2 * (e : Int)), scF sc (2 + 2 * (e : Int)), S, lowF (scF sc (1 + 2 * (e : Int)) / 16) (w : Int), lowF (scF sc (1 + 2 * (e : Int)) / 256) (h : Int), lowF (scF sc (2 + 2 * (e : Int))) 7, hS, lowF_b (by omega), lowF_b (by omega), lowF_b (by omega), ?_⟩
  rw [B_L_law_62, if_pos (by omega), chk_pos (by omega), chk_pos (by omega), cellS_L (by omega), aBind_some, pushR_some, B_L_law_79, chk_pos (by omega), chk_pos (by omega), cellS_L (by omega), aBind_some, pushR_some, fS, B_L_law_114, low_L (by omega), aBind_some, pushR_some, B_L_law_124, low_L (by omega), aBind_some, pushR_some, B_L_law_136, low_L (by omega), aBind_some, pushR_some]
set_option maxHeartbeats 4000000 in
/-- the law from its loop on answers true -/
theorem law_loop (H : InvC iv O w h n) (hZ : Zr cs iv) (h6 : iv 6 0 = r ∧ iv 6 1 = t) : ∃ cs2 iv2, Run sc 0 62 [some (Rf 0), some (Rf 1), some (I A), some (I (w : Int)), some (I (h : Int)), some (I r), some (I t), some (I 0), none, none, none, none, none, none, none, none, none, none] [] (hq cs iv) = some (some (I 1), hq cs2 iv2) ∧ cs2.length ≤ cs.length + 102 ∧ aSl cs2 ≤ aSl cs + 6800 := by
  obtain ⟨⟨⟨d1, d2, d3, d4, d5, d6⟩, -⟩, -⟩ := id H
  obtain ⟨s, f, q1, q2, q3, q4, q5⟩ := loop_ex (fun e (s : (List (Nat × Nat) × (Nat → Nat → Int) × (Nat → Nat → Int)) × (Int × Int) × Option AV × Option AV × Option AV × Option AV × Option AV × Option AV × Option AV × Option AV × Option AV × Option AV) => Run sc 0 62 [some (Rf 0), some (Rf 1), some (I A), some (I (w : Int)), some (I (h : Int)), some (I s.2.1.1), some (I s.2.1.2), some (I e), s.2.2.1, s.2.2.2.1, s.2.2.2.2.1, s.2.2.2.2.2.1, s.2.2.2.2.2.2.1, s.2.2.2.2.2.2.2.1, s.2.2.2.2.2.2.2.2.1, s.2.2.2.2.2.2.2.2.2.1, s.2.2.2.2.2.2.2.2.2.2.1, s.2.2.2.2.2.2.2.2.2.2.2] [] (hq s.1.1 s.1.2.1)) (fun e s => InvC s.1.2.1 s.1.2.2 w h n ∧ Zr s.1.1 s.1.2.1 ∧ (s.1.2.1 6 0 = s.2.1.1 ∧ s.1.2.1 6 1 = s.2.1.2) ∧ s.1.1.length ≤ cs.length + 3 * e ∧ aSl s.1.1 ≤ aSl cs + 200 * e) 34 0 ((cs, iv, O), (r, t), none, none, none, none, none, none, none, none, none, none) (Nat.zero_le _) ⟨H, hZ, h6, by dsimp only; omega, by dsimp only; omega⟩ (fun e s _ he hP => by
    obtain ⟨⟨cs1, v, O1⟩, ⟨r1, t1⟩, x8, x9, x10, x11, x12, x13, x14, x15, x16, x17⟩ := s
    obtain ⟨p1, p2, p3, p4, p5⟩ := hP
    dsimp only at p1 p2 p3 p4 p5
    obtain ⟨B, D, S, X, Y, c, hS, hX, hY, hc, fb⟩ := before_L (sc := sc) (cs := cs1) (iv := v) (A := A) (r := r1) (t := t1) (w := w) (h := h) (x8 := x8) (x9 := x9) (x10 := x10) (x11 := x11) (x12 := x12) (x13 := x13) (x14 := x14) (x15 := x15) (x16 := x16) (x17 := x17) (by omega) (by omega) he
    obtain ⟨cs2, v2, O2, y14, y15, y16, y17, r2, t2, fe, H2, Z2, h62, l2, a2⟩ := ev_L (sc := sc) (A := A) (B := B) (D := D) (e := e) (d13 := x13) (d14 := x14) (d15 := x15) (d16 := x16) (d17 := x17) hS p1 p2 p3 hX hY hc
    obtain ⟨v3, fr, H3, Z3, h63⟩ := behind_L (sc := sc) (A := A) (B := B) (D := D) (e := e) (x10 := S) (x11 := X) (x12 := Y) (x13 := c) (x14 := y14) (x15 := y15) (x16 := y16) (x17 := y17) H2 Z2 h62 he
    refine ⟨((cs2 ++ [(8, 7)], v3, O2), (r2, t2), some (I B), some (I D), some (I S), some (I X), some (I Y), some (I c), y14, y15, y16, y17), ?_, H3, Z3, by dsimp only; rw [h63]; exact h62, by dsimp only; rw [List.length_append]; show cs2.length + 1 ≤ _; omega, by dsimp only; rw [aSl_app]; show aSl cs2 + 7 ≤ _; omega⟩
    dsimp only at fe ⊢
    rw [fb, fe, fr])
  obtain ⟨⟨cs1, v, O1⟩, ⟨r1, t1⟩, x8, x9, x10, x11, x12, x13, x14, x15, x16, x17⟩ := s
  dsimp only at q1 q2 q3 q4 q5 f
  rw [show (((0 : Nat) : Int)) = 0 from rfl] at f
  have er : ∀ (u : Nat → Nat → Int) (Q : Nat → Nat → Int) (m : Nat), InvC u Q w h m → Run sc 0 774 [some (Rf 0), some (Rf 1), some (I A), some (I (w : Int)), some (I (h : Int)), some (I r1), some (I t1), some (I (((34 : Nat) : Int))), x8, x9, x10, x11, x12, x13, x14, x15, x16, x17] [] (hq cs1 u) = some (some (I 1), hq cs1 u) := fun u Q m Hu => by
    rw [B_L_law_774, lerrors_L Hu, aBind_some, pushR_some, B_L_law_781, if_neg (by omega), B_L_law_789, bck_pos (by omega)]
  by_cases z : (w : Int) < 24
  · obtain ⟨v2, O2, ft, H2, -⟩ := ltexts_L (sc := sc) (G := A / 512) q1 q2
    refine ⟨cs1, v2, ?_, by omega, by omega⟩
    rw [f, B_L_law_62, if_neg (by omega), B_L_law_757, if_pos z, ft, aBind_some, pushR_some, B_L_law_771, if_neg (by omega), er _ _ _ H2]
  · refine ⟨cs1, v, ?_, by omega, by omega⟩
    rw [f, B_L_law_62, if_neg (by omega), B_L_law_757, if_neg z, er _ _ _ q1]
set_option maxHeartbeats 4000000 in
/-- the law behind its constructor -/
theorem law_body {d2 d3 d4 d5 d6 d7 d8 d9 d10 d11 d12 : Option AV} (H : InvC iv O 10 8 n) (hZ : Zr [] iv) (d2' : d2 = none ∧ d3 = none ∧ d4 = none ∧ d5 = none ∧ d6 = none ∧ d7 = none ∧ d8 = none ∧ d9 = none ∧ d10 = none ∧ d11 = none ∧ d12 = none) (h6 : iv 6 0 = 60 ∧ iv 6 1 = 30) : ∃ cs2 iv2, Run sc 0 8 [some (Rf 0), some (Rf 1), d2, d3, d4, d5, d6, d7, d8, d9, d10, d11, d12, none, none, none, none, none] [] (hq [] iv) = some (some (I 1), hq cs2 iv2) ∧ cs2.length ≤ 102 ∧ aSl cs2 ≤ 6800 := by
  obtain ⟨rfl, rfl, rfl, rfl, rfl, rfl, rfl, rfl, rfl, rfl, rfl⟩ := d2'
  have b1 := lowF_b (v := scF sc 0) (m := 12) (by omega)
  have b2 := lowF_b (v := scF sc 0 / 16) (m := 8) (by omega)
  obtain ⟨w, hw⟩ : ∃ w : Nat, 1 + lowF (scF sc 0) 12 = w := ⟨(1 + lowF (scF sc 0) 12).toNat, by omega⟩
  obtain ⟨h, hh⟩ : ∃ h : Nat, 1 + lowF (scF sc 0 / 16) 8 = h := ⟨(1 + lowF (scF sc 0 / 16) 8).toNat, by omega⟩
  obtain ⟨s, O2, e1, H1, k1, -⟩ := reset_S (sc := sc) (x := w) (y := h) H (by omega) (by omega)
  have Z1 : Zr [] s := fun k hk j => by
    have hk2 : 51 < k := by simpa using hk
    rw [k1 k (by omega) (by omega) (by omega) (by omega) (by omega)]; exact hZ k hk j
  have s6 := k1 6 (by omega) (by omega) (by omega) (by omega) (by omega)
  have mwh := mulB (a := (w : Int)) (b := (h : Int)) (m := 24) (n := 24) (by omega) (by omega)
  obtain ⟨cs2, iv2, f, l2, a2⟩ := law_loop (sc := sc) (A := scF sc 0) (r := 60) (t := 30) H1 Z1 (by rw [s6]; exact h6)
  refine ⟨cs2, iv2, ?_, by simpa using l2, by have : aSl ([] : List (Nat × Nat)) = 0 := rfl; omega⟩
  rw [B_L_law_8, cellS_L (by omega), aBind_some, pushR_some, B_L_law_13, low_L (by omega), aBind_some, pushR_some, B_L_law_21, chk_pos (by omega), low_L (by omega), aBind_some, pushR_some, B_L_law_32, chk_pos (by omega), hw, hh, Run_ex e1, aBind_some, pushR_some, B_L_law_50, chk_pos (by omega), if_pos rfl, B_L_law_59, f]
end LMAIN
