/-! readChart */ -/
section READ
variable {sc : Nat × (Nat → Int)} {iv s s1 t : Nat → Nat → Int} {w h n : Nat}
theorem drF_cg {T : Nat → Int} : ∀ (f i : Nat) (x y a b : Int) (g g2 : Nat → Int) (j : Nat), g j = g2 j → drF T f i x y a b g j = drF T f i x y a b g2 j := by
  intro f
  induction f with
  | zero => intro i x y a b g g2 j e; exact e
  | succ f ih =>
    intro i x y a b g g2 j e
    rw [drF_s, drF_s]
    by_cases c1 : digI (T i)
    · rw [if_pos c1, if_pos c1]; exact ih _ _ _ _ _ _ _ _ e
    · rw [if_neg c1, if_neg c1]
      by_cases c2 : T i = 47
      · rw [if_pos c2, if_pos c2]; exact ih _ _ _ _ _ _ _ _ e
      · rw [if_neg c2, if_neg c2]
        refine ih _ _ _ _ _ _ _ _ ?_
        unfold rowP
        rw [e]
/-- what a reading leaves behind -/
theorem InvW.scr (H : InvW iv w h n) (f : ∀ k, k ≠ 50 → k ≠ 52 → k ≠ 54 → s k = iv k) (f50 : s 50 1 = iv 50 1) (f52 : ∀ f, f ≤ 17 → s 52 f = iv 52 f) : InvW s w h n := by
  have e4 : s 4 = iv 4 := f 4 (by omega) (by omega) (by omega)
  have eg : gN s = gN iv := by funext x y; unfold gN; rw [e4]
  have eX : mX s = mX iv := by funext c r; unfold mX; rw [f 58 (by omega) (by omega) (by omega)]
  have eY : mY s = mY iv := by funext c r; unfold mY; rw [f 59 (by omega) (by omega) (by omega)]
  have eL : mL s = mL iv := by funext c r; unfold mL; rw [f 60 (by omega) (by omega) (by omega)]
  have eO : mO s = mO iv := by funext c r; unfold mO; rw [f 61 (by omega) (by omega) (by omega)]
  obtain ⟨⟨h1, a1, a2, a3⟩, h2, h3, h4, h5, h6⟩ := id H
  refine H.chg (D := fun _ => False) (fun k a _ _ _ => f k (by omega) (by omega) (by omega)) f50 (f 51 (by omega) (by omega) (by omega)) f52 (f 55 (by omega) (by omega) (by omega)) (f 56 (by omega) (by omega) (by omega)) (f 63 (by omega) (by omega) (by omega)) (fun c hc => hc.elim) (fun c _ => by rw [f 3 (by omega) (by omega) (by omega)]) (fun j hj => by rw [e4, f 53 (by omega) (by omega) (by omega)]; exact a3 j hj) (fun c _ j _ => by rw [e4]) (fun c c1 c6 => ?_)
  obtain ⟨k, rfl⟩ : ∃ k, c = k + 1 := ⟨c - 1, by omega⟩
  obtain ⟨-, -, m, c57, cR, -⟩ := h6 k (by omega)
  exact ⟨m, by rw [f 57 (by omega) (by omega) (by omega)]; exact c57, by rw [eg, eX, eY, eL]; exact cR, fun z => z.elim, fun _ p _ => by rw [eO]⟩
/-- the model, up to the end of the text -/
theorem readA_M (hT : MTx (iv 51) s1 n) (hM : MGr iv s1 w h) : ∃ s2 p2 gd2 x2 y2 wd2, Run sc 128 0 [some (Rf 52), none] [] (hp s1) = Run sc 128 96 [some (Rf 52), none] [] (hp s2) ∧ RSt s1 s2 p2 gd2 x2 y2 wd2 ∧ (cfF (iv 51) n n 0 0 0 ≠ -1 → gd2 = 0 ∧ p2 = cfF (iv 51) n n 0 0 0) ∧ (cfF (iv 51) n n 0 0 0 = -1 → gd2 = 1 ∧ (fiF (iv 51) w h n 0 0 0 0 0 = true → wd2 = 0 ∧ y2 < h ∧ ∀ j, j < 576 → s2 54 j = drF (iv 51) n 0 0 0 0 0 (iv 4) j) ∧ (¬ fiF (iv 51) w h n 0 0 0 0 0 = true → wd2 ≠ 0 ∨ h ≤ y2)) := by
  obtain ⟨⟨d1, d2, d3, d4, d5, d6⟩, a1, a2, a3⟩ := id hM
  obtain ⟨t1, q1, q2, q3⟩ := tak_M (sc := sc) hM
  have H0 : RSt s1 t1 (t1 52 19) (t1 52 20) (t1 52 21) (t1 52 22) (t1 52 23) := ⟨fun k _ b => q2 k b, fun f _ _ _ _ _ => by rw [q2 52 (by omega)], rfl, rfl, rfl, rfl, rfl⟩
  have H1 : RSt s1 (setO t1 52 (upI (t1 52) 19 0)) 0 (t1 52 20) (t1 52 21) (t1 52 22) (t1 52 23) := H0.p
  have u1 : setO t1 52 (upI (t1 52) 19 0) 54 = t1 54 := setO_ne (by omega)
  generalize hs1 : setO t1 52 (upI (t1 52) 19 0) = v1 at *
  have H2 : RSt s1 (setO v1 52 (upI (v1 52) 21 0)) 0 (t1 52 20) 0 (t1 52 22) (t1 52 23) := H1.x
  have u2 : setO v1 52 (upI (v1 52) 21 0) 54 = v1 54 := setO_ne (by omega)
  generalize hs2 : setO v1 52 (upI (v1 52) 21 0) = v2 at *
  have H3 : RSt s1 (setO v2 52 (upI (v2 52) 22 0)) 0 (t1 52 20) 0 0 (t1 52 23) := H2.y
  have u3 : setO v2 52 (upI (v2 52) 22 0) 54 = v2 54 := setO_ne (by omega)
  generalize hs3 : setO v2 52 (upI (v2 52) 22 0) = v3 at *
  have H4 : RSt s1 (setO v3 52 (upI (v3 52) 20 1)) 0 1 0 0 (t1 52 23) := H3.g
  have u4 : setO v3 52 (upI (v3 52) 20 1) 54 = v3 54 := setO_ne (by omega)
  generalize hs4 : setO v3 52 (upI (v3 52) 20 1) = v4 at *
  have H5 : RSt s1 (setO v4 52 (upI (v4 52) 23 0)) 0 1 0 0 0 := H4.w
  have u5 : setO v4 52 (upI (v4 52) 23 0) 54 = v4 54 := setO_ne (by omega)
  generalize hs5 : setO v4 52 (upI (v4 52) 23 0) = v5 at *
  have e54 : v5 54 = t1 54 := by rw [u5, u4, u3, u2, u1]
  obtain ⟨s2, p2, gd2, x2, y2, wd2, r1, r2, r3, r4⟩ := text_M (sc := sc) hT hM n 0 v5 0 0 0 (by omega) H5 (by omega) (by omega) (by omega)
  refine ⟨s2, p2, gd2, x2, y2, wd2, ?_, r2, r3, fun z => ?_⟩
  · rw [B_X7_readChart_0, q1, aBind_some, pushR_none, B_X7_readChart_4, bck_pos (by omega), hs1, B_X7_readChart_9, bck_pos (by omega), hs2, B_X7_readChart_14, bck_pos (by omega), hs3, B_X7_readChart_19, bck_pos (by omega), hs4, B_X7_readChart_24, bck_pos (by omega), hs5, r1]
  · obtain ⟨g1, g2, g3⟩ := r4 z
    refine ⟨g1, fun y => ?_, fun y => g3 (fun x => y x.2.2)⟩
    obtain ⟨k1, k2, k3⟩ := g2 ⟨rfl, by omega, y⟩
    refine ⟨k1, k2, fun j hj => ?_⟩
    rw [k3]
    exact drF_cg _ _ _ _ _ _ _ _ _ (by rw [e54, q3 j hj])
set_option maxHeartbeats 1000000 in
theorem read_B (H : InvW iv w h n) : Both sc 80 128 [some (Rf 1), none] [some (Rf 52), none] iv := by
  obtain ⟨hM, h2, h3, h4, ⟨hT, hX⟩, h6⟩ := id H
  obtain ⟨⟨d1, d2, d3, d4, d5, d6⟩, a1, a2, a3⟩ := id hM
  have n120 := hT.2.1
  obtain ⟨a, b, e1⟩ := flt_S (sc := sc) (w := w) (h := h) hT (by omega) (by omega)
  have cb := cfF_b (T := iv 51) (n := n) n 0 0 0 (by omega) (by omega)
  have hc0 : Run sc 80 0 [some (Rf 1), none] [] (hp iv) = Run sc 80 21 [some (Rf 1), none] [I (fltF (iv 51) n w h)] (hp (tx iv a b)) := by
    rw [B_X6_readChart_0, d1, d2, e1, aBind_some, pushR_some]
  -- what the model does from a heap whose cells and text are iv's
  have mod : ∀ s1 : Nat → Nat → Int, s1 52 = iv 52 → s1 53 = iv 53 → s1 63 = iv 63 → MTx (iv 51) s1 n ∧ MGr iv s1 w h := fun s1 k1 k2 k3 => ⟨by unfold MTx; rw [k1, k3]; exact hX, hM.1, by rw [k1]; exact a1, by rw [k1]; exact a2, fun j hj => by rw [k2]; exact a3 j hj⟩
  have bad : ∀ z : Int, fltF (iv 51) n w h = z → z ≠ -1 → -1 ≤ z ∧ z ≤ 120 → (∃ s2, Run sc 128 0 [some (Rf 52), none] [] (hp (tx iv a b)) = some (some (I (-100 - z)), hp s2) ∧ (∀ k, k ≠ 52 → k ≠ 54 → s2 k = tx iv a b k) ∧ ∀ f, f ≤ 17 → s2 52 f = iv 52 f) → Both sc 80 128 [some (Rf 1), none] [some (Rf 52), none] iv := fun z ez hz hb ⟨s2, g1, g2, g3⟩ => by
    refine ⟨-100 - z, tx iv a b, s2, w, h, n, ?_, g1, H.scr (fun k x y z => by rw [g2 k y z, tx_ne x]) (by rw [g2 50 (by omega) (by omega), tx_1]) g3⟩
    rw [hc0, ez, B_X6_readChart_21, if_neg hz, B_X6_readChart_41, chk_pos (by omega), B_X6_readChart_45]
  by_cases c : cfF (iv 51) n n 0 0 0 = -1
  · by_cases q : fiF (iv 51) w h n 0 0 0 0 0 = true
    · have ef : fltF (iv 51) n w h = -1 := by unfold fltF; rw [if_pos c, if_pos q]
      have t4 : tx iv 0 0 4 = iv 4 := tx_ne (by omega)
      obtain ⟨s1, m2, a2', b2', g1, g2, g3⟩ := draw_S (sc := sc) (n := n) (w := w) (h := h) hT d1 d2 ⟨d3, d4⟩ ⟨d5, d6⟩ n 0 0 0 0 0 0 none (tx iv 0 0) (by omega) digB.z (by omega) (by omega) (by omega) c q (ChG.rf (fun j hj => by rw [t4]; exact (a3 j hj).2)) (fun j _ => by rw [t4])
      rw [t4] at g3
      have kk : ∀ k, k ≠ 3 → k ≠ 4 → k ≠ 50 → s1 k = iv k := fun k x y z => by rw [g2.1 k x y, tx_ne z]
      obtain ⟨hT1, hM1⟩ := mod s1 (kk 52 (by omega) (by omega) (by omega)) (kk 53 (by omega) (by omega) (by omega)) (kk 63 (by omega) (by omega) (by omega))
      obtain ⟨s2, p2, gd2, x2, y2, wd2, r1, r2, r3, r4⟩ := readA_M (sc := sc) hT1 hM1
      obtain ⟨v1, v2, v3⟩ := r4 c
      obtain ⟨v4, v5, v6⟩ := v2 q
      obtain ⟨b1, b2, b3, b4, b5, b6, b7⟩ := r2
      obtain ⟨t, ht⟩ : ∃ t, setO s2 52 (upI (s2 52) 24 0) = t := ⟨_, rfl⟩
      have t54 : ∀ j, j < 576 → t 54 j = s1 4 j := fun j hj => by rw [← ht, setO_ne (by omega), v6 j hj, g3]
      have tk : ∀ k, k ≠ 52 → k ≠ 54 → t k = s1 k := fun k x y => by rw [← ht, setO_ne x, b1 k x y]
      have t52 : ∀ f, f ≤ 17 → t 52 f = s1 52 f := fun f hf => by rw [← ht, setO_same, upI_ne (by omega), b2 f (by omega) (by omega) (by omega) (by omega) (by omega)]
      have t24 : t 52 24 = 0 := by rw [← ht, setO_same, upI_same]
      have s21 : s2 52 1 = h := by rw [b2 1 (by omega) (by omega) (by omega) (by omega) (by omega)]; exact hM1.2.2.1
      obtain ⟨s3, s4, z1, z2, z3⟩ := tail_M (sc := sc) H (iv0 := tx iv a2' b2') (fun k hk => tx_ne hk) tx_1 g2 tk t52 t24 t54
      refine ⟨m2, s1, s4, w, h, n, ?_, ?_, z3⟩
      · rw [hc0, ef, B_X6_readChart_21, if_pos rfl, B_X1_drawOn_0, startN_T, aBind_some, pushR_none, B_X1_drawOn_4]
        rw [show (((0 : Nat) : Int)) = 0 from rfl] at g1
        rw [g1, aBind_some, pushR_some, B_X6_readChart_38, B_X6_readChart_45]
      · rw [r1, B_X7_readChart_96, b4, v1, ite_F (by omega), B_X7_readChart_111, b7, v4, if_pos rfl, b6, s21, ite_T v5, B_X7_readChart_133, bck_pos (by omega), ht, B_X7_readChart_138, z1, aBind_some, pushR_some, B_X7_readChart_142, z2, aBind_some, pushR_none, B_X7_readChart_151]
    · refine bad 120 (by unfold fltF; rw [if_pos c, if_neg q]) (by omega) (by omega) ?_
      obtain ⟨hT1, hM1⟩ := mod (tx iv a b) (tx_ne (by omega)) (tx_ne (by omega)) (tx_ne (by omega))
      obtain ⟨s2, p2, gd2, x2, y2, wd2, r1, r2, r3, r4⟩ := readA_M (sc := sc) hT1 hM1
      obtain ⟨v1, v2, v3⟩ := r4 c
      obtain ⟨b1, b2, b3, b4, b5, b6, b7⟩ := r2
      have s21 : s2 52 1 = h := by rw [b2 1 (by omega) (by omega) (by omega) (by omega) (by omega)]; exact hM1.2.2.1
      refine ⟨s2, ?_, b1, fun f hf => by rw [b2 f (by omega) (by omega) (by omega) (by omega) (by omega), tx_ne (by omega)]⟩
      rw [r1, B_X7_readChart_96, b4, v1, ite_F (by omega), B_X7_readChart_111, b7, b6, s21]
      rcases v3 q with y | y
      · rw [if_neg y, B_X7_readChart_129]; rfl
      · by_cases y3 : wd2 = 0
        · rw [if_pos y3, if_neg (by omega), B_X7_readChart_129]; rfl
        · rw [if_neg y3, B_X7_readChart_129]; rfl
  · refine bad (cfF (iv 51) n n 0 0 0) (by unfold fltF; rw [if_neg c]) c (by omega) ?_
    obtain ⟨hT1, hM1⟩ := mod (tx iv a b) (tx_ne (by omega)) (tx_ne (by omega)) (tx_ne (by omega))
    obtain ⟨s2, p2, gd2, x2, y2, wd2, r1, r2, r3, r4⟩ := readA_M (sc := sc) hT1 hM1
    obtain ⟨v1, v2⟩ := r3 c
    obtain ⟨b1, b2, b3, b4, b5, b6, b7⟩ := r2
    refine ⟨s2, ?_, b1, fun f hf => by rw [b2 f (by omega) (by omega) (by omega) (by omega) (by omega), tx_ne (by omega)]⟩
    rw [r1, B_X7_readChart_96, b4, ite_T v1, b3, v2, chk_pos (by omega)]
end READ
