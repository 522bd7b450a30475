/-! StitchChartModel: lay -/
section MLAY2
variable {sc : Nat × (Nat → Int)} {iv g : Nat → Nat → Int}
theorem MRt.lb {g : Nat → Nat → Int} {c : Int} {w x y : Nat} {X Y L : Nat → Int} (H : MRt g c w y x X Y L) (hx : x < w) (hw : w ≤ 24) (hc : g x y = c) (hs : ¬ stR g c x y) : 0 ≤ L (nR g c w y x - 1) ∧ L (nR g c w y x - 1) ≤ 24 := by
  have hx0 : x ≠ 0 := fun z => hs ⟨hc, Or.inl z⟩
  have hl : g (x - 1) y = c := Classical.byContradiction fun z => hs ⟨hc, Or.inr z⟩
  obtain ⟨x0, a0, b0, d0, e0⟩ := run_at (g := g) (c := c) (w := w) x (by omega) hl
  obtain ⟨a, b, l, e, i1, i2, i3⟩ := H x0 y (by omega) (Or.inr ⟨rfl, a0⟩) b0
  rw [if_neg (by omega)] at i2
  rw [show nR g c w y x - 1 = nR g c w y x0 by omega, e]
  omega
/-- only what lay finds of runs differs -/
def OnlyL (iv iv2 : Nat → Nat → Int) : Prop := ∀ k, k ≠ 57 → k ≠ 58 → k ≠ 59 → k ≠ 60 → iv2 k = iv k
def InL (g iv0 : Nat → Nat → Int) (w y x : Nat) (s : Nat → Nat → Int) : Prop := OnlyL iv0 s ∧ ∀ c : Nat, 1 ≤ c → c ≤ 6 → s 57 c = ((nR (gN g) c w y x : Nat) : Int) ∧ MRt (gN g) c w y x (mX s c) (mY s c) (mL s c)
theorem MGr.only {w h : Nat} {iv2 : Nat → Nat → Int} (hM : MGr g iv w h) (h2 : OnlyL iv iv2) : MGr g iv2 w h := by
  unfold MGr
  rw [h2 52 (by omega) (by omega) (by omega) (by omega), h2 53 (by omega) (by omega) (by omega) (by omega)]
  exact hM
theorem aM_left {w h x y : Nat} {c : Int} (hM : MGr g iv w h) (hx : x < w) (hy : y < h) (hc : 0 < c) : aM g ((x : Int) - 1) y ≠ c ↔ (x = 0 ∨ gN g (x - 1) y ≠ c) := by
  obtain ⟨⟨d1, d2, d3, d4, d5, d6⟩, e1, e2, e3⟩ := hM
  rw [Ne, aM_eq (by omega)]
  exact gC_left d1 d2 hx hy hc
set_option maxHeartbeats 4000000 in
theorem layCell_M {w h x y m : Nat} {d4 d5 : Option AV} {iv0 : Nat → Nat → Int} (hM : MGr g iv0 w h) (hx : x < w) (hy : y < h) (H : InL g iv0 w y x iv) : ∃ iv2 e4 e5, Run sc 114 33 [some (Rf 52), some (I m), some (I y), some (I x), d4, d5] [] (hp iv) = Run sc 114 33 [some (Rf 52), some (I m), some (I y), some (I ((x : Int) + 1)), e4, e5] [] (hp iv2) ∧ InL g iv0 w y (x + 1) iv2 := by
  obtain ⟨⟨d1, d2, d3, d4', d5', d6⟩, e1, e2, e3⟩ := id hM
  obtain ⟨h1, h2⟩ := H
  have hM1 := hM.only h1
  obtain ⟨-, f1, f2, f3⟩ := id hM1
  have hcell : aM g x y = gN g x y := by rw [aM_in (by unfold inC; omega), gC_in d1 d2 hx hy]
  have hvb : 0 ≤ gN g x y ∧ gN g x y ≤ 6 := (e3 (y * 24 + x) (by omega)).2
  have other : ∀ c : Nat, 1 ≤ c → gN g x y ≠ c → nR (gN g) c w y (x + 1) = nR (gN g) c w y x := fun c _ hne => nR_F (fun z => hne z.1)
  have start : Run sc 114 33 [some (Rf 52), some (I m), some (I y), some (I x), d4, d5] [] (hp iv) = Run sc 114 47 [some (Rf 52), some (I m), some (I y), some (I x), d4, d5] [I (gN g x y)] (hp iv) := by
    rw [B_X7_lay_33, ite_T (by omega), at_M hM1, aBind_some, pushR_some, hcell]
  rw [start, B_X7_lay_47]
  by_cases hv : 0 < gN g x y
  · obtain ⟨v, ev⟩ : ∃ v : Nat, gN g x y = v := ⟨(gN g x y).toNat, by omega⟩
    rw [ev] at hv hvb ⊢
    obtain ⟨k1, k2⟩ := h2 v (by omega) (by omega)
    have hn := nR_le288 (g := gN g) (c := v) (w := w) (h := h) (x := x) (y := y) d4' d6 (by omega) hy
    rw [if_pos hv, chk_pos (by omega), at_M hM1, aBind_some, pushR_some, B_X7_lay_62]
    have hleft := aM_left (c := v) hM hx hy hv
    generalize hnn : nR (gN g) v w y x = n at *
    by_cases q : aM g ((x : Int) - 1) y = v
    · have ns : ¬ stR (gN g) v x y := fun z => (hleft.mpr z.2) q
      obtain ⟨r1, r2⟩ := k2.more hx ev ns
      have r3 := k2.lb hx d4' ev ns
      rw [hnn] at r1 r2 r3
      have fl : iv 60 (288 * v + n - 1) = mL iv v (n - 1) := by unfold mL; rw [show 288 * v + (n - 1) = 288 * v + n - 1 by omega]
      refine ⟨setO iv 60 (upI (iv 60) (288 * v + n - 1) (mL iv v (n - 1) + 1)), some (I v), d5, ?_, fun k a1 a2 a3 a4 => by rw [setO_ne a4]; exact h1 k a1 a2 a3 a4, fun c hc1 hc2 => ?_⟩
      · rw [if_pos q, B_X7_lay_118, if_pos hv, chk_pos (by omega), bck_pos (by omega), Int.toNat_natCast, k1, chk_pos (by omega), chk_pos (by omega), bck_pos (by omega), show (288 * (v : Int) + n - 1).toNat = 288 * v + n - 1 by omega, fl, chk_pos (by omega), bck_pos (by omega), bck_pos (by omega), B_X7_lay_148, chk_pos (by omega)]
      · obtain ⟨c1, c2⟩ := h2 c hc1 hc2
        by_cases ec : c = v
        · subst ec
          refine ⟨?_, ?_⟩
          · rw [setO_ne (by omega), nR_F ns, hnn]; exact k1
          · have eL : mL (setO iv 60 (upI (iv 60) (288 * c + n - 1) (mL iv c (n - 1) + 1))) c = upI (mL iv c) (n - 1) (mL iv c (n - 1) + 1) := by
              funext r
              unfold mL
              rw [setO_same]
              by_cases z : r = n - 1
              · rw [z, upI_same, show 288 * c + n - 1 = 288 * c + (n - 1) by omega, upI_same]
              · rw [upI_ne z, upI_ne (by omega)]
            have eX : mX (setO iv 60 (upI (iv 60) (288 * c + n - 1) (mL iv c (n - 1) + 1))) c = mX iv c := by funext r; unfold mX; rw [setO_ne (by omega)]
            have eY : mY (setO iv 60 (upI (iv 60) (288 * c + n - 1) (mL iv c (n - 1) + 1))) c = mY iv c := by funext r; unfold mY; rw [setO_ne (by omega)]
            rw [eL, eX, eY]; exact r2
        · have hne : gN g x y ≠ c := by rw [ev]; omega
          refine ⟨?_, ?_⟩
          · rw [setO_ne (by omega), other c hc1 hne]; exact c1
          · refine MRt.congr (MRt.other c2 hne) d4' d6 (Or.inl hy) fun r hr => ⟨?_, ?_, ?_⟩
            · unfold mX; rw [setO_ne (by omega)]
            · unfold mY; rw [setO_ne (by omega)]
            · unfold mL; rw [setO_same, upI_ne (by omega)]
    · have hs : stR (gN g) v x y := ⟨ev, hleft.mp q⟩
      have hn2 := nR_288 (g := gN g) (c := v) (w := w) (h := h) (x := x) (y := y) d4' d6 hx hy hs
      rw [hnn] at hn2
      have r2 := k2.new hx hs
      rw [hnn] at r2
      generalize hs2 : setO (setO (setO (setO (setO iv 58 (upI (iv 58) (288 * v + n) x)) 59 (upI (iv 59) (288 * v + n) y)) 60 (upI (iv 60) (288 * v + n) 0)) 57 (upI (iv 57) v ((n : Int) + 1))) 60 (upI (upI (iv 60) (288 * v + n) 0) (288 * v + n) 1) = s2
      have v57 : s2 57 = upI (iv 57) v ((n : Int) + 1) := by rw [← hs2, setO_ne (by omega), setO_same]
      have v58 : s2 58 = upI (iv 58) (288 * v + n) x := by rw [← hs2, setO_ne (by omega), setO_ne (by omega), setO_ne (by omega), setO_ne (by omega), setO_same]
      have v59 : s2 59 = upI (iv 59) (288 * v + n) y := by rw [← hs2, setO_ne (by omega), setO_ne (by omega), setO_ne (by omega), setO_same]
      have v60 : s2 60 = upI (upI (iv 60) (288 * v + n) 0) (288 * v + n) 1 := by rw [← hs2, setO_same]
      have vk : ∀ k, k ≠ 57 → k ≠ 58 → k ≠ 59 → k ≠ 60 → s2 k = iv k := fun k a1 a2 a3 a4 => by rw [← hs2, setO_ne a4, setO_ne a1, setO_ne a4, setO_ne a3, setO_ne a2]
      refine ⟨s2, some (I v), some (I (288 * v + n)), ?_, fun k a1 a2 a3 a4 => by rw [vk k a1 a2 a3 a4]; exact h1 k a1 a2 a3 a4, fun c hc1 hc2 => ?_⟩
      · have ti : (288 * (v : Int) + n).toNat = 288 * v + n := by omega
        rw [if_neg q, chk_pos (by omega), bck_pos (by omega), Int.toNat_natCast, k1, chk_pos (by omega), bck_pos (by omega), bck_pos (by omega), ti, B_X7_lay_91, bck_pos (by omega), bck_pos (by omega), ti, setO_ne (show 59 ≠ 58 by omega), B_X7_lay_99, bck_pos (by omega), bck_pos (by omega), ti, setO_ne (show 60 ≠ 59 by omega), setO_ne (show 60 ≠ 58 by omega), B_X7_lay_107, bck_pos (by omega), Int.toNat_natCast]
        rw [setO_ne (show 57 ≠ 60 by omega), setO_ne (show 57 ≠ 59 by omega), setO_ne (show 57 ≠ 58 by omega), k1, chk_pos (by omega), bck_pos (by omega), bck_pos (by omega), B_X7_lay_118, if_pos hv, chk_pos (by omega), bck_pos (by omega), Int.toNat_natCast, setO_same, upI_same, chk_pos (by omega), chk_pos (by omega), bck_pos (by omega)]
        rw [setO_ne (show 60 ≠ 57 by omega), setO_same, show (288 * (v : Int) + ((n : Int) + 1) - 1).toNat = 288 * v + n by omega, upI_same, chk_pos (by omega), bck_pos (by omega), bck_pos (by omega), B_X7_lay_148, chk_pos (by omega), show (0 : Int) + 1 = 1 from rfl, hs2]
      · obtain ⟨c1, c2⟩ := h2 c hc1 hc2
        by_cases ec : c = v
        · subst ec
          refine ⟨?_, ?_⟩
          · rw [v57, upI_same, nR_T hs, hnn]; omega
          · have eL : mL s2 c = upI (mL iv c) n 1 := by
              funext r
              unfold mL
              rw [v60]
              by_cases z : r = n
              · rw [z, upI_same, upI_same]
              · rw [upI_ne z, upI_ne (by omega), upI_ne (by omega)]
            have eX : mX s2 c = upI (mX iv c) n x := by
              funext r
              unfold mX
              rw [v58]
              by_cases z : r = n
              · rw [z, upI_same, upI_same]
              · rw [upI_ne z, upI_ne (by omega)]
            have eY : mY s2 c = upI (mY iv c) n y := by
              funext r
              unfold mY
              rw [v59]
              by_cases z : r = n
              · rw [z, upI_same, upI_same]
              · rw [upI_ne z, upI_ne (by omega)]
            rw [eL, eX, eY]; exact r2
        · have hne : gN g x y ≠ c := by rw [ev]; omega
          refine ⟨?_, ?_⟩
          · rw [v57, upI_ne ec, other c hc1 hne]; exact c1
          · refine MRt.congr (MRt.other c2 hne) d4' d6 (Or.inl hy) fun r hr => ⟨?_, ?_, ?_⟩
            · unfold mX; rw [v58, upI_ne (by omega)]
            · unfold mY; rw [v59, upI_ne (by omega)]
            · unfold mL; rw [v60, upI_ne (by omega), upI_ne (by omega)]
  · refine ⟨iv, some (I (gN g x y)), d5, ?_, h1, fun c hc1 hc2 => ?_⟩
    · rw [if_neg hv, B_X7_lay_118, if_neg hv, B_X7_lay_148, chk_pos (by omega)]
    · obtain ⟨c1, c2⟩ := h2 c hc1 hc2
      have hne : gN g x y ≠ c := by omega
      exact ⟨by rw [other c hc1 hne]; exact c1, MRt.other c2 hne⟩
/-- only runs, orders and what is placed differ -/
def OnlyLM (iv iv2 : Nat → Nat → Int) : Prop := ∀ k, k ≠ 57 → k ≠ 58 → k ≠ 59 → k ≠ 60 → k ≠ 61 → k ≠ 62 → iv2 k = iv k
set_option maxHeartbeats 4000000 in
theorem lay_M {w h m : Nat} (hM : MGr g iv w h) (hm : m < 128) : ∃ iv2, Run sc 114 0 [some (Rf 52), some (I m), none, none, none, none] [] (hp iv) = some (none, hp iv2) ∧ OnlyLM iv iv2 ∧ ∀ c : Nat, 1 ≤ c → c ≤ 6 → ∃ n : Nat, iv2 57 c = (n : Int) ∧ RunsOK (gN g) c w h n (mX iv2 c) (mY iv2 c) (mL iv2 c) ∧ (tb m c → ∀ p, p < n → mO iv2 c p = foO n (mX iv2 c) (mY iv2 c) p) ∧ (¬ tb m c → ∀ p, p < 288 → mO iv2 c p = mO iv c p) := by
  obtain ⟨⟨d1, d2, d3, d4', d5', d6⟩, e1, e2, e3⟩ := id hM
  rw [B_X7_lay_0]
  obtain ⟨s, e, g1, g2⟩ := loop_ex (fun i (s : Nat → Nat → Int) => Run sc 114 2 [some (Rf 52), some (I m), some (I (i + 1)), none, none, none] [] (hp s)) (fun i s => (∀ k, k ≠ 57 → s k = iv k) ∧ ∀ c : Nat, 1 ≤ c → c ≤ i → s 57 c = 0) 6 0 iv (Nat.zero_le _) ⟨fun _ _ => rfl, fun c h1 h2 => by omega⟩ (fun i s _ hi hP => by
    obtain ⟨a1, a2⟩ := hP
    refine ⟨setO s 57 (upI (s 57) (i + 1) 0), ?_, fun k hk => by rw [setO_ne hk]; exact a1 k hk, fun c h1 h2 => ?_⟩
    · rw [B_X7_lay_2, ite_F (by omega), bck_pos (by omega), bck_pos (by omega), B_X7_lay_15, chk_pos (by omega), show ((i : Int) + 1).toNat = i + 1 by omega]
    · rw [setO_same]
      by_cases q : c = i + 1
      · rw [q, upI_same]
      · rw [upI_ne q]; exact a2 c h1 (by omega))
  have e0 : Run sc 114 2 [some (Rf 52), some (I m), some (I 1), none, none, none] [] (hp iv) = Run sc 114 23 [some (Rf 52), some (I m), some (I 0), none, none, none] [] (hp s) := by
    refine (show _ = _ from e).trans ?_
    show Run sc 114 2 [some (Rf 52), some (I m), some (I (6 + 1)), none, none, none] [] (hp s) = _
    rw [B_X7_lay_2, ite_T (by omega), B_X7_lay_21]
  rw [e0]
  have i0 : InL g iv w 0 0 s := ⟨fun k a _ _ _ => g1 k a, fun c h1 h2 => ⟨by rw [g2 c h1 h2]; rfl, fun x2 y2 _ q => by omega⟩⟩
  obtain ⟨t, e4, k1⟩ := loop_ex (fun y (s : (Option AV × Option AV × Option AV) × (Nat → Nat → Int)) => Run sc 114 23 [some (Rf 52), some (I m), some (I y), s.1.1, s.1.2.1, s.1.2.2] [] (hp s.2)) (fun y s => InL g iv w y 0 s.2) h 0 ((none, none, none), s) (Nat.zero_le _) i0 (fun y s _ hy hP => by
    obtain ⟨⟨x3, x4, x5⟩, s0⟩ := s
    dsimp only at hP
    obtain ⟨t, e5, k1⟩ := loop_ex (fun x (s : (Option AV × Option AV) × (Nat → Nat → Int)) => Run sc 114 33 [some (Rf 52), some (I m), some (I y), some (I x), s.1.1, s.1.2] [] (hp s.2)) (fun x s => InL g iv w y x s.2) w 0 ((x4, x5), s0) (Nat.zero_le _) hP (fun x s _ hx hP => by
      obtain ⟨⟨x4, x5⟩, s0⟩ := s
      obtain ⟨iv2, e4, e5, a1, a2⟩ := layCell_M (sc := sc) (m := m) (d4 := x4) (d5 := x5) hM hx hy hP
      exact ⟨((e4, e5), iv2), a1, a2⟩)
    obtain ⟨⟨z4, z5⟩, s1⟩ := t
    dsimp only at k1
    have c0 := hP.1 52 (by omega) (by omega) (by omega) (by omega)
    have c1 := k1.1 52 (by omega) (by omega) (by omega) (by omega)
    refine ⟨((some (I w), z4, z5), s1), ?_, k1.1, fun c h1 h2 => ⟨by rw [nR_row]; exact (k1.2 c h1 h2).1, (k1.2 c h1 h2).2.row⟩⟩
    show Run sc 114 23 [some (Rf 52), some (I m), some (I y), x3, x4, x5] [] (hp s0) = Run sc 114 23 [some (Rf 52), some (I m), some (I ((y : Int) + 1)), some (I w), z4, z5] [] (hp s1)
    rw [B_X7_lay_23, ite_T (by rw [c0]; omega)]
    refine (show _ = _ from e5).trans ?_
    show Run sc 114 33 [some (Rf 52), some (I m), some (I y), some (I w), z4, z5] [] (hp s1) = _
    rw [B_X7_lay_33, ite_F (by rw [c1]; omega), B_X7_lay_154, chk_pos (by omega)])
  obtain ⟨⟨x3, x4, x5⟩, s0⟩ := t
  dsimp only at k1
  have c0 := k1.1 52 (by omega) (by omega) (by omega) (by omega)
  have ok : ∀ c : Nat, 1 ≤ c → c ≤ 6 → s0 57 c = ((nR (gN g) c w h 0 : Nat) : Int) ∧ RunsOK (gN g) c w h (nR (gN g) c w h 0) (mX s0 c) (mY s0 c) (mL s0 c) ∧ MRunB s0 c (nR (gN g) c w h 0) := by
    intro c h1 h2
    obtain ⟨a1, a2⟩ := k1.2 c h1 h2
    have a3 := a2.done rfl
    obtain ⟨b1, b2⟩ := a3.b d4' d6
    refine ⟨a1, a3, ⟨h1, h2⟩, a1, b1, fun r hr => ?_⟩
    have := b2 r hr
    omega
  have e6 : Run sc 114 23 [some (Rf 52), some (I m), some (I 0), none, none, none] [] (hp s) = Run sc 114 162 [some (Rf 52), some (I m), some (I 1), x3, x4, x5] [] (hp s0) := by
    refine (show _ = _ from e4).trans ?_
    show Run sc 114 23 [some (Rf 52), some (I m), some (I h), x3, x4, x5] [] (hp s0) = _
    rw [B_X7_lay_23, ite_F (by rw [c0]; omega), B_X7_lay_160]
  rw [e6]
  obtain ⟨u, e7, f1, f2, f3⟩ := loop_ex (fun i (s : Nat → Nat → Int) => Run sc 114 162 [some (Rf 52), some (I m), some (I (i + 1)), x3, x4, x5] [] (hp s)) (fun i s => (∀ k, k ≠ 61 → k ≠ 62 → s k = s0 k) ∧ (∀ c : Nat, 1 ≤ c → c ≤ i → (tb m c → ∀ p, p < nR (gN g) c w h 0 → mO s c p = foO (nR (gN g) c w h 0) (mX s0 c) (mY s0 c) p) ∧ (¬ tb m c → ∀ p, p < 288 → mO s c p = mO s0 c p)) ∧ ∀ c : Nat, i < c → ∀ p, p < 288 → mO s c p = mO s0 c p) 6 0 s0 (Nat.zero_le _) ⟨fun _ _ _ => rfl, fun c h1 h2 => by omega, fun _ _ _ _ => rfl⟩ (fun i s _ hi hP => by
    obtain ⟨a1, a2, a3⟩ := hP
    obtain ⟨o1, o2, o3⟩ := ok (i + 1) (by omega) (by omega)
    have hR : MRunB s (i + 1) (nR (gN g) ((i + 1 : Nat) : Int) w h 0) := by
      unfold MRunB mX mY mL at o3 ⊢
      rw [a1 57 (by omega) (by omega), a1 58 (by omega) (by omega), a1 59 (by omega) (by omega), a1 60 (by omega) (by omega)]
      exact o3
    have eX : mX s (i + 1) = mX s0 (i + 1) := by funext r; unfold mX; rw [a1 58 (by omega) (by omega)]
    have eY : mY s (i + 1) = mY s0 (i + 1) := by funext r; unfold mY; rw [a1 59 (by omega) (by omega)]
    have hd : Run sc 114 162 [some (Rf 52), some (I m), some (I ((i : Int) + 1)), x3, x4, x5] [] (hp s) = if m / 2 ^ (i + 1) % 2 = 1 then aBind (Run sc 117 0 [some (Rf 52), some (I ((i + 1 : Nat) : Int)), none, none, none, none] [] (hp s)) (fun v h2 => Run sc 114 182 [some (Rf 52), some (I m), some (I ((i : Int) + 1)), x3, x4, x5] (pushR v []) h2) else Run sc 114 182 [some (Rf 52), some (I m), some (I ((i : Int) + 1)), x3, x4, x5] [] (hp s) := by
      rw [B_X7_lay_162, ite_F (by omega), bck_pos (by omega), bck_pos (by omega), show ((i : Int) + 1).toNat = i + 1 by omega, Int.toNat_natCast]
      by_cases q : tb m (i + 1)
      · have q2 : m / 2 ^ (i + 1) % 2 = 1 := q
        generalize m / 2 ^ (i + 1) = z at q2 ⊢
        rw [if_pos q2, if_pos (by omega)]
        rfl
      · have q2 : ¬ m / 2 ^ (i + 1) % 2 = 1 := q
        generalize m / 2 ^ (i + 1) = z at q2 ⊢
        rw [if_neg q2, if_neg (by omega)]
    by_cases q : tb m (i + 1)
    · obtain ⟨s2, r1, r2, r3⟩ := lord_M (sc := sc) hR
      rw [eX, eY] at r3
      refine ⟨s2, ?_, fun k b1 b2 => (r2.1 k b1 b2).trans (a1 k b1 b2), fun c h1 h2 => ?_, fun c hc p hpp => ?_⟩
      · rw [hd, if_pos (show m / 2 ^ (i + 1) % 2 = 1 from q), r1, aBind_some, pushR_none, B_X7_lay_182, chk_pos (by omega)]
      · by_cases ec : c = i + 1
        · subst ec
          exact ⟨fun _ => r3, fun z => absurd q z⟩
        · obtain ⟨b1, b2⟩ := a2 c h1 (by omega)
          have same : ∀ p, p < 288 → mO s2 c p = mO s c p := fun p hpp => r2.2 _ (by omega)
          refine ⟨fun z p hpp => ?_, fun z p hpp => by rw [same p hpp]; exact b2 z p hpp⟩
          have := (ok c h1 (by omega)).2.2.2.2.1
          rw [same p (by omega)]; exact b1 z p hpp
      · have : mO s2 c p = mO s c p := r2.2 _ (by omega)
        rw [this]; exact a3 c (by omega) p hpp
    · refine ⟨s, ?_, a1, fun c h1 h2 => ?_, fun c hc p hpp => a3 c (by omega) p hpp⟩
      · rw [hd, if_neg (show ¬ m / 2 ^ (i + 1) % 2 = 1 from q), B_X7_lay_182, chk_pos (by omega)]
      · by_cases ec : c = i + 1
        · subst ec
          exact ⟨fun z => absurd z q, fun _ => a3 _ (by omega)⟩
        · exact a2 c h1 (by omega))
  refine ⟨u, (show _ = _ from e7).trans ?_, fun k b1 b2 b3 b4 b5 b6 => (f1 k b5 b6).trans (k1.1 k b1 b2 b3 b4), fun c h1 h2 => ?_⟩
  · show Run sc 114 162 [some (Rf 52), some (I m), some (I (6 + 1)), x3, x4, x5] [] (hp u) = _
    rw [B_X7_lay_162, ite_T (by omega), B_X7_lay_188]
  · obtain ⟨o1, o2, o3⟩ := ok c h1 h2
    have eX : mX u c = mX s0 c := by funext r; unfold mX; rw [f1 58 (by omega) (by omega)]
    have eY : mY u c = mY s0 c := by funext r; unfold mY; rw [f1 59 (by omega) (by omega)]
    have eL : mL u c = mL s0 c := by funext r; unfold mL; rw [f1 60 (by omega) (by omega)]
    refine ⟨nR (gN g) c w h 0, by rw [f1 57 (by omega) (by omega)]; exact o1, by rw [eX, eY, eL]; exact o2, by rw [eX, eY]; exact (f2 c h1 h2).1, fun z p hpp => ?_⟩
    rw [(f2 c h1 h2).2 z p hpp]
    unfold mO
    rw [k1.1 61 (by omega) (by omega) (by omega) (by omega)]
end MLAY2
