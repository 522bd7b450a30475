/-! StitchChartModel: groups -/
section MBACK2
variable {sc : Nat × (Nat → Int)} {iv g : Nat → Nat → Int}
/-- only what a search keeps differs -/
def OnlyQ (iv iv2 : Nat → Nat → Int) : Prop := (∀ k, k ≠ 64 → k ≠ 65 → k ≠ 52 → iv2 k = iv k) ∧ ∀ f, f ≠ 27 → iv2 52 f = iv 52 f
theorem OnlyQ.rf : OnlyQ iv iv := ⟨fun _ _ _ _ => rfl, fun _ _ => rfl⟩
theorem OnlyQ.tr {iv iv2 iv3 : Nat → Nat → Int} (h : OnlyQ iv iv2) (h2 : OnlyQ iv2 iv3) : OnlyQ iv iv3 := ⟨fun j a b c => (h2.1 j a b c).trans (h.1 j a b c), fun f a => (h2.2 f a).trans (h.2 f a)⟩
theorem MBk.only {w h : Nat} {iv2 : Nat → Nat → Int} (hB : MBk g iv w h) (ho : OnlyQ iv iv2) : MBk g iv2 w h := by
  obtain ⟨a, b, c, d, e, f⟩ := hB
  refine ⟨a, by rw [ho.2 0 (by omega)]; exact b, by rw [ho.2 1 (by omega)]; exact c, d, e, ?_⟩
  rw [ho.1 56 (by omega) (by omega) (by omega), ho.1 55 (by omega) (by omega) (by omega)]
  exact f
theorem rp_new {x y : Int} {b n : Nat} (hx : 0 ≤ x ∧ x ≤ 24) (hy : 0 ≤ y ∧ y ≤ 24) (hb : (b : Int) = y * 25 + x) (hn : iv 52 27 = n) (hn2 : n < 625) (hr : iv 64 b = 0) : Run sc 161 0 [some (Rf 52), some (I x), some (I y), some (I 1)] [] (hp iv) = some (none, hp (setO (setO (setO iv 64 (upI (iv 64) b 1)) 65 (upI (iv 65) n b)) 52 (upI (iv 52) 27 ((n : Int) + 1)))) := by
  have eb : 25 * y + x = b := by omega
  rw [B_X7_reachPoint_0, ite_F (by omega), edg_M (by omega) (by omega), aBind_some, pushR_some, eb, B_X7_reachPoint_13, bck_pos (by omega), Int.toNat_natCast, hr, if_pos rfl, edg_M (by omega) (by omega), aBind_some, pushR_some, eb, B_X7_reachPoint_26, bck_pos (by omega), bck_pos (by omega), B_X7_reachPoint_28, edg_M (by omega) (by omega), aBind_some, pushR_some, eb, Int.toNat_natCast, setO_ne (show 52 ≠ 64 by omega), hn, B_X7_reachPoint_41, bck_pos (by omega), bck_pos (by omega), B_X7_reachPoint_42, setO_ne (show 52 ≠ 65 by omega), setO_ne (show 52 ≠ 64 by omega), hn, chk_pos (by omega), bck_pos (by omega), B_X7_reachPoint_52, Int.toNat_natCast, setO_ne (show 65 ≠ 64 by omega)]
theorem rp_old {x y : Int} {b : Nat} (hx : 0 ≤ x ∧ x ≤ 24) (hy : 0 ≤ y ∧ y ≤ 24) (hb : (b : Int) = y * 25 + x) (hr : iv 64 b ≠ 0) : Run sc 161 0 [some (Rf 52), some (I x), some (I y), some (I 1)] [] (hp iv) = some (none, hp iv) := by
  have eb : 25 * y + x = b := by omega
  rw [B_X7_reachPoint_0, ite_F (by omega), edg_M (by omega) (by omega), aBind_some, pushR_some, eb, B_X7_reachPoint_13, bck_pos (by omega), Int.toNat_natCast, if_neg hr, B_X7_reachPoint_52]
def StQ (A : Nat → Nat → Prop) (R0 : Nat → Int) (p k : Nat) (iv0 iv : Nat → Nat → Int) (n0 : Nat) : Prop := OnlyQ iv0 iv ∧ (∃ n, iv 52 27 = ((n : Nat) : Int) ∧ BF A R0 p (iv 64) (iv 65) n k ∧ n0 ≤ n) ∧ (∀ i, i < n0 → iv 65 i = iv0 65 i) ∧ ∀ j, iv0 64 j = 1 → iv 64 j = 1
theorem rp_St {A : Nat → Nat → Prop} {R0 : Nat → Int} {p k n0 b : Nat} {iv0 : Nat → Nat → Int} {x y e : Int} (H : StQ A R0 p k iv0 iv n0) (he0 : 0 ≤ e ∧ e ≤ 1) (he : e = 1 → (0 ≤ x ∧ x ≤ 24) ∧ (0 ≤ y ∧ y ≤ 24) ∧ (b : Int) = y * 25 + x ∧ clo A R0 p b) : ∃ iv2, Run sc 161 0 [some (Rf 52), some (I x), some (I y), some (I e)] [] (hp iv) = some (none, hp iv2) ∧ StQ A R0 p k iv0 iv2 n0 ∧ (e = 1 → iv2 64 b = 1) ∧ ∀ j, iv 64 j = 1 → iv2 64 j = 1 := by
  by_cases q : e = 1
  · subst q
    obtain ⟨hx, hy, hb, hc⟩ := he rfl
    obtain ⟨h1, ⟨n, h2, h3, h4⟩, h5, h6⟩ := H
    have hb2 : b < 625 := by omega
    have hbit := h3.1 b hb2
    by_cases r : iv 64 b = 1
    · exact ⟨iv, rp_old hx hy hb (by omega), ⟨h1, ⟨n, h2, h3, h4⟩, h5, h6⟩, fun _ => r, fun _ z => z⟩
    · have hn := h3.n_lt hb2 r
      have mono : ∀ j, iv 64 j = 1 → upI (iv 64) b 1 j = 1 := fun j hj => by
        by_cases e : j = b
        · rw [e, upI_same]
        · rw [upI_ne e]; exact hj
      refine ⟨_, rp_new hx hy hb h2 hn (by omega), ⟨⟨fun j a1 a2 a3 => ?_, fun f a1 => ?_⟩, ⟨n + 1, ?_, ?_, by omega⟩, fun i hi => ?_, fun j hj => ?_⟩, fun _ => ?_, fun j hj => ?_⟩
      · rw [setO_ne a3, setO_ne a2, setO_ne a1]; exact h1.1 j a1 a2 a3
      · rw [setO_same, upI_ne a1]; exact h1.2 f a1
      · rw [setO_same, upI_same]; omega
      · rw [setO_ne (show 64 ≠ 52 by omega), setO_ne (show 64 ≠ 65 by omega), setO_same, setO_ne (show 65 ≠ 52 by omega), setO_same]
        exact h3.add hb2 r hc
      · rw [setO_ne (show 65 ≠ 52 by omega), setO_same, upI_ne (by omega)]; exact h5 i hi
      · rw [setO_ne (show 64 ≠ 52 by omega), setO_ne (show 64 ≠ 65 by omega), setO_same]; exact mono j (h6 j hj)
      · rw [setO_ne (show 64 ≠ 52 by omega), setO_ne (show 64 ≠ 65 by omega), setO_same, upI_same]
      · rw [setO_ne (show 64 ≠ 52 by omega), setO_ne (show 64 ≠ 65 by omega), setO_same]; exact mono j hj
  · exact ⟨iv, by rw [B_X7_reachPoint_0, ite_T (by omega), B_X7_reachPoint_52], H, fun z => absurd z q, fun _ z => z⟩
set_option maxHeartbeats 2000000 in
theorem stepQ {R0 : Nat → Int} {p k n w h : Nat} {X Y o : Int} (hB : MBk g iv w h) (hn : iv 52 27 = ((n : Nat) : Int)) (H : BF (adjP w h (g 45) (g 46)) R0 p (iv 64) (iv 65) n k) (hkn : k < n) {a : Nat} (ha : iv 65 k = a) (ho : 0 ≤ o ∧ o ≤ 1000) :
    ∃ iv2, Run sc 162 59 [some (Rf 52), some (I X), some (I Y), some (I o), some (I k), some (I (pX a)), some (I (pY a))] [I (ptF w h (g 45) (g 46) (pX a) (pY a)), I o] (hp iv) = Run sc 162 17 [some (Rf 52), some (I X), some (I Y), some (I (o + ptF w h (g 45) (g 46) (pX a) (pY a) % 2)), some (I ((k : Int) + 1)), some (I (pX a)), some (I (pY a))] [] (hp iv2) ∧ StQ (adjP w h (g 45) (g 46)) R0 p (k + 1) iv iv2 n := by
  obtain ⟨⟨d1, d2, d3, d4, d5, d6⟩, e1, e2, hU, hF, e5⟩ := id hB
  have hq := H.2.1 k hkn
  have hnl := H.n_le
  rw [ha] at hq
  have ha2 : a < 625 := by omega
  have hca : clo (adjP w h (g 45) (g 46)) R0 p a := H.2.2.2.1 a ha2 (by have := hq.2.2; rwa [Int.toNat_natCast] at this)
  obtain ⟨bx, bY0, exy, -, -⟩ := pXY (a := a)
  have bY : 0 ≤ pY a ∧ pY a ≤ 24 := by omega
  have hpt := ptF_b (w := w) (h := h) (x := pX a) (y := pY a) hU hF (by omega) (by omega)
  have b1 := eU_b (w := w) (h := h) (x := pX a) (y := pY a) hU (by omega) (by omega)
  have b2 := eU_b (w := w) (h := h) (x := pX a) (y := pY a - 1) hU (by omega) (by omega)
  have b3 := eF_b (w := w) (h := h) (x := pX a) (y := pY a) hF (by omega) (by omega)
  have b4 := eF_b (w := w) (h := h) (x := pX a - 1) (y := pY a) hF (by omega) (by omega)
  have st0 : StQ (adjP w h (g 45) (g 46)) R0 p k iv iv n := ⟨OnlyQ.rf, ⟨n, hn, H, Nat.le_refl _⟩, fun _ _ => rfl, fun _ z => z⟩
  obtain ⟨iv1, r1, t1, g1, -⟩ := rp_St (sc := sc) (b := a + 25) (x := pX a) (y := pY a + 1) (e := eU w h (g 45) (pX a) (pY a)) st0 b1 (fun q => by
      have hq : inU w h (pX a) (pY a) := Classical.byContradiction fun z => by unfold eU at q; rw [if_neg z] at q; omega
      exact ⟨bx, by omega, by omega, hca.step (Or.inl ⟨q, rfl⟩)⟩)
  obtain ⟨iv2, r2, t2, g2, m2⟩ := rp_St (sc := sc) (b := a + 1) (x := pX a + 1) (y := pY a) (e := eF w h (g 46) (pX a) (pY a)) t1 b3 (fun q => by
      have hq : inF w h (pX a) (pY a) := Classical.byContradiction fun z => by unfold eF at q; rw [if_neg z] at q; omega
      exact ⟨by omega, bY, by omega, hca.step (Or.inr (Or.inr (Or.inl ⟨q, rfl⟩)))⟩)
  obtain ⟨iv3, r3, t3, g3, m3⟩ := rp_St (sc := sc) (b := a - 25) (x := pX a) (y := pY a - 1) (e := eU w h (g 45) (pX a) (pY a - 1)) t2 b2 (fun q => by
      have hq : inU w h (pX a) (pY a - 1) := Classical.byContradiction fun z => by unfold eU at q; rw [if_neg z] at q; omega
      exact ⟨bx, by omega, by omega, hca.step (Or.inr (Or.inl ⟨q, by omega⟩))⟩)
  obtain ⟨iv4, r4, t4, g4, m4⟩ := rp_St (sc := sc) (b := a - 1) (x := pX a - 1) (y := pY a) (e := eF w h (g 46) (pX a - 1) (pY a)) t3 b4 (fun q => by
      have hq : inF w h (pX a - 1) (pY a) := Classical.byContradiction fun z => by unfold eF at q; rw [if_neg z] at q; omega
      exact ⟨by omega, bY, by omega, hca.step (Or.inr (Or.inr (Or.inr ⟨q, by omega⟩)))⟩)
  refine ⟨iv4, ?_, t4.1, ?_, t4.2.2⟩
  · rw [B_X7_goThrough_59, bck_pos (by omega), bck_pos (by omega), chk_pos (by omega), chk_pos (by omega), hbU_M hB, aBind_some, pushR_some, B_X7_goThrough_79, r1, aBind_some, pushR_none, B_X7_goThrough_82, chk_pos (by omega), hbF_M (hB.only t1.1), aBind_some, pushR_some, B_X7_goThrough_98, r2, aBind_some, pushR_none, B_X7_goThrough_101, chk_pos (by omega), chk_pos (by omega), hbU_M (hB.only t2.1), aBind_some, pushR_some, B_X7_goThrough_119, r3, aBind_some, pushR_none, B_X7_goThrough_122, chk_pos (by omega), chk_pos (by omega), hbF_M (hB.only t3.1), aBind_some, pushR_some, B_X7_goThrough_140, r4, aBind_some, pushR_none, B_X7_goThrough_143, chk_pos (by omega)]
  · obtain ⟨n4, z1, z2, z3⟩ := t4.2.1
    refine ⟨n4, z1, z2.next (by omega) (fun b hb => ?_), z3⟩
    rw [t4.2.2.1 k hkn, ha, Int.toNat_natCast] at hb
    rcases hb with ⟨q, e⟩ | ⟨q, e⟩ | ⟨q, e⟩ | ⟨q, e⟩
    · rw [e]; exact m4 _ (m3 _ (m2 _ (g1 q)))
    · rw [show b = a - 25 by omega]; exact m4 _ (g3 q)
    · rw [e]; exact m4 _ (m3 _ (g2 q))
    · rw [show b = a - 1 by omega]; exact g4 q
set_option maxHeartbeats 2000000 in
theorem grpQ {R0 : Nat → Int} {p w h : Nat} {X Y : Int} : ∀ (m k : Nat) (iv : Nat → Nat → Int) (n : Nat) (d5 d6 : Option AV), 625 - k = m → MBk g iv w h → iv 52 27 = ((n : Nat) : Int) → BF (adjP w h (g 45) (g 46)) R0 p (iv 64) (iv 65) n k →
    ∃ iv2 n2, Run sc 162 17 [some (Rf 52), some (I X), some (I Y), some (I (sumN (fun i => ptN w h (g 45) (g 46) (iv 65 i).toNat % 2) k)), some (I k), d5, d6] [] (hp iv) = some (some (I (sumN (fun i => ptN w h (g 45) (g 46) (iv2 65 i).toNat % 2) n2)), hp iv2) ∧ OnlyQ iv iv2 ∧ BF (adjP w h (g 45) (g 46)) R0 p (iv2 64) (iv2 65) n2 n2 := by
  intro m
  induction m with
  | zero =>
    intro k iv n d5 d6 hm hB hn H
    have h1 := H.n_le
    have h8 := H.2.2.2.2.2.2.2
    have e : k = n := by omega
    subst e
    refine ⟨iv, k, ?_, OnlyQ.rf, H⟩
    rw [B_X7_goThrough_17, ite_F (by omega), B_X7_goThrough_149]
  | succ m ih =>
    intro k iv n d5 d6 hm hB hn H
    obtain ⟨⟨w1, w2, w3, w4, w5, w6⟩, e1, e2, hU, hF, e5⟩ := id hB
    have h1 := H.n_le
    have h8 := H.2.2.2.2.2.2.2
    by_cases e : k = n
    · subst e
      refine ⟨iv, k, ?_, OnlyQ.rf, H⟩
      rw [B_X7_goThrough_17, ite_F (by omega), B_X7_goThrough_149]
    · have hkn : k < n := by omega
      obtain ⟨q1, q2, q3⟩ := H.2.1 k hkn
      obtain ⟨a, ha⟩ : ∃ a : Nat, iv 65 k = a := ⟨(iv 65 k).toNat, by omega⟩
      have es : (0 : Int) ≤ sumN (fun i => ptN w h (g 45) (g 46) (iv 65 i).toNat % 2) k ∧ sumN (fun i => ptN w h (g 45) (g 46) (iv 65 i).toNat % 2) k ≤ 625 := by
        constructor
        · exact sumN_nonneg (fun i _ => by omega)
        · have := sumN_le (f := fun i => ptN w h (g 45) (g 46) (iv 65 i).toNat % 2) (n := k) (c := 1) (fun i _ => by omega)
          omega
      obtain ⟨iv1, r1, ⟨o1, ⟨n1, o2, o3, o4⟩, o5, o6⟩⟩ := stepQ (sc := sc) (X := X) (Y := Y) hB hn H hkn ha (o := sumN (fun i => ptN w h (g 45) (g 46) (iv 65 i).toNat % 2) k) (by omega)
      obtain ⟨iv2, n2, i1, i2, i3⟩ := ih (k + 1) iv1 n1 (some (I (pX a))) (some (I (pY a))) (by omega) (hB.only o1) o2 o3
      refine ⟨iv2, n2, ?_, o1.tr i2, i3⟩
      have e0 : sumN (fun i => ptN w h (g 45) (g 46) (iv1 65 i).toNat % 2) (k + 1) = sumN (fun i => ptN w h (g 45) (g 46) (iv 65 i).toNat % 2) k + ptF w h (g 45) (g 46) (pX a) (pY a) % 2 := by
        show sumN (fun i => ptN w h (g 45) (g 46) (iv1 65 i).toNat % 2) k + ptN w h (g 45) (g 46) (iv1 65 k).toNat % 2 = _
        rw [o5 k hkn, ha, Int.toNat_natCast, sumN_congr (g := fun i => ptN w h (g 45) (g 46) (iv 65 i).toNat % 2) (fun i hi => by rw [o5 i (by omega)])]
        rfl
      rw [e0] at i1
      obtain ⟨bx, bY0, exy, ex, ey⟩ := pXY (a := a)
      rw [B_X7_goThrough_17, ite_T (by omega), Int.toNat_natCast, ha, bck_pos (by omega), bck_pos (by omega), bck_pos (by omega), bck_pos (by omega), bck_pos (by omega), bck_pos (by omega)]
      rw [ex, ey, bat_M hB (by omega) (by omega), aBind_some, pushR_some, r1]
      exact i1
end MBACK2
