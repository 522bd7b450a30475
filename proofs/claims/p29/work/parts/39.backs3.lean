/-! StitchChart$BackStitches: groups -/
section BACKS3
variable {sc : Nat × (Nat → Int)} {iv : Nat → Nat → Int}
/-- only what a search keeps differs -/
def OnlyB (iv iv2 : Nat → Nat → Int) : Prop := (∀ k, k ≠ 47 → k ≠ 48 → k ≠ 44 → iv2 k = iv k) ∧ ∀ f, f ≠ 5 → iv2 44 f = iv 44 f
theorem OnlyB.rf : OnlyB iv iv := ⟨fun _ _ _ _ => rfl, fun _ _ => rfl⟩
theorem OnlyB.tr {iv iv2 iv3 : Nat → Nat → Int} (h : OnlyB iv iv2) (h2 : OnlyB iv2 iv3) : OnlyB iv iv3 := ⟨fun j a b c => (h2.1 j a b c).trans (h.1 j a b c), fun f a => (h2.2 f a).trans (h.2 f a)⟩
/-- a point and its number -/
abbrev pX (a : Nat) : Int := ((a % 25 : Nat) : Int)
abbrev pY (a : Nat) : Int := ((a / 25 : Nat) : Int)
theorem pXY {a : Nat} : (0 ≤ pX a ∧ pX a ≤ 24) ∧ 0 ≤ pY a ∧ (a : Int) = pY a * 25 + pX a ∧ (a : Int) % 25 = pX a ∧ (a : Int) / 25 = pY a := by unfold pX pY; omega
theorem reach_new {x y : Int} {b n : Nat} {bg : Int} (hx : 0 ≤ x ∧ x ≤ 24) (hy : 0 ≤ y ∧ y ≤ 24) (hb : (b : Int) = y * 25 + x) (hn : (bg = 0 ∧ iv 44 5 = n) ∨ (bg = 1 ∧ n = 0)) (hn2 : n < 625) (hr : iv 47 b = 0) : Run sc 13 0 [some (Rf 44), some (I x), some (I y), some (I bg), none, none] [] (hp iv) = some (some (I 1), hp (setO (setO (setO iv 47 (upI (iv 47) b 1)) 48 (upI (iv 48) n b)) 44 (upI (iv 44) 5 ((n : Int) + 1)))) := by
  rw [B_X0_reach_0, within_T hx, aBind_some, pushR_some, B_X0_reach_7, ite_F (by omega), within_T hy, aBind_some, pushR_some, B_X0_reach_17, ite_F (by omega), B_X0_reach_22, chk_pos (by omega), chk_pos (by omega)]
  have e0 : (if bg = 0 then Run sc 13 38 [some (Rf 44), some (I x), some (I y), some (I bg), some (I (y * 25 + x)), none] [] (hp iv) else Run sc 13 42 [some (Rf 44), some (I x), some (I y), some (I bg), some (I (y * 25 + x)), none] [I 0] (hp iv)) = Run sc 13 42 [some (Rf 44), some (I x), some (I y), some (I bg), some (I (y * 25 + x)), none] [I n] (hp iv) := by
    rcases hn with ⟨h1, h2⟩ | ⟨h1, h2⟩
    · rw [if_pos h1, B_X0_reach_38, h2]
    · rw [if_neg (by omega), h2]; rfl
  rw [e0, B_X0_reach_42, ← hb, bck_pos (by omega), Int.toNat_natCast, hr, if_pos rfl, within_T (by omega), aBind_some, pushR_some, B_X0_reach_63, ite_F (by omega), B_X0_reach_68, bck_pos (by omega), bck_pos (by omega), B_X0_reach_76, bck_pos (by omega), bck_pos (by omega), B_X0_reach_85, chk_pos (by omega), bck_pos (by omega), B_X0_reach_93, bck_pos (by omega), Int.toNat_natCast, Int.toNat_natCast, setO_ne (show 48 ≠ 47 by omega), setO_ne (show 44 ≠ 48 by omega), setO_ne (show 44 ≠ 47 by omega)]
theorem reach_old {x y : Int} {b : Nat} (hx : 0 ≤ x ∧ x ≤ 24) (hy : 0 ≤ y ∧ y ≤ 24) (hb : (b : Int) = y * 25 + x) {bg : Int} (hr : iv 47 b ≠ 0) : Run sc 13 0 [some (Rf 44), some (I x), some (I y), some (I bg), none, none] [] (hp iv) = some (some (I 0), hp iv) := by
  rw [B_X0_reach_0, within_T hx, aBind_some, pushR_some, B_X0_reach_7, ite_F (by omega), within_T hy, aBind_some, pushR_some, B_X0_reach_17, ite_F (by omega), B_X0_reach_22, chk_pos (by omega), chk_pos (by omega)]
  by_cases e : bg = 0
  · rw [if_pos e, B_X0_reach_38, B_X0_reach_42, ← hb, bck_pos (by omega), Int.toNat_natCast, if_neg hr, B_X0_reach_66, bck_pos (by omega)]
  · rw [if_neg e, B_X0_reach_42, ← hb, bck_pos (by omega), Int.toNat_natCast, if_neg hr, B_X0_reach_66, bck_pos (by omega)]
/-- a search of the class goes on -/
def StB (A : Nat → Nat → Prop) (R0 : Nat → Int) (p k : Nat) (iv0 iv : Nat → Nat → Int) (n0 : Nat) : Prop := OnlyB iv0 iv ∧ (∃ n, iv 44 5 = ((n : Nat) : Int) ∧ BF A R0 p (iv 47) (iv 48) n k ∧ n0 ≤ n) ∧ (∀ i, i < n0 → iv 48 i = iv0 48 i) ∧ ∀ j, iv0 47 j = 1 → iv 47 j = 1
theorem reach_St {A : Nat → Nat → Prop} {R0 : Nat → Int} {p k n0 b : Nat} {iv0 : Nat → Nat → Int} {x y : Int} (H : StB A R0 p k iv0 iv n0) (hx : 0 ≤ x ∧ x ≤ 24) (hy : 0 ≤ y ∧ y ≤ 24) (hb : (b : Int) = y * 25 + x) (hc : clo A R0 p b) : ∃ iv2 v, Run sc 13 0 [some (Rf 44), some (I x), some (I y), some (I 0), none, none] [] (hp iv) = some (some (I v), hp iv2) ∧ StB A R0 p k iv0 iv2 n0 ∧ iv2 47 b = 1 ∧ ∀ j, iv 47 j = 1 → iv2 47 j = 1 := by
  obtain ⟨h1, ⟨n, h2, h3, h4⟩, h5, h6⟩ := H
  have hb2 : b < 625 := by omega
  have hbit := h3.1 b hb2
  by_cases r : iv 47 b = 1
  · exact ⟨iv, 0, reach_old hx hy hb (by omega), ⟨h1, ⟨n, h2, h3, h4⟩, h5, h6⟩, r, fun _ z => z⟩
  · have hn := h3.n_lt hb2 r
    have mono : ∀ j, iv 47 j = 1 → upI (iv 47) b 1 j = 1 := fun j hj => by
      by_cases e : j = b
      · rw [e, upI_same]
      · rw [upI_ne e]; exact hj
    refine ⟨_, 1, reach_new hx hy hb (Or.inl ⟨rfl, h2⟩) hn (by omega), ⟨⟨fun j a1 a2 a3 => ?_, fun f a1 => ?_⟩, ⟨n + 1, ?_, ?_, by omega⟩, fun i hi => ?_, fun j hj => ?_⟩, ?_, fun j hj => ?_⟩
    · rw [setO_ne a3, setO_ne a2, setO_ne a1]; exact h1.1 j a1 a2 a3
    · rw [setO_same, upI_ne a1]; exact h1.2 f a1
    · rw [setO_same, upI_same]; omega
    · rw [setO_ne (show 47 ≠ 44 by omega), setO_ne (show 47 ≠ 48 by omega), setO_same, setO_ne (show 48 ≠ 44 by omega), setO_same]
      exact h3.add hb2 r hc
    · rw [setO_ne (show 48 ≠ 44 by omega), setO_same, upI_ne (by omega)]; exact h5 i hi
    · rw [setO_ne (show 47 ≠ 44 by omega), setO_ne (show 47 ≠ 48 by omega), setO_same]; exact mono j (h6 j hj)
    · rw [setO_ne (show 47 ≠ 44 by omega), setO_ne (show 47 ≠ 48 by omega), setO_same, upI_same]
    · rw [setO_ne (show 47 ≠ 44 by omega), setO_ne (show 47 ≠ 48 by omega), setO_same]; exact mono j hj
/-- one neighbor, reached if an edge leads there -/
theorem nb_St {A : Nat → Nat → Prop} {R0 : Nat → Int} {p k n0 b : Nat} {iv0 : Nat → Nat → Int} {x y e : Int} {K1 : AV → AH → Option AR} {K2 : AH → Option AR} (hK : ∀ v ivx, K1 (I v) (hp ivx) = K2 (hp ivx)) (H : StB A R0 p k iv0 iv n0) (he : e = 1 → (0 ≤ x ∧ x ≤ 24) ∧ (0 ≤ y ∧ y ≤ 24) ∧ (b : Int) = y * 25 + x ∧ clo A R0 p b) {K : Option AV → AH → Option AR} (hKK : ∀ v h, K (some v) h = K1 v h) : ∃ iv2, (if e = 1 then aBind (Run sc 13 0 [some (Rf 44), some (I x), some (I y), some (I 0), none, none] [] (hp iv)) K else K2 (hp iv)) = K2 (hp iv2) ∧ StB A R0 p k iv0 iv2 n0 ∧ (e = 1 → iv2 47 b = 1) ∧ ∀ j, iv 47 j = 1 → iv2 47 j = 1 := by
  by_cases q : e = 1
  · obtain ⟨h1, h2, h3, h4⟩ := he q
    obtain ⟨iv2, v, r1, r2, r3, r4⟩ := reach_St (sc := sc) H h1 h2 h3 h4
    refine ⟨iv2, ?_, r2, fun _ => r3, r4⟩
    rw [if_pos q, r1, aBind_some, hKK, hK]
  · exact ⟨iv, by rw [if_neg q], H, fun z => absurd z q, fun _ z => z⟩
set_option maxHeartbeats 2000000 in
theorem nexts_S {R0 : Nat → Int} {p k n w h : Nat} (hD : DimB iv w h) (hU : bitB (iv 45)) (hF : bitB (iv 46)) (hn : iv 44 5 = ((n : Nat) : Int)) (H : BF (adjP w h (iv 45) (iv 46)) R0 p (iv 47) (iv 48) n k) (hkn : k < n) {a : Nat} (ha : iv 48 k = a) :
    ∃ iv2, Run sc 15 0 [some (Rf 44), some (I (pX a)), some (I (pY a))] [] (hp iv) = some (none, hp iv2) ∧ StB (adjP w h (iv 45) (iv 46)) R0 p (k + 1) iv iv2 n := by
  obtain ⟨d1, d2, d3, d4, d5, d6⟩ := id hD
  have hq := H.2.1 k hkn
  rw [ha] at hq
  have ha2 : a < 625 := by omega
  have hca : clo (adjP w h (iv 45) (iv 46)) R0 p a := H.2.2.2.1 a ha2 (by have := hq.2.2; rwa [Int.toNat_natCast] at this)
  obtain ⟨bx, bY0, exy, -, -⟩ := pXY (a := a)
  have bY : 0 ≤ pY a ∧ pY a ≤ 24 := by omega
  have st0 : StB (adjP w h (iv 45) (iv 46)) R0 p k iv iv n := ⟨OnlyB.rf, ⟨n, hn, H, Nat.le_refl _⟩, fun _ _ => rfl, fun _ z => z⟩
  have keep : ∀ ivx, StB (adjP w h (iv 45) (iv 46)) R0 p k iv ivx n → DimB ivx w h ∧ ivx 45 = iv 45 ∧ ivx 46 = iv 46 := fun ivx z => by
    have f2 := z.1.1 2 (by omega) (by omega) (by omega)
    exact ⟨by unfold DimB; rw [f2]; exact hD, z.1.1 45 (by omega) (by omega) (by omega), z.1.1 46 (by omega) (by omega) (by omega)⟩
  -- below
  have s1 : ∃ ivx, Run sc 15 0 [some (Rf 44), some (I (pX a)), some (I (pY a))] [] (hp iv) = Run sc 15 21 [some (Rf 44), some (I (pX a)), some (I (pY a))] [] (hp ivx) ∧ StB (adjP w h (iv 45) (iv 46)) R0 p k iv ivx n ∧ (eU w h (iv 45) (pX a) (pY a) = 1 → ivx 47 (a + 25) = 1) := by
    rw [B_X0_reachNextPoints_0, atU_S hD hU, aBind_some, pushR_some, B_X0_reachNextPoints_7, chk_pos (by omega)]
    obtain ⟨ivx, r1, r2, r3, -⟩ := nb_St (sc := sc) (b := a + 25) (x := pX a) (y := pY a + 1) (e := eU w h (iv 45) (pX a) (pY a)) (K1 := fun v h2 => Run sc 15 20 [some (Rf 44), some (I (pX a)), some (I (pY a))] [v] h2) (K2 := fun h2 => Run sc 15 21 [some (Rf 44), some (I (pX a)), some (I (pY a))] [] h2) (fun v ivx => B_X0_reachNextPoints_20 ..) st0 (fun q => by
      have hq : inU w h (pX a) (pY a) := Classical.byContradiction fun z => by unfold eU at q; rw [if_neg z] at q; omega
      exact ⟨bx, by omega, by omega, hca.step (Or.inl ⟨q, rfl⟩)⟩) (K := fun v h2 => Run sc 15 20 [some (Rf 44), some (I (pX a)), some (I (pY a))] (pushR v []) h2) (fun v h2 => rfl)
    exact ⟨ivx, r1, r2, r3⟩
  obtain ⟨iv1, e1, t1, g1⟩ := s1
  obtain ⟨k1, k2, k3⟩ := keep iv1 t1
  have s2 : ∃ ivx, Run sc 15 21 [some (Rf 44), some (I (pX a)), some (I (pY a))] [] (hp iv1) = Run sc 15 44 [some (Rf 44), some (I (pX a)), some (I (pY a))] [] (hp ivx) ∧ StB (adjP w h (iv 45) (iv 46)) R0 p k iv ivx n ∧ (eU w h (iv 45) (pX a) (pY a - 1) = 1 → ivx 47 (a - 25) = 1) ∧ ∀ j, iv1 47 j = 1 → ivx 47 j = 1 := by
    rw [B_X0_reachNextPoints_21, chk_pos (by omega), atU_S k1 (by rw [k2]; exact hU), aBind_some, pushR_some, B_X0_reachNextPoints_30, chk_pos (by omega), k2]
    exact nb_St (sc := sc) (b := a - 25) (x := pX a) (y := pY a - 1) (e := eU w h (iv 45) (pX a) (pY a - 1)) (K1 := fun v h2 => Run sc 15 43 [some (Rf 44), some (I (pX a)), some (I (pY a))] [v] h2) (K2 := fun h2 => Run sc 15 44 [some (Rf 44), some (I (pX a)), some (I (pY a))] [] h2) (fun v ivx => B_X0_reachNextPoints_43 ..) t1 (fun q => by
      have hq : inU w h (pX a) (pY a - 1) := Classical.byContradiction fun z => by unfold eU at q; rw [if_neg z] at q; omega
      exact ⟨bx, by omega, by omega, hca.step (Or.inr (Or.inl ⟨q, by omega⟩))⟩) (K := fun v h2 => Run sc 15 43 [some (Rf 44), some (I (pX a)), some (I (pY a))] (pushR v []) h2) (fun v h2 => rfl)
  obtain ⟨iv2, e2, t2, g2, m2⟩ := s2
  obtain ⟨k4, k5, k6⟩ := keep iv2 t2
  have s3 : ∃ ivx, Run sc 15 44 [some (Rf 44), some (I (pX a)), some (I (pY a))] [] (hp iv2) = Run sc 15 65 [some (Rf 44), some (I (pX a)), some (I (pY a))] [] (hp ivx) ∧ StB (adjP w h (iv 45) (iv 46)) R0 p k iv ivx n ∧ (eF w h (iv 46) (pX a) (pY a) = 1 → ivx 47 (a + 1) = 1) ∧ ∀ j, iv2 47 j = 1 → ivx 47 j = 1 := by
    rw [B_X0_reachNextPoints_44, atF_S k4 (by rw [k6]; exact hF), aBind_some, pushR_some, B_X0_reachNextPoints_51, chk_pos (by omega), k6]
    exact nb_St (sc := sc) (b := a + 1) (x := pX a + 1) (y := pY a) (e := eF w h (iv 46) (pX a) (pY a)) (K1 := fun v h2 => Run sc 15 64 [some (Rf 44), some (I (pX a)), some (I (pY a))] [v] h2) (K2 := fun h2 => Run sc 15 65 [some (Rf 44), some (I (pX a)), some (I (pY a))] [] h2) (fun v ivx => B_X0_reachNextPoints_64 ..) t2 (fun q => by
      have hq : inF w h (pX a) (pY a) := Classical.byContradiction fun z => by unfold eF at q; rw [if_neg z] at q; omega
      exact ⟨by omega, bY, by omega, hca.step (Or.inr (Or.inr (Or.inl ⟨q, rfl⟩)))⟩) (K := fun v h2 => Run sc 15 64 [some (Rf 44), some (I (pX a)), some (I (pY a))] (pushR v []) h2) (fun v h2 => rfl)
  obtain ⟨iv3, e3, t3, g3, m3⟩ := s3
  obtain ⟨k7, k8, k9⟩ := keep iv3 t3
  have s4 : ∃ ivx, Run sc 15 65 [some (Rf 44), some (I (pX a)), some (I (pY a))] [] (hp iv3) = Run sc 15 88 [some (Rf 44), some (I (pX a)), some (I (pY a))] [] (hp ivx) ∧ StB (adjP w h (iv 45) (iv 46)) R0 p k iv ivx n ∧ (eF w h (iv 46) (pX a - 1) (pY a) = 1 → ivx 47 (a - 1) = 1) ∧ ∀ j, iv3 47 j = 1 → ivx 47 j = 1 := by
    rw [B_X0_reachNextPoints_65, chk_pos (by omega), atF_S k7 (by rw [k9]; exact hF), aBind_some, pushR_some, B_X0_reachNextPoints_74, chk_pos (by omega), k9]
    exact nb_St (sc := sc) (b := a - 1) (x := pX a - 1) (y := pY a) (e := eF w h (iv 46) (pX a - 1) (pY a)) (K1 := fun v h2 => Run sc 15 87 [some (Rf 44), some (I (pX a)), some (I (pY a))] [v] h2) (K2 := fun h2 => Run sc 15 88 [some (Rf 44), some (I (pX a)), some (I (pY a))] [] h2) (fun v ivx => B_X0_reachNextPoints_87 ..) t3 (fun q => by
      have hq : inF w h (pX a - 1) (pY a) := Classical.byContradiction fun z => by unfold eF at q; rw [if_neg z] at q; omega
      exact ⟨by omega, bY, by omega, hca.step (Or.inr (Or.inr (Or.inr ⟨q, by omega⟩)))⟩) (K := fun v h2 => Run sc 15 87 [some (Rf 44), some (I (pX a)), some (I (pY a))] (pushR v []) h2) (fun v h2 => rfl)
  obtain ⟨iv4, e4, t4, g4, m4⟩ := s4
  refine ⟨iv4, by rw [e1, e2, e3, e4, B_X0_reachNextPoints_88], t4.1, ?_, t4.2.2⟩
  obtain ⟨n4, z1, z2, z3⟩ := t4.2.1
  refine ⟨n4, z1, z2.next (by omega) (fun b hb => ?_), z3⟩
  rw [t4.2.2.1 k hkn, ha, Int.toNat_natCast] at hb
  rcases hb with ⟨q, e⟩ | ⟨q, e⟩ | ⟨q, e⟩ | ⟨q, e⟩
  · rw [e]; exact m4 _ (m3 _ (m2 _ (g1 q)))
  · rw [show b = a - 25 by omega]; exact m4 _ (m3 _ (g2 q))
  · rw [e]; exact m4 _ (g3 q)
  · rw [show b = a - 1 by omega]; exact g4 q
/-- the ends at a point, by its number -/
def ptN (w h : Int) (U F : Nat → Int) (a : Nat) : Int := ptF w h U F (pX a) (pY a)
set_option maxHeartbeats 2000000 in
theorem grp_S {R0 : Nat → Int} {p w h : Nat} : ∀ (m k : Nat) (iv : Nat → Nat → Int) (n : Nat) (d3 d4 : Option AV), 625 - k = m → DimB iv w h → bitB (iv 45) → bitB (iv 46) → iv 44 5 = ((n : Nat) : Int) → BF (adjP w h (iv 45) (iv 46)) R0 p (iv 47) (iv 48) n k →
    ∃ iv2 n2, Run sc 14 4 [some (Rf 44), some (I (sumN (fun i => ptN w h (iv 45) (iv 46) (iv 48 i).toNat % 2) k)), some (I k), d3, d4] [] (hp iv) = some (some (I (sumN (fun i => ptN w h (iv 45) (iv 46) (iv2 48 i).toNat % 2) n2)), hp iv2) ∧ OnlyB iv iv2 ∧ BF (adjP w h (iv 45) (iv 46)) R0 p (iv2 47) (iv2 48) n2 n2 := by
  intro m
  induction m with
  | zero =>
    intro k iv n d3 d4 hm hD hU hF hn H
    have h1 := H.n_le
    have h8 := H.2.2.2.2.2.2.2
    have e : k = n := by omega
    subst e
    refine ⟨iv, k, ?_, OnlyB.rf, H⟩
    rw [B_X0_oddPointsOfGroup_4, ite_F (by omega), B_X0_oddPointsOfGroup_65]
  | succ m ih =>
    intro k iv n d3 d4 hm hD hU hF hn H
    obtain ⟨w1, w2, w3, w4, w5, w6⟩ := id hD
    have h1 := H.n_le
    have h8 := H.2.2.2.2.2.2.2
    by_cases e : k = n
    · subst e
      refine ⟨iv, k, ?_, OnlyB.rf, H⟩
      rw [B_X0_oddPointsOfGroup_4, ite_F (by omega), B_X0_oddPointsOfGroup_65]
    · have hkn : k < n := by omega
      obtain ⟨q1, q2, q3⟩ := H.2.1 k hkn
      obtain ⟨a, ha⟩ : ∃ a : Nat, iv 48 k = a := ⟨(iv 48 k).toNat, by omega⟩
      have es : (0 : Int) ≤ sumN (fun i => ptN w h (iv 45) (iv 46) (iv 48 i).toNat % 2) k ∧ sumN (fun i => ptN w h (iv 45) (iv 46) (iv 48 i).toNat % 2) k ≤ 625 := by
        constructor
        · exact sumN_nonneg (fun i _ => by omega)
        · have := sumN_le (f := fun i => ptN w h (iv 45) (iv 46) (iv 48 i).toNat % 2) (n := k) (c := 1) (fun i _ => by omega)
          omega
      obtain ⟨iv1, r1, ⟨o1, ⟨n1, o2, o3, o4⟩, o5, o6⟩⟩ := nexts_S (sc := sc) hD hU hF hn H hkn ha
      have c2 := o1.1 2 (by omega) (by omega) (by omega)
      have c45 := o1.1 45 (by omega) (by omega) (by omega)
      have c46 := o1.1 46 (by omega) (by omega) (by omega)
      rw [← c45, ← c46] at o3
      obtain ⟨iv2, n2, i1, i2, i3⟩ := ih (k + 1) iv1 n1 (some (I (pX a))) (some (I (pY a))) (by omega) (by unfold DimB; rw [c2]; exact hD) (by rw [c45]; exact hU) (by rw [c46]; exact hF) o2 o3
      rw [c45, c46] at i1 i3
      refine ⟨iv2, n2, ?_, o1.tr i2, i3⟩
      have e0 : sumN (fun i => ptN w h (iv 45) (iv 46) (iv1 48 i).toNat % 2) (k + 1) = sumN (fun i => ptN w h (iv 45) (iv 46) (iv 48 i).toNat % 2) k + ptF w h (iv 45) (iv 46) (pX a) (pY a) % 2 := by
        show sumN (fun i => ptN w h (iv 45) (iv 46) (iv1 48 i).toNat % 2) k + ptN w h (iv 45) (iv 46) (iv1 48 k).toNat % 2 = _
        rw [o5 k hkn, ha, Int.toNat_natCast, sumN_congr (g := fun i => ptN w h (iv 45) (iv 46) (iv 48 i).toNat % 2) (fun i hi => by rw [o5 i (by omega)])]
        rfl
      rw [e0] at i1
      rw [B_X0_oddPointsOfGroup_4, ite_T (by omega), ite_T (by omega), Int.toNat_natCast, ha, bck_pos (by omega), bck_pos (by omega), bck_pos (by omega), bck_pos (by omega), bck_pos (by omega), bck_pos (by omega)]
      obtain ⟨bx, bY0, exy, ex, ey⟩ := pXY (a := a)
      rw [ex, ey, pt_S hD hU hF (by omega) (by omega), aBind_some, pushR_some, B_X0_oddPointsOfGroup_48, show (1 : Int) + 1 = 2 from rfl, chk_pos (by omega), r1, aBind_some, pushR_none, B_X0_oddPointsOfGroup_59, chk_pos (by omega)]
      exact i1
end BACKS3
