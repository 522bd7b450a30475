/-! cells changed alike; setCell */ -/
section CHANGED
variable {sc : Nat × (Nat → Int)} {iv iv0 s s1 t : Nat → Nat → Int}
set_option maxHeartbeats 1000000 in
/-- some colors are concerned, the others have their cells still -/
theorem InvW.chg {D : Nat → Prop} {w h n : Nat} (H : InvW iv w h n) (f : ∀ k, k < 50 → k ≠ 3 → k ≠ 4 → k ≠ 5 → s k = iv k) (f50 : s 50 1 = iv 50 1) (f51 : s 51 = iv 51) (f52 : ∀ f, f ≤ 17 → s 52 f = iv 52 f) (f55 : s 55 = iv 55) (f56 : s 56 = iv 56) (f63 : s 63 = iv 63) (t1 : ∀ c, D c → s 3 c = 1) (t2 : ∀ c, ¬ D c → s 3 c = iv 3 c) (hg : ∀ j, j < 576 → s 53 j = s 4 j ∧ 0 ≤ s 4 j ∧ s 4 j ≤ 6) (hq : ∀ c : Nat, ¬ D c → ∀ j, j < 576 → (s 4 j = (c : Int) ↔ iv 4 j = (c : Int)))
    (hr : ∀ c : Nat, 1 ≤ c → c ≤ 6 → ∃ m : Nat, s 57 c = (m : Int) ∧ RunsOK (gN s) c w h m (mX s c) (mY s c) (mL s c) ∧ (D c → ∀ p, p < m → mO s c p = foO m (mX s c) (mY s c) p) ∧ (¬ D c → ∀ p, p < 288 → mO s c p = mO iv c p)) : InvW s w h n := by
  obtain ⟨⟨h1, a1, a2, a3⟩, h2, h3, ⟨⟨h4, b1, b2, b3, b4, b5⟩, h4'⟩, h5, h6⟩ := id H
  obtain ⟨d1, d2, d3, d4, d5, d6⟩ := id h1
  have g : ∀ k, 5 < k → k < 50 → s k = iv k := fun k u v => f k v (by omega) (by omega) (by omega)
  have e2 : s 2 = iv 2 := f 2 (by omega) (by omega) (by omega) (by omega)
  have dm : DimB s w h := by unfold DimB; rw [e2]; exact h1
  have m0 : s 52 0 = w := by rw [f52 0 (by omega)]; exact a1
  have m1 : s 52 1 = h := by rw [f52 1 (by omega)]; exact a2
  refine ⟨⟨dm, m0, m1, hg⟩, ?_, ?_, ⟨⟨dm, m0, m1, ?_⟩, ?_⟩, ?_, fun k hk => ?_⟩
  · unfold MLy LayB at h2 ⊢
    rw [g 49 (by omega) (by omega), f52 4 (by omega), f52 5 (by omega), f52 6 (by omega)]; exact h2
  · unfold YarnB at h3 ⊢
    rw [g 6 (by omega) (by omega), f52 2 (by omega), f52 3 (by omega)]; exact h3
  · rw [g 45 (by omega) (by omega), g 46 (by omega) (by omega), f55, f56]; exact ⟨b3, b4, b5⟩
  · unfold BkOut at h4' ⊢; rw [g 45 (by omega) (by omega), g 46 (by omega) (by omega)]; exact h4'
  · unfold TxtB MTx at h5 ⊢; rw [f50, f51, f52 17 (by omega), f63]; exact h5
  · obtain ⟨m, r1, r2, r3, r4⟩ := hr (k + 1) (by omega) (by omega)
    obtain ⟨c1, c2, m0, c57, cR, ⟨P, cP⟩, c0, c3⟩ := h6 k hk
    unfold CrI
    rw [g (8 + 6 * k) (by omega) (by omega), g (9 + 6 * k) (by omega) (by omega), g (10 + 6 * k) (by omega) (by omega), g (11 + 6 * k) (by omega) (by omega), g (12 + 6 * k) (by omega) (by omega), g (13 + 6 * k) (by omega) (by omega)]
    by_cases hD : D (k + 1)
    · have ts := t1 _ hD
      exact ⟨c1, Or.inr ts, m, r1, r2, ⟨_, foO_perm.congr (fun p hpp => r3 hD p hpp) (fun _ _ => rfl)⟩, fun z => by omega, fun _ => r3 hD⟩
    · have ts := t2 _ hD
      have eg : ∀ x y, x < w → y < h → (gN s x y = (k : Int) + 1 ↔ gN iv x y = (k : Int) + 1) := fun x y hx hy => hq (k + 1) hD (y * 24 + x) (by omega)
      have cR2 := cR.congr eg
      obtain ⟨em, ag⟩ := r2.agree cR2
      subst em
      obtain ⟨q1, q2⟩ := r2.b d4 d6
      have eO : ∀ p, p < m → mO s (k + 1) p = mO iv (k + 1) p := fun p hpp => r4 hD p (by omega)
      refine ⟨c1, by rw [ts]; exact c2, m, r1, r2, ⟨P, cP.congr eO (fun _ _ => rfl)⟩, fun z => ?_, fun z p hpp => ?_⟩
      · rw [ts] at z
        obtain ⟨q1, q2, q3, q4⟩ := c0 z
        exact ⟨q1, q2.congr eg, fun p hpp => by rw [q3 p hpp, eO p hpp], q4⟩
      · rw [ts] at z
        have agx : AgX m (mX iv (k + 1)) (mY iv (k + 1)) (mX s (k + 1)) (mY s (k + 1)) := fun i hi => ⟨(ag i hi).1.symm, (ag i hi).2.1.symm⟩
        rw [eO p hpp, c3 z p hpp, foO_cg agx hpp]
theorem tb_z {c : Nat} : ¬ tb 0 c := by unfold tb; rw [Nat.zero_div]; omega
/-- change and lay, where the class's cells changed from iv0 to s1 -/
theorem tail_M {w h n : Nat} {r : Int} (H : InvW iv w h n) (f0 : ∀ k, k ≠ 50 → iv0 k = iv k) (f1 : iv0 50 1 = iv 50 1) (hch : ChG iv0 s1 r) (tk : ∀ k, k ≠ 52 → k ≠ 54 → t k = s1 k) (t52 : ∀ f, f ≤ 17 → t 52 f = s1 52 f) (t24 : t 52 24 = 0) (t54 : ∀ j, j < 576 → t 54 j = s1 4 j) :
    ∃ s2 s3, Run sc 127 0 [some (Rf 52), none, none] [] (hp t) = some (some (I r), hp s2) ∧ Run sc 114 0 [some (Rf 52), some (I (s2 52 24)), none, none, none, none] [] (hp s2) = some (none, hp s3) ∧ InvW s3 w h n := by
  obtain ⟨⟨h1, a1, a2, a3⟩, -⟩ := id H
  obtain ⟨u1, u2, u3, u4, u5, u6⟩ := id hch
  have e4 : iv0 4 = iv 4 := f0 4 (by omega)
  have k1 : ∀ k, k ≠ 3 → k ≠ 4 → k ≠ 50 → s1 k = iv k := fun k a b c => by rw [u1 k a b, f0 k c]
  rw [e4] at u2 u3 u4
  obtain ⟨s2, m2, g1, g2, g3, g4, g5, g6, g7⟩ := chg_M (sc := sc) (iv := t) (m := 0) (N := s1 4) (O := iv 4) t24 (by omega) (fun j hj => ⟨t54 j hj, u5 j hj⟩) (fun j hj => by rw [tk 53 (by omega) (by omega), k1 53 (by omega) (by omega) (by omega)]; exact a3 j hj)
  have v52 : ∀ f, f ≤ 17 → s2 52 f = iv 52 f := fun f hf => by rw [g3 f (by omega), t52 f hf, k1 52 (by omega) (by omega) (by omega)]
  have hD1 : DimB s1 w h := by unfold DimB; rw [k1 2 (by omega) (by omega) (by omega)]; exact h1
  have hM2 : MGr s1 s2 w h := ⟨hD1, by rw [v52 0 (by omega)]; exact a1, by rw [v52 1 (by omega)]; exact a2, fun j hj => ⟨g6 j hj, u5 j hj⟩⟩
  obtain ⟨s3, l1, l2, l3⟩ := lay_M (sc := sc) hM2 g5
  have k3 : ∀ k, k ≠ 52 → k ≠ 53 → k ≠ 54 → (k < 57 ∨ 62 < k) → s3 k = s1 k := fun k a b c d => by rw [l2 k (by omega) (by omega) (by omega) (by omega) (by omega) (by omega), g2 k a b, tk k a c]
  have e34 : s3 4 = s1 4 := k3 4 (by omega) (by omega) (by omega) (by omega)
  have e33 : s3 3 = s1 3 := k3 3 (by omega) (by omega) (by omega) (by omega)
  have eg : gN s3 = gN s1 := by funext x y; unfold gN; rw [e34]
  have eO2 : ∀ c p, mO s2 c p = mO iv c p := fun c p => by unfold mO; rw [g2 61 (by omega) (by omega), tk 61 (by omega) (by omega), k1 61 (by omega) (by omega) (by omega)]
  refine ⟨s2, s3, by rw [u4]; exact g1, by rw [g4]; exact l1, ?_⟩
  refine H.chg (D := fun c => ∃ j, j < 576 ∧ iv 4 j ≠ s1 4 j ∧ (iv 4 j = (c : Int) ∨ s1 4 j = (c : Int))) (fun k a b c d => by rw [k3 k (by omega) (by omega) (by omega) (by omega), k1 k b c (by omega)]) (by rw [k3 50 (by omega) (by omega) (by omega) (by omega), u1 50 (by omega) (by omega), f1]) (by rw [k3 51 (by omega) (by omega) (by omega) (by omega), k1 51 (by omega) (by omega) (by omega)]) (fun f hf => by rw [l2 52 (by omega) (by omega) (by omega) (by omega) (by omega) (by omega), v52 f hf]) (by rw [k3 55 (by omega) (by omega) (by omega) (by omega), k1 55 (by omega) (by omega) (by omega)]) (by rw [k3 56 (by omega) (by omega) (by omega) (by omega), k1 56 (by omega) (by omega) (by omega)]) (by rw [k3 63 (by omega) (by omega) (by omega) (by omega), k1 63 (by omega) (by omega) (by omega)]) (fun c hc => by rw [e33]; exact u2 c hc) (fun c hc => by rw [e33, u3 c hc, f0 3 (by omega)]) (fun j hj => by rw [e34, l2 53 (by omega) (by omega) (by omega) (by omega) (by omega) (by omega)]; exact ⟨g6 j hj, u5 j hj⟩) (fun c hc j hj => ?_) (fun c c1 c6 => ?_)
  · rw [e34]
    by_cases e : iv 4 j = s1 4 j
    · rw [e]
    · exact ⟨fun z => absurd ⟨j, hj, e, Or.inr z⟩ hc, fun z => absurd ⟨j, hj, e, Or.inl z⟩ hc⟩
  · obtain ⟨m, r1, r2, r3, r4⟩ := l3 c c1 c6
    refine ⟨m, r1, by rw [eg]; exact r2, fun z => r3 ((g7 c).mpr (Or.inr z)), fun z p hpp => ?_⟩
    rw [r4 (fun y => ((g7 c).mp y).elim (fun q => tb_z q) z) p hpp, eO2]
theorem setCell_B {w h n : Nat} {x y c : Int} (H : InvW iv w h n) : Both sc 81 130 [some (Rf 1), some (I x), some (I y), some (I c), none] [some (Rf 52), some (I x), some (I y), some (I c), none] iv := by
  obtain ⟨hM, -⟩ := id H
  obtain ⟨⟨d1, d2, d3, d4, d5, d6⟩, a1, a2, a3⟩ := id hM
  by_cases hin : inC iv x y
  · by_cases hc : 0 ≤ c ∧ c ≤ 6
    · have hin2 := hin
      unfold inC at hin2
      obtain ⟨j0, hj0⟩ : ∃ j : Nat, y * 24 + x = j := ⟨(y * 24 + x).toNat, by omega⟩
      have ej : (y * 24 + x).toNat = j0 := by omega
      have ej2 : (24 * y + x).toNat = j0 := by omega
      have hj : j0 < 576 := by omega
      have hg : ∀ j, j < 576 → 0 ≤ iv 4 j ∧ iv 4 j ≤ 6 := fun j hj => (a3 j hj).2
      have hch := (ChG.rf (iv := iv) hg).put hj rfl hc
      have hput := put_S (sc := sc) (iv := iv) (x := x) (y := y) (c := c) (by omega) (by omega) hin hc (by rw [ej]; exact hg j0 hj)
      rw [ej] at hput
      have k1 : ∀ k, k ≠ 3 → k ≠ 4 → putS iv j0 c k = iv k := fun k a b => putS_2 a b
      have p4 : ∀ j, putS iv j0 c 4 j = if j = j0 then c else iv 4 j := fun j => putS_4
      generalize hs1 : putS iv j0 c = s1 at *
      have hM1 : MGr iv s1 w h := ⟨hM.1, by rw [k1 52 (by omega) (by omega)]; exact a1, by rw [k1 52 (by omega) (by omega)]; exact a2, fun j hj => by rw [k1 53 (by omega) (by omega)]; exact a3 j hj⟩
      obtain ⟨t1, q1, q2, q3⟩ := tak_M (sc := sc) hM1
      obtain ⟨t, ht⟩ : ∃ t, setO (setO t1 54 (upI (t1 54) j0 c)) 52 (upI ((setO t1 54 (upI (t1 54) j0 c)) 52) 24 0) = t := ⟨_, rfl⟩
      have t54 : ∀ j, j < 576 → t 54 j = s1 4 j := fun j hj => by
        rw [← ht, setO_ne (by omega), setO_same, p4]
        by_cases e : j = j0
        · rw [e, upI_same, if_pos rfl]
        · rw [upI_ne e, if_neg e, q3 j hj]
      have tk : ∀ k, k ≠ 52 → k ≠ 54 → t k = s1 k := fun k a b => by rw [← ht, setO_ne a, setO_ne b, q2 k b]
      have t52 : ∀ f, f ≠ 24 → t 52 f = s1 52 f := fun f hf => by rw [← ht, setO_same, upI_ne hf, setO_ne (by omega), q2 52 (by omega)]
      have t24 : t 52 24 = 0 := by rw [← ht, setO_same, upI_same]
      obtain ⟨s2, s3, z1, z2, z3⟩ := tail_M (sc := sc) H (fun _ _ => rfl) rfl hch tk (fun f hf => t52 f (by omega)) t24 t54
      refine ⟨gC iv x y, s1, s3, w, h, n, ?_, ?_, z3⟩
      · rw [B_X6_setCell_0, has_T hin, aBind_some, pushR_some, B_X6_setCell_9, ite_F (by omega), B_X6_setCell_14, within_T hc, aBind_some, pushR_some, B_X6_setCell_21, ite_F (by omega), B_X6_setCell_27, colorAt_S (by omega) (by omega), aBind_some, pushR_some, B_X6_setCell_36, hput, aBind_some, pushR_some, B_X6_setCell_48]
      · rw [B_X7_setCell_0, cell_T hM1 hin, aBind_some, pushR_some, B_X7_setCell_6, ite_F (by omega), B_X7_setCell_11, in_T hc, aBind_some, pushR_some, B_X7_setCell_18, ite_F (by omega), B_X7_setCell_24, at_M hM1, aBind_some, pushR_some, aM_in hin, B_X7_setCell_30, q1, aBind_some, pushR_none, B_X7_setCell_36, chk_pos (by omega), chk_pos (by omega), bck_pos (by omega), bck_pos (by omega), ej2, B_X7_setCell_48, bck_pos (by omega), ht, B_X7_setCell_53, z1, aBind_some, pushR_some, B_X7_setCell_57, z2, aBind_some, pushR_none, B_X7_setCell_66]
    · refine Both.same (a := -2) H ?_ ?_
      · rw [B_X6_setCell_0, has_T hin, aBind_some, pushR_some, B_X6_setCell_9, ite_F (by omega), B_X6_setCell_14, within_F hc, aBind_some, pushR_some, B_X6_setCell_21, ite_T rfl]
      · rw [B_X7_setCell_0, cell_T hM hin, aBind_some, pushR_some, B_X7_setCell_6, ite_F (by omega), B_X7_setCell_11, in_F hc, aBind_some, pushR_some, B_X7_setCell_18, ite_T rfl]
  · refine Both.same (a := -1) H ?_ ?_
    · rw [B_X6_setCell_0, has_F hin, aBind_some, pushR_some, B_X6_setCell_9, ite_T rfl]
    · rw [B_X7_setCell_0, cell_F hM hin, aBind_some, pushR_some, B_X7_setCell_6, ite_T rfl]
end CHANGED
