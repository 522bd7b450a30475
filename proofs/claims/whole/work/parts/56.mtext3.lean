/-! StitchChartModel: the whole text -/
section MTEXT3
variable {sc : Nat × (Nat → Int)} {iv iv0 g s : Nat → Nat → Int}
set_option maxHeartbeats 2000000 in
theorem entry_M {T : Nat → Int} {n f i w h : Nat} {x y wd : Int} (hT : MTx T iv0 n) (hM : MGr g iv0 w h) (H : RSt iv0 s i 1 x y wd) (hif : i + (f + 1) = n) (h47 : T i ≠ 47) (hx : 0 ≤ x ∧ x ≤ 3000) (hy : 0 ≤ y ∧ y ≤ 200) :
    ∃ s2, Run sc 125 0 [some (Rf 52), none, none, none, none] [] (hp s) = some (none, hp s2) ∧
    ((∃ q : Nat, q ≤ n ∧ cfF T n (f + 1) i 0 0 = q ∧ RSt iv0 s2 q 0 x y wd) ∨
     ∃ v f2 c wd2 i2, i2 + f2 = n ∧ i < i2 ∧ f2 ≤ f ∧ (1 ≤ v ∧ v ≤ 24) ∧ (0 ≤ c ∧ c ≤ 6) ∧ RSt iv0 s2 ((i2 : Nat) : Int) 1 (x + v) y wd2 ∧ cfF T n (f + 1) i 0 0 = cfF T n f2 i2 0 0 ∧ ((x + v ≤ w ∧ y < h) → wd2 = wd ∧ s2 54 = rowP (s 54) x y v c) ∧ (¬ (x + v ≤ w ∧ y < h) → wd2 = 1) ∧
       (∀ a b x y : Int, ¬ (a < x ∨ b ≤ y) → fiF T a b (f + 1) i x y 0 0 = if a < x + v ∨ b ≤ y then false else fiF T a b f2 i2 (x + v) y 0 0) ∧ ∀ x y G, drF T (f + 1) i x y 0 0 G = drF T f2 i2 (x + v) y 0 0 (rowP G x y v c)) := by
  have hn120 : n ≤ 120 := hT.2.1
  obtain ⟨v, s1, e1, f54, k⟩ := num_M (sc := sc) hT H hif
  rw [B_X7_readEntry_0, e1, aBind_some, pushR_some, B_X7_readEntry_4]
  rcases k with ⟨q, q1, q2, q3⟩ | ⟨i2, f2, a, b, ev, ⟨k1, k2, k3, k4, k5, k6, k7, k8⟩, k9⟩
  · refine ⟨s1, ?_, Or.inl ⟨q, q1, q2, q3⟩⟩
    rw [q3.2.2.2.1, ite_T rfl]
  · have hk3 := k3.n
    have g20 := k9.2.2.2.1
    have g19 := k9.2.2.1
    obtain ⟨t1, t2, t3⟩ := k9.tx hT
    rw [g20, ite_F (by omega), B_X7_readEntry_13, g19, t1]
    by_cases hi2 : i2 < n
    · obtain ⟨c1, c2⟩ := t3 i2 hi2
      have ndig : ¬ digI (T i2) := fun z => k4 ⟨hi2, z⟩
      obtain ⟨f3, rfl⟩ : ∃ f3, f2 = f3 + 1 := ⟨f2 - 1, by omega⟩
      rw [ite_T (by omega), bck_pos (by omega), bck_pos (by omega), bck_pos (by omega), Int.toNat_natCast, c1]
      have sel : (if T i2 = 46 then Run sc 125 66 [some (Rf 52), some (I v), none, none, none] [] (hp s1) else if T i2 < 97 then Run sc 125 70 [some (Rf 52), some (I v), none, none, none] [] (hp s1) else if 102 < T i2 then Run sc 125 70 [some (Rf 52), some (I v), none, none, none] [] (hp s1) else Run sc 125 66 [some (Rf 52), some (I v), none, none, none] [] (hp s1)) = if entI (T i2) then Run sc 125 71 [some (Rf 52), some (I v), none, none, none] [I 1] (hp s1) else Run sc 125 71 [some (Rf 52), some (I v), none, none, none] [I 0] (hp s1) := by
        rw [B_X7_readEntry_66, B_X7_readEntry_70]
        by_cases z : entI (T i2)
        · rw [if_pos z]
          by_cases z1 : T i2 = 46
          · rw [if_pos z1]
          · rw [if_neg z1, if_neg (by omega), if_neg (by omega)]
        · rw [if_neg z, if_neg (by omega)]
          by_cases z1 : T i2 < 97
          · rw [if_pos z1]
          · rw [if_neg z1, if_pos (by omega)]
      rw [sel]
      by_cases z : entI (T i2)
      · rw [if_pos z, B_X7_readEntry_71, ite_F (by omega), B_X7_readEntry_82, g19, bck_pos (by omega), Int.toNat_natCast, c1]
        have hcb := colI_b z
        have col : (if T i2 = 46 then Run sc 125 114 [some (Rf 52), some (I v), some (I 1), none, none] [I 0] (hp s1) else Run sc 125 100 [some (Rf 52), some (I v), some (I 1), none, none] [] (hp s1)) = Run sc 125 114 [some (Rf 52), some (I v), some (I 1), none, none] [I (colI (T i2))] (hp s1) := by
          unfold colI
          by_cases z1 : T i2 = 46
          · rw [if_pos z1, if_pos z1]
          · rw [if_neg z1, if_neg z1, B_X7_readEntry_100, g19, bck_pos (by omega), Int.toNat_natCast, c1, chk_pos (by omega), chk_pos (by omega), show T i2 - 97 + 1 = T i2 - 96 by omega]
        have k9' : RSt iv0 (setO s1 52 (upI (s1 52) 19 ((i2 : Int) + 1))) ((i2 + 1 : Nat) : Int) 1 x y wd := k9.p
        rw [col, B_X7_readEntry_114, g19, chk_pos (by omega), bck_pos (by omega), B_X7_readEntry_125]
        obtain ⟨s3, wd2, m1, m2, m3, m4⟩ := cells_M (sc := sc) (v := v) (c := colI (T i2)) (is := 1) hM k9' (by omega) hx hy hcb
        have f54' : (setO s1 52 (upI (s1 52) 19 ((i2 : Int) + 1))) 54 = s 54 := by rw [setO_ne (by omega), f54]
        rw [f54'] at m3
        refine ⟨s3, m1, Or.inr ⟨v, f3, colI (T i2), wd2, i2 + 1, by omega, by omega, by omega, by omega, hcb, m2, ?_, m3, m4, fun a' b' x y hc => ?_, fun x y G => ?_⟩⟩
        · rw [k6, cfF_s, if_neg ndig, if_pos k5, if_pos (Or.inr z)]
        · rw [k7 a' b' x y hc, fiF_s, if_neg ndig, if_neg (by omega), ev]
        · rw [k8, drF_s, if_neg ndig, if_neg (by omega), ev]
      · rw [if_neg z, B_X7_readEntry_71, ite_T rfl, bck_pos (by omega), B_X7_readEntry_81]
        refine ⟨_, rfl, Or.inl ⟨i2, by omega, ?_, k9.g⟩⟩
        rw [k6, cfF_s, if_neg ndig, if_pos k5, if_neg (fun y2 => ?_)]
        rcases y2 with y2 | y2
        · have : i2 = i := by omega
          rw [this] at y2; exact h47 y2.1
        · exact z y2
    · have hf20 : f2 = 0 := by omega
      subst hf20
      rw [ite_F (by omega), B_X7_readEntry_70, B_X7_readEntry_71, ite_T rfl, bck_pos (by omega), B_X7_readEntry_81]
      refine ⟨_, rfl, Or.inl ⟨i2, by omega, ?_, k9.g⟩⟩
      rw [k6]
      show (if 1 ≤ ncI a b ∧ ncI a b ≤ 24 then (if b = 0 then -1 else (n : Int)) else n - b) = _
      rw [if_pos k5, if_neg (by omega)]; omega
set_option maxHeartbeats 2000000 in
theorem text_M {T : Nat → Int} {n w h : Nat} (hT : MTx T iv0 n) (hM : MGr g iv0 w h) : ∀ (f i : Nat) (s : Nat → Nat → Int) (x y wd : Int), i + f = n → RSt iv0 s i 1 x y wd → (0 ≤ x ∧ x ≤ 24 * i) → (0 ≤ y ∧ y ≤ i) → (wd = 0 → x ≤ w) →
    ∃ s2 p2 gd2 x2 y2 wd2, Run sc 128 29 [some (Rf 52), none] [] (hp s) = Run sc 128 96 [some (Rf 52), none] [] (hp s2) ∧ RSt iv0 s2 p2 gd2 x2 y2 wd2 ∧ (cfF T n f i 0 0 ≠ -1 → gd2 = 0 ∧ p2 = cfF T n f i 0 0) ∧
    (cfF T n f i 0 0 = -1 → gd2 = 1 ∧ ((wd = 0 ∧ y < h ∧ fiF T w h f i x y 0 0 = true) → wd2 = 0 ∧ y2 < h ∧ s2 54 = drF T f i x y 0 0 (s 54)) ∧ (¬ (wd = 0 ∧ y < h ∧ fiF T w h f i x y 0 0 = true) → wd2 ≠ 0 ∨ h ≤ y2)) := by
  intro f
  induction f using Nat.strongRecOn with
  | _ f ih =>
    intro i s x y wd hif H hx hy hwd
    have hn120 : n ≤ 120 := hT.2.1
    obtain ⟨⟨d1, d2, d3, d4, d5, d6⟩, -⟩ := id hM
    obtain ⟨t1, t2, t3⟩ := H.tx hT
    have g19 := H.2.2.1
    have g20 := H.2.2.2.1
    have g22 := H.2.2.2.2.2.1
    have n00 : ncI 0 0 = 1 := rfl
    cases f with
    | zero =>
      have c0 : cfF T n 0 i 0 0 = -1 := rfl
      refine ⟨s, i, 1, x, y, wd, ?_, H, fun z => absurd c0 z, fun _ => ⟨rfl, fun z => ⟨z.1, z.2.1, rfl⟩, fun z => ?_⟩⟩
      · rw [B_X7_readChart_29, g20, ite_F (by omega), g19, t1, ite_F (by omega)]
      · by_cases q : wd = 0
        · exact Or.inr (Classical.byContradiction fun z2 => z ⟨q, by omega, rfl⟩)
        · exact Or.inl q
    | succ f =>
      obtain ⟨c1, c2⟩ := t3 i (by omega)
      by_cases z : T i = 47
      · have nd : ¬ digI (T i) := by omega
        have c0 : cfF T n (f + 1) i 0 0 = cfF T n f (i + 1) 0 0 := by rw [cfF_s, if_neg nd, if_pos (by omega), if_pos (Or.inl ⟨z, rfl⟩)]
        have fi0 : fiF T w h (f + 1) i x y 0 0 = if (w : Int) < 0 ∨ (h : Int) ≤ y + 1 then false else fiF T w h f (i + 1) 0 (y + 1) 0 0 := by rw [fiF_s, if_neg nd, if_pos z]
        have dr0 : ∀ G, drF T (f + 1) i x y 0 0 G = drF T f (i + 1) 0 (y + 1) 0 0 G := fun G => by rw [drF_s, if_neg nd, if_pos z]
        have H1 : RSt iv0 (setO s 52 (upI (s 52) 19 ((i : Int) + 1))) ((i + 1 : Nat) : Int) 1 x y wd := H.p
        generalize hs1 : setO s 52 (upI (s 52) 19 ((i : Int) + 1)) = s1 at H1
        have H2 : RSt iv0 (setO s1 52 (upI (s1 52) 21 0)) ((i + 1 : Nat) : Int) 1 0 y wd := H1.x
        generalize hs2 : setO s1 52 (upI (s1 52) 21 0) = s2 at H2
        have H3 : RSt iv0 (setO s2 52 (upI (s2 52) 22 (y + 1))) ((i + 1 : Nat) : Int) 1 0 (y + 1) wd := H2.y
        generalize hs3 : setO s2 52 (upI (s2 52) 22 (y + 1)) = s3 at H3
        have f54 : s3 54 = s 54 := by rw [← hs3, setO_ne (by omega), ← hs2, setO_ne (by omega), ← hs1, setO_ne (by omega)]
        have st : Run sc 128 29 [some (Rf 52), none] [] (hp s) = Run sc 128 29 [some (Rf 52), none] [] (hp s3) := by
          have y22 := H2.2.2.2.2.2.1
          rw [B_X7_readChart_29, g20, ite_F (by omega), g19, t1, ite_T (by omega), bck_pos (by omega), Int.toNat_natCast, c1, if_pos z, chk_pos (by omega), bck_pos (by omega), hs1, B_X7_readChart_71, bck_pos (by omega), hs2, B_X7_readChart_76, y22, chk_pos (by omega), bck_pos (by omega), hs3, B_X7_readChart_86]
        obtain ⟨s4, p2, gd2, x2, y2, wd2, r1, r2, r3, r4⟩ := ih f (by omega) (i + 1) s3 0 (y + 1) wd (by omega) H3 (by omega) (by omega) (by omega)
        refine ⟨s4, p2, gd2, x2, y2, wd2, by rw [st, r1], r2, by rw [c0]; exact r3, fun q => ?_⟩
        rw [c0] at q
        obtain ⟨u1, u2, u3⟩ := r4 q
        rw [fi0, dr0, ← f54]
        refine ⟨u1, fun v => ?_, fun v => ?_⟩
        · obtain ⟨v1, v2, v3⟩ := v
          have hc : ¬ ((w : Int) < 0 ∨ (h : Int) ≤ y + 1) := fun k => by rw [if_pos k] at v3; cases v3
          rw [if_neg hc] at v3
          exact u2 ⟨v1, by omega, v3⟩
        · refine u3 fun k => v ⟨k.1, by omega, ?_⟩
          rw [if_neg (by omega)]; exact k.2.2
      · obtain ⟨s1, e1, k⟩ := entry_M (sc := sc) hT hM H hif z (by omega) (by omega)
        have st : Run sc 128 29 [some (Rf 52), none] [] (hp s) = Run sc 128 29 [some (Rf 52), none] [] (hp s1) := by
          rw [B_X7_readChart_29, g20, ite_F (by omega), g19, t1, ite_T (by omega), bck_pos (by omega), Int.toNat_natCast, c1, if_neg z, B_X7_readChart_89, e1, aBind_some, pushR_none, B_X7_readChart_93]
        rcases k with ⟨q, q1, q2, q3⟩ | ⟨v, f2, c, wd2, i2, k1, k2, k3, k4, k5, k6, k7, k8, k9, k10, k11⟩
        · refine ⟨s1, q, 0, x, y, wd, ?_, q3, fun _ => ⟨rfl, q2.symm⟩, fun k => by omega⟩
          rw [st, B_X7_readChart_29, q3.2.2.2.1, ite_T rfl]
        · have hwd2 : wd2 = 0 → x + v ≤ w := fun q => Classical.byContradiction fun q2 => by have := k9 (fun q3 => q2 q3.1); omega
          obtain ⟨s4, p2, gd2, x2, y2, wd3, r1, r2, r3, r4⟩ := ih f2 (by omega) i2 s1 (x + v) y wd2 k1 k6 (by omega) (by omega) hwd2
          refine ⟨s4, p2, gd2, x2, y2, wd3, by rw [st, r1], r2, by rw [k7]; exact r3, fun q => ?_⟩
          rw [k7] at q
          obtain ⟨u1, u2, u3⟩ := r4 q
          refine ⟨u1, fun m => ?_, fun m => ?_⟩
          · obtain ⟨m1, m2, m3⟩ := m
            rw [k10 w h x y (by have := hwd m1; omega)] at m3
            have hc : ¬ ((w : Int) < x + v ∨ (h : Int) ≤ y) := fun k => by rw [if_pos k] at m3; cases m3
            rw [if_neg hc] at m3
            obtain ⟨a1, a2⟩ := k8 (by omega)
            obtain ⟨b1, b2, b3⟩ := u2 ⟨by omega, m2, m3⟩
            exact ⟨b1, b2, by rw [b3, k11, a2]⟩
          · refine u3 fun k => m ?_
            obtain ⟨k01, k02, k03⟩ := k
            have hxv := hwd2 k01
            obtain ⟨a1, a2⟩ := k8 ⟨hxv, k02⟩
            refine ⟨by omega, k02, ?_⟩
            rw [k10 w h x y (by omega), if_neg (by omega)]; exact k03
end MTEXT3
