/-! the law: orders -/
section LORDM
variable {n : Nat} {X Y O : Nat → Int} {r t : Int}
theorem tryM_id {a b : Nat} {s : (Nat → Int) × Int} : s.2 ≤ (tryM n X Y r t a b s).2 ∧ ((tryM n X Y r t a b s).2 = s.2 → tryM n X Y r t a b s = s) := by
  unfold tryM
  by_cases c : b = a
  · rw [if_pos c]; exact ⟨Int.le_refl _, fun _ => rfl⟩
  · rw [if_neg c]
    by_cases c2 : 0 < svF n X Y r t s.1 a b
    · rw [if_pos c2]; exact ⟨by show s.2 ≤ s.2 + 1; omega, fun e => by have e2 : s.2 + 1 = s.2 := e; omega⟩
    · rw [if_neg c2]; exact ⟨Int.le_refl _, fun _ => rfl⟩
theorem rowM_id {a : Nat} {s : (Nat → Int) × Int} : ∀ b, s.2 ≤ (rowM n X Y r t a s b).2 ∧ ((rowM n X Y r t a s b).2 = s.2 → rowM n X Y r t a s b = s) := by
  intro b
  induction b with
  | zero => exact ⟨Int.le_refl _, fun _ => rfl⟩
  | succ b ih =>
    obtain ⟨i1, i2⟩ := ih
    have j := tryM_id (n := n) (X := X) (Y := Y) (r := r) (t := t) (a := a) (b := b) (s := rowM n X Y r t a s b)
    have e : rowM n X Y r t a s (b + 1) = tryM n X Y r t a b (rowM n X Y r t a s b) := rfl
    rw [e]
    refine ⟨by omega, fun z => ?_⟩
    rw [j.2 (by omega)]
    exact i2 (by omega)
theorem pasM_id {s : (Nat → Int) × Int} : ∀ a, s.2 ≤ (pasM n X Y r t s a).2 ∧ ((pasM n X Y r t s a).2 = s.2 → pasM n X Y r t s a = s) := by
  intro a
  induction a with
  | zero => exact ⟨Int.le_refl _, fun _ => rfl⟩
  | succ a ih =>
    obtain ⟨i1, i2⟩ := ih
    have j := rowM_id (n := n) (X := X) (Y := Y) (r := r) (t := t) (a := a) (s := pasM n X Y r t s a) n
    have e : pasM n X Y r t s (a + 1) = rowM n X Y r t a (pasM n X Y r t s a) n := rfl
    rw [e]
    refine ⟨by omega, fun z => ?_⟩
    rw [j.2 (by omega)]
    exact i2 (by omega)
/-- a pass without a move leaves the order -/
theorem it_stop {K : Nat} (hz : mvN n X Y r t O K = 0) : (itM n X Y r t O (K + 1)).1 = (itM n X Y r t O K).1 ∧ (itM n X Y r t O (K + 1)).2 = (itM n X Y r t O K).2 := by
  have e : pasM n X Y r t ((itM n X Y r t O K).1, 0) n = ((itM n X Y r t O K).1, 0) := (pasM_id n).2 hz
  have e1 : (itM n X Y r t O (K + 1)).1 = (pasM n X Y r t ((itM n X Y r t O K).1, 0) n).1 := rfl
  have e2 : (itM n X Y r t O (K + 1)).2 = (itM n X Y r t O K).2 + (pasM n X Y r t ((itM n X Y r t O K).1, 0) n).2 := rfl
  rw [e1, e2, e]
  exact ⟨rfl, Int.add_zero _⟩
theorem it_again {K : Nat} (hz : mvN n X Y r t O K = 0) : mvN n X Y r t (itM n X Y r t O (K + 1)).1 0 = 0 := by
  rw [(it_stop hz).1]
  exact hz
theorem it_zero {K : Nat} (h : OrdN n O) (e : (itM n X Y r t O K).2 = 0) (hj : ∀ j, j < K → mvN n X Y r t O j ≠ 0) : K = 0 := by
  cases K with
  | zero => rfl
  | succ K =>
    have e1 : (itM n X Y r t O (K + 1)).2 = (itM n X Y r t O K).2 + mvN n X Y r t O K := rfl
    have a := (itM_ok (X := X) (Y := Y) (r := r) (t := t) h K).2.1
    have b := mvN_nonneg (X := X) (Y := Y) (r := r) (t := t) h K
    exact absurd (by omega) (hj K (by omega))
end LORDM
section LORD
variable {sc : Nat × (Nat → Int)} {g iv iv2 : Nat → Nat → Int} {O : Nat → Nat → Int} {w h n : Nat} {cs : List (Nat × Nat)} {c G : Int}
theorem FrX.zr (f : FrX iv iv2) (z : Zr cs iv) : Zr cs iv2 := fun k hk j => by rw [f k (by omega) (by omega) (by omega) (by omega) (by omega)]; exact z k hk j
theorem count3_S {k : Nat} (H : InvC iv O w h n) (hk : k < 6) (hc : c = (k : Int) + 1) : ∃ iv2, Run sc 84 0 [some (Rf 1), some (I c), some (I 3), none, none] [] (hp iv) = some (some (I (thK iv w h k (O k))), hp iv2) ∧ InvC iv2 O w h n ∧ FrX iv iv2 := by
  subst hc
  obtain ⟨iv2, e, r⟩ := count_S (sc := sc) (c := (k : Int) + 1) (what := 3) H (by omega) (by omega)
  rw [selT_1 hk] at e
  have e3 : cvC iv O w h 3 k = thK iv w h k (O k) := by
    unfold cvC
    rw [if_neg (by omega), if_neg (by omega), if_neg (by omega), if_pos rfl]
    rfl
  rw [e3] at e
  exact ⟨iv2, e, r⟩
theorem itK_fr {k i : Nat} {Q : Nat → Int} (f : FrX iv iv2) : itK iv2 w h k Q i = itK iv w h k Q i := by
  unfold itK; rw [f.gn, f.e (j := 6) (by omega)]
theorem mvK_fr {k i : Nat} {Q : Nat → Int} (f : FrX iv iv2) : mvK iv2 w h k Q i = mvK iv w h k Q i := by
  unfold mvK; rw [f.gn, f.e (j := 6) (by omega)]
theorem foK_fr {k : Nat} (f : FrX iv iv2) : foK iv2 w h k = foK iv w h k := by
  unfold foK; rw [f.gn]
set_option maxHeartbeats 4000000 in
theorem lorders_L {k : Nat} (H : InvC iv O w h n) (hZ : Zr cs iv) (hk : k < 6) (hc : c = (k : Int) + 1) : ∃ iv2 O2, Run sc 120 0 [some (Rf 1), some (I c), some (I G), none, none, none, none, none, none, none] [] (hq cs iv) = some (some (I 1), hq cs iv2) ∧ InvC iv2 O2 w h n ∧ Zr cs iv2 ∧ iv2 6 = iv 6 := by
  obtain ⟨v1, e1, H1, f1, -⟩ := look_S (sc := sc) H hk hc
  have bn := (H.bnd hk).1.1
  rw [B_L_orders_0, Run_ex e1, aBind_some, pushR_some, B_L_orders_6]
  by_cases hn : nK (gN iv) w h k = 0
  · have n1 : nK (gN v1) w h k = 0 := by rw [f1.gn]; exact hn
    obtain ⟨v2, e2, H2, f2⟩ := moveRun_no (sc := sc) (a := 0) (b := 0) H1 hk hc (by omega)
    have g2 := f1.tr f2
    obtain ⟨v3, K, e3, H3, f3, k1, k2⟩ := shorten_S (sc := sc) H2 hk hc
    have g3 := g2.tr f3
    have K0 : K = 0 := Classical.byContradiction fun z => k2 0 (by omega) (by unfold mvK mvN; rw [g2.gn, hn]; rfl)
    subst K0
    have e3' : (itK v2 w h k (O k) 0).2 = 0 := rfl
    rw [e3'] at e3
    obtain ⟨v4, e4, H4, f4⟩ := firstOrder_S (sc := sc) H3 hk hc
    have e4' : thK v3 w h k (foK v3 w h k) = 0 := by
      unfold thK thrF
      rw [g3.gn, hn]
      rfl
    rw [e4'] at e4
    have g4 := g3.tr f4
    refine ⟨v4, _, ?_, H4, g4.zr hZ, g4.e (by omega)⟩
    rw [if_pos (by omega), Run_ex e2, aBind_some, pushR_some, B_L_orders_18, if_pos rfl, Run_ex e3, aBind_some, pushR_some, B_L_orders_28, if_pos rfl, Run_ex e4, aBind_some, pushR_some, B_L_orders_36, if_pos rfl, B_L_orders_44, bck_pos (by omega)]
  obtain ⟨a, ha⟩ : ∃ a : Nat, lowF G (nK (gN iv) w h k) = a := ⟨(lowF G (nK (gN iv) w h k)).toNat, by have := lowF_b (v := G) (m := nK (gN iv) w h k) (by omega); omega⟩
  obtain ⟨b, hb⟩ : ∃ b : Nat, lowF (G / 64) (nK (gN iv) w h k) = b := ⟨(lowF (G / 64) (nK (gN iv) w h k)).toNat, by have := lowF_b (v := G / 64) (m := nK (gN iv) w h k) (by omega); omega⟩
  have ha2 := lowF_b (v := G) (m := nK (gN iv) w h k) (by omega)
  have hb2 := lowF_b (v := G / 64) (m := nK (gN iv) w h k) (by omega)
  rw [if_neg (by omega), B_L_orders_45, low_L (by omega), aBind_some, pushR_some, B_L_orders_50, low_L (by omega), aBind_some, pushR_some, B_L_orders_60]
  rw [ha] at ha2 ⊢
  rw [hb] at hb2 ⊢
  obtain ⟨v2, e2, H2, f2⟩ := runAt_S (sc := sc) (p := (a : Int)) H1 hk hc
  have g2 := f1.tr f2
  have ra : ratF v1 O w h k a = O k a := by
    unfold ratF
    rw [if_neg (by omega), f1.gn, if_pos (by omega), Int.toNat_natCast]
  rw [ra] at e2
  obtain ⟨v3, e3, H3, f3⟩ := moveRun_S (sc := sc) (a := a) (b := b) H2 hk hc (by rw [g2.gn]; omega) (by rw [g2.gn]; omega)
  have g3 := g2.tr f3
  rw [thK_fr g2] at e3
  obtain ⟨v4, e4, H4, f4⟩ := count3_S (sc := sc) H3 hk hc
  have g4 := g3.tr f4
  rw [thK_fr g3, setQ_same] at e4
  obtain ⟨v5, e5, H5, f5⟩ := runAt_S (sc := sc) (p := (b : Int)) H4 hk hc
  have g5 := g4.tr f5
  have rb : ratF v4 (setQ O k (mvO (O k) a b)) w h k b = O k a := by
    unfold ratF
    rw [if_neg (by omega), g4.gn, if_pos (by omega), Int.toNat_natCast, setQ_same]
    exact if_pos rfl
  rw [rb] at e5
  obtain ⟨v6, e6, H6, f6⟩ := moveRun_no (sc := sc) (a := nK (gN iv) w h k) (b := 0) H5 hk hc (by rw [g5.gn]; omega)
  have g6 := g5.tr f6
  have hO := (H6.bnd hk).2.1
  rw [setQ_same, g6.gn] at hO
  rw [Run_ex e2, aBind_some, pushR_some, B_L_orders_69, Run_ex e3, aBind_some, pushR_some, B_L_orders_80, Run_ex e4, aBind_some, pushR_some, B_L_orders_90, if_pos rfl, Run_ex e5, aBind_some, pushR_some, B_L_orders_100, if_pos rfl, Run_ex e6, aBind_some, pushR_some, B_L_orders_112, if_pos rfl, Run_ex (moveRun_bad (by omega)), aBind_some, pushR_some, B_L_orders_124, if_pos rfl, B_L_orders_131]
  by_cases mode : (G / 4096) % (1 + 1) = 0
  · obtain ⟨v7, K, e7, H7, f7, k1, k2⟩ := shorten_S (sc := sc) H6 hk hc
    have g7 := g6.tr f7
    rw [setQ_same] at e7 k1 H7
    rw [setQ_same] at k2
    rw [itK_fr g6] at e7 H7
    rw [mvK_fr g6] at k1
    have k2' : ∀ j, j < K → mvK iv w h k (mvO (O k) a b) j ≠ 0 := fun j hj => by rw [← mvK_fr g6]; exact k2 j hj
    obtain ⟨v8, e8, H8, f8⟩ := count3_S (sc := sc) H7 hk hc
    have g8 := g7.tr f8
    rw [thK_fr g7, setQ_same] at e8
    obtain ⟨v9, K2, e9, H9, f9, k3, k4⟩ := shorten_S (sc := sc) H8 hk hc
    have g9 := g8.tr f9
    rw [setQ_same] at e9 k4
    have K20 : K2 = 0 := Classical.byContradiction fun z => k4 0 (by omega) (by
      rw [mvK_fr g8]
      exact it_again (n := nK (gN iv) w h k) (X := xK (gN iv) w h k) (Y := yK (gN iv) w h k) (r := iv 6 0) (t := iv 6 1) (O := mvO (O k) a b) k1)
    subst K20
    have e9' : (itK v8 w h k (itK iv w h k (mvO (O k) a b) (K + 1)).1 0).2 = 0 := rfl
    rw [e9'] at e9
    have ok := itM_ok (n := nK (gN iv) w h k) (X := xK (gN iv) w h k) (Y := yK (gN iv) w h k) (r := iv 6 0) (t := iv 6 1) (O := mvO (O k) a b) hO (K + 1)
    have st := it_stop (n := nK (gN iv) w h k) (X := xK (gN iv) w h k) (Y := yK (gN iv) w h k) (r := iv 6 0) (t := iv 6 1) (O := mvO (O k) a b) (K := K) k1
    have m1 : (itK iv w h k (mvO (O k) a b) (K + 1)).2 = (itK iv w h k (mvO (O k) a b) K).2 := st.2
    have t0 : ∀ Q : Nat → Int, thK iv w h k Q = (if nK (gN iv) w h k = 0 then 0 else 2 * iv 6 1) + 48 * sumN (lK (gN iv) w h k) (nK (gN iv) w h k) + sumN (cpF (xK (gN iv) w h k) (yK (gN iv) w h k) (iv 6 0) (iv 6 1) Q) (nK (gN iv) w h k) := fun Q => thr_split
    have ok3 : sumN (cpF (xK (gN iv) w h k) (yK (gN iv) w h k) (iv 6 0) (iv 6 1) (itK iv w h k (mvO (O k) a b) (K + 1)).1) (nK (gN iv) w h k) + (itK iv w h k (mvO (O k) a b) (K + 1)).2 ≤ sumN (cpF (xK (gN iv) w h k) (yK (gN iv) w h k) (iv 6 0) (iv 6 1) (mvO (O k) a b)) (nK (gN iv) w h k) := ok.2.2
    have ok2 : 0 ≤ (itK iv w h k (mvO (O k) a b) (K + 1)).2 := ok.2.1
    have tA := t0 (itK iv w h k (mvO (O k) a b) (K + 1)).1
    have tB := t0 (mvO (O k) a b)
    have zer : (itK iv w h k (mvO (O k) a b) K).2 = 0 → thK iv w h k (itK iv w h k (mvO (O k) a b) (K + 1)).1 = thK iv w h k (mvO (O k) a b) := fun z => by
      have K0 := it_zero hO z k2'
      subst K0
      have : (itK iv w h k (mvO (O k) a b) (0 + 1)).1 = mvO (O k) a b := st.1
      rw [this]
    refine ⟨v9, _, ?_, H9, g9.zr hZ, g9.e (by omega)⟩
    rw [if_pos mode, Run_ex e7, aBind_some, pushR_some, B_L_orders_145, Run_ex e8, aBind_some, pushR_some, B_L_orders_153]
    have fin : ∀ x8 x9 : Int, Run sc 120 177 [some (Rf 1), some (I c), some (I G), some (I (nK (gN iv) w h k : Int)), some (I (a : Int)), some (I (b : Int)), some (I (O k a)), some (I (thK iv w h k (mvO (O k) a b))), some (I x8), some (I x9)] [] (hq cs v8) = some (some (I 1), hq cs v9) := fun x8 x9 => by
      rw [B_L_orders_177, Run_ex e9, aBind_some, pushR_some, B_L_orders_182, if_pos rfl, B_L_orders_190, bck_pos (by omega)]
    by_cases z : (itK iv w h k (mvO (O k) a b) K).2 = 0
    · rw [if_pos z, if_pos (zer z), fin]
    · rw [if_neg z, B_L_orders_170, if_pos (by omega), fin]
  · obtain ⟨v7, e7, H7, f7⟩ := firstOrder_S (sc := sc) H6 hk hc
    have g7 := g6.tr f7
    rw [thK_fr g6, foK_fr g6] at e7
    rw [foK_fr g6] at H7
    obtain ⟨v8, e8, H8, f8⟩ := count3_S (sc := sc) H7 hk hc
    have g8 := g7.tr f8
    rw [thK_fr g7, setQ_same] at e8
    have C8 : Cur v8 _ w h n cs v8 := Cur.rf H8 (g8.zr hZ)
    obtain ⟨v9, e9, C9, h9⟩ := nearest_L (sc := sc) C8 hk hc (fun p hpp => by rw [foK_fr g8, setQ_same])
    refine ⟨v9, _, ?_, C9.2.1, C9.2.2.2, (C9.e (j := 6) (by omega)).trans (g8.e (by omega))⟩
    rw [if_neg mode, B_L_orders_191, Run_ex e7, aBind_some, pushR_some, B_L_orders_196, Run_ex e8, aBind_some, pushR_some, B_L_orders_202, if_pos rfl, e9, aBind_some, pushR_some, B_L_orders_210, if_neg (by omega), Run_ex (firstOrder_bad (by omega)), aBind_some, pushR_some, B_L_orders_218, if_pos rfl, Run_ex (shorten_bad (by omega)), aBind_some, pushR_some, B_L_orders_229, if_pos rfl, B_L_orders_239, bck_pos (by omega)]
end LORD
