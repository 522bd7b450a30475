/-! merge, the model */ -/
section MERGE2
variable {sc : Nat × (Nat → Int)} {iv s t s1 : Nat → Nat → Int} {w h : Nat}
/-- the model after rounds, from s1 on -/
def mMI (iv s1 : Nat → Nat → Int) (w h i : Nat) (t : Nat → Nat → Int) : Prop := (∀ k, k ≠ 52 → k ≠ 53 → k ≠ 54 → t k = s1 k) ∧ (∀ f, f ≠ 24 → t 52 f = iv 52 f) ∧ (∀ j, j < 576 → t 53 j = mgA iv w h i j) ∧ ∃ m : Nat, t 52 24 = (m : Int) ∧ m < 128 ∧ ∀ c, tb m c ↔ mgD iv w h i c
theorem mMI.gr {i : Nat} (hM : MGr iv iv w h) (H : mMI iv s1 w h i t) : MGr (setO iv 4 (mgA iv w h i)) t w h := by
  obtain ⟨h1, a1, a2, a3⟩ := id hM
  obtain ⟨q1, q2, q3, q4⟩ := H
  refine ⟨?_, by rw [q2 0 (by omega)]; exact a1, by rw [q2 1 (by omega)]; exact a2, fun j hj => ?_⟩
  · unfold DimB; rw [setO_ne (by omega)]; exact h1
  · rw [setO_same, q3 j hj]; exact ⟨rfl, mgA_b hM i j hj⟩
set_option maxHeartbeats 1000000 in
/-- the new colors of a round -/
theorem mnew_M {g : Nat → Nat → Int} {x1 x2 x3 x4 : Int} {d5 d6 : Option AV} {A : Nat → Int} (hM : MGr g t w h) (hA : ∀ j, j < 576 → t 54 j = A j) : ∃ t2 e5 e6, Run sc 138 39 [some (Rf 52), some (I x1), some (I x2), some (I x3), some (I x4), d5, d6] [] (hp t) = Run sc 138 118 [some (Rf 52), some (I x1), some (I x2), some (I x3), some (I x4), some (I e5), e6] [] (hp t2) ∧ (∀ k, k ≠ 54 → t2 k = t k) ∧ ∀ j, j < 576 → t2 54 j = if j % 24 < w ∧ j / 24 < h then mrgC g ((j % 24 : Nat) : Int) ((j / 24 : Nat) : Int) else A j := by
  obtain ⟨⟨b1, b2, b3, b4, b5, b6⟩, a1, a2, a3⟩ := id hM
  have hMs : ∀ u : Nat → Nat → Int, (∀ k, k ≠ 54 → u k = t k) → MGr g u w h := fun u hu => ⟨hM.1, by rw [hu 52 (by omega)]; exact a1, by rw [hu 52 (by omega)]; exact a2, fun j hj => by rw [hu 53 (by omega)]; exact a3 j hj⟩
  rw [B_X7_merge_39]
  obtain ⟨s, e, g1, g2⟩ := loop_ex (fun i (s : Option AV × (Nat → Nat → Int)) => Run sc 138 42 [some (Rf 52), some (I x1), some (I x2), some (I x3), some (I x4), some (I i), s.1] [] (hp s.2)) (fun i s => (∀ k, k ≠ 54 → s.2 k = t k) ∧ ∀ j, j < 576 → s.2 54 j = if j % 24 < i ∧ j / 24 < h then mrgC g ((j % 24 : Nat) : Int) ((j / 24 : Nat) : Int) else A j) w 0 (d6, t) (Nat.zero_le _) ⟨fun _ _ => rfl, fun j hj => by rw [if_neg (by omega)]; exact hA j hj⟩ (fun i s _ hi hP => by
    obtain ⟨d, s⟩ := s
    obtain ⟨p1, p2⟩ := hP
    dsimp only at p1 p2
    obtain ⟨s2, e2, q1, q2⟩ := loop_ex (fun i2 (u : Nat → Nat → Int) => Run sc 138 54 [some (Rf 52), some (I x1), some (I x2), some (I x3), some (I x4), some (I i), some (I i2)] [] (hp u)) (fun i2 u => (∀ k, k ≠ 54 → u k = t k) ∧ ∀ j, j < 576 → u 54 j = if (j % 24 < i ∧ j / 24 < h) ∨ (j % 24 = i ∧ j / 24 < i2) then mrgC g ((j % 24 : Nat) : Int) ((j / 24 : Nat) : Int) else A j) h 0 s (Nat.zero_le _) ⟨p1, fun j hj => by
      rw [p2 j hj]
      by_cases z : j % 24 < i ∧ j / 24 < h
      · rw [if_pos z, if_pos (by omega)]
      · rw [if_neg z, if_neg (by omega)]⟩ (fun i2 u _ hi2 hQ => by
      have hMu := hMs u hQ.1
      have hin : inC g i i2 := by unfold inC; omega
      have ej : (24 * (i2 : Int) + i).toNat = i2 * 24 + i := by omega
      have hb := mrgC_b (iv := g) (x := i) (y := i2) b1 b4 b2 b6 (fun j hj => (a3 j hj).2)
      have core : Run sc 138 54 [some (Rf 52), some (I x1), some (I x2), some (I x3), some (I x4), some (I i), some (I i2)] [] (hp u) = Run sc 138 105 [some (Rf 52), some (I x1), some (I x2), some (I x3), some (I x4), some (I i), some (I i2)] [I (mrgC g i i2), I (24 * i2 + i), Rf 54] (hp u) := by
        rw [B_X7_merge_54, hMu.2.2.1, ite_T (by omega), chk_pos (by omega), chk_pos (by omega), sta_M hMu (by omega) (by omega), aBind_some, pushR_some, B_X7_merge_83]
        unfold mrgC
        by_cases z : lonI g i i2 = 0
        · rw [if_pos z, if_pos z, B_X7_merge_97, at_M hMu, aBind_some, pushR_some, aM_in hin]
        · rw [if_neg z, if_neg z, mer_M hMu hin (by omega) (by omega), aBind_some, pushR_some, B_X7_merge_94]
      refine ⟨setO u 54 (upI (u 54) (i2 * 24 + i) (mrgC g i i2)), ?_, fun k hk => by rw [setO_ne hk]; exact hQ.1 k hk, fun j hj => ?_⟩
      · rw [core, B_X7_merge_105, bck_pos (by omega), bck_pos (by omega), ej, B_X7_merge_106, chk_pos (by omega)]
      · rw [setO_same]
        by_cases z : j = i2 * 24 + i
        · rw [z, upI_same, if_pos (by omega), show (i2 * 24 + i) % 24 = i by omega, show (i2 * 24 + i) / 24 = i2 by omega]
        · rw [upI_ne z, hQ.2 j hj]
          by_cases z2 : (j % 24 < i ∧ j / 24 < h) ∨ (j % 24 = i ∧ j / 24 < i2)
          · rw [if_pos z2, if_pos (by omega)]
          · rw [if_neg z2, if_neg (by omega)])
    refine ⟨(some (I h), s2), ?_, q1, fun j hj => ?_⟩
    · dsimp only
      have e0 : Run sc 138 42 [some (Rf 52), some (I x1), some (I x2), some (I x3), some (I x4), some (I i), d] [] (hp s) = Run sc 138 54 [some (Rf 52), some (I x1), some (I x2), some (I x3), some (I x4), some (I i), some (I (0 : Nat))] [] (hp s) := by
        rw [B_X7_merge_42, p1 52 (by omega), a1, ite_T (by omega)]
        rfl
      rw [e0]
      refine (show _ = _ from e2).trans ?_
      rw [B_X7_merge_54, q1 52 (by omega), a2, ite_F (by omega), B_X7_merge_112, chk_pos (by omega)]
    · dsimp only
      rw [q2 j hj]
      by_cases z : (j % 24 < i ∧ j / 24 < h) ∨ (j % 24 = i ∧ j / 24 < h)
      · rw [if_pos z, if_pos (by omega)]
      · rw [if_neg z, if_neg (by omega)])
  obtain ⟨d, s⟩ := s
  dsimp only at g1 g2
  refine ⟨s, w, d, (show _ = _ from e).trans ?_, g1, g2⟩
  dsimp only
  rw [B_X7_merge_42, g1 52 (by omega), a1, ite_F (by omega)]
theorem mst_M {i : Nat} {n x2 x3 : Int} {d5 d6 : Option AV} (hM : MGr iv iv w h) (H : mMI iv s1 w h i t) (hi : (i : Int) < n) (hi2 : i ≤ 20) (h3 : 0 < x3) (ha : 0 ≤ x2 ∧ x2 ≤ 20000) : ∃ t2 e5 e6, Run sc 138 25 [some (Rf 52), some (I n), some (I x2), some (I x3), some (I i), d5, d6] [] (hp t) = Run sc 138 25 [some (Rf 52), some (I n), some (I (x2 + mgR iv w h i)), some (I (mgR iv w h i)), some (I ((i : Int) + 1)), e5, e6] [] (hp t2) ∧ mMI iv s1 w h (i + 1) t2 := by
  have hg := H.gr hM
  obtain ⟨p1, p2, p3, m, p4, p5, p6⟩ := H
  obtain ⟨t1, q1, q2, q3⟩ := tak_M (sc := sc) hg
  have hg1 : MGr (setO iv 4 (mgA iv w h i)) t1 w h := by
    obtain ⟨b1, b2, b3, b4⟩ := hg
    exact ⟨b1, by rw [q2 52 (by omega)]; exact b2, by rw [q2 52 (by omega)]; exact b3, fun j hj => by rw [q2 53 (by omega)]; exact b4 j hj⟩
  obtain ⟨t2, e5, e6, r1, r2, r3⟩ := mnew_M (sc := sc) (x1 := n) (x2 := x2) (x3 := x3) (x4 := i) (d5 := d5) (d6 := d6) (A := mgA iv w h i) hg1 (fun j hj => by rw [q3 j hj, setO_same])
  have kk : ∀ k, k ≠ 54 → t2 k = t k := fun k hk => by rw [r2 k hk, q2 k hk]
  obtain ⟨t3, m', c1, c2, c3, c4, c5, c6, c7⟩ := chg_M (sc := sc) (iv := t2) (m := m) (N := mgA iv w h (i + 1)) (O := mgA iv w h i) (by rw [kk 52 (by omega)]; exact p4) p5 (fun j hj => ⟨r3 j hj, mgA_b hM (i + 1) j hj⟩) (fun j hj => ⟨by rw [kk 53 (by omega)]; exact p3 j hj, mgA_b hM i j hj⟩)
  have c1' : Run sc 127 0 [some (Rf 52), none, none] [] (hp t2) = some (some (I (mgR iv w h i)), hp t3) := c1
  have hb := mgR_b (iv := iv) (w := w) (h := h) (i := i)
  refine ⟨t3, some (I e5), e6, ?_, fun k a b c => by rw [c2 k a b, kk k c, p1 k a b c], fun f hf => by rw [c3 f hf, kk 52 (by omega), p2 f hf], c6, m', c4, c5, fun c => ?_⟩
  · rw [B_X7_merge_25, ite_T hi, ite_T h3, q1, aBind_some, pushR_none, r1, B_X7_merge_118, c1', aBind_some, pushR_some, B_X7_merge_122, chk_pos (by omega), chk_pos (by omega)]
  · rw [c7 c, p6 c, mgD_s]
    rfl
theorem mgM_all {n K : Nat} {d5 d6 : Option AV} (hM : MGr iv iv w h) (H : mMI iv s1 w h 0 t) (hn : n ≤ 20) (hn1 : 1 ≤ n) (hK : K ≤ n) (h1 : ∀ j, j < K → mgR iv w h j ≠ 0) (h2 : K = n ∨ mgR iv w h K = 0) : ∃ t2 e3 e4 e5 e6, Run sc 138 25 [some (Rf 52), some (I n), some (I 0), some (I 1), some (I 0), d5, d6] [] (hp t) = Run sc 138 133 [some (Rf 52), some (I n), some (I (sumN (mgR iv w h) K)), some (I e3), some (I e4), e5, e6] [] (hp t2) ∧ mMI iv s1 w h (mgE K n) t2 := by
  obtain ⟨s, e, g1, g2, g3, g4⟩ := loop_ex (fun i (s : Int × Int × Option AV × Option AV × (Nat → Nat → Int)) => Run sc 138 25 [some (Rf 52), some (I n), some (I s.1), some (I s.2.1), some (I i), s.2.2.1, s.2.2.2.1] [] (hp s.2.2.2.2)) (fun i s => s.1 = sumN (mgR iv w h) i ∧ (0 ≤ s.1 ∧ s.1 ≤ 576 * i) ∧ 0 < s.2.1 ∧ mMI iv s1 w h i s.2.2.2.2) K 0 (0, 1, d5, d6, t) (Nat.zero_le _) ⟨rfl, by simp, by simp, H⟩ (fun i s _ hi hP => by
    obtain ⟨a, x3, b5, b6, s⟩ := s
    obtain ⟨p1, p2, p3, p4⟩ := hP
    dsimp only at p1 p2 p3 p4
    obtain ⟨t2, e5, e6, e2, q2⟩ := mst_M (sc := sc) (n := n) (x2 := a) (x3 := x3) (d5 := b5) (d6 := b6) hM p4 (by omega) (by omega) p3 (by omega)
    have hb := mgR_b (iv := iv) (w := w) (h := h) (i := i)
    have hz := h1 i hi
    exact ⟨(a + mgR iv w h i, mgR iv w h i, e5, e6, t2), e2, by show _ = sumN (mgR iv w h) i + mgR iv w h i; rw [← p1], by show 0 ≤ a + _ ∧ a + _ ≤ 576 * ((i + 1 : Nat) : Int); omega, by show 0 < mgR iv w h i; omega, q2⟩)
  obtain ⟨a, x3, b5, b6, s⟩ := s
  dsimp only at g1 g2 g3 g4
  by_cases z : K = n
  · refine ⟨s, x3, K, b5, b6, (show _ = _ from e).trans ?_, by unfold mgE; rw [if_pos z]; exact g4⟩
    dsimp only
    rw [B_X7_merge_25, ite_F (by omega), g1]
  · have hz : mgR iv w h K = 0 := h2.resolve_left z
    obtain ⟨t2, e5, e6, e2, q2⟩ := mst_M (sc := sc) (n := n) (x2 := a) (x3 := x3) (d5 := b5) (d6 := b6) hM g4 (by omega) (by omega) g3 (by omega)
    refine ⟨t2, 0, (K : Int) + 1, e5, e6, (show _ = _ from e).trans ?_, by unfold mgE; rw [if_neg z]; exact q2⟩
    dsimp only
    rw [e2, hz, B_X7_merge_25, Int.add_zero, g1]
    by_cases y : (K : Int) + 1 < n
    · rw [if_pos y, if_neg (by omega)]
    · rw [if_neg y]
theorem merge_B {n : Nat} {r : Int} (H : InvW iv w h n) : Both sc 86 138 [some (Rf 1), some (I r), none, none, none] [some (Rf 52), some (I r), none, none, none, none, none] iv := by
  obtain ⟨hM, -⟩ := id H
  obtain ⟨hD, a1, a2, a3⟩ := id hM
  by_cases hr : 1 ≤ r ∧ r ≤ 20
  · obtain ⟨R, rfl⟩ : ∃ j : Nat, r = j := ⟨r.toNat, by omega⟩
    obtain ⟨K, k1, k2, k3⟩ := mg_end (iv := iv) (w := w) (h := h) R
    obtain ⟨s1, e1, hC⟩ := mgC_all (sc := sc) hM (by omega) k1 k2 k3 none
    obtain ⟨c1, c2, c3, c4⟩ := id hC
    obtain ⟨t0, ht⟩ : ∃ t0, setO s1 52 (upI (s1 52) 24 0) = t0 := ⟨_, rfl⟩
    have o1 : ∀ k, k ≠ 52 → t0 k = s1 k := fun k hk => by rw [← ht, setO_ne hk]
    have hM0 : mMI iv s1 w h 0 t0 := by
      refine ⟨fun k a _ _ => o1 k a, fun f hf => by rw [← ht, setO_same, upI_ne hf, c1 52 (by omega) (by omega) (by omega)], fun j hj => by rw [o1 53 (by omega), c1 53 (by omega) (by omega) (by omega)]; exact (a3 j hj).1, 0, by rw [← ht, setO_same, upI_same]; rfl, by omega, fun c => ⟨fun z => absurd z tb_z, fun ⟨i, hi, _⟩ => absurd hi (Nat.not_lt_zero _)⟩⟩
    obtain ⟨t, e3, e4, e5, e6, e2, hT⟩ := mgM_all (sc := sc) (d5 := none) (d6 := none) hM hM0 (by omega) (by omega) k1 k2 k3
    obtain ⟨u1, u2, u3, m, u4, u5, u6⟩ := id hT
    generalize mgE K R = E at *
    have hD1 : DimB s1 w h := by unfold DimB; rw [c1 2 (by omega) (by omega) (by omega)]; exact hD
    have hb := mgA_b hM E
    have hM1 : MGr s1 t w h := ⟨hD1, by rw [u2 0 (by omega)]; exact a1, by rw [u2 1 (by omega)]; exact a2, fun j hj => by rw [c2, u3 j hj]; exact ⟨rfl, hb j hj⟩⟩
    obtain ⟨s3, l1, l2, l3⟩ := lay_M (sc := sc) hM1 u5
    rw [← u4] at l1
    have kk : ∀ k, k ≠ 52 → k ≠ 53 → k ≠ 54 → (k < 57 ∨ 62 < k) → s3 k = s1 k := fun k a b c d => by rw [l2 k (by omega) (by omega) (by omega) (by omega) (by omega) (by omega), u1 k a b c]
    have kv : ∀ k, k ≠ 3 → k ≠ 4 → k ≠ 5 → k ≠ 52 → k ≠ 53 → k ≠ 54 → (k < 57 ∨ 62 < k) → s3 k = iv k := fun k x y z a b c d => by rw [kk k a b c d, c1 k x y z]
    have e34 : s3 4 = mgA iv w h E := by rw [kk 4 (by omega) (by omega) (by omega) (by omega), c2]
    have e33 : s3 3 = s1 3 := kk 3 (by omega) (by omega) (by omega) (by omega)
    have eg : gN s3 = gN s1 := by funext x y; unfold gN; rw [e34, c2]
    refine ⟨sumN (mgR iv w h) K, s1, s3, w, h, n, ?_, ?_, ?_⟩
    · rw [B_X6_merge_0, within_T hr, aBind_some, pushR_some, B_X6_merge_7, ite_F (by omega), B_X6_merge_13, e1]
    · rw [B_X7_merge_0, in_T hr, aBind_some, pushR_some, B_X7_merge_7, ite_F (by omega), B_X7_merge_13, bck_pos (by omega), ht, B_X7_merge_18, e2, B_X7_merge_133, l1, aBind_some, pushR_none, B_X7_merge_141]
    · refine H.chg (D := mgD iv w h E) (fun k a b c d => kv k b c d (by omega) (by omega) (by omega) (by omega)) (by rw [kv 50 (by omega) (by omega) (by omega) (by omega) (by omega) (by omega) (by omega)]) (kv 51 (by omega) (by omega) (by omega) (by omega) (by omega) (by omega) (by omega)) (fun f hf => by rw [l2 52 (by omega) (by omega) (by omega) (by omega) (by omega) (by omega), u2 f (by omega)]) (kv 55 (by omega) (by omega) (by omega) (by omega) (by omega) (by omega) (by omega)) (kv 56 (by omega) (by omega) (by omega) (by omega) (by omega) (by omega) (by omega)) (kv 63 (by omega) (by omega) (by omega) (by omega) (by omega) (by omega) (by omega)) (fun c hc => by rw [e33]; exact c3 c hc) (fun c hc => by rw [e33]; exact c4 c hc) (fun j hj => by rw [e34, l2 53 (by omega) (by omega) (by omega) (by omega) (by omega) (by omega), u3 j hj]; exact ⟨rfl, hb j hj⟩) (fun c hc j hj => by rw [e34]; exact mgD_keep E hc j hj) (fun c g1 g6 => ?_)
      obtain ⟨m2, r1, r2, r3, r4⟩ := l3 c g1 g6
      refine ⟨m2, r1, by rw [eg]; exact r2, fun z => r3 ((u6 c).mpr z), fun z p hpp => ?_⟩
      rw [r4 (fun y => z ((u6 c).mp y)) p hpp]
      unfold mO
      rw [u1 61 (by omega) (by omega) (by omega), c1 61 (by omega) (by omega) (by omega)]
  · refine Both.same (a := -2) H ?_ ?_
    · rw [B_X6_merge_0, within_F hr, aBind_some, pushR_some, B_X6_merge_7, ite_T rfl]
    · rw [B_X7_merge_0, in_F hr, aBind_some, pushR_some, B_X7_merge_7, ite_T rfl]
end MERGE2
