/-! reset */ -/
section RESET
variable {sc : Nat × (Nat → Int)} {iv g s : Nat → Nat → Int}
theorem tb_127 {c : Nat} (hc : c ≤ 6) : tb 127 c := by
  have : c = 0 ∨ c = 1 ∨ c = 2 ∨ c = 3 ∨ c = 4 ∨ c = 5 ∨ c = 6 := by omega
  unfold tb
  rcases this with rfl | rfl | rfl | rfl | rfl | rfl | rfl <;> decide
set_option maxHeartbeats 1000000 in
theorem begin_M {w h : Nat} (hD : DimB g w h) (hz : ∀ j, j < 576 → g 4 j = 0) : ∃ iv2, Run sc 110 0 [some (Rf 52), some (I w), some (I h), none] [] (hp iv) = some (none, hp iv2) ∧ (∀ k, k ≠ 52 → k ≠ 53 → k ≠ 55 → k ≠ 56 → (k < 57 ∨ 62 < k) → iv2 k = iv k) ∧ iv2 52 0 = w ∧ iv2 52 1 = h ∧ (∀ f, 2 ≤ f → iv2 52 f = iv 52 f) ∧ (∀ j, j < 576 → iv2 53 j = 0) ∧ (∀ j, j < 625 → iv2 56 j = 0 ∧ iv2 55 j = 0) ∧ ∀ c : Nat, 1 ≤ c → c ≤ 6 → ∃ n : Nat, iv2 57 c = (n : Int) ∧ RunsOK (gN g) c w h n (mX iv2 c) (mY iv2 c) (mL iv2 c) ∧ ∀ p, p < n → mO iv2 c p = foO n (mX iv2 c) (mY iv2 c) p := by
  obtain ⟨d1, d2, d3, d4, d5, d6⟩ := id hD
  rw [B_X7_begin_0, bck_pos (by omega), B_X7_begin_5, bck_pos (by omega), B_X7_begin_10]
  generalize hiv : setO (setO iv 52 (upI (iv 52) 0 (w : Int))) 52 (upI (setO iv 52 (upI (iv 52) 0 (w : Int)) 52) 1 (h : Int)) = iv1
  have k0 : iv1 52 0 = w := by rw [← hiv, setO_same, upI_ne (by omega), setO_same, upI_same]
  have k1 : iv1 52 1 = h := by rw [← hiv, setO_same, upI_same]
  have kf : ∀ f, 2 ≤ f → iv1 52 f = iv 52 f := fun f hf => by rw [← hiv, setO_same, upI_ne (by omega), setO_same, upI_ne (by omega)]
  have kk : ∀ k, k ≠ 52 → iv1 k = iv k := fun k hk => by rw [← hiv, setO_ne hk, setO_ne hk]
  obtain ⟨s, e, h1, h2⟩ := loop_ex (fun i (s : Nat → Nat → Int) => Run sc 110 12 [some (Rf 52), some (I w), some (I h), some (I i)] [] (hp s)) (fun i s => (∀ k, k ≠ 53 → s k = iv1 k) ∧ ∀ j, j < i → s 53 j = 0) 576 0 iv1 (Nat.zero_le _) ⟨fun _ _ => rfl, fun j hj => absurd hj (by omega)⟩ (fun i s _ hi hP => by
    refine ⟨setO s 53 (upI (s 53) i 0), ?_, fun k hk => by rw [setO_ne hk]; exact hP.1 k hk, fun j hj => ?_⟩
    · rw [B_X7_begin_12, ite_T (by omega), bck_pos (by omega), bck_pos (by omega), B_X7_begin_26, chk_pos (by omega)]
      rfl
    · rw [setO_same]
      by_cases ej : j = i
      · rw [ej, upI_same]
      · rw [upI_ne ej]; exact hP.2 j (by omega))
  have e1 : Run sc 110 12 [some (Rf 52), some (I w), some (I h), some (I 0)] [] (hp iv1) = Run sc 110 34 [some (Rf 52), some (I w), some (I h), some (I 0)] [] (hp s) := by
    refine (show _ = _ from e).trans ?_
    show Run sc 110 12 [some (Rf 52), some (I w), some (I h), some (I 576)] [] (hp s) = _
    rw [B_X7_begin_12, ite_F (by omega), B_X7_begin_32]
  rw [e1]
  obtain ⟨s2, e3, g1, g2⟩ := loop_ex (fun i (t : Nat → Nat → Int) => Run sc 110 34 [some (Rf 52), some (I w), some (I h), some (I i)] [] (hp t)) (fun i t => (∀ k, k ≠ 55 → k ≠ 56 → t k = s k) ∧ ∀ j, j < i → t 56 j = 0 ∧ t 55 j = 0) 625 0 s (Nat.zero_le _) ⟨fun _ _ _ => rfl, fun j hj => absurd hj (by omega)⟩ (fun i t _ hi hP => by
    refine ⟨setO (setO t 55 (upI (t 55) i 0)) 56 (upI (setO t 55 (upI (t 55) i 0) 56) i 0), ?_, fun k hk hk2 => by rw [setO_ne hk2, setO_ne hk]; exact hP.1 k hk hk2, fun j hj => ?_⟩
    · rw [B_X7_begin_34, ite_T (by omega), bck_pos (by omega), bck_pos (by omega), B_X7_begin_48, bck_pos (by omega), bck_pos (by omega), B_X7_begin_55, chk_pos (by omega)]
      rfl
    · rw [setO_same, setO_ne (by omega), setO_ne (by omega), setO_same]
      by_cases ej : j = i
      · rw [ej, upI_same, upI_same]; exact ⟨rfl, rfl⟩
      · rw [upI_ne ej, upI_ne ej]; exact hP.2 j (by omega))
  have hM : MGr g s2 w h := ⟨hD, by rw [g1 52 (by omega) (by omega), h1 52 (by omega), k0], by rw [g1 52 (by omega) (by omega), h1 52 (by omega), k1], fun j hj => by rw [g1 53 (by omega) (by omega), h2 j hj, hz j hj]; exact ⟨rfl, by omega, by omega⟩⟩
  obtain ⟨s3, l1, l2, l3⟩ := lay_M (sc := sc) (m := 127) hM (by omega)
  have l1' : Run sc 114 0 [some (Rf 52), some (I 127), none, none, none, none] [] (hp s2) = some (none, hp s3) := l1
  have k3 : ∀ k, (k < 57 ∨ 62 < k) → s3 k = s2 k := fun k hk => l2 k (by omega) (by omega) (by omega) (by omega) (by omega) (by omega)
  refine ⟨s3, ?_, fun k a b c d e => by rw [k3 k e, g1 k c d, h1 k b, kk k a], by rw [k3 52 (by omega), g1 52 (by omega) (by omega), h1 52 (by omega), k0], by rw [k3 52 (by omega), g1 52 (by omega) (by omega), h1 52 (by omega), k1], fun f hf => by rw [k3 52 (by omega), g1 52 (by omega) (by omega), h1 52 (by omega), kf f hf], fun j hj => by rw [k3 53 (by omega), g1 53 (by omega) (by omega)]; exact h2 j hj, fun j hj => by rw [k3 55 (by omega), k3 56 (by omega)]; exact g2 j hj, fun c c1 c6 => ?_⟩
  · refine (show _ = _ from e3).trans ?_
    show Run sc 110 34 [some (Rf 52), some (I w), some (I h), some (I 625)] [] (hp s2) = _
    rw [B_X7_begin_34, ite_F (by omega), B_X7_begin_61, l1', aBind_some, pushR_none, B_X7_begin_67]
  · obtain ⟨n, r1, r2, r3, -⟩ := l3 c c1 c6
    exact ⟨n, r1, r2, r3 (tb_127 c6)⟩
/-- the runs of a color that is touched -/
theorem CrI.new {w h k : Nat} (e1 : s (8 + 6 * k) 2 = (k : Int) + 1) (e2 : s 3 (k + 1) = 1) (hr : ∃ m : Nat, s 57 (k + 1) = (m : Int) ∧ RunsOK (gN s) ((k + 1 : Nat) : Int) w h m (mX s (k + 1)) (mY s (k + 1)) (mL s (k + 1)) ∧ ∀ p, p < m → mO s (k + 1) p = foO m (mX s (k + 1)) (mY s (k + 1)) p) : CrI s w h k := by
  obtain ⟨m, r1, r2, r3⟩ := hr
  exact ⟨e1, Or.inr e2, m, r1, r2, ⟨_, foO_perm.congr r3 (fun _ _ => rfl)⟩, fun z => by omega, fun _ => r3⟩
theorem reset_B {w h n : Nat} {x y : Int} (H : InvW iv w h n) : Both sc 77 111 [some (Rf 1), some (I x), some (I y)] [some (Rf 52), some (I x), some (I y)] iv := by
  by_cases hx : 1 ≤ x ∧ x ≤ 24
  · by_cases hy : 1 ≤ y ∧ y ≤ 24
    · obtain ⟨h1, h2, h3, ⟨⟨h4, b1, b2, b3, b4, b5⟩, h4'⟩, h5, h6⟩ := id H
      obtain ⟨s1, e1, o1, u0, u1, u4, u3⟩ := startAnew_S (sc := sc) (iv := iv) hx hy
      obtain ⟨s2, e2, o2, z2⟩ := remAll_S (sc := sc) (iv := s1)
      obtain ⟨x, rfl⟩ : ∃ j : Nat, x = j := ⟨x.toNat, by omega⟩
      obtain ⟨y, rfl⟩ : ∃ j : Nat, y = j := ⟨y.toNat, by omega⟩
      have hD2 : DimB s2 x y := by unfold DimB; rw [o2 2 (by omega) (by omega)]; exact ⟨u0, u1, by omega, by omega, by omega, by omega⟩
      have z4 : ∀ j, j < 576 → s2 4 j = 0 := fun j hj => by rw [o2 4 (by omega) (by omega)]; exact u4 j hj
      obtain ⟨s3, e3, o3, m0, m1, mf, m53, m56, mr⟩ := begin_M (sc := sc) (iv := s2) hD2 z4
      have hm := mulB (a := (x : Int)) (b := (y : Int)) (m := 24) (n := 24) (by omega) (by omega)
      have k3 : ∀ k, k < 52 → s3 k = s2 k := fun k hk => o3 k (by omega) (by omega) (by omega) (by omega) (by omega)
      have k1 : ∀ k, k < 52 → k ≠ 2 → k ≠ 3 → k ≠ 4 → k ≠ 45 → k ≠ 46 → s3 k = iv k := fun k hk a b c d e => by rw [k3 k hk, o2 k d e, o1 k a b c]
      have e52 : s2 52 = iv 52 := by rw [o2 52 (by omega) (by omega), o1 52 (by omega) (by omega) (by omega)]
      have hD3 : DimB s3 x y := by unfold DimB; rw [k3 2 (by omega)]; exact hD2
      have eg : gN s3 = gN s2 := by funext i j; unfold gN; rw [k3 4 (by omega)]
      have v45 : ∀ j, j < 625 → s3 45 j = 0 ∧ s3 46 j = 0 := fun j hj => by rw [k3 45 (by omega), k3 46 (by omega)]; exact z2 j hj
      refine ⟨(x : Int) * y, s2, s3, x, y, n, ?_, ?_, ⟨hD3, m0, m1, fun j hj => ?_⟩, ?_, ?_, ⟨⟨hD3, m0, m1, fun j hj => ?_, fun j hj => ?_, fun j hj => ?_⟩, fun j hj => ⟨fun _ => (v45 j hj).1, fun _ => (v45 j hj).2⟩⟩, ?_, fun k hk => ?_⟩
      · rw [B_X6_reset_0, within_T hx, aBind_some, pushR_some, B_X6_reset_7, ite_F (by omega), within_T hy, aBind_some, pushR_some, B_X6_reset_17, ite_F (by omega), B_X6_reset_23, e1, aBind_some, pushR_none, B_X6_reset_32, e2, aBind_some, pushR_none, B_X6_reset_39, chk_pos (by omega)]
      · rw [B_X7_reset_0, in_T hx, aBind_some, pushR_some, B_X7_reset_7, ite_F (by omega), in_T hy, aBind_some, pushR_some, B_X7_reset_17, ite_F (by omega), B_X7_reset_23, e3, aBind_some, pushR_none, B_X7_reset_29, chk_pos (by omega)]
      · rw [m53 j hj, k3 4 (by omega), z4 j hj]; exact ⟨rfl, by omega, by omega⟩
      · unfold MLy LayB at h2 ⊢
        rw [k1 49 (by omega) (by omega) (by omega) (by omega) (by omega) (by omega), mf 4 (by omega), mf 5 (by omega), mf 6 (by omega), e52]; exact h2
      · unfold YarnB at h3 ⊢
        rw [k1 6 (by omega) (by omega) (by omega) (by omega) (by omega) (by omega), mf 2 (by omega), mf 3 (by omega), e52]; exact h3
      · rw [(v45 j hj).1]; omega
      · rw [(v45 j hj).2]; omega
      · rw [(m56 j hj).1, (m56 j hj).2, (v45 j hj).1, (v45 j hj).2]; exact ⟨rfl, rfl⟩
      · unfold TxtB MTx at h5 ⊢; rw [k1 50 (by omega) (by omega) (by omega) (by omega) (by omega) (by omega), k1 51 (by omega) (by omega) (by omega) (by omega) (by omega) (by omega), mf 17 (by omega), e52, o3 63 (by omega) (by omega) (by omega) (by omega) (by omega), o2 63 (by omega) (by omega), o1 63 (by omega) (by omega) (by omega)]; exact h5
      · obtain ⟨m, r1, r2, r3⟩ := mr (k + 1) (by omega) (by omega)
        refine CrI.new ?_ ?_ ⟨m, r1, by rw [eg]; exact r2, r3⟩
        · rw [k1 _ (by omega) (by omega) (by omega) (by omega) (by omega) (by omega)]; exact (h6 k hk).1
        · rw [k3 3 (by omega), o2 3 (by omega) (by omega)]; exact u3 (k + 1) (by omega)
    · refine Both.same (a := -2) H ?_ ?_
      · rw [B_X6_reset_0, within_T hx, aBind_some, pushR_some, B_X6_reset_7, ite_F (by omega), within_F hy, aBind_some, pushR_some, B_X6_reset_17, ite_T rfl, B_X6_reset_20]
      · rw [B_X7_reset_0, in_T hx, aBind_some, pushR_some, B_X7_reset_7, ite_F (by omega), in_F hy, aBind_some, pushR_some, B_X7_reset_17, ite_T rfl, B_X7_reset_20]
  · refine Both.same (a := -2) H ?_ ?_
    · rw [B_X6_reset_0, within_F hx, aBind_some, pushR_some, B_X6_reset_7, ite_T rfl, B_X6_reset_20]
    · rw [B_X7_reset_0, in_F hx, aBind_some, pushR_some, B_X7_reset_7, ite_T rfl, B_X7_reset_20]
end RESET
