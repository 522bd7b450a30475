/-! setThread, type, clearText */ -/
section CALLS5
variable {sc : Nat × (Nat → Int)} {iv iv2 : Nat → Nat → Int}
/-- what keeps cells and runs -/
theorem InvW.ch {w h n n2 : Nat} (H : InvW iv w h n) (f : ∀ k, k ≠ 6 → k ≠ 45 → k ≠ 46 → k ≠ 47 → k ≠ 48 → k ≠ 44 → k ≠ 49 → k ≠ 50 → k ≠ 51 → k ≠ 52 → k ≠ 55 → k ≠ 56 → k ≠ 63 → k ≠ 64 → k ≠ 65 → iv2 k = iv k) (e0 : iv2 52 0 = iv 52 0 ∧ iv2 52 1 = iv 52 1) (hL : MLy iv2 iv2) (hy : YarnB iv2 ∧ iv2 52 2 = iv2 6 0 ∧ iv2 52 3 = iv2 6 1) (hb : bitB (iv2 45) ∧ bitB (iv2 46) ∧ ∀ j, j < 625 → iv2 56 j = iv2 45 j ∧ iv2 55 j = iv2 46 j) (ho : BkOut iv2 w h) (ht : TxtB iv2 n2 ∧ MTx (iv2 51) iv2 n2) : InvW iv2 w h n2 := by
  obtain ⟨h1, -, -, -, -, h6⟩ := H
  have g : ∀ k, k < 44 → k ≠ 6 → iv2 k = iv k := fun k hk h6 => f k h6 (by omega) (by omega) (by omega) (by omega) (by omega) (by omega) (by omega) (by omega) (by omega) (by omega) (by omega) (by omega) (by omega) (by omega)
  have g' : ∀ k, 57 ≤ k → k ≤ 62 → iv2 k = iv k := fun k h1 h2 => f k (by omega) (by omega) (by omega) (by omega) (by omega) (by omega) (by omega) (by omega) (by omega) (by omega) (by omega) (by omega) (by omega) (by omega) (by omega)
  have e53 : iv2 53 = iv 53 := f 53 (by omega) (by omega) (by omega) (by omega) (by omega) (by omega) (by omega) (by omega) (by omega) (by omega) (by omega) (by omega) (by omega) (by omega) (by omega)
  have e2 := g 2 (by omega) (by omega)
  have e4 := g 4 (by omega) (by omega)
  have e3 := g 3 (by omega) (by omega)
  obtain ⟨a, b, c, d⟩ := h1
  have dm : DimB iv2 w h := by unfold DimB; rw [e2]; exact a
  refine ⟨⟨dm, by rw [e0.1]; exact b, by rw [e0.2]; exact c, by rw [e53, e4]; exact d⟩, hL, hy, ⟨⟨dm, by rw [e0.1]; exact b, by rw [e0.2]; exact c, hb⟩, ho⟩, ht, fun k hk => ?_⟩
  exact (h6 k hk).cg (by rw [e3]) (fun j _ => by rw [e4]) a.2.2.2.1 a.2.2.2.2.2 (g' 57 (by omega) (by omega)) (g' 58 (by omega) (by omega)) (g' 59 (by omega) (by omega)) (g' 60 (by omega) (by omega)) (g' 61 (by omega) (by omega)) (by rw [g (8 + 6 * k) (by omega) (by omega)]; exact ⟨rfl, rfl⟩) (g _ (by omega) (by omega)) (g _ (by omega) (by omega)) (g _ (by omega) (by omega)) (g _ (by omega) (by omega)) (g _ (by omega) (by omega))
theorem setThread_B {w h n : Nat} {a b : Int} (H : InvW iv w h n) : Both sc 92 150 [some (Rf 1), some (I a), some (I b), none] [some (Rf 52), some (I a), some (I b), none] iv := by
  by_cases ha : 0 ≤ a ∧ a ≤ 1000
  · by_cases hb : 0 ≤ b ∧ b ≤ 200
    · obtain ⟨h1, h2, ⟨hy, y1, y2⟩, ⟨⟨h4, b1, b2, b3, b4, b5⟩, h4'⟩, h5, h6⟩ := id H
      obtain ⟨z1, z2⟩ := hy
      refine ⟨1000 * iv 6 1 + iv 6 0, setO (setO iv 6 (upI (iv 6) 0 a)) 6 (upI ((setO iv 6 (upI (iv 6) 0 a)) 6) 1 b), ?_, w, h, n, ?_, ?_, ?_⟩
      · exact setO (setO (setO (setO iv 6 (upI (iv 6) 0 a)) 6 (upI ((setO iv 6 (upI (iv 6) 0 a)) 6) 1 b)) 52 (upI (iv 52) 2 a)) 52 (upI (upI (iv 52) 2 a) 3 b)
      · rw [B_X6_setThread_0, within_T ha, aBind_some, pushR_some, B_X6_setThread_8, ite_F (by omega), within_T hb, aBind_some, pushR_some, B_X6_setThread_19, ite_F (by omega), B_X6_setThread_25, chk_pos (by omega), chk_pos (by omega), bck_pos (by omega), B_X6_setThread_53, bck_pos (by omega), B_X6_setThread_61]
      · have e52 : (setO (setO iv 6 (upI (iv 6) 0 a)) 6 (upI ((setO iv 6 (upI (iv 6) 0 a)) 6) 1 b)) 52 = iv 52 := by rw [setO_ne (by omega), setO_ne (by omega)]
        rw [B_X7_setThread_0, in_T ha, aBind_some, pushR_some, B_X7_setThread_8, ite_F (by omega), in_T hb, aBind_some, pushR_some, B_X7_setThread_19, ite_F (by omega), B_X7_setThread_25, e52, y1, y2, chk_pos (by omega), chk_pos (by omega), bck_pos (by omega), B_X7_setThread_44, bck_pos (by omega), B_X7_setThread_49, setO_same, setO_same]
      · generalize hs : setO (setO (setO (setO iv 6 (upI (iv 6) 0 a)) 6 (upI ((setO iv 6 (upI (iv 6) 0 a)) 6) 1 b)) 52 (upI (iv 52) 2 a)) 52 (upI (upI (iv 52) 2 a) 3 b) = s
        have k6 : s 6 = upI (upI (iv 6) 0 a) 1 b := by rw [← hs, setO_ne (by omega), setO_ne (by omega), setO_same, setO_same]
        have k52 : s 52 = upI (upI (iv 52) 2 a) 3 b := by rw [← hs, setO_same]
        have kk : ∀ k, k ≠ 6 → k ≠ 52 → s k = iv k := fun k u v => by rw [← hs, setO_ne v, setO_ne v, setO_ne u, setO_ne u]
        have p52 : ∀ f, f ≠ 2 → f ≠ 3 → s 52 f = iv 52 f := fun f u v => by rw [k52, upI_ne v, upI_ne u]
        refine H.ch (fun k u _ _ _ _ _ _ _ _ v _ _ _ _ _ => kk k u v) ⟨p52 0 (by omega) (by omega), p52 1 (by omega) (by omega)⟩ ?_ ⟨?_, ?_, ?_⟩ ?_ ?_ ?_
        · unfold MLy LayB at h2 ⊢
          rw [kk 49 (by omega) (by omega), p52 4 (by omega) (by omega), p52 5 (by omega) (by omega), p52 6 (by omega) (by omega)]; exact h2
        · unfold YarnB; rw [k6, upI_same, upI_ne (by omega), upI_same]; exact ⟨ha, hb⟩
        · rw [k6, k52, upI_ne (by omega), upI_same, upI_ne (by omega), upI_same]
        · rw [k6, k52, upI_same, upI_same]
        · rw [kk 45 (by omega) (by omega), kk 46 (by omega) (by omega), kk 55 (by omega) (by omega), kk 56 (by omega) (by omega)]; exact ⟨b3, b4, b5⟩
        · unfold BkOut at h4' ⊢; rw [kk 45 (by omega) (by omega), kk 46 (by omega) (by omega)]; exact h4'
        · unfold TxtB MTx at h5 ⊢; rw [kk 50 (by omega) (by omega), kk 51 (by omega) (by omega), kk 63 (by omega) (by omega), p52 17 (by omega) (by omega)]; exact h5
    · refine Both.same (a := -2) H ?_ ?_
      · rw [B_X6_setThread_0, within_T ha, aBind_some, pushR_some, B_X6_setThread_8, ite_F (by omega), within_F hb, aBind_some, pushR_some, B_X6_setThread_19, ite_T rfl, B_X6_setThread_22]
      · rw [B_X7_setThread_0, in_T ha, aBind_some, pushR_some, B_X7_setThread_8, ite_F (by omega), in_F hb, aBind_some, pushR_some, B_X7_setThread_19, ite_T rfl, B_X7_setThread_22]
  · refine Both.same (a := -2) H ?_ ?_
    · rw [B_X6_setThread_0, within_F ha, aBind_some, pushR_some, B_X6_setThread_8, ite_T rfl, B_X6_setThread_22]
    · rw [B_X7_setThread_0, in_F ha, aBind_some, pushR_some, B_X7_setThread_8, ite_T rfl, B_X7_setThread_22]
end CALLS5
