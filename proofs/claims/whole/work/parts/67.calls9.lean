/-! setPages -/
section CALLS9
variable {sc : Nat × (Nat → Int)} {iv iv2 : Nat → Nat → Int}
theorem setPages_B {w h n : Nat} {a b c : Int} (H : InvW iv w h n) : Both sc 98 168 [some (Rf 1), some (I a), some (I b), some (I c)] [some (Rf 52), some (I a), some (I b), some (I c)] iv := by
  by_cases ha : 4 ≤ a ∧ a ≤ 24
  · by_cases hb : 4 ≤ b ∧ b ≤ 24
    · by_cases hc : 0 ≤ c ∧ c ≤ 3
      · obtain ⟨h1, h2, h3, ⟨⟨h4, b1, b2, b3, b4, b5⟩, h4'⟩, h5, h6⟩ := id H
        obtain ⟨s1, hs1⟩ : ∃ s1, setO (setO (setO iv 49 (upI (iv 49) 1 a)) 49 (upI ((setO iv 49 (upI (iv 49) 1 a)) 49) 2 b)) 49 (upI ((setO (setO iv 49 (upI (iv 49) 1 a)) 49 (upI ((setO iv 49 (upI (iv 49) 1 a)) 49) 2 b)) 49) 3 c) = s1 := ⟨_, rfl⟩
        have k49 : s1 49 = upI (upI (upI (iv 49) 1 a) 2 b) 3 c := by rw [← hs1, setO_same, setO_same, setO_same]
        have kk : ∀ k, k ≠ 49 → s1 k = iv k := fun k u => by rw [← hs1, setO_ne u, setO_ne u, setO_ne u]
        obtain ⟨s2, hs2⟩ : ∃ s2, setO (setO (setO s1 52 (upI (s1 52) 4 a)) 52 (upI ((setO s1 52 (upI (s1 52) 4 a)) 52) 5 b)) 52 (upI ((setO (setO s1 52 (upI (s1 52) 4 a)) 52 (upI ((setO s1 52 (upI (s1 52) 4 a)) 52) 5 b)) 52) 6 c) = s2 := ⟨_, rfl⟩
        have j52 : s2 52 = upI (upI (upI (iv 52) 4 a) 5 b) 6 c := by rw [← hs2, setO_same, setO_same, setO_same, kk 52 (by omega)]
        have jk : ∀ k, k ≠ 52 → s2 k = s1 k := fun k u => by rw [← hs2, setO_ne u, setO_ne u, setO_ne u]
        have kj : ∀ k, k ≠ 49 → k ≠ 52 → s2 k = iv k := fun k u v => by rw [jk k v, kk k u]
        have p52 : ∀ f, f ≠ 4 → f ≠ 5 → f ≠ 6 → s2 52 f = iv 52 f := fun f u v x => by rw [j52, upI_ne x, upI_ne v, upI_ne u]
        have q1 : s1 49 1 = a := by rw [k49, upI_ne (by omega), upI_ne (by omega), upI_same]
        have q2 : s1 49 2 = b := by rw [k49, upI_ne (by omega), upI_same]
        have q3 : s1 49 3 = c := by rw [k49, upI_same]
        have r1 : s2 52 4 = a := by rw [j52, upI_ne (by omega), upI_ne (by omega), upI_same]
        have r2 : s2 52 5 = b := by rw [j52, upI_ne (by omega), upI_same]
        have r3 : s2 52 6 = c := by rw [j52, upI_same]
        have hL1 : LayB s1 := by unfold LayB; rw [q1, q2, q3]; exact ⟨ha, hb, hc⟩
        have hD1 : DimB s1 w h := by unfold DimB; rw [kk 2 (by omega)]; exact h4
        have hL2 : MLy s2 s2 := by unfold MLy LayB; rw [jk 49 (by omega), q1, q2, q3, r1, r2, r3]; exact ⟨⟨ha, hb, hc⟩, rfl, rfl, rfl⟩
        have hI : InvW s2 w h n := by
          refine H.ch (fun k _ _ _ _ _ _ u _ _ v _ _ _ _ _ => kj k u v) ⟨p52 0 (by omega) (by omega) (by omega), p52 1 (by omega) (by omega) (by omega)⟩ hL2 ?_ ?_ ?_ ?_
          · unfold YarnB at h3 ⊢
            rw [kj 6 (by omega) (by omega), p52 2 (by omega) (by omega) (by omega), p52 3 (by omega) (by omega) (by omega)]; exact h3
          · rw [kj 45 (by omega) (by omega), kj 46 (by omega) (by omega), kj 55 (by omega) (by omega), kj 56 (by omega) (by omega)]; exact ⟨b3, b4, b5⟩
          · unfold BkOut at h4' ⊢; rw [kj 45 (by omega) (by omega), kj 46 (by omega) (by omega)]; exact h4'
          · unfold TxtB MTx at h5 ⊢; rw [kj 50 (by omega) (by omega), kj 51 (by omega) (by omega), kj 63 (by omega) (by omega), p52 17 (by omega) (by omega) (by omega)]; exact h5
        have ea : acr s2 = acr s1 := by unfold acr; rw [jk 49 (by omega), jk 2 (by omega)]
        have ed : dwn s2 = dwn s1 := by unfold dwn; rw [jk 49 (by omega), jk 2 (by omega)]
        have hp2 := pgs_M (sc := sc) hI.1 hL2
        rw [ea, ed] at hp2
        refine ⟨acr s1 * dwn s1, s1, s2, w, h, n, ?_, ?_, hI⟩
        · rw [B_X6_setPages_0, within_T ha, aBind_some, pushR_some, B_X6_setPages_7, ite_F (by omega), within_T hb, aBind_some, pushR_some, B_X6_setPages_17, ite_F (by omega), within_T hc, aBind_some, pushR_some, B_X6_setPages_26, ite_F (by omega), B_X6_setPages_32, bck_pos (by omega), B_X6_setPages_40, bck_pos (by omega), B_X6_setPages_48, bck_pos (by omega), hs1, B_X6_setPages_56, tot_S hL1 hD1, aBind_some, pushR_some, B_X6_setPages_63]
        · rw [B_X7_setPages_0, in_T ha, aBind_some, pushR_some, B_X7_setPages_7, ite_F (by omega), in_T hb, aBind_some, pushR_some, B_X7_setPages_17, ite_F (by omega), in_T hc, aBind_some, pushR_some, B_X7_setPages_26, ite_F (by omega), B_X7_setPages_32, bck_pos (by omega), B_X7_setPages_37, bck_pos (by omega), B_X7_setPages_42, bck_pos (by omega), hs2, B_X7_setPages_47, hp2, aBind_some, pushR_some, B_X7_setPages_51]
      · refine Both.same (a := -2) H ?_ ?_
        · rw [B_X6_setPages_0, within_T ha, aBind_some, pushR_some, B_X6_setPages_7, ite_F (by omega), within_T hb, aBind_some, pushR_some, B_X6_setPages_17, ite_F (by omega), within_F hc, aBind_some, pushR_some, B_X6_setPages_26, ite_T rfl, B_X6_setPages_29]
        · rw [B_X7_setPages_0, in_T ha, aBind_some, pushR_some, B_X7_setPages_7, ite_F (by omega), in_T hb, aBind_some, pushR_some, B_X7_setPages_17, ite_F (by omega), in_F hc, aBind_some, pushR_some, B_X7_setPages_26, ite_T rfl, B_X7_setPages_29]
    · refine Both.same (a := -2) H ?_ ?_
      · rw [B_X6_setPages_0, within_T ha, aBind_some, pushR_some, B_X6_setPages_7, ite_F (by omega), within_F hb, aBind_some, pushR_some, B_X6_setPages_17, ite_T rfl, B_X6_setPages_29]
      · rw [B_X7_setPages_0, in_T ha, aBind_some, pushR_some, B_X7_setPages_7, ite_F (by omega), in_F hb, aBind_some, pushR_some, B_X7_setPages_17, ite_T rfl, B_X7_setPages_29]
  · refine Both.same (a := -2) H ?_ ?_
    · rw [B_X6_setPages_0, within_F ha, aBind_some, pushR_some, B_X6_setPages_7, ite_T rfl, B_X6_setPages_29]
    · rw [B_X7_setPages_0, in_F ha, aBind_some, pushR_some, B_X7_setPages_7, ite_T rfl, B_X7_setPages_29]
end CALLS9
