/-! the law answers 1 on every script -/
def h00 : AH := ([], fun _ _ => 0, fun _ _ => 0)
theorem law_begins {sc : Nat × (Nat → Int)} : ∃ iv, Run sc 0 0 [some (Rf 0), none, none, none] [] h00 = Run sc 0 18 [some (Rf 0), some (Rf 1), some (Rf 52), some (I 0)] [] (hp iv) ∧ InvW iv 10 8 0 := by
  obtain ⟨iv, e, H⟩ := start_B (sc := sc)
  refine ⟨iv, ?_, H⟩
  refine Eq.trans (b := Run sc 0 8 [some (Rf 0), some (Rf 1), none, none] [] hk_128) KT_63 ?_
  refine Eq.trans (b := Run sc 0 11 [some (Rf 0), some (Rf 1), none, none] [Rf 52] hk_129) (R_new mc_0 dL_law_8 mo_0 (o := 7) rfl) ?_
  refine Eq.trans (b := Run sc 0 12 [some (Rf 0), some (Rf 1), none, none] [Rf 52, Rf 52] hk_129) (R_dup mc_0 dL_law_11) ?_
  refine Eq.trans (b := Run sc 0 15 [some (Rf 0), some (Rf 1), none, none] [Rf 52] (hp iv)) ((R_invI mc_0 dL_law_12 mo_0 ct_8_12 (Or.inl rfl) (by decide) (b := 52) (rest := [Rf 52]) (lv2 := [some (Rf 52)]) rfl (by decide) rfl ⟨Nat.le_of_ble_eq_true rfl, Nat.le_of_ble_eq_true rfl⟩).trans (by rw [e, aBind_some, pushR_none])) ?_
  refine Eq.trans (b := Run sc 0 16 [some (Rf 0), some (Rf 1), some (Rf 52), none] [] (hp iv)) (R_astore_n mc_0 dL_law_15 (Nat.le_of_ble_eq_true rfl)) ?_
  refine Eq.trans (b := Run sc 0 17 [some (Rf 0), some (Rf 1), some (Rf 52), none] [I 0] (hp iv)) (R_iconst mc_0 dL_law_16 ⟨by decide, by decide⟩) ?_
  exact R_istore_n mc_0 dL_law_17 (Nat.le_of_ble_eq_true rfl)
theorem law_answers (L : Nat) (xs : Nat → Int) (hL : L ≤ 3072) (hxs : ∀ j, in32 (xs j)) : ∃ h' : AH, Run (L, xs) 0 0 [some (.inr 0), none, none, none] [] h00 = some (some (.inl 1), h') ∧ h'.1.length ≤ 600000 ∧ aSl h'.1 ≤ 7302250 := by
  obtain ⟨iv, e, H⟩ := law_begins (sc := (L, xs))
  obtain ⟨iv2, e2⟩ := law_all (sc := (L, xs)) hL L 0 iv 10 8 0 (by omega) (by omega) (by show (L : Int) - 0 ≤ L; omega) H
  exact ⟨hp iv2, e.trans e2, by show CSL.length ≤ 600000; decide, by show aSl CSL ≤ 7302250; decide⟩
