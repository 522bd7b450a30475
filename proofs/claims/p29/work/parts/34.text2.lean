/-! StitchChart$ChartText: fits, draws -/
section TEXT2
variable {sc : Nat × (Nat → Int)} {iv : Nat → Nat → Int}
theorem cf_step {T : Nat → Int} {len f i : Nat} {a b : Int} (h : cfF T len (f + 1) i a b = -1) (hb : b ≤ i) : (digI (T i) → b ≠ 2 ∧ cfF T len f (i + 1) (10 * a + (T i - 48)) (b + 1) = -1) ∧ (¬ digI (T i) → (1 ≤ ncI a b ∧ ncI a b ≤ 24) ∧ ((T i = 47 ∧ b = 0) ∨ entI (T i)) ∧ cfF T len f (i + 1) 0 0 = -1) := by
  rw [cfF_s] at h
  by_cases q : digI (T i)
  · rw [if_pos q] at h
    refine ⟨fun _ => ?_, fun z => absurd q z⟩
    by_cases e : b = 2
    · rw [if_pos e] at h; omega
    · rw [if_neg e] at h; exact ⟨e, h⟩
  · rw [if_neg q] at h
    refine ⟨fun z => absurd z q, fun _ => ?_⟩
    by_cases c2 : 1 ≤ ncI a b ∧ ncI a b ≤ 24
    · rw [if_pos c2] at h
      by_cases e : (T i = 47 ∧ b = 0) ∨ entI (T i)
      · rw [if_pos e] at h; exact ⟨c2, e, h⟩
      · rw [if_neg e] at h; omega
    · rw [if_neg c2] at h; omega
theorem fit_S {n : Nat} {w h : Int} (hT : TxtB iv n) (hw : 1 ≤ w ∧ w ≤ 24) (hh : 1 ≤ h ∧ h ≤ 24) : ∀ f i (x y a b : Int) (d6 : Option AV), i + f = n → digB a b → b ≤ i → (0 ≤ x ∧ x ≤ 24) → (0 ≤ y ∧ y ≤ 24) → cfF (iv 51) n f i a b = -1 → okF iv (Run sc 27 12 [some (Rf 50), some (I w), some (I h), some (I x), some (I y), some (I i), d6] [] (hp (tx iv a b))) (if fiF (iv 51) w h f i x y a b = true then 1 else 0) := by
  intro f
  induction f with
  | zero =>
    intro i x y a b d6 hi hb hbi hx hy hcf
    obtain ⟨t1, t2, t3⟩ := id hT
    refine ⟨a, b, ?_⟩
    rw [B_X1_fits_12, tx_1, ite_F (by omega), B_X1_fits_91, bck_pos (by omega)]
    rfl
  | succ f ih =>
    intro i x y a b d6 hi hb hbi hx hy hcf
    have hn := hb.n
    obtain ⟨t1, t2, t3⟩ := id hT
    have tc := t3 i (by omega)
    obtain ⟨s1, s2⟩ := cf_step hcf hbi
    rw [fiF_s, B_X1_fits_12, tx_1, ite_T (by omega), chAt_S hT.tx (by omega), aBind_some, pushR_some, tx_ne (show 51 ≠ 50 by omega), B_X1_fits_27]
    generalize hc : iv 51 i = c at *
    have fin : ∀ (x y a b : Int), okF iv (Run sc 27 83 [some (Rf 50), some (I w), some (I h), some (I x), some (I y), some (I i), some (I c)] [] (hp (tx iv a b))) (if (false : Bool) = true then 1 else 0) := by
      intro x y a b
      refine ⟨a, b, ?_⟩
      rw [B_X1_fits_83, bck_pos (by omega)]
      rfl
    have chkk : ∀ (x y a b : Int) (r : Bool), (0 ≤ x ∧ x ≤ 100) → (0 ≤ y ∧ y ≤ 100) → (0 ≤ x → x ≤ 24 → 0 ≤ y → y ≤ 24 → okF iv (Run sc 27 12 [some (Rf 50), some (I w), some (I h), some (I x), some (I y), some (I ((i + 1 : Nat) : Int)), some (I c)] [] (hp (tx iv a b))) (if r = true then 1 else 0)) → okF iv (Run sc 27 72 [some (Rf 50), some (I w), some (I h), some (I x), some (I y), some (I i), some (I c)] [] (hp (tx iv a b))) (if (if w < x ∨ h ≤ y then false else r) = true then 1 else 0) := by
      intro x y a b r hx hy hk
      rw [B_X1_fits_72]
      by_cases c1 : w < x
      · rw [if_pos c1, if_pos (Or.inl c1)]; exact fin x y a b
      · rw [if_neg c1]
        by_cases c2 : y < h
        · rw [if_pos c2, if_neg (show ¬ (w < x ∨ h ≤ y) by omega), B_X1_fits_85, chk_pos (by omega)]
          exact hk hx.1 (by omega) hy.1 (by omega)
        · rw [if_neg c2, if_pos (Or.inr (by omega))]; exact fin x y a b
    by_cases q : digI c
    · obtain ⟨e, s3⟩ := s1 q
      rw [isD_T q, aBind_some, pushR_some, B_X1_fits_34, ite_F (by omega), if_pos q, addD_S hb q, aBind_some, pushR_none, B_X1_fits_43]
      exact chkk _ _ _ _ _ (by omega) (by omega) (fun _ _ _ _ => ih (i + 1) _ _ _ _ _ (by omega) (hb.add q e) (by omega) (by omega) (by omega) s3)
    · obtain ⟨e, s4, s3⟩ := s2 q
      rw [isD_F q, aBind_some, pushR_some, B_X1_fits_34, ite_T (by omega), if_neg q, B_X1_fits_46]
      by_cases e1 : c = 47
      · have hb0 : b = 0 := by
          rcases s4 with z | z
          · exact z.2
          · omega
        have ha0 : a = 0 := by
          rcases hb with z | z | z
          · exact z.2
          · omega
          · omega
        subst hb0 ha0
        rw [if_pos e1, if_pos e1, chk_pos (by omega)]
        exact chkk _ _ _ _ _ (by omega) (by omega) (fun _ _ _ _ => ih (i + 1) _ _ _ _ _ (by omega) digB.z (by omega) (by omega) (by omega) s3)
      · rw [if_neg e1, if_neg e1, B_X1_fits_61, numC_S, aBind_some, pushR_some, B_X1_fits_66, chk_pos (by omega), startN_T, aBind_some, pushR_none]
        exact chkk _ _ _ _ _ (by omega) (by omega) (fun _ _ _ _ => ih (i + 1) _ _ _ _ _ (by omega) digB.z (by omega) (by omega) (by omega) s3)
theorem tx_self {a b : Int} (h2 : iv 50 2 = a) (h3 : iv 50 3 = b) : tx iv a b = iv := by
  unfold tx
  funext k
  unfold setO
  by_cases e : k = 50
  · rw [if_pos e, e]
    funext j
    unfold upI
    by_cases e3 : j = 3
    · rw [if_pos e3, e3, h3]
    · rw [if_neg e3]
      by_cases e2 : j = 2
      · rw [if_pos e2, e2, h2]
      · rw [if_neg e2]
  · rw [if_neg e]
theorem ChG_tx {iv0 ivc : Nat → Nat → Int} {a b c d n : Int} (h : ChG (tx iv0 a b) ivc n) : ChG (tx iv0 c d) (tx ivc c d) n := by
  obtain ⟨h1, h2, h3, h4, h5, h6⟩ := h
  have e3 : ∀ a b, tx iv0 a b 3 = iv0 3 := fun a b => tx_ne (by omega)
  have e4 : ∀ a b, tx iv0 a b 4 = iv0 4 := fun a b => tx_ne (by omega)
  rw [e3, e4] at *
  have f3 : tx ivc c d 3 = ivc 3 := tx_ne (by omega)
  have f4 : tx ivc c d 4 = ivc 4 := tx_ne (by omega)
  refine ⟨fun k a1 a2 => ?_, ?_, ?_, ?_, ?_, ?_⟩
  · by_cases e : k = 50
    · subst e
      have := h1 50 (by omega) (by omega)
      have e9 := tx_tx (iv := iv0) (a := a) (b := b) (c := c) (d := d)
      rw [← e9]
      unfold tx at this ⊢
      rw [setO_same, setO_same, this]
    · rw [tx_ne e, tx_ne e, h1 k a1 a2, tx_ne e]
  · rw [f3, f4, e4]; exact h2
  · rw [f3, f4, e3, e4]; exact h3
  · rw [f4, e4]; exact h4
  · rw [f4]; exact h5
  · rw [f4, e4]; exact h6
end TEXT2
