/-! StitchChart$ChartText: draws; faults -/
section TEXT3
variable {sc : Nat × (Nat → Int)} {iv : Nat → Nat → Int}
set_option maxHeartbeats 2000000 in
theorem draw_S {n w h : Nat} (hT : TxtB iv n) (hw : iv 2 0 = w) (hh : iv 2 1 = h) (hw2 : 1 ≤ w ∧ w ≤ 24) (hh2 : 1 ≤ h ∧ h ≤ 24) : ∀ f i (x y a b m : Int) (d6 : Option AV) (ivc : Nat → Nat → Int), i + f = n → digB a b → b ≤ i → (0 ≤ x ∧ x ≤ 24) → (0 ≤ y ∧ y ≤ 24) → cfF (iv 51) n f i a b = -1 → fiF (iv 51) w h f i x y a b = true → ChG (tx iv a b) ivc m → (∀ j : Nat, y * 24 + x ≤ j → ivc 4 j = iv 4 j) →
    ∃ iv2 m2 a2 b2, Run sc 28 14 [some (Rf 50), some (Rf 2), some (I m), some (I x), some (I y), some (I i), d6] [] (hp ivc) = some (some (I m2), hp iv2) ∧ ChG (tx iv a2 b2) iv2 m2 ∧ iv2 4 = drF (iv 51) f i x y a b (ivc 4) := by
  intro f
  induction f with
  | zero =>
    intro i x y a b m d6 ivc hi hb hbi hx hy hcf hfi hch hfr
    obtain ⟨t1, t2, t3⟩ := id hT
    have e50 : ivc 50 1 = n := by rw [hch.1 50 (by omega) (by omega), tx_1, t1]
    refine ⟨ivc, m, a, b, ?_, hch, rfl⟩
    rw [B_X1_drawOn_14, ite_F (by omega), B_X1_drawOn_99]
  | succ f ih =>
    intro i x y a b m d6 ivc hi hb hbi hx hy hcf hfi hch hfr
    have hn := hb.n
    have hm := hch.n_b
    obtain ⟨t1, t2, t3⟩ := id hT
    have tc := t3 i (by omega)
    obtain ⟨s1, s2⟩ := cf_step hcf hbi
    have e50 : ivc 50 = tx iv a b 50 := hch.1 50 (by omega) (by omega)
    have e51 : ivc 51 = iv 51 := by rw [hch.1 51 (by omega) (by omega), tx_ne (by omega)]
    have eself : tx ivc a b = ivc := tx_self (by rw [e50, tx_2]) (by rw [e50, tx_3])
    have hTc : TxtB ivc n := by unfold TxtB; rw [e50, tx_1, e51]; exact hT
    have q2 : ivc 2 = iv 2 := by rw [hch.1 2 (by omega) (by omega), tx_ne (by omega)]
    rw [fiF_s] at hfi
    rw [drF_s, B_X1_drawOn_14, ite_T (by rw [e50, tx_1]; omega), chAt_S hTc (by omega), aBind_some, pushR_some, B_X1_drawOn_29, e51]
    generalize hc : iv 51 i = c at *
    by_cases q : digI c
    · obtain ⟨e, s3⟩ := s1 q
      rw [if_pos q] at hfi ⊢
      have hfi2 : fiF (iv 51) w h f (i + 1) x y (10 * a + (c - 48)) (b + 1) = true := by
        by_cases c2 : (w : Int) < x ∨ h ≤ y
        · rw [if_pos c2] at hfi; cases hfi
        · rwa [if_neg c2] at hfi
      have had := addD_S (sc := sc) (iv := ivc) hb q
      rw [eself] at had
      rw [isD_T q, aBind_some, pushR_some, B_X1_drawOn_36, ite_F (by omega), had, aBind_some, pushR_none, B_X1_drawOn_45, B_X1_drawOn_93, chk_pos (by omega)]
      have e4 : tx ivc (10 * a + (c - 48)) (b + 1) 4 = ivc 4 := tx_ne (by omega)
      obtain ⟨iv2, m2, a2, b2, r1, r2, r3⟩ := ih (i + 1) x y _ _ m (some (I c)) (tx ivc (10 * a + (c - 48)) (b + 1)) (by omega) (hb.add q e) (by omega) hx hy s3 hfi2 (ChG_tx hch) (fun j hj => by rw [e4]; exact hfr j hj)
      refine ⟨iv2, m2, a2, b2, r1, r2, ?_⟩
      rw [r3, e4]
    · obtain ⟨e, s4, s3⟩ := s2 q
      rw [if_neg q] at hfi ⊢
      rw [isD_F q, aBind_some, pushR_some, B_X1_drawOn_36, ite_T (by omega), B_X1_drawOn_48]
      by_cases e1 : c = 47
      · have hb0 : b = 0 := by
          rcases s4 with z | z
          · exact z.2
          · omega
        have ha0 : a = 0 := by
          rcases hb with z | z | z
          · exact z.2
          · omega
          · omega
        subst hb0 ha0
        rw [if_pos e1] at hfi ⊢
        rw [if_pos e1, chk_pos (by omega), B_X1_drawOn_93, chk_pos (by omega)]
        have c2 : ¬ ((w : Int) < 0 ∨ h ≤ y + 1) := fun z => by rw [if_pos z] at hfi; cases hfi
        rw [if_neg c2] at hfi
        exact ih (i + 1) 0 (y + 1) _ _ m (some (I c)) ivc (by omega) digB.z (by omega) (by omega) (by omega) s3 hfi hch (fun j hj => hfr j (by omega))
      · have hen : entI c := by
          rcases s4 with z | z
          · exact absurd z.1 e1
          · exact z
        rw [if_neg e1] at hfi ⊢
        have c2 : ¬ ((w : Int) < x + ncI a b ∨ h ≤ y) := fun z => by rw [if_pos z] at hfi; cases hfi
        rw [if_neg c2] at hfi
        have hnum := numC_S (sc := sc) (iv := ivc) (a := a) (b := b)
        rw [eself] at hnum
        have hcb := colI_b hen
        obtain ⟨r, ivd, p1, p2, p3, p4, p5⟩ := putRow_S (sc := sc) (iv := ivc) (iv0 := tx iv a b) (x := x) (y := y) (c := colI c) (n0 := m) (w := w) (hh := h) (len := (ncI a b).toNat) (by rw [q2]; exact hw) hw2.2 (by rw [q2]; exact hh) hh2.2 hx.1 (by omega) (by omega) hcb hch (fun j hj _ => by rw [hfr j hj, tx_ne (by omega)])
        rw [show (((ncI a b).toNat : Nat) : Int) = ncI a b by omega] at p1 p4 p5
        have hmr := p2.n_b
        have f50 : ivd 50 = tx iv a b 50 := p2.1 50 (by omega) (by omega)
        have fself : tx ivd a b = ivd := tx_self (by rw [f50, tx_2]) (by rw [f50, tx_3])
        have hnum2 := numC_S (sc := sc) (iv := ivd) (a := a) (b := b)
        have hst := startN_T (sc := sc) (iv := ivd) (a := a) (b := b)
        rw [fself] at hnum2 hst
        rw [if_neg e1, B_X1_drawOn_63, hnum, aBind_some, pushR_some, B_X1_drawOn_72, colO_S hen, aBind_some, pushR_some, B_X1_drawOn_77, p1, aBind_some, pushR_some, B_X1_drawOn_80, chk_pos (by omega), hnum2, aBind_some, pushR_some, B_X1_drawOn_87, chk_pos (by omega), hst, aBind_some, pushR_none, B_X1_drawOn_93, chk_pos (by omega)]
        have e4 : tx ivd 0 0 4 = ivd 4 := tx_ne (by omega)
        obtain ⟨iv2, m2, a2, b2, r1, r2, r3⟩ := ih (i + 1) (x + ncI a b) y 0 0 (m + r) (some (I c)) (tx ivd 0 0) (by omega) digB.z (by omega) (by omega) hy s3 hfi (ChG_tx p2) (fun j hj => by rw [e4, p5, if_neg (by omega)]; exact hfr j (by omega))
        refine ⟨iv2, m2, a2, b2, r1, r2, ?_⟩
        rw [r3, e4]
        congr 1
        funext j
        rw [p5]
        rfl
/-- the fault that a text has; -1 for none -/
def fltF (T : Nat → Int) (n : Nat) (w h : Int) : Int := if cfF T n n 0 0 0 = -1 then (if fiF T w h n 0 0 0 0 0 = true then -1 else 120) else cfF T n n 0 0 0
theorem flt_S {n : Nat} {w h : Int} (hT : TxtB iv n) (hw : 1 ≤ w ∧ w ≤ 24) (hh : 1 ≤ h ∧ h ≤ 24) : okF iv (Run sc 25 0 [some (Rf 50), some (I w), some (I h), none] [] (hp iv)) (fltF (iv 51) n w h) := by
  rw [B_X1_findFault_0, B_X1_findMisplaced_0, startN_S, aBind_some, pushR_none, B_X1_findMisplaced_4]
  obtain ⟨a, b, e⟩ := mis_S (sc := sc) hT n 0 0 0 none none (by omega) digB.z
  rw [show (0 : Int) = ((0 : Nat) : Int) from rfl] at *
  rw [e, aBind_some, pushR_some, B_X1_findFault_4]
  unfold fltF
  by_cases c : cfF (iv 51) n n 0 0 0 = -1
  · rw [show (((0 : Nat) : Int)) = 0 from rfl, if_pos c, if_pos c, B_X1_findFault_12, B_X1_fits_0, startN_T, aBind_some, pushR_none, B_X1_fits_4]
    obtain ⟨a2, b2, e2⟩ := fit_S (sc := sc) hT hw hh n 0 0 0 0 0 none (by omega) digB.z (by omega) (by omega) (by omega) c
    rw [show (((0 : Nat) : Int)) = 0 from rfl] at e2
    rw [e2, aBind_some, pushR_some, B_X1_findFault_18]
    by_cases q : fiF (iv 51) w h n 0 0 0 0 0 = true
    · rw [if_pos q, if_pos q, ite_F (by omega), B_X1_findFault_27]; exact ⟨a2, b2, rfl⟩
    · rw [if_neg q, if_neg q, ite_T (by omega), B_X1_findFault_25, B_X1_findFault_27]; exact ⟨a2, b2, rfl⟩
  · rw [show (((0 : Nat) : Int)) = 0 from rfl, if_neg c, if_neg c]; exact ⟨a, b, rfl⟩
theorem cfF_b {T : Nat → Int} {n : Nat} : ∀ f i (a b : Int), i + f = n → (0 ≤ b ∧ b ≤ i) → -1 ≤ cfF T n f i a b ∧ cfF T n f i a b ≤ n := by
  intro f
  induction f with
  | zero =>
    intro i a b hi hb
    show -1 ≤ (if 1 ≤ ncI a b ∧ ncI a b ≤ 24 then (if b = 0 then -1 else (n : Int)) else n - b) ∧ (if 1 ≤ ncI a b ∧ ncI a b ≤ 24 then (if b = 0 then -1 else (n : Int)) else n - b) ≤ n
    split
    · split <;> omega
    · omega
  | succ f ih =>
    intro i a b hi hb
    rw [cfF_s]
    split
    · split
      · omega
      · exact ih _ _ _ (by omega) (by omega)
    · split
      · split
        · exact ih _ _ _ (by omega) (by omega)
        · omega
      · omega
theorem app_T {c : Int} {n : Nat} (hT : TxtB iv n) (hn : n < 120) (hc : 0 ≤ c ∧ c ≤ 65535) : Run sc 17 0 [some (Rf 50), some (I c)] [] (hp iv) = some (some (I 1), hp (setO (setO iv 51 (upI (iv 51) n c)) 50 (upI (iv 50) 1 ((n : Int) + 1)))) := by
  obtain ⟨t1, t2, t3⟩ := hT
  rw [B_X1_append_0, ite_F (by omega), ite_T (by omega), B_X1_append_18, t1, bck_pos (by omega), bck_pos (by omega), B_X1_append_28, setO_ne (show 50 ≠ 51 by omega), t1, chk_pos (by omega), bck_pos (by omega), B_X1_append_38, bck_pos (by omega), Int.toNat_natCast]
theorem app_F {c : Int} {n : Nat} (hT : TxtB iv n) (hn : n = 120) : Run sc 17 0 [some (Rf 50), some (I c)] [] (hp iv) = some (some (I 0), hp iv) := by
  obtain ⟨t1, t2, t3⟩ := hT
  rw [B_X1_append_0, ite_F (by omega), ite_F (by omega), B_X1_append_16, bck_pos (by omega)]
end TEXT3
