/-! calls that change an order, the yarn, back stitches, pages, text */ -/
section CALLS
variable {sc : Nat × (Nat → Int)} {iv iv1 iv2 s : Nat → Nat → Int} {O : Nat → Nat → Int} {w h n : Nat}
def setQ (O : Nat → Nat → Int) (k : Nat) (Q : Nat → Int) : Nat → Nat → Int := fun j => if j = k then Q else O j
theorem setQ_same {k : Nat} {Q : Nat → Int} : setQ O k Q k = Q := if_pos rfl
theorem setQ_ne {k j : Nat} {Q : Nat → Int} (hj : j ≠ k) : setQ O k Q j = O j := if_neg hj
theorem InvC.ord {k : Nat} {Q : Nat → Int} (H : InvC iv1 O w h n) (hk : k < 6) (ht : iv1 3 (k + 1) = 0) (o : OnlyO iv1 iv2 k) (eq : ∀ p, p < nK (gN iv1) w h k → iv2 (12 + 6 * k) p = Q p) (pm : PermN (nK (gN iv1) w h k) (iv2 (12 + 6 * k)) (iv2 (13 + 6 * k))) : InvC iv2 (setQ O k Q) w h n := by
  have f : FrC iv1 iv2 k := ⟨fun j _ hj => o j (by omega) (by omega), fun f _ => by rw [o 3 (by omega) (by omega)], fun f _ => by rw [o _ (by omega) (by omega)]⟩
  refine H.fr hk f ?_
  obtain ⟨a, b, c, d, e⟩ := H.2.2.2.2.2 k hk
  obtain ⟨g1, g2, g3, g4⟩ := d ht
  have gn : gN iv2 = gN iv1 := by funext x y; unfold gN; rw [o 4 (by omega) (by omega)]
  unfold CrC
  rw [gn, o 3 (by omega) (by omega), o (8 + 6 * k) (by omega) (by omega), o (9 + 6 * k) (by omega) (by omega), o (10 + 6 * k) (by omega) (by omega), o (11 + 6 * k) (by omega) (by omega)]
  exact ⟨a, Or.inl ht, ⟨_, pm.congr (fun p hpp => (eq p hpp).symm) (fun _ _ => rfl)⟩, fun _ => ⟨g1, g2, eq, pm⟩, fun z => by omega⟩
theorem OnlyO.x {k : Nat} (o : OnlyO iv iv2 k) (hk : k < 6) : FrX iv iv2 := fun j _ _ _ _ a => o j (by omega) (by omega)
/-- the thread of a color with an order -/
noncomputable def thK (iv : Nat → Nat → Int) (w h k : Nat) (Q : Nat → Int) : Int := thrF (nK (gN iv) w h k) (xK (gN iv) w h k) (yK (gN iv) w h k) (lK (gN iv) w h k) (iv 6 0) (iv 6 1) Q
theorem thK_fr {k : Nat} {Q : Nat → Int} (f : FrX iv iv2) : thK iv2 w h k Q = thK iv w h k Q := by
  unfold thK
  rw [f.gn, f.e (j := 6) (by omega)]
theorem thread_A {k : Nat} {Q : Nat → Int} (H : InvC iv1 O w h n) (hk : k < 6) (ht : iv1 3 (k + 1) = 0) (o : OnlyO iv1 iv2 k) (eq : ∀ p, p < nK (gN iv1) w h k → iv2 (12 + 6 * k) p = Q p) (pm : PermN (nK (gN iv1) w h k) (iv2 (12 + 6 * k)) (iv2 (13 + 6 * k))) : Run sc 39 0 [some (Rf (8 + 6 * k)), none, none] [] (hp iv2) = some (some (I (thK iv1 w h k Q)), hp iv2) := by
  obtain ⟨⟨⟨d1, d2, d3, d4, d5, d6⟩, -⟩, -⟩ := id H
  obtain ⟨hR, ag, al, ao, pm0⟩ := (H.2.2.2.2.2 k hk).view ht d4 d6
  have hR2 := hR.only o
  have hy2 := H.2.2.1.only o
  unfold thK
  rw [thread_S hk hR2 hy2 pm.ord, o 6 (by omega) (by omega), o (9 + 6 * k) (by omega) (by omega), o (10 + 6 * k) (by omega) (by omega), o (11 + 6 * k) (by omega) (by omega), thrF_cg ag al pm.ord (fun p hpp => (eq p hpp).symm)]
theorem moveRun_S {k a b : Nat} {c : Int} (H : InvC iv O w h n) (hk : k < 6) (hc : c = (k : Int) + 1) (ha : a < nK (gN iv) w h k) (hb : b < nK (gN iv) w h k) : ∃ iv2, Run sc 89 0 [some (Rf 1), some (I c), some (I a), some (I b), none] [] (hp iv) = some (some (I (thK iv w h k (mvO (O k) a b))), hp iv2) ∧ InvC iv2 (setQ O k (mvO (O k) a b)) w h n ∧ FrX iv iv2 := by
  subst hc
  obtain ⟨iv1, e1, H1, ht, fr⟩ := runsOf_S (sc := sc) H hk rfl
  have fx := fr.all hk
  obtain ⟨⟨⟨-, -, -, d4, -, d6⟩, -⟩, -⟩ := id H1
  obtain ⟨hR, ag, al, ao, pm0⟩ := (H1.2.2.2.2.2 k hk).view ht d4 d6
  rw [← fx.gn] at ha hb
  obtain ⟨iv2, e2, o, p2, p3⟩ := relocate_S (sc := sc) hk hR pm0 ha hb
  have eq : ∀ p, p < nK (gN iv1) w h k → iv2 (12 + 6 * k) p = mvO (O k) a b p := fun p hpp => by
    rw [p2 p hpp]
    exact mvO_congr ao ha hb hpp
  have pm := (pm0.mv ha hb).congr p2 p3
  have t1 := thread_A (sc := sc) H1 hk ht o eq pm
  rw [thK_fr fx] at t1
  refine ⟨iv2, ?_, H1.ord hk ht o eq pm, fx.tr (o.x hk)⟩
  rw [B_X6_moveRun_0, isColC_T (by omega), aBind_some, pushR_some, B_X6_moveRun_4, ite_F (by omega), B_X6_moveRun_10, e1, aBind_some, pushR_some, B_X6_moveRun_15 _ _ _ hk, hasR_T hk hR (by omega), aBind_some, pushR_some, B_X6_moveRun_23 _ _ _ hk, ite_F (by omega), hasR_T hk hR (by omega), aBind_some, pushR_some, B_X6_moveRun_32 _ _ _ hk, ite_F (by omega), B_X6_moveRun_38 _ _ _ hk, e2, aBind_some, pushR_none, B_X6_moveRun_45 _ _ _ hk, t1, aBind_some, pushR_some, B_X6_moveRun_50 _ _ _ hk]
theorem moveRun_no {k : Nat} {c a b : Int} (H : InvC iv O w h n) (hk : k < 6) (hc : c = (k : Int) + 1) (hab : ¬ ((0 ≤ a ∧ a < nK (gN iv) w h k) ∧ 0 ≤ b ∧ b < nK (gN iv) w h k)) : ∃ iv2, Run sc 89 0 [some (Rf 1), some (I c), some (I a), some (I b), none] [] (hp iv) = some (some (I (-2)), hp iv2) ∧ InvC iv2 O w h n ∧ FrX iv iv2 := by
  subst hc
  obtain ⟨iv1, e1, H1, ht, fr⟩ := runsOf_S (sc := sc) H hk rfl
  have fx := fr.all hk
  obtain ⟨⟨⟨-, -, -, d4, -, d6⟩, -⟩, -⟩ := id H1
  obtain ⟨hR, ag, al, ao, pm0⟩ := (H1.2.2.2.2.2 k hk).view ht d4 d6
  rw [← fx.gn] at hab
  refine ⟨iv1, ?_, H1, fx⟩
  by_cases ha : 0 ≤ a ∧ a < nK (gN iv1) w h k
  · rw [B_X6_moveRun_0, isColC_T (by omega), aBind_some, pushR_some, B_X6_moveRun_4, ite_F (by omega), B_X6_moveRun_10, e1, aBind_some, pushR_some, B_X6_moveRun_15 _ _ _ hk, hasR_T hk hR ha, aBind_some, pushR_some, B_X6_moveRun_23 _ _ _ hk, ite_F (by omega), hasR_F hk hR (fun z => hab ⟨ha, z⟩), aBind_some, pushR_some, B_X6_moveRun_32 _ _ _ hk, ite_T rfl, B_X6_moveRun_35 _ _ _ hk]
  · rw [B_X6_moveRun_0, isColC_T (by omega), aBind_some, pushR_some, B_X6_moveRun_4, ite_F (by omega), B_X6_moveRun_10, e1, aBind_some, pushR_some, B_X6_moveRun_15 _ _ _ hk, hasR_F hk hR ha, aBind_some, pushR_some, B_X6_moveRun_23 _ _ _ hk, ite_T rfl, B_X6_moveRun_35 _ _ _ hk]
theorem moveRun_bad {c a b : Int} (hc : ¬ (1 ≤ c ∧ c ≤ 6)) : Run sc 89 0 [some (Rf 1), some (I c), some (I a), some (I b), none] [] (hp iv) = some (some (I (-2)), hp iv) := by
  rw [B_X6_moveRun_0, isColC_F hc, aBind_some, pushR_some, B_X6_moveRun_4, ite_T rfl]
/-- the first order -/
noncomputable def foK (iv : Nat → Nat → Int) (w h k : Nat) : Nat → Int := fun p => (foO (nK (gN iv) w h k) (xK (gN iv) w h k) (yK (gN iv) w h k) p : Nat)
theorem firstOrder_S {k : Nat} {c : Int} (H : InvC iv O w h n) (hk : k < 6) (hc : c = (k : Int) + 1) : ∃ iv2, Run sc 90 0 [some (Rf 1), some (I c), none] [] (hp iv) = some (some (I (thK iv w h k (foK iv w h k))), hp iv2) ∧ InvC iv2 (setQ O k (foK iv w h k)) w h n ∧ FrX iv iv2 := by
  subst hc
  obtain ⟨iv1, e1, H1, ht, fr⟩ := runsOf_S (sc := sc) H hk rfl
  have fx := fr.all hk
  obtain ⟨⟨⟨-, -, -, d4, -, d6⟩, -⟩, -⟩ := id H1
  obtain ⟨hR, ag, al, ao, pm0⟩ := (H1.2.2.2.2.2 k hk).view ht d4 d6
  obtain ⟨iv2, e2, o, p2, p3⟩ := firstOrd_S (sc := sc) hk hR
  have ef : foK iv1 w h k = foK iv w h k := by unfold foK; rw [fx.gn]
  have eq : ∀ p, p < nK (gN iv1) w h k → iv2 (12 + 6 * k) p = foK iv w h k p := fun p hpp => by rw [p2 p hpp, ← ef, foO_cg ag hpp]; rfl
  have pm : PermN (nK (gN iv1) w h k) (iv2 (12 + 6 * k)) (iv2 (13 + 6 * k)) := foO_perm.congr p2 p3
  have t1 := thread_A (sc := sc) H1 hk ht o eq pm
  rw [thK_fr fx] at t1
  refine ⟨iv2, ?_, H1.ord hk ht o eq pm, fx.tr (o.x hk)⟩
  rw [B_X6_firstOrder_0, isColC_T (by omega), aBind_some, pushR_some, B_X6_firstOrder_4, ite_F (by omega), B_X6_firstOrder_10, e1, aBind_some, pushR_some, B_X6_firstOrder_15 _ _ _ hk, e2, aBind_some, pushR_none, B_X6_firstOrder_20 _ _ _ hk, t1, aBind_some, pushR_some, B_X6_firstOrder_24 _ _ _ hk]
theorem firstOrder_bad {c : Int} (hc : ¬ (1 ≤ c ∧ c ≤ 6)) : Run sc 90 0 [some (Rf 1), some (I c), none] [] (hp iv) = some (some (I (-2)), hp iv) := by
  rw [B_X6_firstOrder_0, isColC_F hc, aBind_some, pushR_some, B_X6_firstOrder_4, ite_T rfl]
/-- passes of shortening -/
noncomputable def itK (iv : Nat → Nat → Int) (w h k : Nat) (Q : Nat → Int) (i : Nat) : (Nat → Int) × Int := itM (nK (gN iv) w h k) (xK (gN iv) w h k) (yK (gN iv) w h k) (iv 6 0) (iv 6 1) Q i
noncomputable def mvK (iv : Nat → Nat → Int) (w h k : Nat) (Q : Nat → Int) (i : Nat) : Int := mvN (nK (gN iv) w h k) (xK (gN iv) w h k) (yK (gN iv) w h k) (iv 6 0) (iv 6 1) Q i
theorem shorten_S {k : Nat} {c : Int} (H : InvC iv O w h n) (hk : k < 6) (hc : c = (k : Int) + 1) : ∃ iv2 K, Run sc 91 0 [some (Rf 1), some (I c)] [] (hp iv) = some (some (I (itK iv w h k (O k) K).2), hp iv2) ∧ InvC iv2 (setQ O k (itK iv w h k (O k) (K + 1)).1) w h n ∧ FrX iv iv2 ∧ mvK iv w h k (O k) K = 0 ∧ ∀ j, j < K → mvK iv w h k (O k) j ≠ 0 := by
  subst hc
  obtain ⟨iv1, e1, H1, ht, fr⟩ := runsOf_S (sc := sc) H hk rfl
  have fx := fr.all hk
  obtain ⟨⟨⟨-, -, -, d4, -, d6⟩, -⟩, -⟩ := id H1
  obtain ⟨hR, ag, al, ao, pm0⟩ := (H1.2.2.2.2.2 k hk).view ht d4 d6
  have hy := H1.2.2.1
  have oO : OrdN (nK (gN iv1) w h k) (O k) := fun p hpp => by rw [← ao p hpp]; exact pm0.ord p hpp
  obtain ⟨K, hK, hK0, hK1⟩ := itM_end (X := iv1 (9 + 6 * k)) (Y := iv1 (10 + 6 * k)) (r := iv1 6 0) (t := iv1 6 1) oO (cost_all hR hy)
  obtain ⟨iv2, e2, o, p2, p3⟩ := shortenOrder_S (sc := sc) hk hR hy pm0 (O0 := O k) ao hK hK0 hK1
  have gn := fx.gn
  have e6 : iv1 6 = iv 6 := fx.e (by omega)
  have ei : ∀ i, itM (nK (gN iv1) w h k) (iv1 (9 + 6 * k)) (iv1 (10 + 6 * k)) (iv1 6 0) (iv1 6 1) (O k) i = itK iv w h k (O k) i := fun i => by
    unfold itK
    rw [itM_cg ag, gn, e6]
  have em : ∀ i, mvN (nK (gN iv1) w h k) (iv1 (9 + 6 * k)) (iv1 (10 + 6 * k)) (iv1 6 0) (iv1 6 1) (O k) i = mvK iv w h k (O k) i := fun i => by
    unfold mvK
    rw [mvN_cg ag, gn, e6]
  rw [ei] at e2
  refine ⟨iv2, K, ?_, H1.ord hk ht o (fun p hpp => by rw [p2 p hpp, ei]) p3, fx.tr (o.x hk), by rw [← em]; exact hK0, fun j hj => by rw [← em]; exact hK1 j hj⟩
  rw [B_X6_shorten_0, isColC_T (by omega), aBind_some, pushR_some, B_X6_shorten_4, ite_F (by omega), e1, aBind_some, pushR_some, B_X6_shorten_12 _ _ _ hk, e2, aBind_some, pushR_some, B_X6_shorten_15, B_X6_shorten_20]
theorem shorten_bad {c : Int} (hc : ¬ (1 ≤ c ∧ c ≤ 6)) : Run sc 91 0 [some (Rf 1), some (I c)] [] (hp iv) = some (some (I (-2)), hp iv) := by
  rw [B_X6_shorten_0, isColC_F hc, aBind_some, pushR_some, B_X6_shorten_4, ite_T rfl, B_X6_shorten_18, B_X6_shorten_20]
/-- what keeps cells and runs -/
theorem InvC.ch {n2 : Nat} (H : InvC iv O w h n) (f : ∀ k, k < 44 → k ≠ 6 → s k = iv k) (hL : LayB s) (hy : YarnB s) (hb : bitB (s 45) ∧ bitB (s 46) ∧ BkOut s w h) (ht : TxtB s n2) : InvC s O w h n2 := by
  obtain ⟨⟨h1, h1'⟩, -, -, -, -, h6⟩ := H
  have e4 := f 4 (by omega) (by omega)
  refine ⟨⟨?_, by rw [e4]; exact h1'⟩, hL, hy, hb, ht, fun k hk => ?_⟩
  · unfold DimB at h1 ⊢; rw [f 2 (by omega) (by omega)]; exact h1
  · exact (h6 k hk).cg (by rw [f 3 (by omega) (by omega)]) (fun x y _ _ => by unfold gN; rw [e4]) (by rw [f (8 + 6 * k) (by omega) (by omega)]; exact ⟨rfl, rfl⟩) (f _ (by omega) (by omega)) (f _ (by omega) (by omega)) (f _ (by omega) (by omega)) (f _ (by omega) (by omega)) (f _ (by omega) (by omega))
theorem setThread_S {a b : Int} (H : InvC iv O w h n) (ha : 0 ≤ a ∧ a ≤ 1000) (hb : 0 ≤ b ∧ b ≤ 200) : ∃ s, Run sc 92 0 [some (Rf 1), some (I a), some (I b), none] [] (hp iv) = some (some (I (1000 * iv 6 1 + iv 6 0)), hp s) ∧ InvC s O w h n ∧ (∀ k, k ≠ 6 → s k = iv k) ∧ s 6 0 = a ∧ s 6 1 = b := by
  obtain ⟨h1, h2, ⟨z1, z2⟩, h4, h5, h6⟩ := id H
  refine ⟨setO (setO iv 6 (upI (iv 6) 0 a)) 6 (upI ((setO iv 6 (upI (iv 6) 0 a)) 6) 1 b), ?_, ?_⟩
  · rw [B_X6_setThread_0, within_T ha, aBind_some, pushR_some, B_X6_setThread_8, ite_F (by omega), within_T hb, aBind_some, pushR_some, B_X6_setThread_19, ite_F (by omega), B_X6_setThread_25, chk_pos (by omega), chk_pos (by omega), bck_pos (by omega), B_X6_setThread_53, bck_pos (by omega), B_X6_setThread_61]
  · generalize hs : setO (setO iv 6 (upI (iv 6) 0 a)) 6 (upI ((setO iv 6 (upI (iv 6) 0 a)) 6) 1 b) = s
    have k6 : s 6 = upI (upI (iv 6) 0 a) 1 b := by rw [← hs, setO_same, setO_same]
    have kk : ∀ k, k ≠ 6 → s k = iv k := fun k u => by rw [← hs, setO_ne u, setO_ne u]
    have q0 : s 6 0 = a := by rw [k6, upI_ne (by omega), upI_same]
    have q1 : s 6 1 = b := by rw [k6, upI_same]
    refine ⟨H.ch (fun k _ u => kk k u) ?_ ?_ ?_ ?_, kk, q0, q1⟩
    · unfold LayB at h2 ⊢; rw [kk 49 (by omega)]; exact h2
    · unfold YarnB; rw [q0, q1]; exact ⟨ha, hb⟩
    · unfold BkOut at h4 ⊢; rw [kk 45 (by omega), kk 46 (by omega)]; exact h4
    · unfold TxtB at h5 ⊢; rw [kk 50 (by omega), kk 51 (by omega)]; exact h5
theorem setThread_bad {a b : Int} (hab : ¬ ((0 ≤ a ∧ a ≤ 1000) ∧ 0 ≤ b ∧ b ≤ 200)) : Run sc 92 0 [some (Rf 1), some (I a), some (I b), none] [] (hp iv) = some (some (I (-2)), hp iv) := by
  by_cases ha : 0 ≤ a ∧ a ≤ 1000
  · rw [B_X6_setThread_0, within_T ha, aBind_some, pushR_some, B_X6_setThread_8, ite_F (by omega), within_F (fun z => hab ⟨ha, z⟩), aBind_some, pushR_some, B_X6_setThread_19, ite_T rfl, B_X6_setThread_22]
  · rw [B_X6_setThread_0, within_F ha, aBind_some, pushR_some, B_X6_setThread_8, ite_T rfl, B_X6_setThread_22]
/-- back stitches changed -/
theorem InvC.bk (H : InvC iv O w h n) (kj : ∀ k, k ≠ 45 → k ≠ 46 → s k = iv k) (hb : bitB (s 45) ∧ bitB (s 46) ∧ BkOut s w h) : InvC s O w h n := by
  obtain ⟨h1, h2, h3, h4, h5, h6⟩ := id H
  refine H.ch (fun k a _ => kj k (by omega) (by omega)) ?_ ?_ hb ?_
  · unfold LayB at h2 ⊢; rw [kj 49 (by omega) (by omega)]; exact h2
  · unfold YarnB at h3 ⊢; rw [kj 6 (by omega) (by omega)]; exact h3
  · unfold TxtB at h5 ⊢; rw [kj 50 (by omega) (by omega), kj 51 (by omega) (by omega)]; exact h5
theorem clearBack_S (H : InvC iv O w h n) : ∃ s, Run sc 96 0 [some (Rf 1), none] [] (hp iv) = some (some (I (edgC w h (iv 45) (iv 46))), hp s) ∧ InvC s O w h n ∧ (∀ k, k ≠ 45 → k ≠ 46 → s k = iv k) ∧ ∀ j, j < 625 → s 45 j = 0 ∧ s 46 j = 0 := by
  obtain ⟨⟨h4, -⟩, -, -, ⟨b3, b4, -⟩, -⟩ := id H
  obtain ⟨s1, e1, kk, z1⟩ := remAll_S (sc := sc) (iv := iv)
  refine ⟨s1, ?_, H.bk kk ⟨fun j hj => by have := z1 j hj; omega, fun j hj => by have := z1 j hj; omega, fun j hj => ⟨fun _ => (z1 j hj).1, fun _ => (z1 j hj).2⟩⟩, kk, z1⟩
  rw [B_X6_clearBack_0, edg_S h4 b3 b4, aBind_some, pushR_some, B_X6_clearBack_7, e1, aBind_some, pushR_none, B_X6_clearBack_15]
theorem outU_in {c x y : Int} (hD : DimB iv w h) (hc : 1 ≤ c) (hx : 0 ≤ x) (hy : 0 ≤ y) (hne : hC iv c x y ≠ hC iv c (x - 1) y) : inU w h x y := by
  obtain ⟨d1, d2, d3, d4, d5, d6⟩ := hD
  refine Classical.byContradiction fun z => hne ?_
  rw [hC_out hc (by unfold inC; omega), hC_out hc (by unfold inC; omega)]
theorem outF_in {c x y : Int} (hD : DimB iv w h) (hc : 1 ≤ c) (hx : 0 ≤ x) (hy : 0 ≤ y) (hne : hC iv c x y ≠ hC iv c x (y - 1)) : inF w h x y := by
  obtain ⟨d1, d2, d3, d4, d5, d6⟩ := hD
  refine Classical.byContradiction fun z => hne ?_
  rw [hC_out hc (by unfold inC; omega), hC_out hc (by unfold inC; omega)]
theorem outline_S {c : Int} (H : InvC iv O w h n) (hc : 1 ≤ c ∧ c ≤ 6) : ∃ s, Run sc 95 0 [some (Rf 1), some (I c)] [] (hp iv) = some (some (I (outC iv w h c)), hp s) ∧ InvC s O w h n ∧ (∀ k, k ≠ 45 → k ≠ 46 → s k = iv k) ∧ ∀ j, j < 625 → s 45 j = nU iv c j ∧ s 46 j = nF iv c j := by
  obtain ⟨⟨h4, -⟩, -, -, ⟨b3, b4, h4'⟩, -⟩ := id H
  obtain ⟨i1, e1, kk, z1⟩ := out_S (sc := sc) h4 b3 b4 hc.1
  have bU : ∀ j, j < 625 → 0 ≤ nU iv c j ∧ nU iv c j ≤ 1 := fun j hj => by unfold nU; have := b3 j hj; split <;> omega
  have bF : ∀ j, j < 625 → 0 ≤ nF iv c j ∧ nF iv c j ≤ 1 := fun j hj => by unfold nF; have := b4 j hj; split <;> omega
  refine ⟨i1, ?_, H.bk kk ⟨fun j hj => by rw [(z1 j hj).1]; exact bU j hj, fun j hj => by rw [(z1 j hj).2]; exact bF j hj, fun j hj => ⟨fun z => ?_, fun z => ?_⟩⟩, kk, z1⟩
  · rw [B_X6_outline_0, isColC_T hc, aBind_some, pushR_some, B_X6_outline_4, ite_F (by omega), e1, aBind_some, pushR_some, B_X6_outline_15, B_X6_outline_20]
  · rw [(z1 j hj).1]
    unfold nU
    rw [if_neg (fun y => z (outU_in h4 hc.1 pXY.1.1 pXY.2.1 y))]
    exact (h4' j hj).1 z
  · rw [(z1 j hj).2]
    unfold nF
    rw [if_neg (fun y => z (outF_in h4 hc.1 pXY.1.1 pXY.2.1 y))]
    exact (h4' j hj).2 z
theorem outline_bad {c : Int} (hc : ¬ (1 ≤ c ∧ c ≤ 6)) : Run sc 95 0 [some (Rf 1), some (I c)] [] (hp iv) = some (some (I (-2)), hp iv) := by
  rw [B_X6_outline_0, isColC_F hc, aBind_some, pushR_some, B_X6_outline_4, ite_T rfl, B_X6_outline_18, B_X6_outline_20]
theorem setBackU_S {x y on : Int} (H : InvC iv O w h n) (hon : 0 ≤ on ∧ on ≤ 1) (c : inU w h x y) : ∃ s, Run sc 93 0 [some (Rf 1), some (I x), some (I y), some (I 1), some (I on)] [] (hp iv) = some (some (I (if iv 45 (y * 25 + x).toNat = on then 0 else 1)), hp s) ∧ InvC s O w h n ∧ (∀ k, k ≠ 45 → s k = iv k) ∧ ∀ i, s 45 i = if i = (y * 25 + x).toNat then on else iv 45 i := by
  obtain ⟨⟨h4, -⟩, -, -, ⟨b3, b4, h4'⟩, -⟩ := id H
  obtain ⟨d1, d2, d3, d4, d5, d6⟩ := id h4
  have e1 := putU_S (sc := sc) h4 b3 c hon
  generalize hs1 : bkP iv 45 (y * 25 + x).toNat on = s1 at e1
  have kk : ∀ k, k ≠ 45 → s1 k = iv k := fun k u => by rw [← hs1, bkP_ne u]
  have v45 : ∀ i, s1 45 i = if i = (y * 25 + x).toNat then on else iv 45 i := fun i => by rw [← hs1, bkP_eq]
  refine ⟨s1, ?_, H.bk (fun k a _ => kk k a) ⟨fun j hj => ?_, by rw [kk 46 (by omega)]; exact b4, fun j hj => ⟨fun z => ?_, fun z => by rw [kk 46 (by omega)]; exact (h4' j hj).2 z⟩⟩, kk, v45⟩
  · rw [B_X6_setBack_0, hasU_T h4 c, aBind_some, pushR_some, B_X6_setBack_10, ite_F (by omega), e1, aBind_some, pushR_some, B_X6_setBack_25, B_X6_setBack_29]
  · rw [v45]; have := b3 j hj; split <;> omega
  · rw [v45]
    by_cases e : j = (y * 25 + x).toNat
    · exfalso
      obtain ⟨p1, p2, p3, p4, p5⟩ := pXY (a := j)
      have ex : pX j = x := by omega
      have ey : pY j = y := by omega
      rw [ex, ey] at z
      exact z c
    · rw [if_neg e]; exact (h4' j hj).1 z
theorem setBackF_S {x y on : Int} (H : InvC iv O w h n) (hon : 0 ≤ on ∧ on ≤ 1) (c : inF w h x y) : ∃ s, Run sc 93 0 [some (Rf 1), some (I x), some (I y), some (I 0), some (I on)] [] (hp iv) = some (some (I (if iv 46 (y * 25 + x).toNat = on then 0 else 1)), hp s) ∧ InvC s O w h n ∧ (∀ k, k ≠ 46 → s k = iv k) ∧ ∀ i, s 46 i = if i = (y * 25 + x).toNat then on else iv 46 i := by
  obtain ⟨⟨h4, -⟩, -, -, ⟨b3, b4, h4'⟩, -⟩ := id H
  obtain ⟨d1, d2, d3, d4, d5, d6⟩ := id h4
  have e1 := putF_S (sc := sc) h4 b4 c hon
  generalize hs1 : bkP iv 46 (y * 25 + x).toNat on = s1 at e1
  have kk : ∀ k, k ≠ 46 → s1 k = iv k := fun k u => by rw [← hs1, bkP_ne u]
  have v46 : ∀ i, s1 46 i = if i = (y * 25 + x).toNat then on else iv 46 i := fun i => by rw [← hs1, bkP_eq]
  refine ⟨s1, ?_, H.bk (fun k _ a => kk k a) ⟨by rw [kk 45 (by omega)]; exact b3, fun j hj => ?_, fun j hj => ⟨fun z => by rw [kk 45 (by omega)]; exact (h4' j hj).1 z, fun z => ?_⟩⟩, kk, v46⟩
  · rw [B_X6_setBack_0, hasF_T h4 c, aBind_some, pushR_some, B_X6_setBack_10, ite_F (by omega), e1, aBind_some, pushR_some, B_X6_setBack_25, B_X6_setBack_29]
  · rw [v46]; have := b4 j hj; split <;> omega
  · rw [v46]
    by_cases e : j = (y * 25 + x).toNat
    · exfalso
      obtain ⟨p1, p2, p3, p4, p5⟩ := pXY (a := j)
      have ex : pX j = x := by omega
      have ey : pY j = y := by omega
      rw [ex, ey] at z
      exact z c
    · rw [if_neg e]; exact (h4' j hj).2 z
theorem setBackU_no {x y on : Int} (H : InvC iv O w h n) (c : ¬ inU w h x y) : Run sc 93 0 [some (Rf 1), some (I x), some (I y), some (I 1), some (I on)] [] (hp iv) = some (some (I (-1)), hp iv) := by
  rw [B_X6_setBack_0, hasU_F H.1.1 c, aBind_some, pushR_some, B_X6_setBack_10, ite_T rfl, B_X6_setBack_28, B_X6_setBack_29]
theorem setBackF_no {x y on : Int} (H : InvC iv O w h n) (c : ¬ inF w h x y) : Run sc 93 0 [some (Rf 1), some (I x), some (I y), some (I 0), some (I on)] [] (hp iv) = some (some (I (-1)), hp iv) := by
  rw [B_X6_setBack_0, hasF_F H.1.1 c, aBind_some, pushR_some, B_X6_setBack_10, ite_T rfl, B_X6_setBack_28, B_X6_setBack_29]
theorem setPages_S {a b c : Int} (H : InvC iv O w h n) (ha : 4 ≤ a ∧ a ≤ 24) (hb : 4 ≤ b ∧ b ≤ 24) (hc : 0 ≤ c ∧ c ≤ 3) : ∃ s, Run sc 98 0 [some (Rf 1), some (I a), some (I b), some (I c)] [] (hp iv) = some (some (I (acr s * dwn s)), hp s) ∧ InvC s O w h n ∧ ∀ k, k ≠ 49 → s k = iv k := by
  obtain ⟨⟨h4, -⟩, h2, h3, h4', h5, h6⟩ := id H
  obtain ⟨s1, hs1⟩ : ∃ s1, setO (setO (setO iv 49 (upI (iv 49) 1 a)) 49 (upI ((setO iv 49 (upI (iv 49) 1 a)) 49) 2 b)) 49 (upI ((setO (setO iv 49 (upI (iv 49) 1 a)) 49 (upI ((setO iv 49 (upI (iv 49) 1 a)) 49) 2 b)) 49) 3 c) = s1 := ⟨_, rfl⟩
  have k49 : s1 49 = upI (upI (upI (iv 49) 1 a) 2 b) 3 c := by rw [← hs1, setO_same, setO_same, setO_same]
  have kk : ∀ k, k ≠ 49 → s1 k = iv k := fun k u => by rw [← hs1, setO_ne u, setO_ne u, setO_ne u]
  have q1 : s1 49 1 = a := by rw [k49, upI_ne (by omega), upI_ne (by omega), upI_same]
  have q2 : s1 49 2 = b := by rw [k49, upI_ne (by omega), upI_same]
  have q3 : s1 49 3 = c := by rw [k49, upI_same]
  have hL1 : LayB s1 := by unfold LayB; rw [q1, q2, q3]; exact ⟨ha, hb, hc⟩
  have hD1 : DimB s1 w h := by unfold DimB; rw [kk 2 (by omega)]; exact h4
  refine ⟨s1, ?_, H.ch (fun k u _ => kk k (by omega)) hL1 ?_ ?_ ?_, kk⟩
  · rw [B_X6_setPages_0, within_T ha, aBind_some, pushR_some, B_X6_setPages_7, ite_F (by omega), within_T hb, aBind_some, pushR_some, B_X6_setPages_17, ite_F (by omega), within_T hc, aBind_some, pushR_some, B_X6_setPages_26, ite_F (by omega), B_X6_setPages_32, bck_pos (by omega), B_X6_setPages_40, bck_pos (by omega), B_X6_setPages_48, bck_pos (by omega), hs1, B_X6_setPages_56, tot_S hL1 hD1, aBind_some, pushR_some, B_X6_setPages_63]
  · unfold YarnB at h3 ⊢; rw [kk 6 (by omega)]; exact h3
  · unfold BkOut at h4' ⊢; rw [kk 45 (by omega), kk 46 (by omega)]; exact h4'
  · unfold TxtB at h5 ⊢; rw [kk 50 (by omega), kk 51 (by omega)]; exact h5
theorem setPages_bad {a b c : Int} (habc : ¬ ((4 ≤ a ∧ a ≤ 24) ∧ (4 ≤ b ∧ b ≤ 24) ∧ 0 ≤ c ∧ c ≤ 3)) : Run sc 98 0 [some (Rf 1), some (I a), some (I b), some (I c)] [] (hp iv) = some (some (I (-2)), hp iv) := by
  by_cases ha : 4 ≤ a ∧ a ≤ 24
  · by_cases hb : 4 ≤ b ∧ b ≤ 24
    · rw [B_X6_setPages_0, within_T ha, aBind_some, pushR_some, B_X6_setPages_7, ite_F (by omega), within_T hb, aBind_some, pushR_some, B_X6_setPages_17, ite_F (by omega), within_F (fun z => habc ⟨ha, hb, z⟩), aBind_some, pushR_some, B_X6_setPages_26, ite_T rfl, B_X6_setPages_29]
    · rw [B_X6_setPages_0, within_T ha, aBind_some, pushR_some, B_X6_setPages_7, ite_F (by omega), within_F hb, aBind_some, pushR_some, B_X6_setPages_17, ite_T rfl, B_X6_setPages_29]
  · rw [B_X6_setPages_0, within_F ha, aBind_some, pushR_some, B_X6_setPages_7, ite_T rfl, B_X6_setPages_29]
/-- text changed -/
theorem InvC.tx {n2 : Nat} (H : InvC iv O w h n) (kj : ∀ k, k ≠ 50 → k ≠ 51 → s k = iv k) (ht : TxtB s n2) : InvC s O w h n2 := by
  obtain ⟨h1, h2, h3, h4, h5, h6⟩ := id H
  refine H.ch (fun k a _ => kj k (by omega) (by omega)) ?_ ?_ ?_ ht
  · unfold LayB at h2 ⊢; rw [kj 49 (by omega) (by omega)]; exact h2
  · unfold YarnB at h3 ⊢; rw [kj 6 (by omega) (by omega)]; exact h3
  · unfold BkOut at h4 ⊢; rw [kj 45 (by omega) (by omega), kj 46 (by omega) (by omega)]; exact h4
theorem type_S {c : Int} (H : InvC iv O w h n) (hc : 0 ≤ c ∧ c ≤ 65535) (hn : n < 120) : ∃ s, Run sc 78 0 [some (Rf 1), some (I c)] [] (hp iv) = some (some (I ((n : Int) + 1)), hp s) ∧ InvC s O w h (n + 1) ∧ (∀ k, k ≠ 50 → k ≠ 51 → s k = iv k) ∧ s 51 = upI (iv 51) n c := by
  have hT := H.2.2.2.2.1
  obtain ⟨t1, t2, t3⟩ := id hT
  generalize hs1 : setO (setO iv 51 (upI (iv 51) n c)) 50 (upI (iv 50) 1 ((n : Int) + 1)) = s1
  have k50 : s1 50 = upI (iv 50) 1 ((n : Int) + 1) := by rw [← hs1, setO_same]
  have k51 : s1 51 = upI (iv 51) n c := by rw [← hs1, setO_ne (by omega), setO_same]
  have kk : ∀ k, k ≠ 50 → k ≠ 51 → s1 k = iv k := fun k u v => by rw [← hs1, setO_ne u, setO_ne v]
  refine ⟨s1, ?_, H.tx kk ⟨?_, by omega, fun i hi => ?_⟩, kk, k51⟩
  · rw [B_X6_type_0, app_T hT hn hc, aBind_some, pushR_some, B_X6_type_8, ite_F (by omega), hs1, k50, upI_same, B_X6_type_23]
  · rw [k50, upI_same]; omega
  · rw [k51]
    by_cases e : i = n
    · rw [e, upI_same]; exact hc
    · rw [upI_ne e]; exact t3 i (by omega)
theorem clearText_S (H : InvC iv O w h n) : ∃ s, Run sc 79 0 [some (Rf 1), none] [] (hp iv) = some (some (I n), hp s) ∧ InvC s O w h 0 ∧ ∀ k, k ≠ 50 → s k = iv k := by
  obtain ⟨t1, t2, t3⟩ := id H.2.2.2.2.1
  generalize hs1 : setO iv 50 (upI (iv 50) 1 0) = s1
  have k50 : s1 50 = upI (iv 50) 1 0 := by rw [← hs1, setO_same]
  have kk : ∀ k, k ≠ 50 → s1 k = iv k := fun k u => by rw [← hs1, setO_ne u]
  refine ⟨s1, ?_, H.tx (fun k a _ => kk k a) ⟨?_, by omega, fun i hi => absurd hi (Nat.not_lt_zero _)⟩, kk⟩
  · rw [B_X6_clearText_0, bck_pos (by omega), t1, hs1, B_X6_clearText_16]
  · rw [k50, upI_same]; rfl
theorem readBad_S (H : InvC iv O w h n) (hf : fltF (iv 51) n w h ≠ -1) : ∃ s, Run sc 80 0 [some (Rf 1), none] [] (hp iv) = some (some (I (-100 - fltF (iv 51) n w h)), hp s) ∧ InvC s O w h n ∧ ∀ k, k ≠ 50 → s k = iv k := by
  have hT := H.2.2.2.2.1
  obtain ⟨⟨⟨d1, d2, d3, d4, d5, d6⟩, -⟩, -⟩ := id H
  have n120 := hT.2.1
  obtain ⟨a, b, e1⟩ := flt_S (sc := sc) (w := w) (h := h) hT (by omega) (by omega)
  have cb := cfF_b (T := iv 51) (n := n) n 0 0 0 (by omega) (by omega)
  refine ⟨tx iv a b, ?_, H.tx (fun k x _ => tx_ne x) ?_, fun k x => tx_ne x⟩
  · have hz : -1 ≤ fltF (iv 51) n w h ∧ fltF (iv 51) n w h ≤ 120 := by
      unfold fltF
      split
      · split <;> omega
      · omega
    rw [B_X6_readChart_0, d1, d2, e1, aBind_some, pushR_some, B_X6_readChart_21, if_neg hf, B_X6_readChart_41, chk_pos (by omega), B_X6_readChart_45]
  · unfold TxtB at hT ⊢
    rw [tx_1, tx_ne (show 51 ≠ 50 by omega)]; exact hT
theorem readNone_S (H : InvC iv O w h 0) : ∃ s, Run sc 80 0 [some (Rf 1), none] [] (hp iv) = some (some (I 0), hp s) := by
  have hT := H.2.2.2.2.1
  obtain ⟨⟨⟨d1, d2, d3, d4, d5, d6⟩, a3⟩, -⟩ := id H
  obtain ⟨a, b, e1⟩ := flt_S (sc := sc) (w := w) (h := h) hT (by omega) (by omega)
  have ef : fltF (iv 51) 0 w h = -1 := rfl
  have t4 : tx iv 0 0 4 = iv 4 := tx_ne (by omega)
  obtain ⟨s1, m2, a2', b2', g1, g2, g3⟩ := draw_S (sc := sc) (n := 0) (w := w) (h := h) hT d1 d2 ⟨d3, d4⟩ ⟨d5, d6⟩ 0 0 0 0 0 0 0 none (tx iv 0 0) (by omega) digB.z (by omega) (by omega) (by omega) rfl rfl (ChG.rf (fun j hj => by rw [t4]; exact a3 j hj)) (fun j _ => by rw [t4])
  have e4 : s1 4 = iv 4 := by rw [g3]; exact t4
  have em : m2 = 0 := by
    rw [g2.2.2.2.1, e4, tx_ne (show 4 ≠ 50 by omega)]
    exact sumN_zero fun j _ => if_pos rfl
  subst em
  refine ⟨s1, ?_⟩
  rw [B_X6_readChart_0, d1, d2, e1, aBind_some, pushR_some, ef, B_X6_readChart_21, if_pos rfl, B_X1_drawOn_0, startN_T, aBind_some, pushR_none, B_X1_drawOn_4]
  rw [show (((0 : Nat) : Int)) = 0 from rfl] at g1
  rw [g1, aBind_some, pushR_some, B_X6_readChart_38, B_X6_readChart_45]
end CALLS
