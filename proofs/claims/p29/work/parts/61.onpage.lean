/-! onPage, backs */ -/
section ONPAGE
variable {sc : Nat × (Nat → Int)} {iv iv1 iv2 : Nat → Nat → Int} {O : Nat → Nat → Int} {w h n : Nat}
theorem ownC_fr (f : FrX iv iv2) : ownC iv2 = ownC iv := by
  funext x y
  unfold ownC
  rw [f.e (j := 2) (by omega), f.e (j := 49) (by omega)]
theorem lefC_fr (f : FrX iv iv2) : lefC iv2 = lefC iv ∧ topC iv2 = topC iv ∧ rigC iv2 = rigC iv ∧ botC iv2 = botC iv ∧ acr iv2 = acr iv ∧ dwn iv2 = dwn iv := by
  have e2 := f.e (j := 2) (by omega)
  have e49 := f.e (j := 49) (by omega)
  have a : acr iv2 = acr iv := by unfold acr; rw [e2, e49]
  have d : dwn iv2 = dwn iv := by unfold dwn; rw [e2, e49]
  have l : lefC iv2 = lefC iv := by funext p; unfold lefC; rw [a, e49]
  have t : topC iv2 = topC iv := by funext p; unfold topC; rw [a, e49]
  exact ⟨l, t, by funext p; unfold rigC; rw [l, e2, e49], by funext p; unfold botC; rw [t, e2, e49], a, d⟩
theorem talC_fr (f : FrX iv iv2) : talC iv2 = talC iv := by
  obtain ⟨l, t, r, eb, -, -⟩ := lefC_fr f
  have hT : talT iv2 = talT iv := by
    funext p b lo hi x y
    unfold talT
    rw [ownC_fr f, gC_congr (f.e (by omega)) (f.e (by omega))]
  funext p b lo hi
  unfold talC
  rw [l, t, r, eb, hT]
theorem talC_b {p b lo hi : Int} (hL : LayB iv) (hD : DimB iv w h) (hp0 : 0 ≤ p ∧ p ≤ 2500) : 0 ≤ talC iv p b lo hi ∧ talC iv p b lo hi ≤ 576 := by
  obtain ⟨d1, d2, d3, d4, d5, d6⟩ := id hD
  have l := lef_b (p := p) hL hD
  have t := top_b hL hD hp0
  have r : rigC iv p ≤ w := by unfold rigC; split <;> omega
  have bb : botC iv p ≤ h := by unfold botC; split <;> omega
  unfold talC
  exact sum2_b (f := fun j i => talT iv p b lo hi (lefC iv p + i) (topC iv p + j)) (by omega) (by omega) (fun j i => talT_b)
theorem spT_b {own : Int → Int → Int} {p : Int} {n q : Nat} {X Y O : Nat → Int} {r t : Int} (ht : 0 ≤ t ∧ t ≤ 200) (hc : 0 ≤ cpF X Y r t O q ∧ cpF X Y r t O q ≤ 1000) : 0 ≤ spT own p n X Y r t O q ∧ spT own p n X Y r t O q ≤ 2000 := by
  unfold spT
  split
  · split <;> split <;> omega
  · omega
theorem rpF_b {own : Int → Int → Int} {p : Int} {n : Nat} {X Y : Nat → Int} : 0 ≤ rpF own p n X Y ∧ rpF own p n X Y ≤ n := by
  unfold rpF
  have h1 := sumN_le (f := fun r => if own (X r) (Y r) = p then (1 : Int) else 0) (n := n) (c := 1) (fun i _ => by split <;> omega)
  have h2 := sumN_nonneg (f := fun r => if own (X r) (Y r) = p then (1 : Int) else 0) (n := n) (fun i _ => by split <;> omega)
  omega
theorem spF_b {own : Int → Int → Int} {p : Int} {n : Nat} {X Y O : Nat → Int} {r t : Int} (hn : n ≤ 288) (ht : 0 ≤ t ∧ t ≤ 200) (hc : ∀ q, q < n → 0 ≤ cpF X Y r t O q ∧ cpF X Y r t O q ≤ 1000) : 0 ≤ spF own p n X Y r t O ∧ spF own p n X Y r t O ≤ 576000 := by
  unfold spF
  have h1 := sumN_le (f := spT own p n X Y r t O) (n := n) (c := 2000) (fun i hi => (spT_b ht (hc i hi)).2)
  have h2 := sumN_nonneg (f := spT own p n X Y r t O) (n := n) (fun i hi => (spT_b ht (hc i hi)).1)
  omega
/-- what onPage tells of one color -/
noncomputable def opC (iv : Nat → Nat → Int) (O : Nat → Nat → Int) (w h : Nat) (p : Int) (what : Int) (k : Nat) : Int := if what = 0 then talC iv p 1 ((k : Int) + 1) ((k : Int) + 1) else if what = 1 then rpF (ownC iv) p (nK (gN iv) w h k) (xK (gN iv) w h k) (yK (gN iv) w h k) else 48 * talC iv p 1 ((k : Int) + 1) ((k : Int) + 1) + spF (ownC iv) p (nK (gN iv) w h k) (xK (gN iv) w h k) (yK (gN iv) w h k) (iv 6 0) (iv 6 1) (O k)
theorem opC_fr {k : Nat} {p what : Int} (f : FrX iv iv2) : opC iv2 O w h p what k = opC iv O w h p what k := by
  unfold opC
  rw [ownC_fr f, talC_fr f, f.gn, f.e (j := 6) (by omega)]
theorem opC_b {k : Nat} {p what : Int} (H : InvC iv O w h n) (hk : k < 6) (hp0 : 0 ≤ p ∧ p ≤ 2500) : 0 ≤ opC iv O w h p what k ∧ opC iv O w h p what k ≤ 1000000 := by
  obtain ⟨⟨hD, -⟩, hL, hy, -⟩ := id H
  obtain ⟨⟨q1, q2⟩, hO, -⟩ := H.bnd hk
  have b1 := talC_b (b := 1) (lo := (k : Int) + 1) (hi := (k : Int) + 1) hL hD hp0
  have b2 := rpF_b (own := ownC iv) (p := p) (n := nK (gN iv) w h k) (X := xK (gN iv) w h k) (Y := yK (gN iv) w h k)
  have b3 := spF_b (own := ownC iv) (p := p) q1 hy.2 (fun q hq => H.cp_b hk hq)
  unfold opC
  split
  · omega
  · split <;> omega
set_option maxHeartbeats 1000000 in
theorem op1_S {k : Nat} {p what : Int} (H : InvC iv O w h n) (hk : k < 6) (hp0 : 0 ≤ p ∧ p ≤ 2500) (hw : 0 ≤ what ∧ what ≤ 2) : ∃ iv2, Run sc 107 0 [some (Rf 1), some (I p), some (I ((k : Int) + 1)), some (I what), none] [] (hp iv) = some (some (I (opC iv O w h p what k)), hp iv2) ∧ InvC iv2 O w h n ∧ FrX iv iv2 := by
  obtain ⟨⟨hD, -⟩, hL, hy, -⟩ := id H
  obtain ⟨d1, d2, d3, d4, d5, d6⟩ := id hD
  have b1 := talC_b (b := 1) (lo := (k : Int) + 1) (hi := (k : Int) + 1) hL hD hp0
  rw [B_X6_countOfColorOnPage_0, tal_S hL hD hp0 (by omega), aBind_some, pushR_some, B_X6_countOfColorOnPage_11]
  by_cases c0 : what = 0
  · refine ⟨iv, ?_, H, FrX.rf⟩
    unfold opC
    rw [if_pos c0, if_pos c0, B_X6_countOfColorOnPage_40]
  · rw [if_neg c0]
    obtain ⟨iv1, e1, H1, ht, fr⟩ := runsOf_S (sc := sc) H hk rfl
    have fa := fr.all hk
    have hs := H1.2.2.2.2.2 k hk
    obtain ⟨⟨hD1, -⟩, hL1, hy1, -⟩ := id H1
    obtain ⟨hR, ag, al, ao, pm0⟩ := hs.view ht d4 d6
    have ev := opC_fr (O := O) (w := w) (h := h) (k := k) (p := p) (what := what) fa
    refine ⟨iv1, ?_, H1, fa⟩
    rw [← ev]
    unfold opC
    rw [if_neg c0]
    by_cases c1 : what = 1
    · rw [if_pos c1, if_pos c1, B_X6_countOfColorOnPage_43, e1, aBind_some, pushR_some, B_X6_countOfColorOnPage_48 _ _ _ hk, rop_S hk hL1 hD1 hR, aBind_some, pushR_some, B_X6_countOfColorOnPage_56, rpF_cg ag]
    · have b3 := spF_b (own := ownC iv1) (p := p) (X := iv1 (9 + 6 * k)) (Y := iv1 (10 + 6 * k)) (r := iv1 6 0) (t := iv1 6 1) (O := iv1 (12 + 6 * k)) hR.2.1 hy1.2 (fun q hq => cpF_b hR hy1 pm0.ord hq)
      have es := spF_cg (own := ownC iv1) (p := p) (r := iv1 6 0) (t := iv1 6 1) ag pm0.ord (fun q hq => (ao q hq).symm)
      rw [if_neg c1, if_neg c1, if_pos (by omega), B_X6_countOfColorOnPage_57, chk_pos (by omega), e1, aBind_some, pushR_some, B_X6_countOfColorOnPage_67 _ _ _ hk, sop_S hk hL1 hD1 hR hy1 pm0.ord, aBind_some, pushR_some, B_X6_countOfColorOnPage_75, chk_pos (by omega), es, talC_fr fa]
theorem onPage_S {p c what : Int} (H : InvC iv O w h n) (hpp : 0 ≤ p ∧ p < acr iv * dwn iv) (hc : 0 ≤ c ∧ c ≤ 6) (hw : 0 ≤ what ∧ what ≤ 2) : ∃ iv2, Run sc 100 0 [some (Rf 1), some (I p), some (I c), some (I what), none, none] [] (hp iv) = some (some (I (selT (opC iv O w h p what) c)), hp iv2) ∧ InvC iv2 O w h n ∧ FrX iv iv2 := by
  obtain ⟨⟨hD, -⟩, hL, -⟩ := id H
  have tb := tot_b hL hD
  have hp0 : 0 ≤ p ∧ p ≤ 2500 := by omega
  rw [B_X6_onPage_0, hasP_T hL hD hpp, aBind_some, pushR_some, B_X6_onPage_8, ite_F (by omega), B_X6_onPage_13, within_T hc, aBind_some, pushR_some, B_X6_onPage_20, ite_F (by omega), within_T hw, aBind_some, pushR_some, B_X6_onPage_29, ite_F (by omega), B_X6_onPage_35]
  obtain ⟨s, e, g1, g2, g3, g4⟩ := loop_ex (fun i (s : Int × (Nat → Nat → Int)) => Run sc 100 41 [some (Rf 1), some (I p), some (I c), some (I what), some (I s.1), some (I (i + 1))] [] (hp s.2)) (fun i s => s.1 = sumN (selS (opC iv O w h p what) c) i ∧ (0 ≤ s.1 ∧ s.1 ≤ 1000000 * i) ∧ InvC s.2 O w h n ∧ FrX iv s.2) 6 0 (0, iv) (Nat.zero_le _) ⟨rfl, by simp, H, FrX.rf⟩ (fun i s _ hi hP => by
    obtain ⟨a, s⟩ := s
    obtain ⟨p1, p2, p3, p4⟩ := hP
    dsimp only at p1 p2 p3 p4
    have hv := opC_b (p := p) (what := what) H hi hp0
    have es : sumN (selS (opC iv O w h p what) c) (i + 1) = sumN (selS (opC iv O w h p what) c) i + selS (opC iv O w h p what) c i := rfl
    by_cases q : c = 0 ∨ c = ((i + 1 : Nat) : Int)
    · obtain ⟨s2, e2, h2, f2⟩ := op1_S (sc := sc) (what := what) p3 hi hp0 hw
      rw [opC_fr p4] at e2
      have sel : selS (opC iv O w h p what) c i = opC iv O w h p what i := if_pos q
      refine ⟨(a + opC iv O w h p what i, s2), ?_, by rw [es, sel, ← p1], by show 0 ≤ a + _ ∧ a + _ ≤ 1000000 * ((i + 1 : Nat) : Int); omega, h2, p4.tr f2⟩
      dsimp only
      have hd : Run sc 100 41 [some (Rf 1), some (I p), some (I c), some (I what), some (I a), some (I ((i : Int) + 1))] [] (hp s) = Run sc 100 58 [some (Rf 1), some (I p), some (I c), some (I what), some (I a), some (I ((i : Int) + 1))] [] (hp s) := by
        rw [B_X6_onPage_41, ite_F (by omega)]
        by_cases z : c = 0
        · rw [if_pos z]
        · rw [if_neg z, if_pos (by omega)]
      rw [hd, B_X6_onPage_58, e2, aBind_some, pushR_some, B_X6_onPage_68, chk_pos (by omega), B_X6_onPage_71, chk_pos (by omega)]
    · have sel : selS (opC iv O w h p what) c i = 0 := if_neg q
      refine ⟨(a, s), ?_, by rw [es, sel, ← p1, Int.add_zero], by show 0 ≤ a ∧ a ≤ 1000000 * ((i + 1 : Nat) : Int); omega, p3, p4⟩
      dsimp only
      rw [B_X6_onPage_41, ite_F (by omega), if_neg (by omega), if_neg (by omega), B_X6_onPage_71, chk_pos (by omega)])
  obtain ⟨a, s⟩ := s
  dsimp only at g1 g3 g4
  refine ⟨s, (show _ = _ from e).trans ?_, g3, g4⟩
  show Run sc 100 41 [some (Rf 1), some (I p), some (I c), some (I what), some (I a), some (I (6 + 1))] [] (hp s) = _
  rw [B_X6_onPage_41, ite_T (by omega), B_X6_onPage_77, g1]
  rfl
theorem onPage_bad {p c what : Int} (H : InvC iv O w h n) : (¬ (0 ≤ p ∧ p < acr iv * dwn iv) → Run sc 100 0 [some (Rf 1), some (I p), some (I c), some (I what), none, none] [] (hp iv) = some (some (I (-1)), hp iv)) ∧ (0 ≤ p ∧ p < acr iv * dwn iv → ¬ ((0 ≤ c ∧ c ≤ 6) ∧ 0 ≤ what ∧ what ≤ 2) → Run sc 100 0 [some (Rf 1), some (I p), some (I c), some (I what), none, none] [] (hp iv) = some (some (I (-2)), hp iv)) := by
  obtain ⟨⟨hD, -⟩, hL, -⟩ := id H
  refine ⟨fun hpp => ?_, fun hpp hc => ?_⟩
  · rw [B_X6_onPage_0, hasP_F hL hD hpp, aBind_some, pushR_some, B_X6_onPage_8, ite_T rfl]
  · by_cases h1 : 0 ≤ c ∧ c ≤ 6
    · rw [B_X6_onPage_0, hasP_T hL hD hpp, aBind_some, pushR_some, B_X6_onPage_8, ite_F (by omega), B_X6_onPage_13, within_T h1, aBind_some, pushR_some, B_X6_onPage_20, ite_F (by omega), within_F (fun z => hc ⟨h1, z⟩), aBind_some, pushR_some, B_X6_onPage_29, ite_T rfl, B_X6_onPage_32]
    · rw [B_X6_onPage_0, hasP_T hL hD hpp, aBind_some, pushR_some, B_X6_onPage_8, ite_F (by omega), B_X6_onPage_13, within_F h1, aBind_some, pushR_some, B_X6_onPage_20, ite_T rfl, B_X6_onPage_32]
/-- what keeps cells, yarn, pages, back stitches, text and what is looked up -/
theorem InvC.search (H : InvC iv O w h n) (o : OnlyB iv iv2) : InvC iv2 O w h n := by
  obtain ⟨⟨h1, h1'⟩, h2, h3, h4, h5, h6⟩ := H
  have k : ∀ j, j ≠ 47 → j ≠ 48 → j ≠ 44 → iv2 j = iv j := o.1
  have e4 := k 4 (by omega) (by omega) (by omega)
  refine ⟨⟨?_, by rw [e4]; exact h1'⟩, ?_, ?_, ?_, ?_, fun c hc => ?_⟩
  · unfold DimB at h1 ⊢; rw [k 2 (by omega) (by omega) (by omega)]; exact h1
  · unfold LayB at h2 ⊢; rw [k 49 (by omega) (by omega) (by omega)]; exact h2
  · unfold YarnB at h3 ⊢; rw [k 6 (by omega) (by omega) (by omega)]; exact h3
  · unfold BkOut at h4 ⊢; rw [k 45 (by omega) (by omega) (by omega), k 46 (by omega) (by omega) (by omega)]; exact h4
  · unfold TxtB at h5 ⊢; rw [k 50 (by omega) (by omega) (by omega), k 51 (by omega) (by omega) (by omega)]; exact h5
  · exact (h6 c hc).cg (by rw [k 3 (by omega) (by omega) (by omega)]) (fun x y _ _ => by unfold gN; rw [e4]) (by rw [k (8 + 6 * c) (by omega) (by omega) (by omega)]; exact ⟨rfl, rfl⟩) (k _ (by omega) (by omega) (by omega)) (k _ (by omega) (by omega) (by omega)) (k _ (by omega) (by omega) (by omega)) (k _ (by omega) (by omega) (by omega)) (k _ (by omega) (by omega) (by omega))
theorem OnlyB.x (o : OnlyB iv iv2) : FrX iv iv2 := fun j _ a b c _ => o.1 j b c a
theorem edgC_b {w h : Nat} {U F : Nat → Int} (hw : w ≤ 24) (hh : h ≤ 24) (hU : bitB U) (hF : bitB F) : 0 ≤ edgC w h U F ∧ edgC w h U F ≤ 1250 := by
  unfold edgC
  have h1 : ∀ j : Nat, 0 ≤ sumN (fun i => eU w h U i j + eF w h F i j) (w + 1) ∧ sumN (fun i => eU w h U i j + eF w h F i j) (w + 1) ≤ 50 := fun j => by
    have hb : ∀ i : Nat, 0 ≤ eU w h U i j + eF w h F i j ∧ eU w h U i j + eF w h F i j ≤ 2 := fun i => by
      have := eU_b (w := w) (h := h) (x := i) (y := j) hU (by omega) (by omega)
      have := eF_b (w := w) (h := h) (x := i) (y := j) hF (by omega) (by omega)
      omega
    have := sumN_le (f := fun i => eU w h U i j + eF w h F i j) (n := w + 1) (c := 2) (fun i _ => (hb i).2)
    have := sumN_nonneg (f := fun i => eU w h U i j + eF w h F i j) (n := w + 1) (fun i _ => (hb i).1)
    omega
  have := sumN_le (f := fun j => sumN (fun i => eU w h U i j + eF w h F i j) (w + 1)) (n := h + 1) (c := 50) (fun j _ => (h1 j).2)
  have := sumN_nonneg (f := fun j => sumN (fun i => eU w h U i j + eF w h F i j) (w + 1)) (n := h + 1) (fun j _ => (h1 j).1)
  omega
/-- groups and strands -/
noncomputable def grC (w h : Nat) (U F : Nat → Int) : Int := (grS (adjP w h U F) (ptN w h U F) 625).2.1
noncomputable def stC (w h : Nat) (U F : Nat → Int) : Int := (grS (adjP w h U F) (ptN w h U F) 625).2.2.1
noncomputable def bacF (w h : Nat) (U F : Nat → Int) (t what : Int) : Int := if what = 0 then edgC w h U F else if what = 1 then grC w h U F else if what = 2 then stC w h U F else if what = 3 then 20 * edgC w h U F + 2 * t * stC w h U F else if what = 4 then oddC w h U F else -2
theorem backs_S {what : Int} (H : InvC iv O w h n) : ∃ iv2, Run sc 97 0 [some (Rf 1), some (I what)] [] (hp iv) = some (some (I (bacF w h (iv 45) (iv 46) (iv 6 1) what)), hp iv2) ∧ InvC iv2 O w h n ∧ FrX iv iv2 := by
  obtain ⟨⟨h4, -⟩, -, ⟨z1, z2⟩, ⟨b3, b4, -⟩, -⟩ := id H
  obtain ⟨d1, d2, d3, d4, d5, d6⟩ := id h4
  have fin : ∀ iv1, OnlyB iv iv1 → Run sc 97 0 [some (Rf 1), some (I what)] [] (hp iv) = some (some (I (bacF w h (iv 45) (iv 46) (iv 6 1) what)), hp iv1) → ∃ iv2, Run sc 97 0 [some (Rf 1), some (I what)] [] (hp iv) = some (some (I (bacF w h (iv 45) (iv 46) (iv 6 1) what)), hp iv2) ∧ InvC iv2 O w h n ∧ FrX iv iv2 := fun iv1 o hr => ⟨iv1, hr, H.search o, o.x⟩
  have hed := edgC_b (U := iv 45) (F := iv 46) d4 d6 b3 b4
  have hv := grS_b (A := adjP w h (iv 45) (iv 46)) (pt := ptN w h (iv 45) (iv 46)) 625 (Nat.le_refl _)
  obtain ⟨u1, g1, o1⟩ := sgr_S (sc := sc) (os := 0) h4 b3 b4 (Or.inl rfl)
  obtain ⟨u2, g2, o2⟩ := sgr_S (sc := sc) (os := 1) h4 b3 b4 (Or.inr rfl)
  have v1 : grV (grS (adjP w h (iv 45) (iv 46)) (ptN w h (iv 45) (iv 46)) 625) 0 = grC w h (iv 45) (iv 46) := if_pos rfl
  have v2 : grV (grS (adjP w h (iv 45) (iv 46)) (ptN w h (iv 45) (iv 46)) 625) 1 = stC w h (iv 45) (iv 46) := if_neg (by omega)
  have hst : 0 ≤ stC w h (iv 45) (iv 46) ∧ stC w h (iv 45) (iv 46) ≤ 200000 := by
    have := hv.2.1
    unfold stC; omega
  rw [v1] at g1
  rw [v2] at g2
  unfold bacF at fin ⊢
  by_cases c0 : what = 0
  · refine fin iv OnlyB.rf ?_
    rw [B_X6_backs_0, if_pos c0, if_pos c0, B_X6_backs_36, edg_S h4 b3 b4, aBind_some, pushR_some, B_X6_backs_43]
  by_cases c1 : what = 1
  · refine fin u1 o1 ?_
    rw [B_X6_backs_0, if_neg c0, if_neg c0, if_pos c1, if_pos c1, B_X6_backs_44, B_X0_groups_0, g1, aBind_some, pushR_some, B_X0_groups_5, aBind_some, pushR_some, B_X6_backs_51]
  by_cases c2 : what = 2
  · refine fin u2 o2 ?_
    rw [B_X6_backs_0, if_neg c0, if_neg c0, if_neg c1, if_neg c1, if_pos c2, if_pos c2, B_X6_backs_52, B_X0_strands_0, g2, aBind_some, pushR_some, B_X0_strands_5, aBind_some, pushR_some, B_X6_backs_59]
  by_cases c3 : what = 3
  · refine fin u2 o2 ?_
    have hm := mulB (a := 2 * iv 6 1) (b := stC w h (iv 45) (iv 46)) (m := 400) (n := 200000) (by omega) hst
    rw [B_X6_backs_0, if_neg c0, if_neg c0, if_neg c1, if_neg c1, if_neg c2, if_neg c2, if_pos c3, if_pos c3, B_X6_backs_60, edg_S h4 b3 b4, aBind_some, pushR_some, B_X6_backs_69, chk_pos (by omega), chk_pos (by omega), B_X0_strands_0, g2, aBind_some, pushR_some, B_X0_strands_5, aBind_some, pushR_some, B_X6_backs_86, chk_pos (by omega), chk_pos (by omega)]
  by_cases c4 : what = 4
  · refine fin iv OnlyB.rf ?_
    rw [B_X6_backs_0, if_neg c0, if_neg c0, if_neg c1, if_neg c1, if_neg c2, if_neg c2, if_neg c3, if_neg c3, if_pos c4, if_pos c4, B_X6_backs_89, odd_S h4 b3 b4, aBind_some, pushR_some, B_X6_backs_96]
  · refine fin iv OnlyB.rf ?_
    rw [B_X6_backs_0, if_neg c0, if_neg c0, if_neg c1, if_neg c1, if_neg c2, if_neg c2, if_neg c3, if_neg c3, if_neg c4, if_neg c4, B_X6_backs_97]
end ONPAGE
