/-! the law: pages -/
section LPAGES
variable {sc : Nat × (Nat → Int)} {g iv iv2 : Nat → Nat → Int} {O : Nat → Nat → Int} {w h n : Nat} {cs : List (Nat × Nat)} {G : Int}
theorem Hi.tr {a b c : Nat → Nat → Int} (h1 : Hi a b) (h2 : Hi b c) : Hi a c := fun k hk => (h2 k hk).trans (h1 k hk)
theorem pag_at {p : Int} (hp0 : 0 ≤ p ∧ p < acr g * dwn g) : pagF g p 0 = lefC g p ∧ pagF g p 1 = topC g p ∧ pagF g p 2 = rigC g p - lefC g p ∧ pagF g p 3 = botC g p - topC g p ∧ pagF g p 4 = talC g p 1 0 6 ∧ pagF g p 6 = -2 := by
  refine ⟨?_, ?_, ?_, ?_, ?_, ?_⟩
  · unfold pagF; rw [if_pos hp0, if_pos rfl]
  · unfold pagF; rw [if_pos hp0, if_neg (by omega), if_pos rfl]
  · unfold pagF; rw [if_pos hp0, if_neg (by omega), if_neg (by omega), if_pos rfl]
  · unfold pagF; rw [if_pos hp0, if_neg (by omega), if_neg (by omega), if_neg (by omega), if_pos rfl]
  · unfold pagF; rw [if_pos hp0, if_neg (by omega), if_neg (by omega), if_neg (by omega), if_neg (by omega), if_pos rfl]
  · unfold pagF; rw [if_pos hp0, if_neg (by omega), if_neg (by omega), if_neg (by omega), if_neg (by omega), if_neg (by omega), if_neg (by omega)]
theorem tal_tot (H : InvC g O w h n) : sumN (fun p => talC g p 1 0 6) (acr g * dwn g).toNat = (w : Int) * h := by
  obtain ⟨⟨hD, -⟩, hL, -⟩ := id H
  rw [tal_sum hL hD]
  rw [sumN_congr (g := fun _ => (w : Int) * 1) (fun j _ => by
    rw [sumN_congr (g := fun _ => 1) (fun i _ => if_pos (by have := gC_bd H (i : Int) (j : Int); omega)), sumN_one]
    omega), sumN_mul, sumN_one]
theorem opC_n {k : Nat} {p what : Int} (H : InvC g O w h n) (hk : k < 6) (hp0 : 0 ≤ p ∧ p < acr g * dwn g) : 0 ≤ opC g O w h p what k ∧ opC g O w h p what k ≤ 1000000 := by
  have ht := tot_b H.2.1 H.1.1
  exact opC_b H hk (by omega)
theorem selop_b {p what c : Int} (H : InvC g O w h n) (hp0 : 0 ≤ p ∧ p < acr g * dwn g) : 0 ≤ selT (opC g O w h p what) c ∧ selT (opC g O w h p what) c ≤ 6000000 := sel_b fun _ hk => opC_n H hk hp0
theorem selcv_b {what c : Int} (H : InvC g O w h n) : 0 ≤ selT (cvC g O w h what) c ∧ selT (cvC g O w h what) c ≤ 6000000 := sel_b fun _ hk => cvC_b H hk
theorem selop_sum {c : Int} (H : InvC g O w h n) : sumN (fun p => selT (opC g O w h p 0) c) (acr g * dwn g).toNat = selT (cvC g O w h 0) c ∧ sumN (fun p => selT (opC g O w h p 1) c) (acr g * dwn g).toNat = selT (cvC g O w h 2) c ∧ sumN (fun p => selT (opC g O w h p 2) c) (acr g * dwn g).toNat = selT (cvC g O w h 3) c := by
  refine ⟨?_, ?_, ?_⟩
  · rw [sel_sum (F := fun p k => opC g O w h p 0 k)]
    exact sel_cg fun k hk => (op_sum H hk).1
  · rw [sel_sum (F := fun p k => opC g O w h p 1 k)]
    exact sel_cg fun k hk => (op_sum H hk).2.1
  · rw [sel_sum (F := fun p k => opC g O w h p 2 k)]
    exact sel_cg fun k hk => (op_sum H hk).2.2
set_option maxHeartbeats 4000000 in
theorem lpages_L (C : Cur g O w h n cs iv) : ∃ iv2, Run sc 119 0 [some (Rf 1), some (I (w : Int)), some (I (h : Int)), some (I G), none, none, none, none, none, none, none, none, none, none, none] [] (hq cs iv) = some (some (I 1), hq cs iv2) ∧ Cur g O w h n cs iv2 ∧ Hi iv iv2 := by
  obtain ⟨⟨hD, -⟩, hL, -⟩ := id C.1
  obtain ⟨d1, d2, d3, d4, d5, d6⟩ := id hD
  have ht := tot_b hL hD
  have hc := lowF_b (v := G) (m := 7) (by omega)
  rw [B_L_pages_0, pages_L C, aBind_some, pushR_some, B_L_pages_4, low_L (by omega), aBind_some, pushR_some, B_L_pages_15]
  generalize lowF G 7 = c at *
  obtain ⟨N, hN⟩ : ∃ N : Nat, acr g * dwn g = (N : Int) := ⟨(acr g * dwn g).toNat, by omega⟩
  have hNn : (acr g * dwn g).toNat = N := by omega
  obtain ⟨z0, z1, z2⟩ := selop_sum (c := c) C.1
  have z4 := tal_tot C.1
  rw [hNn] at z0 z1 z2 z4
  have T0 := selcv_b (what := 0) (c := c) C.1
  have T2 := selcv_b (what := 2) (c := c) C.1
  have T3 := selcv_b (what := 3) (c := c) C.1
  have Twh := mulB (a := (w : Int)) (b := (h : Int)) (m := 24) (n := 24) (by omega) (by omega)
  have pre0 : ∀ i, i ≤ N → 0 ≤ sumN (fun p => selT (opC g O w h p 0) c) i ∧ sumN (fun p => selT (opC g O w h p 0) c) i ≤ 6000000 := fun i hi => by
    have := sumN_pre (f := fun p => selT (opC g O w h p 0) c) hi (fun j hj => (selop_b C.1 (by omega)).1)
    omega
  have pre1 : ∀ i, i ≤ N → 0 ≤ sumN (fun p => selT (opC g O w h p 1) c) i ∧ sumN (fun p => selT (opC g O w h p 1) c) i ≤ 6000000 := fun i hi => by
    have := sumN_pre (f := fun p => selT (opC g O w h p 1) c) hi (fun j hj => (selop_b C.1 (by omega)).1)
    omega
  have pre2 : ∀ i, i ≤ N → 0 ≤ sumN (fun p => selT (opC g O w h p 2) c) i ∧ sumN (fun p => selT (opC g O w h p 2) c) i ≤ 6000000 := fun i hi => by
    have := sumN_pre (f := fun p => selT (opC g O w h p 2) c) hi (fun j hj => (selop_b C.1 (by omega)).1)
    omega
  have pre4 : ∀ i, i ≤ N → 0 ≤ sumN (fun p => talC g p 1 0 6) i ∧ sumN (fun p => talC g p 1 0 6) i ≤ 600 := fun i hi => by
    have := sumN_pre (f := fun p => talC g p 1 0 6) hi (fun j hj => (talC_b hL hD (by omega)).1)
    omega
  rw [hN]
  obtain ⟨s, e, q1, q2, q3, q4, q5, q6⟩ := loop_ex (fun p (s : (Nat → Nat → Int) × (Int × Int × Int × Int) × Option AV × Option AV) => Run sc 119 29 [some (Rf 1), some (I (w : Int)), some (I (h : Int)), some (I G), some (I N), some (I s.2.1.1), some (I c), some (I s.2.1.2.1), some (I s.2.1.2.2.1), some (I s.2.1.2.2.2), some (I p), s.2.2.1, s.2.2.2, none, none] [] (hq cs s.1)) (fun p s => Cur g O w h n cs s.1 ∧ s.2.1.1 = sumN (fun p => talC g p 1 0 6) p ∧ s.2.1.2.1 = sumN (fun p => selT (opC g O w h p 0) c) p ∧ s.2.1.2.2.1 = sumN (fun p => selT (opC g O w h p 1) c) p ∧ s.2.1.2.2.2 = sumN (fun p => selT (opC g O w h p 2) c) p ∧ Hi iv s.1) N 0 (iv, (0, 0, 0, 0), none, none) (Nat.zero_le _) ⟨C, rfl, rfl, rfl, rfl, fun _ _ => rfl⟩ (fun p s _ hp hP => by
    obtain ⟨v, ⟨x5, x7, x8, x9⟩, x11, x12⟩ := s
    obtain ⟨p1, p2, p3, p4, p5, p6⟩ := hP
    dsimp only at p1 p2 p3 p4 p5 p6
    have hpp : 0 ≤ (p : Int) ∧ (p : Int) < acr g * dwn g := by omega
    obtain ⟨a0, a1, a2, a3, a4, a6⟩ := pag_at hpp
    obtain ⟨⟨b1, b2, b3⟩, ⟨b4, b5, b6⟩, b7⟩ := pag_geo hL hD hpp
    obtain ⟨v1, f1, C1, h1⟩ := onPage_L (sc := sc) (c := c) (what := 0) p1 hpp (by omega) (by omega)
    obtain ⟨v2, f2, C2, h2⟩ := onPage_L (sc := sc) (c := c) (what := 1) C1 hpp (by omega) (by omega)
    obtain ⟨v3, f3, C3, h3⟩ := onPage_L (sc := sc) (c := c) (what := 2) C2 hpp (by omega) (by omega)
    have r0 := pre0 (p + 1) (by omega)
    have r1 := pre1 (p + 1) (by omega)
    have r2 := pre2 (p + 1) (by omega)
    have r4 := pre4 (p + 1) (by omega)
    have i0 := pre0 p (by omega)
    have i1 := pre1 p (by omega)
    have i2 := pre2 p (by omega)
    have i4 := pre4 p (by omega)
    have y0 : sumN (fun p => selT (opC g O w h p 0) c) (p + 1) = sumN (fun p => selT (opC g O w h p 0) c) p + selT (opC g O w h p 0) c := rfl
    have y1 : sumN (fun p => selT (opC g O w h p 1) c) (p + 1) = sumN (fun p => selT (opC g O w h p 1) c) p + selT (opC g O w h p 1) c := rfl
    have y2 : sumN (fun p => selT (opC g O w h p 2) c) (p + 1) = sumN (fun p => selT (opC g O w h p 2) c) p + selT (opC g O w h p 2) c := rfl
    have y4 : sumN (fun p => talC g p 1 0 6) (p + 1) = sumN (fun p => talC g p 1 0 6) p + talC g p 1 0 6 := rfl
    refine ⟨(v3, (x5 + talC g p 1 0 6, x7 + selT (opC g O w h p 0) c, x8 + selT (opC g O w h p 1) c, x9 + selT (opC g O w h p 2) c), some (I (rigC g p)), some (I (botC g p))), ?_, C3, by dsimp only; rw [p2, y4], by dsimp only; rw [p3, y0], by dsimp only; rw [p4, y1], by dsimp only; rw [p5, y2], p6.tr (h1.tr (h2.tr h3))⟩
    have po : pofF g (rigC g p - 1) (botC g p - 1) = p := by
      unfold pofF
      rw [if_pos (by unfold inC; omega), b7]
    rw [y0, ← p3] at r0
    rw [y1, ← p4] at r1
    rw [y2, ← p5] at r2
    rw [y4, ← p2] at r4
    have er : lefC g p + (rigC g p - lefC g p) = rigC g p := by omega
    have et : topC g p + (botC g p - topC g p) = botC g p := by omega
    dsimp only
    rw [B_L_pages_29, if_pos (by omega), page_L p1, a4, aBind_some, pushR_some, B_L_pages_45, chk_pos (by omega), f1, aBind_some, pushR_some, B_L_pages_59, chk_pos (by omega), f2, aBind_some, pushR_some, B_L_pages_73, chk_pos (by omega), f3, aBind_some, pushR_some, B_L_pages_87, chk_pos (by omega), page_L C3, a0, aBind_some, pushR_some, B_L_pages_97, page_L C3, a2, aBind_some, pushR_some, B_L_pages_104, er, chk_pos (by omega), page_L C3, a1, aBind_some, pushR_some, B_L_pages_114, page_L C3, a3, aBind_some, pushR_some, B_L_pages_121, et, chk_pos (by omega), page_L C3, a2, aBind_some, pushR_some, B_L_pages_131, if_neg (by omega), page_L C3, a3, aBind_some, pushR_some, B_L_pages_142, if_neg (by omega), if_neg (by omega), if_neg (by omega), page_L C3, a6, aBind_some, pushR_some, B_L_pages_166, if_pos rfl, chk_pos (by omega), chk_pos (by omega), pageOf_L C3, po, aBind_some, pushR_some, B_L_pages_183, if_pos rfl, B_L_pages_190, chk_pos (by omega)])
  obtain ⟨v, ⟨x5, x7, x8, x9⟩, x11, x12⟩ := s
  dsimp only at q1 q2 q3 q4 q5 q6 e
  rw [show (((0 : Nat) : Int)) = 0 from rfl] at e
  have hx := lowF_b (v := G / 8) (m := (w : Int)) (by omega)
  have hy := lowF_b (v := G / 256) (m := (h : Int)) (by omega)
  rw [e, B_L_pages_29, if_neg (by omega), B_L_pages_196, low_L (by omega), aBind_some, pushR_some, B_L_pages_203, low_L (by omega), aBind_some, pushR_some, B_L_pages_213, pageOf_L q1, aBind_some, pushR_some, B_L_pages_223]
  generalize lowF (G / 8) (w : Int) = X at *
  generalize lowF (G / 256) (h : Int) = Y at *
  have eo : pofF g X Y = ownC g X Y := if_pos (by unfold inC; omega)
  have ow := (own_in hL hD hx hy).1
  rw [eo]
  obtain ⟨u, e2, -⟩ := loop_ex (fun p (s : Option AV) => Run sc 119 228 [some (Rf 1), some (I (w : Int)), some (I (h : Int)), some (I G), some (I N), some (I x5), some (I c), some (I x7), some (I x8), some (I x9), some (I X), some (I Y), some (I (ownC g X Y)), some (I p), s] [] (hq cs v)) (fun p s => True) N 0 none (Nat.zero_le _) trivial (fun p s _ hp _ => by
    have hpp : 0 ≤ (p : Int) ∧ (p : Int) < acr g * dwn g := by omega
    obtain ⟨a0, a1, a2, a3, a4, a6⟩ := pag_at hpp
    obtain ⟨⟨b1, b2, b3⟩, ⟨b4, b5, b6⟩, b7⟩ := pag_geo hL hD hpp
    have er : lefC g p + (rigC g p - lefC g p) = rigC g p := by omega
    have et : topC g p + (botC g p - topC g p) = botC g p := by omega
    have no : ownC g X Y ≠ p → Run sc 119 304 [some (Rf 1), some (I (w : Int)), some (I (h : Int)), some (I G), some (I N), some (I x5), some (I c), some (I x7), some (I x8), some (I x9), some (I X), some (I Y), some (I (ownC g X Y)), some (I ((p : Int))), s] [(I 0)] (hq cs v) = Run sc 119 228 [some (Rf 1), some (I (w : Int)), some (I (h : Int)), some (I G), some (I N), some (I x5), some (I c), some (I x7), some (I x8), some (I x9), some (I X), some (I Y), some (I (ownC g X Y)), some (I ((p : Int) + 1)), some (I 0)] [] (hq cs v) := fun z => by
      rw [B_L_pages_304, if_pos rfl, B_L_pages_318, if_pos rfl, if_neg (fun k => z k.symm), B_L_pages_332, chk_pos (by omega)]
    have yes : ownC g X Y ≤ p → Run sc 119 304 [some (Rf 1), some (I (w : Int)), some (I (h : Int)), some (I G), some (I N), some (I x5), some (I c), some (I x7), some (I x8), some (I x9), some (I X), some (I Y), some (I (ownC g X Y)), some (I ((p : Int))), s] [(I 1)] (hq cs v) = Run sc 119 228 [some (Rf 1), some (I (w : Int)), some (I (h : Int)), some (I G), some (I N), some (I x5), some (I c), some (I x7), some (I x8), some (I x9), some (I X), some (I Y), some (I (ownC g X Y)), some (I ((p : Int) + 1)), some (I 1)] [] (hq cs v) := fun z => by
      rw [B_L_pages_304, if_neg (by omega), if_neg (by omega), B_L_pages_318, if_neg (by omega), B_L_pages_332, chk_pos (by omega)]
    have out : ¬ ((lefC g p ≤ X ∧ X < rigC g p) ∧ topC g p ≤ Y ∧ Y < botC g p) → ownC g X Y ≠ p := fun z k => z (own_win hL hD hx hy k)
    by_cases c1 : X < lefC g p
    · refine ⟨some (I 0), ?_, trivial⟩
      rw [B_L_pages_228, if_pos (by omega), page_L q1, a0, aBind_some, pushR_some, B_L_pages_244, if_pos c1, B_L_pages_303, no (out (by omega))]
    by_cases c2 : X < rigC g p
    · by_cases c3 : Y < topC g p
      · refine ⟨some (I 0), ?_, trivial⟩
        rw [B_L_pages_228, if_pos (by omega), page_L q1, a0, aBind_some, pushR_some, B_L_pages_244, if_neg c1, page_L q1, a0, aBind_some, pushR_some, B_L_pages_256, page_L q1, a2, aBind_some, pushR_some, B_L_pages_263, er, chk_pos (by omega), if_pos c2, page_L q1, a1, aBind_some, pushR_some, B_L_pages_276, if_pos c3, B_L_pages_303, no (out (by omega))]
      by_cases c4 : Y < botC g p
      · refine ⟨some (I 1), ?_, trivial⟩
        rw [B_L_pages_228, if_pos (by omega), page_L q1, a0, aBind_some, pushR_some, B_L_pages_244, if_neg c1, page_L q1, a0, aBind_some, pushR_some, B_L_pages_256, page_L q1, a2, aBind_some, pushR_some, B_L_pages_263, er, chk_pos (by omega), if_pos c2, page_L q1, a1, aBind_some, pushR_some, B_L_pages_276, if_neg c3, page_L q1, a1, aBind_some, pushR_some, B_L_pages_288, page_L q1, a3, aBind_some, pushR_some, B_L_pages_295, et, chk_pos (by omega), if_pos c4, yes (pag_first hL hD hpp c2 c4)]
      · refine ⟨some (I 0), ?_, trivial⟩
        rw [B_L_pages_228, if_pos (by omega), page_L q1, a0, aBind_some, pushR_some, B_L_pages_244, if_neg c1, page_L q1, a0, aBind_some, pushR_some, B_L_pages_256, page_L q1, a2, aBind_some, pushR_some, B_L_pages_263, er, chk_pos (by omega), if_pos c2, page_L q1, a1, aBind_some, pushR_some, B_L_pages_276, if_neg c3, page_L q1, a1, aBind_some, pushR_some, B_L_pages_288, page_L q1, a3, aBind_some, pushR_some, B_L_pages_295, et, chk_pos (by omega), if_neg c4, B_L_pages_303, no (out (by omega))]
    · refine ⟨some (I 0), ?_, trivial⟩
      rw [B_L_pages_228, if_pos (by omega), page_L q1, a0, aBind_some, pushR_some, B_L_pages_244, if_neg c1, page_L q1, a0, aBind_some, pushR_some, B_L_pages_256, page_L q1, a2, aBind_some, pushR_some, B_L_pages_263, er, chk_pos (by omega), if_neg c2, B_L_pages_303, no (out (by omega))])
  rw [show (((0 : Nat) : Int)) = 0 from rfl] at e2
  obtain ⟨u1, g1, D1, j1⟩ := count_L (sc := sc) (c := c) (what := 0) q1 (by omega) (by omega)
  obtain ⟨u2, g2, D2, j2⟩ := count_L (sc := sc) (c := c) (what := 2) D1 (by omega) (by omega)
  obtain ⟨u3, g3, D3, j3⟩ := count_L (sc := sc) (c := c) (what := 3) D2 (by omega) (by omega)
  have pn : pagF g N 0 = -1 := if_neg (by omega)
  have pw : pofF g w 0 = -1 := if_neg (by unfold inC; omega)
  rw [q2, z4] at e2
  rw [q3, z0] at e2
  rw [q4, z1] at e2
  rw [q5, z2] at e2
  refine ⟨u3, ?_, D3, q6.tr (j1.tr (j2.tr j3))⟩
  rw [q2, z4, q3, z0, q4, z1, q5, z2, e2, B_L_pages_228, if_neg (by omega), B_L_pages_338, chk_pos (by omega), if_pos rfl, g1, aBind_some, pushR_some, B_L_pages_355, if_pos rfl, g2, aBind_some, pushR_some, B_L_pages_367, if_pos rfl, g3, aBind_some, pushR_some, B_L_pages_379, if_pos rfl, B_L_pages_387, if_neg (by omega), page_L D3, pn, aBind_some, pushR_some, B_L_pages_401, if_pos rfl, (onPageBad_L D3).1 (by omega), aBind_some, pushR_some, B_L_pages_415, if_pos rfl, (onPageBad_L D3).2 (by omega) (by omega), aBind_some, pushR_some, B_L_pages_427, if_pos rfl, (onPageBad_L D3).2 (by omega) (by omega), aBind_some, pushR_some, B_L_pages_439, if_pos rfl, pageOf_L D3, pw, aBind_some, pushR_some, B_L_pages_450, if_pos rfl, B_L_pages_459, bck_pos (by omega)]
end LPAGES
