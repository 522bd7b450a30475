/-! calls that tell of runs: run, runAt, count */ -/
section RUNS5
variable {sc : Nat × (Nat → Int)} {iv iv1 iv2 : Nat → Nat → Int} {O : Nat → Nat → Int} {w h n : Nat}
/-- what is looked up and what a search keeps aside, nothing differs -/
def FrX (iv iv2 : Nat → Nat → Int) : Prop := ∀ j, j ≠ 3 → j ≠ 44 → j ≠ 47 → j ≠ 48 → (j < 8 ∨ 43 < j) → iv2 j = iv j
theorem FrX.rf : FrX iv iv := fun _ _ _ _ _ _ => rfl
theorem FrX.tr {iv3 : Nat → Nat → Int} (h : FrX iv iv2) (h2 : FrX iv2 iv3) : FrX iv iv3 := fun j a b c d e => (h2 j a b c d e).trans (h j a b c d e)
theorem FrC.all {k : Nat} (h : FrC iv iv2 k) (hk : k < 6) : FrX iv iv2 := fun j a _ _ _ b => h.1 j a (by omega)
theorem FrX.gn (f : FrX iv iv2) : gN iv2 = gN iv := by funext x y; unfold gN; rw [f 4 (by omega) (by omega) (by omega) (by omega) (by omega)]
theorem FrX.e (f : FrX iv iv2) {j : Nat} (hj : j = 2 ∨ j = 4 ∨ j = 5 ∨ j = 6 ∨ j = 45 ∨ j = 46 ∨ 49 ≤ j) : iv2 j = iv j := f j (by omega) (by omega) (by omega) (by omega) (by omega)
/-- what run tells of the run r of the color k + 1 -/
noncomputable def runF (iv : Nat → Nat → Int) (w h k : Nat) (pl : Int) (r what : Int) : Int := if 0 ≤ r ∧ r < nK (gN iv) w h k then (if what = 0 then xK (gN iv) w h k r.toNat else if what = 1 then yK (gN iv) w h k r.toNat else if what = 2 then lK (gN iv) w h k r.toNat else if what = 3 then pl else -2) else -1
theorem run_S {k : Nat} {c r what : Int} (H : InvC iv O w h n) (hk : k < 6) (hc : c = (k : Int) + 1) : ∃ iv2 pl, Run sc 87 0 [some (Rf 1), some (I c), some (I r), some (I what), none] [] (hp iv) = some (some (I (runF iv w h k pl r what)), hp iv2) ∧ InvC iv2 O w h n ∧ FrX iv iv2 ∧ ((0 ≤ r ∧ r < nK (gN iv) w h k) → 0 ≤ pl ∧ pl < nK (gN iv) w h k ∧ O k pl.toNat = r) := by
  subst hc
  obtain ⟨iv1, e1, H1, ht, fr⟩ := runsOf_S (sc := sc) H hk rfl
  have fx := fr.all hk
  have gn := fx.gn
  obtain ⟨⟨⟨-, -, -, d4, -, d6⟩, -⟩, -⟩ := id H1
  obtain ⟨hR, ag, al, ao, pm⟩ := (H1.2.2.2.2.2 k hk).view ht d4 d6
  rw [gn] at hR ag al ao pm
  have hm := hR.2.1
  unfold runF
  by_cases hr : 0 ≤ r ∧ r < nK (gN iv) w h k
  · obtain ⟨j, rfl⟩ : ∃ j : Nat, r = j := ⟨r.toNat, by omega⟩
    have hj : j < nK (gN iv) w h k := by omega
    obtain ⟨p1, p2, p3⟩ := pm.2 j hj
    refine ⟨iv1, iv1 (13 + 6 * k) j, ?_, H1, fx, fun _ => ⟨p1, p2, by rw [← ao _ (by omega)]; exact p3⟩⟩
    rw [if_pos hr, B_X6_run_0, isColC_T (by omega), aBind_some, pushR_some, B_X6_run_4, ite_F (by omega), B_X6_run_10, e1, aBind_some, pushR_some, B_X6_run_15 _ _ _ hk, hasR_T hk hR hr, aBind_some, pushR_some, B_X6_run_23 _ _ _ hk, ite_F (by omega)]
    obtain ⟨a1, a2⟩ := ag j hj
    by_cases c0 : what = 0
    · rw [if_pos c0, B_X6_run_28 _ _ _ hk, if_pos c0, B_X6_run_60 _ _ _ hk, bck_pos (by omega), Int.toNat_natCast, a1]
    rw [if_neg c0]
    by_cases c1 : what = 1
    · rw [if_pos c1, B_X6_run_28 _ _ _ hk, if_neg c0, if_pos c1, B_X6_run_68 _ _ _ hk, bck_pos (by omega), Int.toNat_natCast, a2]
    rw [if_neg c1]
    by_cases c2 : what = 2
    · rw [if_pos c2, B_X6_run_28 _ _ _ hk, if_neg c0, if_neg c1, if_pos c2, B_X6_run_76 _ _ _ hk, bck_pos (by omega), Int.toNat_natCast, al j hj]
    rw [if_neg c2]
    by_cases c3 : what = 3
    · rw [if_pos c3, B_X6_run_28 _ _ _ hk, if_neg c0, if_neg c1, if_neg c2, if_pos c3, B_X6_run_84 _ _ _ hk, bck_pos (by omega), Int.toNat_natCast]
    · rw [if_neg c3, B_X6_run_28 _ _ _ hk, if_neg c0, if_neg c1, if_neg c2, if_neg c3, B_X6_run_92 _ _ _ hk]
  · refine ⟨iv1, 0, ?_, H1, fx, fun z => absurd z hr⟩
    rw [if_neg hr, B_X6_run_0, isColC_T (by omega), aBind_some, pushR_some, B_X6_run_4, ite_F (by omega), B_X6_run_10, e1, aBind_some, pushR_some, B_X6_run_15 _ _ _ hk, hasR_F hk hR hr, aBind_some, pushR_some, B_X6_run_23 _ _ _ hk, ite_T rfl]
theorem run_bad {c r what : Int} (hc : ¬ (1 ≤ c ∧ c ≤ 6)) : Run sc 87 0 [some (Rf 1), some (I c), some (I r), some (I what), none] [] (hp iv) = some (some (I (-2)), hp iv) := by
  rw [B_X6_run_0, isColC_F hc, aBind_some, pushR_some, B_X6_run_4, ite_T rfl]
/-- the run at a place -/
def ratF (iv : Nat → Nat → Int) (O : Nat → Nat → Int) (w h k : Nat) (p : Int) : Int := if p < 0 then -2 else if p < nK (gN iv) w h k then O k p.toNat else -4
theorem runAt_S {k : Nat} {c p : Int} (H : InvC iv O w h n) (hk : k < 6) (hc : c = (k : Int) + 1) : ∃ iv2, Run sc 88 0 [some (Rf 1), some (I c), some (I p), none] [] (hp iv) = some (some (I (ratF iv O w h k p)), hp iv2) ∧ InvC iv2 O w h n ∧ FrX iv iv2 := by
  subst hc
  unfold ratF
  by_cases hp0 : p < 0
  · refine ⟨iv, ?_, H, FrX.rf⟩
    rw [if_pos hp0, B_X6_runAt_0, isColC_T (by omega), aBind_some, pushR_some, B_X6_runAt_4, ite_F (by omega), if_pos hp0, B_X6_runAt_11]
  · obtain ⟨iv1, e1, H1, ht, fr⟩ := runsOf_S (sc := sc) H hk rfl
    have fx := fr.all hk
    have gn := fx.gn
    obtain ⟨⟨⟨-, -, -, d4, -, d6⟩, -⟩, -⟩ := id H1
    obtain ⟨hR, ag, al, ao, pm⟩ := (H1.2.2.2.2.2 k hk).view ht d4 d6
    rw [gn] at hR ag al ao pm
    have hm := hR.2.1
    refine ⟨iv1, ?_, H1, fx⟩
    rw [if_neg hp0, B_X6_runAt_0, isColC_T (by omega), aBind_some, pushR_some, B_X6_runAt_4, ite_F (by omega), if_neg hp0, B_X6_runAt_14, e1, aBind_some, pushR_some, B_X6_runAt_19 _ _ _ hk]
    by_cases hr : p < nK (gN iv) w h k
    · rw [if_pos hr, hasR_T hk hR (by omega), aBind_some, pushR_some, B_X6_runAt_25 _ _ _ hk, ite_F (by omega), bck_pos (by omega), B_X6_runAt_39 _ _ _ hk, ao _ (by omega)]
    · rw [if_neg hr, hasR_F hk hR (by omega), aBind_some, pushR_some, B_X6_runAt_25 _ _ _ hk, ite_T rfl, B_X6_runAt_37 _ _ _ hk, B_X6_runAt_39 _ _ _ hk]
/-- what count tells of one color -/
noncomputable def cvC (iv : Nat → Nat → Int) (O : Nat → Nat → Int) (w h : Nat) (what : Int) (k : Nat) : Int := if what = 0 then cnC (gN iv) ((k : Int) + 1) w h else if what = 1 then loneC iv w h ((k : Int) + 1) else if what = 2 then (nK (gN iv) w h k : Int) else if what = 3 then thrF (nK (gN iv) w h k) (xK (gN iv) w h k) (yK (gN iv) w h k) (lK (gN iv) w h k) (iv 6 0) (iv 6 1) (O k) else staF (nK (gN iv) w h k) (xK (gN iv) w h k) (yK (gN iv) w h k) (iv 6 0) (O k)
theorem loneC_cg {w h : Nat} {c : Int} (e2 : iv2 2 = iv 2) (e4 : iv2 4 = iv 4) : loneC iv2 w h c = loneC iv w h c := by
  unfold loneC
  apply sumN_congr
  intro j _
  apply sumN_congr
  intro i _
  rw [gC_congr e2 e4, lonI_congr e2 e4]
theorem cvC_fr {k : Nat} {what : Int} (f : FrX iv iv2) : cvC iv2 O w h what k = cvC iv O w h what k := by
  unfold cvC
  rw [f.gn, loneC_cg (f.e (by omega)) (f.e (by omega)), f.e (j := 6) (by omega)]
set_option maxHeartbeats 1000000 in
theorem cnt1_S {k : Nat} {what : Int} (H : InvC iv O w h n) (hk : k < 6) (hw : 0 ≤ what ∧ what ≤ 4) : ∃ iv2, Run sc 106 0 [some (Rf 1), some (I ((k : Int) + 1)), some (I what)] [] (hp iv) = some (some (I (cvC iv O w h what k)), hp iv2) ∧ InvC iv2 O w h n ∧ FrX iv iv2 := by
  obtain ⟨⟨hD, -⟩, -⟩ := id H
  obtain ⟨d1, d2, d3, d4, d5, d6⟩ := id hD
  by_cases c1 : what = 1
  · refine ⟨iv, ?_, H, FrX.rf⟩
    unfold cvC
    rw [if_neg (by omega), if_pos c1, B_X6_countOfColor_0, if_neg (by omega), if_pos c1, B_X6_countOfColor_45, lone_S d1 d4 d2 d6, aBind_some, pushR_some, B_X6_countOfColor_53]
  · obtain ⟨iv1, e1, H1, ht, fr⟩ := runsOf_S (sc := sc) H hk rfl
    have fx := fr.all hk
    have gn := fx.gn
    have hs := H1.2.2.2.2.2 k hk
    have hy := H1.2.2.1
    obtain ⟨-, -, -, cc, -⟩ := id hs
    obtain ⟨z1, z2, z3, z4⟩ := cc ht
    obtain ⟨hR, ag, al, ao, pm0⟩ := hs.view ht d4 d6
    have ev := cvC_fr (O := O) (w := w) (h := h) (k := k) (what := what) fx
    refine ⟨iv1, ?_, H1, fx⟩
    rw [← ev]
    unfold cvC
    by_cases c0 : what = 0
    · have et := z2.total
      rw [if_pos c0, B_X6_countOfColor_0, if_pos c0, B_X6_countOfColor_36, e1, aBind_some, pushR_some, B_X6_countOfColor_41 _ _ _ hk, stitches_S hk hR, aBind_some, pushR_some, B_X6_countOfColor_44, et]
    rw [if_neg c0, if_neg c1]
    by_cases c2 : what = 2
    · rw [if_pos c2, B_X6_countOfColor_0, if_neg c0, if_neg c1, if_pos c2, B_X6_countOfColor_54, e1, aBind_some, pushR_some, B_X6_countOfColor_59 _ _ _ hk, z1]
    rw [if_neg c2]
    by_cases c3 : what = 3
    · rw [if_pos c3, B_X6_countOfColor_0, if_neg c0, if_neg c1, if_neg c2, if_pos c3, B_X6_countOfColor_63, e1, aBind_some, pushR_some, B_X6_countOfColor_68 _ _ _ hk, thread_S hk hR hy pm0.ord, aBind_some, pushR_some, B_X6_countOfColor_71, thrF_cg ag al pm0.ord (fun p hpp => (ao p hpp).symm)]
    · rw [if_neg c3, B_X6_countOfColor_0, if_neg c0, if_neg c1, if_neg c2, if_neg c3, if_pos (by omega), B_X6_countOfColor_72, e1, aBind_some, pushR_some, B_X6_countOfColor_77 _ _ _ hk, starts_S hk hR pm0.ord, aBind_some, pushR_some, B_X6_countOfColor_80, staF_cg ag pm0.ord (fun p hpp => (ao p hpp).symm)]
theorem sum2_b {f : Nat → Nat → Int} {w h : Nat} (hw : w ≤ 24) (hh : h ≤ 24) (hf : ∀ j i, 0 ≤ f j i ∧ f j i ≤ 1) : 0 ≤ sumN (fun j => sumN (f j) w) h ∧ sumN (fun j => sumN (f j) w) h ≤ 576 := by
  have h1 : ∀ j, 0 ≤ sumN (f j) w ∧ sumN (f j) w ≤ 24 := fun j => by
    have := sumN_le (f := f j) (n := w) (c := 1) (fun i _ => (hf j i).2)
    have := sumN_nonneg (f := f j) (n := w) (fun i _ => (hf j i).1)
    omega
  have := sumN_le (f := fun j => sumN (f j) w) (n := h) (c := 24) (fun j _ => (h1 j).2)
  have := sumN_nonneg (f := fun j => sumN (f j) w) (n := h) (fun j _ => (h1 j).1)
  omega
/-- what a color's cells and order bear -/
theorem InvC.bnd {k : Nat} (H : InvC iv O w h n) (hk : k < 6) : (nK (gN iv) w h k ≤ 288 ∧ ∀ r, r < nK (gN iv) w h k → (0 ≤ xK (gN iv) w h k r ∧ xK (gN iv) w h k r < w) ∧ (0 ≤ yK (gN iv) w h k r ∧ yK (gN iv) w h k r < h) ∧ 0 ≤ lK (gN iv) w h k r ∧ lK (gN iv) w h k r ≤ 24) ∧ OrdN (nK (gN iv) w h k) (O k) ∧ ∃ P, PermN (nK (gN iv) w h k) (O k) P := by
  obtain ⟨⟨⟨d1, d2, d3, d4, d5, d6⟩, -⟩, -⟩ := id H
  obtain ⟨-, -, ⟨P, hP⟩, -⟩ := H.2.2.2.2.2 k hk
  exact ⟨kOK.b d4 d6, hP.ord, P, hP⟩
theorem InvC.cp_b {k p : Nat} (H : InvC iv O w h n) (hk : k < 6) (hpp : p < nK (gN iv) w h k) : 0 ≤ cpF (xK (gN iv) w h k) (yK (gN iv) w h k) (iv 6 0) (iv 6 1) (O k) p ∧ cpF (xK (gN iv) w h k) (yK (gN iv) w h k) (iv 6 0) (iv 6 1) (O k) p ≤ 1000 := by
  obtain ⟨⟨b1, b2⟩, hO, -⟩ := H.bnd hk
  obtain ⟨⟨⟨d1, d2, d3, d4, d5, d6⟩, -⟩, -, ⟨y1, y2⟩, -⟩ := id H
  unfold cpF
  split
  · omega
  · have o1 := hO p hpp
    have o2 := hO (p - 1) (by omega)
    have q1 := b2 (O k p).toNat (by omega)
    have q2 := b2 (O k (p - 1)).toNat (by omega)
    have := wayF_b (X := xK (gN iv) w h k) (Y := yK (gN iv) w h k) (a := (O k (p - 1)).toNat) (b := (O k p).toNat) (by omega) (by omega) (by omega) (by omega)
    exact cstF_b y1 y2 this.1
theorem cvC_b {k : Nat} {what : Int} (H : InvC iv O w h n) (hk : k < 6) : 0 ≤ cvC iv O w h what k ∧ cvC iv O w h what k ≤ 1000000 := by
  obtain ⟨⟨⟨d1, d2, d3, d4, d5, d6⟩, -⟩, -⟩ := id H
  obtain ⟨⟨b1, b2⟩, hO, -⟩ := H.bnd hk
  obtain ⟨z1, z2⟩ := H.2.2.1
  unfold cvC
  split
  · unfold cnC
    have := sum2_b (f := fun j i => if gN iv i j = (k : Int) + 1 then 1 else 0) d4 d6 (fun j i => by split <;> omega)
    omega
  · split
    · unfold loneC
      have := sum2_b (f := fun j i => if gC iv i j = (k : Int) + 1 then lonI iv i j else 0) d4 d6 (fun j i => by have := lonI_b (iv := iv) (x := i) (y := j); split <;> omega)
      omega
    · split
      · omega
      · split
        · unfold thrF
          have b : ∀ p, p < nK (gN iv) w h k → 0 ≤ 48 * lK (gN iv) w h k p + cpF (xK (gN iv) w h k) (yK (gN iv) w h k) (iv 6 0) (iv 6 1) (O k) p ∧ 48 * lK (gN iv) w h k p + cpF (xK (gN iv) w h k) (yK (gN iv) w h k) (iv 6 0) (iv 6 1) (O k) p ≤ 3000 := fun p hpp => by
            have := H.cp_b hk hpp
            have := b2 p hpp
            omega
          have := sumN_le (fun p hpp => (b p hpp).2)
          have := sumN_nonneg (fun p hpp => (b p hpp).1)
          split <;> omega
        · unfold staF
          split
          · omega
          · have b : ∀ p, p < nK (gN iv) w h k → 0 ≤ (if p = 0 then (0 : Int) else if iv 6 0 < wayF (xK (gN iv) w h k) (yK (gN iv) w h k) (O k (p - 1)).toNat (O k p).toNat then 1 else 0) ∧ (if p = 0 then (0 : Int) else if iv 6 0 < wayF (xK (gN iv) w h k) (yK (gN iv) w h k) (O k (p - 1)).toNat (O k p).toNat then 1 else 0) ≤ 1 := fun p hpp => by split; omega; split <;> omega
            have := sumN_le (fun p hpp => (b p hpp).2)
            have := sumN_nonneg (fun p hpp => (b p hpp).1)
            omega
/-- the colors that are asked for, summed up -/
def selS (f : Nat → Int) (c : Int) (i : Nat) : Int := if c = 0 ∨ c = ((i + 1 : Nat) : Int) then f i else 0
def selT (f : Nat → Int) (c : Int) : Int := sumN (selS f c) 6
theorem selT_0 {f : Nat → Int} : selT f 0 = sumN f 6 := sumN_congr fun i _ => if_pos (Or.inl rfl)
theorem selT_1 {f : Nat → Int} {k : Nat} (hk : k < 6) : selT f ((k : Int) + 1) = f k := by
  have e : ∀ i, selS f ((k : Int) + 1) i = if i = k then f i else 0 := fun i => by
    unfold selS
    by_cases z : i = k
    · rw [if_pos (by omega), if_pos z]
    · rw [if_neg (by omega), if_neg z]
  have key : k = 0 ∨ k = 1 ∨ k = 2 ∨ k = 3 ∨ k = 4 ∨ k = 5 := by omega
  unfold selT
  rw [sumN_congr (fun i _ => e i)]
  rcases key with rfl | rfl | rfl | rfl | rfl | rfl <;> simp [sumN]
theorem count_S {c what : Int} (H : InvC iv O w h n) (hc : 0 ≤ c ∧ c ≤ 6) (hw : 0 ≤ what ∧ what ≤ 4) : ∃ iv2, Run sc 84 0 [some (Rf 1), some (I c), some (I what), none, none] [] (hp iv) = some (some (I (selT (cvC iv O w h what) c)), hp iv2) ∧ InvC iv2 O w h n ∧ FrX iv iv2 := by
  rw [B_X6_count_0, within_T hc, aBind_some, pushR_some, B_X6_count_7, ite_F (by omega), within_T hw, aBind_some, pushR_some, B_X6_count_16, ite_F (by omega), B_X6_count_22]
  obtain ⟨s, e, g1, g2, g3, g4⟩ := loop_ex (fun i (s : Int × (Nat → Nat → Int)) => Run sc 84 27 [some (Rf 1), some (I c), some (I what), some (I s.1), some (I (i + 1))] [] (hp s.2)) (fun i s => s.1 = sumN (selS (cvC iv O w h what) c) i ∧ (0 ≤ s.1 ∧ s.1 ≤ 1000000 * i) ∧ InvC s.2 O w h n ∧ FrX iv s.2) 6 0 (0, iv) (Nat.zero_le _) ⟨rfl, by simp, H, FrX.rf⟩ (fun i s _ hi hP => by
    obtain ⟨a, s⟩ := s
    obtain ⟨p1, p2, p3, p4⟩ := hP
    dsimp only at p1 p2 p3 p4
    have hv := cvC_b (what := what) H hi
    have es : sumN (selS (cvC iv O w h what) c) (i + 1) = sumN (selS (cvC iv O w h what) c) i + selS (cvC iv O w h what) c i := rfl
    rw [es]
    unfold selS
    by_cases q : c = 0 ∨ c = ((i + 1 : Nat) : Int)
    · obtain ⟨s2, e2, h2, f2⟩ := cnt1_S (sc := sc) (what := what) p3 hi hw
      rw [cvC_fr p4] at e2
      rw [if_pos q]
      refine ⟨(a + cvC iv O w h what i, s2), ?_, by rw [p1]; rfl, by show 0 ≤ a + _ ∧ a + _ ≤ 1000000 * ((i + 1 : Nat) : Int); omega, h2, p4.tr f2⟩
      dsimp only
      have hd : Run sc 84 27 [some (Rf 1), some (I c), some (I what), some (I a), some (I ((i : Int) + 1))] [] (hp s) = Run sc 84 44 [some (Rf 1), some (I c), some (I what), some (I a), some (I ((i : Int) + 1))] [] (hp s) := by
        rw [B_X6_count_27, ite_F (by omega)]
        by_cases z : c = 0
        · rw [if_pos z]
        · rw [if_neg z, if_pos (by omega)]
      rw [hd, B_X6_count_44, e2, aBind_some, pushR_some, B_X6_count_52, chk_pos (by omega), B_X6_count_54, chk_pos (by omega)]
    · rw [if_neg q]
      refine ⟨(a, s), ?_, by show a = _ + (0 : Int); rw [p1]; unfold selS; omega, by show 0 ≤ a ∧ a ≤ 1000000 * ((i + 1 : Nat) : Int); omega, p3, p4⟩
      dsimp only
      rw [B_X6_count_27, ite_F (by omega), if_neg (by omega), if_neg (by omega), B_X6_count_54, chk_pos (by omega)])
  obtain ⟨a, s⟩ := s
  dsimp only at g1 g3 g4
  refine ⟨s, (show _ = _ from e).trans ?_, g3, g4⟩
  show Run sc 84 27 [some (Rf 1), some (I c), some (I what), some (I a), some (I (6 + 1))] [] (hp s) = _
  rw [B_X6_count_27, ite_T (by omega), B_X6_count_60, g1]
  rfl
theorem count_bad {c what : Int} (hc : ¬ ((0 ≤ c ∧ c ≤ 6) ∧ 0 ≤ what ∧ what ≤ 4)) : Run sc 84 0 [some (Rf 1), some (I c), some (I what), none, none] [] (hp iv) = some (some (I (-2)), hp iv) := by
  by_cases h1 : 0 ≤ c ∧ c ≤ 6
  · rw [B_X6_count_0, within_T h1, aBind_some, pushR_some, B_X6_count_7, ite_F (by omega), within_F (fun z => hc ⟨h1, z⟩), aBind_some, pushR_some, B_X6_count_16, ite_T rfl, B_X6_count_19]
  · rw [B_X6_count_0, within_F h1, aBind_some, pushR_some, B_X6_count_7, ite_T rfl, B_X6_count_19]
end RUNS5
