/-! colors that are looked up: their calls change nothing; the law's heap: cells behind the class's */ -/
section LOOKED
variable {sc : Nat × (Nat → Int)} {iv iv1 iv2 : Nat → Nat → Int} {O : Nat → Nat → Int} {w h n : Nat}
theorem runsOf_Z {k : Nat} {x : Int} (hk : k < 6) (hx : x = (k : Int) + 1) (ht : iv 3 (k + 1) = 0) : Run sc 105 0 [some (Rf 1), some (I x), none, none] [] (hp iv) = some (some (Rf (8 + 6 * k)), hp iv) := by
  subst hx
  have en : ((k : Int) + 1 - 1).toNat = k := by omega
  have en1 : ((k : Int) + 1 - 1 + 1).toNat = k + 1 := by omega
  rw [B_X6_runsOf_0, isColC_T (by omega), aBind_some, pushR_some, B_X6_runsOf_4, ite_F (by omega), chk_pos (by omega), B_X6_runsOf_14 _ _ _ _ _ _ (by omega), chk_pos (by omega), bck_pos (by omega), en, en1, if_pos ht, B_X6_runsOf_56 _ _ _ hk]
/-- the place that the class keeps of a run -/
def plC (iv : Nat → Nat → Int) (k : Nat) (r : Int) : Int := iv (13 + 6 * k) r.toNat
theorem plC_ok {k : Nat} {r : Int} (H : InvC iv O w h n) (hk : k < 6) (ht : iv 3 (k + 1) = 0) (hr : 0 ≤ r ∧ r < nK (gN iv) w h k) : 0 ≤ plC iv k r ∧ plC iv k r < nK (gN iv) w h k ∧ O k (plC iv k r).toNat = r := by
  obtain ⟨⟨⟨-, -, -, d4, -, d6⟩, -⟩, -⟩ := id H
  obtain ⟨hR, ag, al, ao, pm⟩ := (H.2.2.2.2.2 k hk).view ht d4 d6
  obtain ⟨p1, p2, p3⟩ := pm.2 r.toNat (by omega)
  unfold plC
  exact ⟨p1, p2, by rw [← ao _ (by omega), p3]; omega⟩
theorem run_Z {k : Nat} {c r what : Int} (H : InvC iv O w h n) (hk : k < 6) (hc : c = (k : Int) + 1) (ht : iv 3 (k + 1) = 0) : Run sc 87 0 [some (Rf 1), some (I c), some (I r), some (I what), none] [] (hp iv) = some (some (I (runF iv w h k (plC iv k r) r what)), hp iv) := by
  subst hc
  have e1 := runsOf_Z (sc := sc) hk rfl ht
  obtain ⟨⟨⟨-, -, -, d4, -, d6⟩, -⟩, -⟩ := id H
  obtain ⟨hR, ag, al, ao, pm⟩ := (H.2.2.2.2.2 k hk).view ht d4 d6
  have hm := hR.2.1
  unfold runF
  by_cases hr : 0 ≤ r ∧ r < nK (gN iv) w h k
  · obtain ⟨j, rfl⟩ : ∃ j : Nat, r = j := ⟨r.toNat, by omega⟩
    have hj : j < nK (gN iv) w h k := by omega
    rw [if_pos hr, B_X6_run_0, isColC_T (by omega), aBind_some, pushR_some, B_X6_run_4, ite_F (by omega), B_X6_run_10, e1, aBind_some, pushR_some, B_X6_run_15 _ _ _ hk, hasR_T hk hR hr, aBind_some, pushR_some, B_X6_run_23 _ _ _ hk, ite_F (by omega)]
    obtain ⟨a1, a2⟩ := ag j hj
    by_cases c0 : what = 0
    · rw [if_pos c0, B_X6_run_28 _ _ _ hk, if_pos c0, B_X6_run_60 _ _ _ hk, bck_pos (by omega), Int.toNat_natCast, a1]
    rw [if_neg c0]
    by_cases c1 : what = 1
    · rw [if_pos c1, B_X6_run_28 _ _ _ hk, if_neg c0, if_pos c1, B_X6_run_68 _ _ _ hk, bck_pos (by omega), Int.toNat_natCast, a2]
    rw [if_neg c1]
    by_cases c2 : what = 2
    · rw [if_pos c2, B_X6_run_28 _ _ _ hk, if_neg c0, if_neg c1, if_pos c2, B_X6_run_76 _ _ _ hk, bck_pos (by omega), Int.toNat_natCast, al j hj]
    rw [if_neg c2]
    by_cases c3 : what = 3
    · rw [if_pos c3, B_X6_run_28 _ _ _ hk, if_neg c0, if_neg c1, if_neg c2, if_pos c3, B_X6_run_84 _ _ _ hk, bck_pos (by omega), Int.toNat_natCast]
      rfl
    · rw [if_neg c3, B_X6_run_28 _ _ _ hk, if_neg c0, if_neg c1, if_neg c2, if_neg c3, B_X6_run_92 _ _ _ hk]
  · rw [if_neg hr, B_X6_run_0, isColC_T (by omega), aBind_some, pushR_some, B_X6_run_4, ite_F (by omega), B_X6_run_10, e1, aBind_some, pushR_some, B_X6_run_15 _ _ _ hk, hasR_F hk hR hr, aBind_some, pushR_some, B_X6_run_23 _ _ _ hk, ite_T rfl]
theorem runAt_Z {k : Nat} {c p : Int} (H : InvC iv O w h n) (hk : k < 6) (hc : c = (k : Int) + 1) (ht : iv 3 (k + 1) = 0) : Run sc 88 0 [some (Rf 1), some (I c), some (I p), none] [] (hp iv) = some (some (I (ratF iv O w h k p)), hp iv) := by
  subst hc
  unfold ratF
  by_cases hp0 : p < 0
  · rw [if_pos hp0, B_X6_runAt_0, isColC_T (by omega), aBind_some, pushR_some, B_X6_runAt_4, ite_F (by omega), if_pos hp0, B_X6_runAt_11]
  · have e1 := runsOf_Z (sc := sc) hk rfl ht
    obtain ⟨⟨⟨-, -, -, d4, -, d6⟩, -⟩, -⟩ := id H
    obtain ⟨hR, ag, al, ao, pm⟩ := (H.2.2.2.2.2 k hk).view ht d4 d6
    have hm := hR.2.1
    rw [if_neg hp0, B_X6_runAt_0, isColC_T (by omega), aBind_some, pushR_some, B_X6_runAt_4, ite_F (by omega), if_neg hp0, B_X6_runAt_14, e1, aBind_some, pushR_some, B_X6_runAt_19 _ _ _ hk]
    by_cases hr : p < nK (gN iv) w h k
    · rw [if_pos hr, hasR_T hk hR (by omega), aBind_some, pushR_some, B_X6_runAt_25 _ _ _ hk, ite_F (by omega), bck_pos (by omega), B_X6_runAt_39 _ _ _ hk, ao _ (by omega)]
    · rw [if_neg hr, hasR_F hk hR (by omega), aBind_some, pushR_some, B_X6_runAt_25 _ _ _ hk, ite_T rfl, B_X6_runAt_37 _ _ _ hk, B_X6_runAt_39 _ _ _ hk]
theorem cnt1_Z {k : Nat} {what : Int} (H : InvC iv O w h n) (hk : k < 6) (hw : 0 ≤ what ∧ what ≤ 4) (ht : iv 3 (k + 1) = 0) : Run sc 106 0 [some (Rf 1), some (I ((k : Int) + 1)), some (I what)] [] (hp iv) = some (some (I (cvC iv O w h what k)), hp iv) := by
  obtain ⟨⟨hD, -⟩, -⟩ := id H
  obtain ⟨d1, d2, d3, d4, d5, d6⟩ := id hD
  have e1 := runsOf_Z (sc := sc) hk rfl ht
  have hs := H.2.2.2.2.2 k hk
  have hy := H.2.2.1
  obtain ⟨-, -, -, cc, -⟩ := id hs
  obtain ⟨z1, z2, z3, z4⟩ := cc ht
  obtain ⟨hR, ag, al, ao, pm0⟩ := hs.view ht d4 d6
  unfold cvC
  by_cases c0 : what = 0
  · have et := z2.total
    rw [if_pos c0, B_X6_countOfColor_0, if_pos c0, B_X6_countOfColor_36, e1, aBind_some, pushR_some, B_X6_countOfColor_41 _ _ _ hk, stitches_S hk hR, aBind_some, pushR_some, B_X6_countOfColor_44, et]
  rw [if_neg c0]
  by_cases c1 : what = 1
  · rw [if_pos c1, B_X6_countOfColor_0, if_neg (by omega), if_pos c1, B_X6_countOfColor_45, lone_S d1 d4 d2 d6, aBind_some, pushR_some, B_X6_countOfColor_53]
  rw [if_neg c1]
  by_cases c2 : what = 2
  · rw [if_pos c2, B_X6_countOfColor_0, if_neg c0, if_neg c1, if_pos c2, B_X6_countOfColor_54, e1, aBind_some, pushR_some, B_X6_countOfColor_59 _ _ _ hk, z1]
  rw [if_neg c2]
  by_cases c3 : what = 3
  · rw [if_pos c3, B_X6_countOfColor_0, if_neg c0, if_neg c1, if_neg c2, if_pos c3, B_X6_countOfColor_63, e1, aBind_some, pushR_some, B_X6_countOfColor_68 _ _ _ hk, thread_S hk hR hy pm0.ord, aBind_some, pushR_some, B_X6_countOfColor_71, thrF_cg ag al pm0.ord (fun p hpp => (ao p hpp).symm)]
  · rw [if_neg c3, B_X6_countOfColor_0, if_neg c0, if_neg c1, if_neg c2, if_neg c3, if_pos (by omega), B_X6_countOfColor_72, e1, aBind_some, pushR_some, B_X6_countOfColor_77 _ _ _ hk, starts_S hk hR pm0.ord, aBind_some, pushR_some, B_X6_countOfColor_80, staF_cg ag pm0.ord (fun p hpp => (ao p hpp).symm)]
theorem count_Z {k : Nat} {c what : Int} (H : InvC iv O w h n) (hk : k < 6) (hc : c = (k : Int) + 1) (hw : 0 ≤ what ∧ what ≤ 4) (ht : iv 3 (k + 1) = 0) : Run sc 84 0 [some (Rf 1), some (I c), some (I what), none, none] [] (hp iv) = some (some (I (cvC iv O w h what k)), hp iv) := by
  subst hc
  have hv := cvC_b (what := what) H hk
  rw [B_X6_count_0, within_T (by omega), aBind_some, pushR_some, B_X6_count_7, ite_F (by omega), within_T hw, aBind_some, pushR_some, B_X6_count_16, ite_F (by omega), B_X6_count_22]
  obtain ⟨s, e, g1⟩ := loop_ex (fun i (s : Int) => Run sc 84 27 [some (Rf 1), some (I ((k : Int) + 1)), some (I what), some (I s), some (I (i + 1))] [] (hp iv)) (fun i s => s = if k < i then cvC iv O w h what k else 0) 6 0 0 (Nat.zero_le _) (by rw [if_neg (Nat.not_lt_zero _)]) (fun i s _ hi hP => by
    subst hP
    by_cases q : i = k
    · subst q
      refine ⟨cvC iv O w h what i, ?_, by rw [if_pos (by omega)]⟩
      rw [if_neg (Nat.lt_irrefl _), B_X6_count_27, ite_F (by omega), if_neg (by omega), if_pos rfl, B_X6_count_44, cnt1_Z H hi hw ht, aBind_some, pushR_some, B_X6_count_52, chk_pos (by omega), B_X6_count_54, chk_pos (by omega), Int.zero_add]
    · refine ⟨_, ?_, rfl⟩
      have e : (if k < i + 1 then cvC iv O w h what k else 0) = if k < i then cvC iv O w h what k else 0 := by
        by_cases z : k < i
        · rw [if_pos z, if_pos (by omega)]
        · rw [if_neg z, if_neg (by omega)]
      rw [e, B_X6_count_27, ite_F (by omega), if_neg (by omega), if_neg (by omega), B_X6_count_54, chk_pos (by omega)])
  refine (show _ = _ from e).trans ?_
  show Run sc 84 27 [some (Rf 1), some (I ((k : Int) + 1)), some (I what), some (I s), some (I (6 + 1))] [] (hp iv) = _
  rw [B_X6_count_27, ite_T (by omega), B_X6_count_60, g1, if_pos hk]
/-- the first call for a color looks it up -/
theorem look_S {k : Nat} {c : Int} (H : InvC iv O w h n) (hk : k < 6) (hc : c = (k : Int) + 1) : ∃ iv2, Run sc 84 0 [some (Rf 1), some (I c), some (I 2), none, none] [] (hp iv) = some (some (I (nK (gN iv) w h k)), hp iv2) ∧ InvC iv2 O w h n ∧ FrX iv iv2 ∧ iv2 3 (k + 1) = 0 := by
  subst hc
  obtain ⟨iv1, e1, H1, ht, fr⟩ := runsOf_S (sc := sc) H hk rfl
  have fx := fr.all hk
  obtain ⟨-, -, -, cc, -⟩ := H1.2.2.2.2.2 k hk
  obtain ⟨z1, -⟩ := cc ht
  rw [fx.gn] at z1
  have hb := H.bnd hk
  refine ⟨iv1, ?_, H1, fx, ht⟩
  rw [B_X6_count_0, within_T (by omega), aBind_some, pushR_some, B_X6_count_7, ite_F (by omega), within_T (by omega), aBind_some, pushR_some, B_X6_count_16, ite_F (by omega), B_X6_count_22]
  obtain ⟨s, e, g1⟩ := loop_ex (fun i (s : Int × (Nat → Nat → Int)) => Run sc 84 27 [some (Rf 1), some (I ((k : Int) + 1)), some (I 2), some (I s.1), some (I (i + 1))] [] (hp s.2)) (fun i s => s = if k < i then ((nK (gN iv) w h k : Int), iv1) else (0, iv)) 6 0 (0, iv) (Nat.zero_le _) (by rw [if_neg (Nat.not_lt_zero _)]) (fun i s _ hi hP => by
    subst hP
    by_cases q : i = k
    · subst q
      refine ⟨((nK (gN iv) w h i : Int), iv1), ?_, by rw [if_pos (by omega)]⟩
      rw [if_neg (Nat.lt_irrefl _)]
      dsimp only
      rw [B_X6_count_27, ite_F (by omega), if_neg (by omega), if_pos rfl, B_X6_count_44, B_X6_countOfColor_0, if_neg (by omega), if_neg (by omega), if_pos rfl, B_X6_countOfColor_54, e1, aBind_some, pushR_some, B_X6_countOfColor_59 _ _ _ hk, z1, aBind_some, pushR_some, B_X6_count_52, chk_pos (by omega), B_X6_count_54, chk_pos (by omega), Int.zero_add]
    · refine ⟨_, ?_, rfl⟩
      have e : (if k < i + 1 then ((nK (gN iv) w h k : Int), iv1) else (0, iv)) = if k < i then ((nK (gN iv) w h k : Int), iv1) else (0, iv) := by
        by_cases z : k < i
        · rw [if_pos z, if_pos (by omega)]
        · rw [if_neg z, if_neg (by omega)]
      rw [e, B_X6_count_27, ite_F (by omega), if_neg (by omega), if_neg (by omega), B_X6_count_54, chk_pos (by omega)])
  rw [if_pos hk] at g1
  subst g1
  refine (show _ = _ from e).trans ?_
  show Run sc 84 27 [some (Rf 1), some (I ((k : Int) + 1)), some (I 2), some (I (nK (gN iv) w h k : Int)), some (I (6 + 1))] [] (hp iv1) = _
  rw [B_X6_count_27, ite_T (by omega), B_X6_count_60]
end LOOKED
section CURR
variable {sc : Nat × (Nat → Int)} {g iv iv2 : Nat → Nat → Int} {O : Nat → Nat → Int} {w h n : Nat} {cs : List (Nat × Nat)}
/-- nothing lies behind the cells in use -/
def Zr (cs : List (Nat × Nat)) (iv : Nat → Nat → Int) : Prop := ∀ k, 51 + cs.length < k → ∀ j, iv k j = 0
/-- the class tells what it told at g -/
def Cur (g : Nat → Nat → Int) (O : Nat → Nat → Int) (w h n : Nat) (cs : List (Nat × Nat)) (iv : Nat → Nat → Int) : Prop := InvC g O w h n ∧ InvC iv O w h n ∧ (∀ j, j ≤ 51 → j ≠ 3 → j ≠ 44 → j ≠ 47 → j ≠ 48 → (j < 8 ∨ 43 < j) → iv j = g j) ∧ Zr cs iv
def Hi (iv iv2 : Nat → Nat → Int) : Prop := ∀ k, 52 ≤ k → iv2 k = iv k
theorem Cur.rf (H : InvC iv O w h n) (hz : Zr cs iv) : Cur iv O w h n cs iv := ⟨H, H, fun _ _ _ _ _ _ _ => rfl, hz⟩
theorem Cur.fx (C : Cur g O w h n cs iv) (H2 : InvC iv2 O w h n) (f : FrX iv iv2) : Cur g O w h n cs iv2 ∧ Hi iv iv2 := by
  have hi : Hi iv iv2 := fun k hk => f k (by omega) (by omega) (by omega) (by omega) (by omega)
  exact ⟨⟨C.1, H2, fun j a b c d e q => by rw [f j b c d e q]; exact C.2.2.1 j a b c d e q, fun k hk j => by rw [hi k (by omega)]; exact C.2.2.2 k hk j⟩, hi⟩
theorem Cur.e (C : Cur g O w h n cs iv) {j : Nat} (hj : j = 2 ∨ j = 4 ∨ j = 5 ∨ j = 6 ∨ j = 45 ∨ j = 46 ∨ j = 49 ∨ j = 50 ∨ j = 51) : iv j = g j := C.2.2.1 j (by omega) (by omega) (by omega) (by omega) (by omega) (by omega)
theorem Cur.gn (C : Cur g O w h n cs iv) : gN iv = gN g := by funext x y; unfold gN; rw [C.e (by omega)]
/-- a heap that tells like g on the class's cells, written as a frame from g -/
theorem Cur.fr (C : Cur g O w h n cs iv) : ∃ v, FrX g v ∧ ∀ j, j ≤ 51 → v j = iv j := ⟨fun j => if j ≤ 51 then iv j else g j, fun j a b c d e => by
  by_cases q : j ≤ 51
  · show (if j ≤ 51 then iv j else g j) = g j
    rw [if_pos q]; exact C.2.2.1 j q a b c d e
  · show (if j ≤ 51 then iv j else g j) = g j
    rw [if_neg q], fun j q => if_pos q⟩
theorem inC_cg {iv iv2 : Nat → Nat → Int} (e2 : iv2 2 = iv 2) {x y : Int} : inC iv2 x y ↔ inC iv x y := by unfold inC; rw [e2]
theorem ite_cg {p q : Prop} [Decidable p] [Decidable q] {a b c d : Int} (e : p ↔ q) (h1 : a = b) (h2 : c = d) : (if p then a else c) = if q then b else d := by
  by_cases z : q
  · rw [if_pos z, if_pos (e.mpr z), h1]
  · rw [if_neg z, if_neg (fun y => z (e.mp y)), h2]
theorem Cur.gc (C : Cur g O w h n cs iv) (x y : Int) : gC iv x y = gC g x y := gC_congr (C.e (by omega)) (C.e (by omega)) x y
theorem cell_L {x y : Int} (C : Cur g O w h n cs iv) : Run sc 83 0 [some (Rf 1), some (I x), some (I y)] [] (hq cs iv) = some (some (I (celF g x y)), hq cs iv) := by
  have e : celF iv x y = celF g x y := ite_cg (inC_cg (C.e (by omega))) (C.gc _ _) rfl
  rw [← e]
  exact Run_ex (cell_S C.2.1)
theorem isLone_L {x y : Int} (C : Cur g O w h n cs iv) : Run sc 85 0 [some (Rf 1), some (I x), some (I y)] [] (hq cs iv) = some (some (I (lonF g x y)), hq cs iv) := by
  have e : lonF iv x y = lonF g x y := ite_cg (inC_cg (C.e (by omega))) (lonI_congr (C.e (by omega)) (C.e (by omega)) _ _) rfl
  rw [← e]
  exact Run_ex (isLone_S C.2.1)
theorem Cur.ac (C : Cur g O w h n cs iv) : acr iv = acr g ∧ dwn iv = dwn g := by
  unfold acr dwn
  rw [C.e (j := 2) (by omega), C.e (j := 49) (by omega)]
  exact ⟨rfl, rfl⟩
theorem pages_L (C : Cur g O w h n cs iv) : Run sc 101 0 [some (Rf 1)] [] (hq cs iv) = some (some (I (acr g * dwn g)), hq cs iv) := by
  rw [← C.ac.1, ← C.ac.2]
  exact Run_ex (pages_S C.2.1)
theorem Cur.own (C : Cur g O w h n cs iv) : ownC iv = ownC g := by
  funext x y
  unfold ownC
  rw [C.e (j := 2) (by omega), C.e (j := 49) (by omega)]
theorem pageOf_L {x y : Int} (C : Cur g O w h n cs iv) : Run sc 102 0 [some (Rf 1), some (I x), some (I y)] [] (hq cs iv) = some (some (I (pofF g x y)), hq cs iv) := by
  have e : pofF iv x y = pofF g x y := ite_cg (inC_cg (C.e (by omega))) (by rw [C.own]) rfl
  rw [← e]
  exact Run_ex (pageOf_S C.2.1)
theorem backU_L {x y : Int} (C : Cur g O w h n cs iv) : Run sc 94 0 [some (Rf 1), some (I x), some (I y), some (I 1)] [] (hq cs iv) = some (some (I (bkU g w h x y)), hq cs iv) := by
  have e : bkU iv w h x y = bkU g w h x y := by unfold bkU; rw [C.e (j := 45) (by omega)]
  rw [← e]
  exact Run_ex (backU_S C.2.1)
theorem backF_L {x y : Int} (C : Cur g O w h n cs iv) : Run sc 94 0 [some (Rf 1), some (I x), some (I y), some (I 0)] [] (hq cs iv) = some (some (I (bkF g w h x y)), hq cs iv) := by
  have e : bkF iv w h x y = bkF g w h x y := by unfold bkF; rw [C.e (j := 46) (by omega)]
  rw [← e]
  exact Run_ex (backF_S C.2.1)
theorem pag_cg {iv iv2 : Nat → Nat → Int} (e2 : iv2 2 = iv 2) (e4 : iv2 4 = iv 4) (e49 : iv2 49 = iv 49) : pagF iv2 = pagF iv := by
  have a : acr iv2 = acr iv := by unfold acr; rw [e2, e49]
  have d : dwn iv2 = dwn iv := by unfold dwn; rw [e2, e49]
  have l : lefC iv2 = lefC iv := by funext p; unfold lefC; rw [a, e49]
  have t : topC iv2 = topC iv := by funext p; unfold topC; rw [a, e49]
  have r : rigC iv2 = rigC iv := by funext p; unfold rigC; rw [l, e2, e49]
  have b : botC iv2 = botC iv := by funext p; unfold botC; rw [t, e2, e49]
  have ow : ownC iv2 = ownC iv := by funext x y; unfold ownC; rw [e2, e49]
  have hT : talT iv2 = talT iv := by
    funext p b lo hi x y
    unfold talT
    rw [ow, gC_congr e2 e4]
  have ta : talC iv2 = talC iv := by funext p b' lo hi; unfold talC; rw [l, t, r, b, hT]
  funext p what
  unfold pagF
  rw [a, d, l, t, r, b, ta]
theorem page_L {p what : Int} (C : Cur g O w h n cs iv) : Run sc 99 0 [some (Rf 1), some (I p), some (I what)] [] (hq cs iv) = some (some (I (pagF g p what)), hq cs iv) := by
  rw [← pag_cg (C.e (j := 2) (by omega)) (C.e (j := 4) (by omega)) (C.e (j := 49) (by omega))]
  exact Run_ex (page_S C.2.1)
theorem cvC_cg {iv iv2 : Nat → Nat → Int} {what : Int} (e2 : iv2 2 = iv 2) (e4 : iv2 4 = iv 4) (e6 : iv2 6 = iv 6) : cvC iv2 O w h what = cvC iv O w h what := by
  have eg : gN iv2 = gN iv := by funext x y; unfold gN; rw [e4]
  funext k
  unfold cvC
  rw [eg, loneC_cg e2 e4, e6]
theorem Cur.cv (C : Cur g O w h n cs iv) {what : Int} : cvC iv O w h what = cvC g O w h what := cvC_cg (C.e (by omega)) (C.e (by omega)) (C.e (by omega))
theorem count_L {c what : Int} (C : Cur g O w h n cs iv) (hc : 0 ≤ c ∧ c ≤ 6) (hw : 0 ≤ what ∧ what ≤ 4) : ∃ iv2, Run sc 84 0 [some (Rf 1), some (I c), some (I what), none, none] [] (hq cs iv) = some (some (I (selT (cvC g O w h what) c)), hq cs iv2) ∧ Cur g O w h n cs iv2 ∧ Hi iv iv2 := by
  obtain ⟨iv2, e, H2, f⟩ := count_S (sc := sc) C.2.1 hc hw
  rw [C.cv] at e
  exact ⟨iv2, Run_ex e, C.fx H2 f⟩
theorem countBad_L {c what : Int} (hc : ¬ ((0 ≤ c ∧ c ≤ 6) ∧ 0 ≤ what ∧ what ≤ 4)) : Run sc 84 0 [some (Rf 1), some (I c), some (I what), none, none] [] (hq cs iv) = some (some (I (-2)), hq cs iv) := Run_ex (count_bad hc)
theorem look_L {k : Nat} {c : Int} (C : Cur g O w h n cs iv) (hk : k < 6) (hc : c = (k : Int) + 1) : ∃ iv2, Run sc 84 0 [some (Rf 1), some (I c), some (I 2), none, none] [] (hq cs iv) = some (some (I (nK (gN g) w h k)), hq cs iv2) ∧ Cur g O w h n cs iv2 ∧ Hi iv iv2 ∧ iv2 3 (k + 1) = 0 := by
  obtain ⟨iv2, e, H2, f, t⟩ := look_S (sc := sc) C.2.1 hk hc
  rw [C.gn] at e
  exact ⟨iv2, Run_ex e, (C.fx H2 f).1, (C.fx H2 f).2, t⟩
theorem runF_cg {iv iv2 : Nat → Nat → Int} (e4 : iv2 4 = iv 4) {k : Nat} {pl r what : Int} : runF iv2 w h k pl r what = runF iv w h k pl r what := by
  have eg : gN iv2 = gN iv := by funext x y; unfold gN; rw [e4]
  unfold runF
  rw [eg]
theorem run_L {k : Nat} {c r what : Int} (C : Cur g O w h n cs iv) (hk : k < 6) (hc : c = (k : Int) + 1) (ht : iv 3 (k + 1) = 0) : Run sc 87 0 [some (Rf 1), some (I c), some (I r), some (I what), none] [] (hq cs iv) = some (some (I (runF g w h k (plC iv k r) r what)), hq cs iv) := by
  rw [← runF_cg (C.e (j := 4) (by omega))]
  exact Run_ex (run_Z C.2.1 hk hc ht)
theorem Cur.pl (C : Cur g O w h n cs iv) {k : Nat} {r : Int} (hk : k < 6) (ht : iv 3 (k + 1) = 0) (hr : 0 ≤ r ∧ r < nK (gN g) w h k) : 0 ≤ plC iv k r ∧ plC iv k r < nK (gN g) w h k ∧ O k (plC iv k r).toNat = r := by
  have := plC_ok C.2.1 hk ht (r := r) (by rw [C.gn]; exact hr)
  rw [C.gn] at this
  exact this
theorem runAt_L {k : Nat} {c p : Int} (C : Cur g O w h n cs iv) (hk : k < 6) (hc : c = (k : Int) + 1) (ht : iv 3 (k + 1) = 0) : Run sc 88 0 [some (Rf 1), some (I c), some (I p), none] [] (hq cs iv) = some (some (I (ratF g O w h k p)), hq cs iv) := by
  have e : ratF iv O w h k p = ratF g O w h k p := by unfold ratF; rw [C.gn]
  rw [← e]
  exact Run_ex (runAt_Z C.2.1 hk hc ht)
theorem count1_L {k : Nat} {c what : Int} (C : Cur g O w h n cs iv) (hk : k < 6) (hc : c = (k : Int) + 1) (hw : 0 ≤ what ∧ what ≤ 4) (ht : iv 3 (k + 1) = 0) : Run sc 84 0 [some (Rf 1), some (I c), some (I what), none, none] [] (hq cs iv) = some (some (I (cvC g O w h what k)), hq cs iv) := by
  rw [← C.cv]
  exact Run_ex (count_Z C.2.1 hk hc hw ht)
theorem opC_cg {iv iv2 : Nat → Nat → Int} {p what : Int} (e2 : iv2 2 = iv 2) (e4 : iv2 4 = iv 4) (e6 : iv2 6 = iv 6) (e49 : iv2 49 = iv 49) : opC iv2 O w h p what = opC iv O w h p what := by
  have eg : gN iv2 = gN iv := by funext x y; unfold gN; rw [e4]
  have a : acr iv2 = acr iv := by unfold acr; rw [e2, e49]
  have l : lefC iv2 = lefC iv := by funext p; unfold lefC; rw [a, e49]
  have t : topC iv2 = topC iv := by funext p; unfold topC; rw [a, e49]
  have r : rigC iv2 = rigC iv := by funext p; unfold rigC; rw [l, e2, e49]
  have b : botC iv2 = botC iv := by funext p; unfold botC; rw [t, e2, e49]
  have ow : ownC iv2 = ownC iv := by funext x y; unfold ownC; rw [e2, e49]
  have hT : talT iv2 = talT iv := by
    funext p b lo hi x y
    unfold talT
    rw [ow, gC_congr e2 e4]
  have ta : talC iv2 = talC iv := by funext p b' lo hi; unfold talC; rw [l, t, r, b, hT]
  funext k
  unfold opC
  rw [eg, ow, ta, e6]
theorem onPage_L {p c what : Int} (C : Cur g O w h n cs iv) (hpp : 0 ≤ p ∧ p < acr g * dwn g) (hc : 0 ≤ c ∧ c ≤ 6) (hw : 0 ≤ what ∧ what ≤ 2) : ∃ iv2, Run sc 100 0 [some (Rf 1), some (I p), some (I c), some (I what), none, none] [] (hq cs iv) = some (some (I (selT (opC g O w h p what) c)), hq cs iv2) ∧ Cur g O w h n cs iv2 ∧ Hi iv iv2 := by
  obtain ⟨iv2, e, H2, f⟩ := onPage_S (sc := sc) C.2.1 (by rw [C.ac.1, C.ac.2]; exact hpp) hc hw
  rw [opC_cg (C.e (j := 2) (by omega)) (C.e (j := 4) (by omega)) (C.e (j := 6) (by omega)) (C.e (j := 49) (by omega))] at e
  exact ⟨iv2, Run_ex e, C.fx H2 f⟩
theorem onPageBad_L {p c what : Int} (C : Cur g O w h n cs iv) : (¬ (0 ≤ p ∧ p < acr g * dwn g) → Run sc 100 0 [some (Rf 1), some (I p), some (I c), some (I what), none, none] [] (hq cs iv) = some (some (I (-1)), hq cs iv)) ∧ (0 ≤ p ∧ p < acr g * dwn g → ¬ ((0 ≤ c ∧ c ≤ 6) ∧ 0 ≤ what ∧ what ≤ 2) → Run sc 100 0 [some (Rf 1), some (I p), some (I c), some (I what), none, none] [] (hq cs iv) = some (some (I (-2)), hq cs iv)) := by
  rw [← C.ac.1, ← C.ac.2]
  exact ⟨fun z => Run_ex ((onPage_bad C.2.1).1 z), fun z y => Run_ex ((onPage_bad C.2.1).2 z y)⟩
theorem backs_L {what : Int} (C : Cur g O w h n cs iv) : ∃ iv2, Run sc 97 0 [some (Rf 1), some (I what)] [] (hq cs iv) = some (some (I (bacF w h (g 45) (g 46) (g 6 1) what)), hq cs iv2) ∧ Cur g O w h n cs iv2 ∧ Hi iv iv2 := by
  obtain ⟨iv2, e, H2, f⟩ := backs_S (sc := sc) (what := what) C.2.1
  rw [C.e (j := 45) (by omega), C.e (j := 46) (by omega), C.e (j := 6) (by omega)] at e
  exact ⟨iv2, Run_ex e, C.fx H2 f⟩
end CURR
