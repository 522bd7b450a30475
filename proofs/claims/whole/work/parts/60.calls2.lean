/-! calls that tell of runs -/
section CALLS2
variable {sc : Nat × (Nat → Int)} {iv : Nat → Nat → Int}
/-- the runs of a color that are looked up: the same on both sides -/
def ViewC (iv : Nat → Nat → Int) (k m : Nat) : Prop := RunsB iv k m ∧ MRunB iv (k + 1) m ∧ AgX m (iv (9 + 6 * k)) (iv (10 + 6 * k)) (mX iv (k + 1)) (mY iv (k + 1)) ∧ (∀ r, r < m → iv (11 + 6 * k) r = mL iv (k + 1) r) ∧ (∀ p, p < m → iv (12 + 6 * k) p = mO iv (k + 1) p) ∧ PermN m (iv (12 + 6 * k)) (iv (13 + 6 * k))
theorem CrI.view {w h k : Nat} (H : CrI iv w h k) (ht : iv 3 (k + 1) = 0) (hk : k < 6) (hw : w ≤ 24) (hh : h ≤ 24) : ∃ m, ViewC iv k m := by
  obtain ⟨a, b, m, c, d, e, f, i⟩ := H
  obtain ⟨f1, f2, f3, f4⟩ := f ht
  obtain ⟨-, ag⟩ := f2.agree d
  obtain ⟨b1, b2⟩ := f2.b hw hh
  obtain ⟨c1, c2⟩ := d.b hw hh
  refine ⟨m, ⟨f1, b1, fun r hr => ?_⟩, ⟨by omega, c, c1, fun r hr => ?_⟩, fun r hr => ⟨(ag r hr).1, (ag r hr).2.1⟩, fun r hr => (ag r hr).2.2, f3, f4⟩
  · have := b2 r hr; omega
  · have := c2 r hr; omega
theorem run_B {w h n : Nat} {c r what : Int} (H : InvW iv w h n) : Both sc 87 140 [some (Rf 1), some (I c), some (I r), some (I what), none] [some (Rf 52), some (I c), some (I r), some (I what)] iv := by
  by_cases hc : 1 ≤ c ∧ c ≤ 6
  · obtain ⟨k, hk, rfl⟩ : ∃ k : Nat, k < 6 ∧ c = (k : Int) + 1 := ⟨(c - 1).toNat, by omega, by omega⟩
    obtain ⟨iv1, e1, H1, ht, -⟩ := runsOf_S (sc := sc) H hk rfl
    obtain ⟨⟨⟨-, -, -, d4, -, d6⟩, -⟩, -⟩ := id H1
    obtain ⟨m, hR, hMR, ag, al, ao, pm⟩ := (H1.2.2.2.2.2 k hk).view ht hk d4 d6
    obtain ⟨q1, q2, q3, q4⟩ := id hMR
    have hm := hR.2.1
    have ek : ((k : Int) + 1).toNat = k + 1 := by omega
    have cst : (k : Int) + 1 = ((k + 1 : Nat) : Int) := rfl
    by_cases hr : 0 ≤ r ∧ r < m
    · obtain ⟨j, rfl⟩ : ∃ j : Nat, r = j := ⟨r.toNat, by omega⟩
      have hj : j < m := by omega
      have ti : (288 * ((k : Int) + 1) + j).toNat = 288 * (k + 1) + j := by omega
      have fin : ∀ a : Int, (Run sc 87 28 [some (Rf 1), some (I ((k : Int) + 1)), some (I j), some (I what), some (Rf (8 + 6 * k))] [] (hp iv1) = some (some (I a), hp iv1)) → (Run sc 140 28 [some (Rf 52), some (I ((k : Int) + 1)), some (I j), some (I what)] [] (hp iv1) = some (some (I a), hp iv1)) → Both sc 87 140 [some (Rf 1), some (I ((k : Int) + 1)), some (I j), some (I what), none] [some (Rf 52), some (I ((k : Int) + 1)), some (I j), some (I what)] iv := fun a h1 h2 => by
        refine ⟨a, iv1, iv1, w, h, n, ?_, ?_, H1⟩
        · rw [B_X6_run_0, isColC_T hc, aBind_some, pushR_some, B_X6_run_4, ite_F (by omega), B_X6_run_10, e1, aBind_some, pushR_some, B_X6_run_15 _ _ _ hk, hasR_T hk hR hr, aBind_some, pushR_some, B_X6_run_23 _ _ _ hk, ite_F (by omega)]
          exact h1
        · rw [B_X7_run_0, isCol_T hc, aBind_some, pushR_some, B_X7_run_4, ite_F (by omega), B_X7_run_10, bck_pos (by omega), ek, q2, chk_pos (by omega), in_T (by omega), aBind_some, pushR_some, B_X7_run_23, ite_F (by omega)]
          exact h2
      obtain ⟨a1, a2⟩ := ag j hj
      by_cases c0 : what = 0
      · refine fin (mX iv1 (k + 1) j) ?_ ?_
        · rw [B_X6_run_28 _ _ _ hk, if_pos c0, B_X6_run_60 _ _ _ hk, bck_pos (by omega), Int.toNat_natCast, a1]
        · rw [B_X7_run_28, if_pos c0, B_X7_run_60, chk_pos (by omega), chk_pos (by omega), bck_pos (by omega), ti]; rfl
      by_cases c1 : what = 1
      · refine fin (mY iv1 (k + 1) j) ?_ ?_
        · rw [B_X6_run_28 _ _ _ hk, if_neg c0, if_pos c1, B_X6_run_68 _ _ _ hk, bck_pos (by omega), Int.toNat_natCast, a2]
        · rw [B_X7_run_28, if_neg c0, if_pos c1, B_X7_run_73, chk_pos (by omega), chk_pos (by omega), bck_pos (by omega), ti]; rfl
      by_cases c2 : what = 2
      · refine fin (mL iv1 (k + 1) j) ?_ ?_
        · rw [B_X6_run_28 _ _ _ hk, if_neg c0, if_neg c1, if_pos c2, B_X6_run_76 _ _ _ hk, bck_pos (by omega), Int.toNat_natCast, al j hj]
        · rw [B_X7_run_28, if_neg c0, if_neg c1, if_pos c2, B_X7_run_86, chk_pos (by omega), chk_pos (by omega), bck_pos (by omega), ti]; rfl
      by_cases c3 : what = 3
      · obtain ⟨p1, p2, p3⟩ := pm.2 j hj
        obtain ⟨pl, hpl⟩ : ∃ pl : Nat, iv1 (13 + 6 * k) j = pl := ⟨(iv1 (13 + 6 * k) j).toNat, by omega⟩
        rw [hpl, Int.toNat_natCast] at p3
        refine fin pl ?_ ?_
        · rw [B_X6_run_28 _ _ _ hk, if_neg c0, if_neg c1, if_neg c2, if_pos c3, B_X6_run_84 _ _ _ hk, bck_pos (by omega), Int.toNat_natCast, hpl]
        · have hw := whe_M (sc := sc) (iv := iv1) (c := k + 1) (n := m) (k := pl) (r := j) (by omega) hm (by omega) (by rw [← ao pl (by omega)]; exact p3) (fun i hi z => by
            rw [← ao i (by omega)] at z
            have := pm.inj (p := i) (q := pl) (by omega) (by omega) (z.trans p3.symm)
            omega)
          rw [B_X7_run_28, if_neg c0, if_neg c1, if_neg c2, if_pos c3, B_X7_run_99, cst, hw, aBind_some, pushR_some, B_X7_run_105]
      · refine fin (-2) ?_ ?_
        · rw [B_X6_run_28 _ _ _ hk, if_neg c0, if_neg c1, if_neg c2, if_neg c3, B_X6_run_92 _ _ _ hk]
        · rw [B_X7_run_28, if_neg c0, if_neg c1, if_neg c2, if_neg c3, B_X7_run_106]
    · refine ⟨-1, iv1, iv1, w, h, n, ?_, ?_, H1⟩
      · rw [B_X6_run_0, isColC_T hc, aBind_some, pushR_some, B_X6_run_4, ite_F (by omega), B_X6_run_10, e1, aBind_some, pushR_some, B_X6_run_15 _ _ _ hk, hasR_F hk hR hr, aBind_some, pushR_some, B_X6_run_23 _ _ _ hk, ite_T rfl]
      · rw [B_X7_run_0, isCol_T hc, aBind_some, pushR_some, B_X7_run_4, ite_F (by omega), B_X7_run_10, bck_pos (by omega), ek, q2, chk_pos (by omega), in_F (by omega), aBind_some, pushR_some, B_X7_run_23, ite_T rfl]
  · refine Both.same (a := -2) H ?_ ?_
    · rw [B_X6_run_0, isColC_F hc, aBind_some, pushR_some, B_X6_run_4, ite_T rfl]
    · rw [B_X7_run_0, isCol_F hc, aBind_some, pushR_some, B_X7_run_4, ite_T rfl]
theorem runAt_B {w h n : Nat} {c p : Int} (H : InvW iv w h n) : Both sc 88 141 [some (Rf 1), some (I c), some (I p), none] [some (Rf 52), some (I c), some (I p)] iv := by
  by_cases hc : 1 ≤ c ∧ c ≤ 6
  · by_cases hp0 : p < 0
    · refine Both.same (a := -2) H ?_ ?_
      · rw [B_X6_runAt_0, isColC_T hc, aBind_some, pushR_some, B_X6_runAt_4, ite_F (by omega), if_pos hp0, B_X6_runAt_11]
      · rw [B_X7_runAt_0, isCol_T hc, aBind_some, pushR_some, B_X7_runAt_4, ite_F (by omega), if_pos hp0, B_X7_runAt_11]
    · obtain ⟨k, hk, rfl⟩ : ∃ k : Nat, k < 6 ∧ c = (k : Int) + 1 := ⟨(c - 1).toNat, by omega, by omega⟩
      obtain ⟨iv1, e1, H1, ht, -⟩ := runsOf_S (sc := sc) H hk rfl
      obtain ⟨⟨⟨-, -, -, d4, -, d6⟩, -⟩, -⟩ := id H1
      obtain ⟨m, hR, hMR, ag, al, ao, pm⟩ := (H1.2.2.2.2.2 k hk).view ht hk d4 d6
      obtain ⟨q1, q2, q3, q4⟩ := id hMR
      have hm := hR.2.1
      have ek : ((k : Int) + 1).toNat = k + 1 := by omega
      have cst : (k : Int) + 1 = ((k + 1 : Nat) : Int) := rfl
      by_cases hr : 0 ≤ p ∧ p < m
      · obtain ⟨j, rfl⟩ : ∃ j : Nat, p = j := ⟨p.toNat, by omega⟩
        refine ⟨mO iv1 (k + 1) j, iv1, iv1, w, h, n, ?_, ?_, H1⟩
        · rw [B_X6_runAt_0, isColC_T hc, aBind_some, pushR_some, B_X6_runAt_4, ite_F (by omega), if_neg hp0, B_X6_runAt_14, e1, aBind_some, pushR_some, B_X6_runAt_19 _ _ _ hk, hasR_T hk hR hr, aBind_some, pushR_some, B_X6_runAt_25 _ _ _ hk, ite_F (by omega), bck_pos (by omega), B_X6_runAt_39 _ _ _ hk, Int.toNat_natCast, ao j (by omega)]
        · rw [B_X7_runAt_0, isCol_T hc, aBind_some, pushR_some, B_X7_runAt_4, ite_F (by omega), if_neg hp0, B_X7_runAt_14, bck_pos (by omega), ek, q2, ite_T (by omega), cst, pla_M (by omega) (by omega), aBind_some, pushR_some, B_X7_runAt_30, B_X7_runAt_35]
      · refine ⟨-4, iv1, iv1, w, h, n, ?_, ?_, H1⟩
        · rw [B_X6_runAt_0, isColC_T hc, aBind_some, pushR_some, B_X6_runAt_4, ite_F (by omega), if_neg hp0, B_X6_runAt_14, e1, aBind_some, pushR_some, B_X6_runAt_19 _ _ _ hk, hasR_F hk hR hr, aBind_some, pushR_some, B_X6_runAt_25 _ _ _ hk, ite_T rfl, B_X6_runAt_37 _ _ _ hk, B_X6_runAt_39 _ _ _ hk]
        · rw [B_X7_runAt_0, isCol_T hc, aBind_some, pushR_some, B_X7_runAt_4, ite_F (by omega), if_neg hp0, B_X7_runAt_14, bck_pos (by omega), ek, q2, ite_F (by omega), B_X7_runAt_33, B_X7_runAt_35]
  · refine Both.same (a := -2) H ?_ ?_
    · rw [B_X6_runAt_0, isColC_F hc, aBind_some, pushR_some, B_X6_runAt_4, ite_T rfl, B_X6_runAt_11]
    · rw [B_X7_runAt_0, isCol_F hc, aBind_some, pushR_some, B_X7_runAt_4, ite_T rfl, B_X7_runAt_11]
end CALLS2
