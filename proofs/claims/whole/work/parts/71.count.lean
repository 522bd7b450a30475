/-! count -/
section COUNT
variable {sc : Nat × (Nat → Int)} {iv iv1 iv2 : Nat → Nat → Int}
/-- what count tells of one color -/
def cvM (iv : Nat → Nat → Int) (w h : Nat) (c : Nat) (what : Int) : Int := if what = 0 then cnC (gN iv) c w h else if what = 1 then loneC iv w h c else if what = 2 then iv 57 c else if what = 3 then thrF (iv 57 c).toNat (mX iv c) (mY iv c) (mL iv c) (iv 52 2) (iv 52 3) (mO iv c) else staF (iv 57 c).toNat (mX iv c) (mY iv c) (iv 52 2) (mO iv c)
/-- class runs aside, nothing differs -/
def FrA (iv iv2 : Nat → Nat → Int) : Prop := ∀ j, j ≠ 3 → (j < 8 ∨ 43 < j) → iv2 j = iv j
theorem FrA.rf : FrA iv iv := fun _ _ _ => rfl
theorem FrA.tr {iv3 : Nat → Nat → Int} (h : FrA iv iv2) (h2 : FrA iv2 iv3) : FrA iv iv3 := fun j a b => (h2 j a b).trans (h j a b)
theorem FrC.all {k : Nat} (h : FrC iv iv2 k) (hk : k < 6) : FrA iv iv2 := fun j a b => h.1 j a (by omega)
theorem loneC_cg {w h : Nat} {c : Int} (e2 : iv2 2 = iv 2) (e4 : iv2 4 = iv 4) : loneC iv2 w h c = loneC iv w h c := by
  unfold loneC
  apply sumN_congr
  intro j _
  apply sumN_congr
  intro i _
  rw [gC_congr e2 e4, lonI_congr e2 e4]
theorem cvM_fr {w h c : Nat} {what : Int} (f : FrA iv iv2) : cvM iv2 w h c what = cvM iv w h c what := by
  have eX : mX iv2 = mX iv := by funext c r; unfold mX; rw [f 58 (by omega) (by omega)]
  have eY : mY iv2 = mY iv := by funext c r; unfold mY; rw [f 59 (by omega) (by omega)]
  have eL : mL iv2 = mL iv := by funext c r; unfold mL; rw [f 60 (by omega) (by omega)]
  have eO : mO iv2 = mO iv := by funext c r; unfold mO; rw [f 61 (by omega) (by omega)]
  have eg : gN iv2 = gN iv := by funext x y; unfold gN; rw [f 4 (by omega) (by omega)]
  unfold cvM
  rw [eX, eY, eL, eO, eg, loneC_cg (f 2 (by omega) (by omega)) (f 4 (by omega) (by omega)), f 57 (by omega) (by omega), f 52 (by omega) (by omega)]
set_option maxHeartbeats 1000000 in
theorem cnt1_S {w h n k : Nat} {what : Int} (H : InvW iv w h n) (hk : k < 6) (hw : 0 ≤ what ∧ what ≤ 4) : ∃ iv2, Run sc 106 0 [some (Rf 1), some (I ((k : Int) + 1)), some (I what)] [] (hp iv) = some (some (I (cvM iv w h (k + 1) what)), hp iv2) ∧ InvW iv2 w h n ∧ FrA iv iv2 := by
  obtain ⟨⟨hD, -⟩, -⟩ := id H
  obtain ⟨d1, d2, d3, d4, d5, d6⟩ := id hD
  by_cases c1 : what = 1
  · refine ⟨iv, ?_, H, FrA.rf⟩
    unfold cvM
    rw [if_neg (by omega), if_pos c1, B_X6_countOfColor_0, if_neg (by omega), if_pos c1, B_X6_countOfColor_45, lone_S d1 d4 d2 d6, aBind_some, pushR_some, B_X6_countOfColor_53]
    rfl
  · obtain ⟨iv1, e1, H1, ht, fr⟩ := runsOf_S (sc := sc) H hk rfl
    have hs := H1.2.2.2.2.2 k hk
    obtain ⟨hy, y1, y2⟩ := H1.2.2.1
    obtain ⟨-, -, m, cm, cR, -, cc, -⟩ := id hs
    obtain ⟨z1, z2, z3, z4⟩ := cc ht
    obtain ⟨m2, V⟩ := hs.view ht hk d4 d6
    obtain ⟨hR, hMR, ag, al, ao, pm0⟩ := id V
    have em : m2 = m := by have := hMR.2.1; rw [cm] at this; omega
    subst em
    have tn : (iv1 57 (k + 1)).toNat = m2 := by rw [cm]; omega
    have ev := cvM_fr (w := w) (h := h) (c := k + 1) (what := what) (fr.all hk)
    refine ⟨iv1, ?_, H1, fr.all hk⟩
    rw [← ev]
    unfold cvM
    by_cases c0 : what = 0
    · have et := z2.total
      rw [if_pos c0, B_X6_countOfColor_0, if_pos c0, B_X6_countOfColor_36, e1, aBind_some, pushR_some, B_X6_countOfColor_41 _ _ _ hk, stitches_S hk hR, aBind_some, pushR_some, B_X6_countOfColor_44, et]
      rfl
    rw [if_neg c0, if_neg c1]
    by_cases c2 : what = 2
    · rw [if_pos c2, B_X6_countOfColor_0, if_neg c0, if_neg c1, if_pos c2, B_X6_countOfColor_54, e1, aBind_some, pushR_some, B_X6_countOfColor_59 _ _ _ hk, z1, cm]
    rw [if_neg c2, tn]
    by_cases c3 : what = 3
    · rw [if_pos c3, B_X6_countOfColor_0, if_neg c0, if_neg c1, if_neg c2, if_pos c3, B_X6_countOfColor_63, e1, aBind_some, pushR_some, B_X6_countOfColor_68 _ _ _ hk, thread_S hk hR hy pm0.ord, aBind_some, pushR_some, B_X6_countOfColor_71, y1, y2, thrF_cg ag al pm0.ord (fun p hpp => (ao p hpp).symm)]
    · rw [if_neg c3, B_X6_countOfColor_0, if_neg c0, if_neg c1, if_neg c2, if_neg c3, if_pos (by omega), B_X6_countOfColor_72, e1, aBind_some, pushR_some, B_X6_countOfColor_77 _ _ _ hk, starts_S hk hR pm0.ord, aBind_some, pushR_some, B_X6_countOfColor_80, y1, staF_cg ag pm0.ord (fun p hpp => (ao p hpp).symm)]
end COUNT
