/-! what class and model keep together; StitchChart: runsOf */ -/
section INVS
variable {sc : Nat × (Nat → Int)} {iv iv2 : Nat → Nat → Int}
/-- the runs of a color, in class and model -/
def CrI (iv : Nat → Nat → Int) (w h k : Nat) : Prop := iv (8 + 6 * k) 2 = (k : Int) + 1 ∧ (iv 3 (k + 1) = 0 ∨ iv 3 (k + 1) = 1) ∧ ∃ m : Nat, iv 57 (k + 1) = (m : Int) ∧ RunsOK (gN iv) ((k : Int) + 1) w h m (mX iv (k + 1)) (mY iv (k + 1)) (mL iv (k + 1)) ∧ (∃ P, PermN m (mO iv (k + 1)) P) ∧
  (iv 3 (k + 1) = 0 → iv (8 + 6 * k) 3 = m ∧ RunsOK (gN iv) ((k : Int) + 1) w h m (iv (9 + 6 * k)) (iv (10 + 6 * k)) (iv (11 + 6 * k)) ∧ (∀ p, p < m → iv (12 + 6 * k) p = mO iv (k + 1) p) ∧ PermN m (iv (12 + 6 * k)) (iv (13 + 6 * k))) ∧
  (iv 3 (k + 1) = 1 → ∀ p, p < m → mO iv (k + 1) p = foO m (mX iv (k + 1)) (mY iv (k + 1)) p)
def InvW (iv : Nat → Nat → Int) (w h n : Nat) : Prop := MGr iv iv w h ∧ MLy iv iv ∧ (YarnB iv ∧ iv 52 2 = iv 6 0 ∧ iv 52 3 = iv 6 1) ∧ (MBk iv iv w h ∧ BkOut iv w h) ∧ (TxtB iv n ∧ MTx (iv 51) iv n) ∧ ∀ k, k < 6 → CrI iv w h k
/-- what the runs of a color need of a heap -/
theorem CrI.cg {w h k : Nat} (H : CrI iv w h k) (e3 : iv2 3 (k + 1) = iv 3 (k + 1)) (e4 : ∀ j, j < 576 → iv2 4 j = iv 4 j) (hw : w ≤ 24) (hh : h ≤ 24) (e57 : iv2 57 = iv 57) (e58 : iv2 58 = iv 58) (e59 : iv2 59 = iv 59) (e60 : iv2 60 = iv 60) (e61 : iv2 61 = iv 61) (e8 : iv2 (8 + 6 * k) 2 = iv (8 + 6 * k) 2 ∧ iv2 (8 + 6 * k) 3 = iv (8 + 6 * k) 3) (e9 : iv2 (9 + 6 * k) = iv (9 + 6 * k)) (e10 : iv2 (10 + 6 * k) = iv (10 + 6 * k)) (e11 : iv2 (11 + 6 * k) = iv (11 + 6 * k)) (e12 : iv2 (12 + 6 * k) = iv (12 + 6 * k)) (e13 : iv2 (13 + 6 * k) = iv (13 + 6 * k)) : CrI iv2 w h k := by
  have eX : mX iv2 = mX iv := by funext c r; unfold mX; rw [e58]
  have eY : mY iv2 = mY iv := by funext c r; unfold mY; rw [e59]
  have eL : mL iv2 = mL iv := by funext c r; unfold mL; rw [e60]
  have eO : mO iv2 = mO iv := by funext c r; unfold mO; rw [e61]
  have eg : ∀ x y, x < w → y < h → (gN iv2 x y = (k : Int) + 1 ↔ gN iv x y = (k : Int) + 1) := fun x y hx hy => by unfold gN; rw [e4 _ (by omega)]
  unfold CrI at H ⊢
  rw [e3, e57, e8.1, e8.2, e9, e10, e11, e12, e13, eX, eY, eL, eO]
  obtain ⟨a, b, m, c, d, e, f, i⟩ := H
  exact ⟨a, b, m, c, d.congr eg, e, fun z => by obtain ⟨f1, f2, f3, f4⟩ := f z; exact ⟨f1, f2.congr eg, f3, f4⟩, i⟩
/-- only what the class keeps of the runs of a color differs -/
def FrC (iv iv2 : Nat → Nat → Int) (k : Nat) : Prop := (∀ j, j ≠ 3 → (j < 8 + 6 * k ∨ 13 + 6 * k < j) → iv2 j = iv j) ∧ (∀ f, f ≠ k + 1 → iv2 3 f = iv 3 f) ∧ ∀ f, f ≠ 3 → iv2 (8 + 6 * k) f = iv (8 + 6 * k) f
theorem InvW.fr {w h n k : Nat} (H : InvW iv w h n) (hk : k < 6) (hF : FrC iv iv2 k) (hC : CrI iv2 w h k) : InvW iv2 w h n := by
  obtain ⟨h1, h2, h3, ⟨h4, h4'⟩, h5, h6⟩ := H
  obtain ⟨f1, f2, f3⟩ := hF
  have hwh := h1.1
  have e2 := f1 2 (by omega) (by omega)
  have e4 := f1 4 (by omega) (by omega)
  have e49 : iv2 49 = iv 49 := f1 49 (by omega) (by omega)
  have e6 := f1 6 (by omega) (by omega)
  have e45 : iv2 45 = iv 45 := f1 45 (by omega) (by omega)
  have e46 : iv2 46 = iv 46 := f1 46 (by omega) (by omega)
  have e50 : iv2 50 = iv 50 := f1 50 (by omega) (by omega)
  have e51 : iv2 51 = iv 51 := f1 51 (by omega) (by omega)
  have e52 : iv2 52 = iv 52 := f1 52 (by omega) (by omega)
  have e53 : iv2 53 = iv 53 := f1 53 (by omega) (by omega)
  have e55 : iv2 55 = iv 55 := f1 55 (by omega) (by omega)
  have e56 : iv2 56 = iv 56 := f1 56 (by omega) (by omega)
  have e57 : iv2 57 = iv 57 := f1 57 (by omega) (by omega)
  have e58 : iv2 58 = iv 58 := f1 58 (by omega) (by omega)
  have e59 : iv2 59 = iv 59 := f1 59 (by omega) (by omega)
  have e60 : iv2 60 = iv 60 := f1 60 (by omega) (by omega)
  have e61 : iv2 61 = iv 61 := f1 61 (by omega) (by omega)
  have e63 : iv2 63 = iv 63 := f1 63 (by omega) (by omega)
  have dm : DimB iv2 w h := by unfold DimB; rw [e2]; exact hwh
  refine ⟨?_, ?_, ?_, ⟨?_, ?_⟩, ?_, fun k2 hk2 => ?_⟩
  · obtain ⟨a, b, c, d⟩ := h1
    exact ⟨dm, by rw [e52]; exact b, by rw [e52]; exact c, by rw [e53, e4]; exact d⟩
  · unfold MLy LayB at h2 ⊢; rw [e49, e52]; exact h2
  · unfold YarnB at h3 ⊢; rw [e52, e6]; exact h3
  · obtain ⟨a, b, c, d⟩ := h4
    exact ⟨dm, by rw [e52]; exact b, by rw [e52]; exact c, by rw [e45, e46, e55, e56]; exact d⟩
  · unfold BkOut at h4' ⊢; rw [e45, e46]; exact h4'
  · unfold TxtB MTx at h5 ⊢; rw [e50, e51, e52, e63]; exact h5
  · by_cases e : k2 = k
    · rw [e]; exact hC
    · have hs := h6 k2 hk2
      exact hs.cg (f2 _ (by omega)) (fun j _ => by rw [e4]) hwh.2.2.2.1 hwh.2.2.2.2.2 e57 e58 e59 e60 e61 (by rw [f1 (8 + 6 * k2) (by omega) (by omega)]; exact ⟨rfl, rfl⟩) (f1 _ (by omega) (by omega)) (f1 _ (by omega) (by omega)) (f1 _ (by omega) (by omega)) (f1 _ (by omega) (by omega)) (f1 _ (by omega) (by omega))
theorem isColC_T {x : Int} (h : 1 ≤ x ∧ x ≤ 6) : Run sc 104 0 [some (I x)] [] (hp iv) = some (some (I 1), hp iv) := by
  rw [B_X6_isColor_0, within_T h, aBind_some, pushR_some, B_X6_isColor_7, bck_pos (by omega)]
theorem isColC_F {x : Int} (h : ¬ (1 ≤ x ∧ x ≤ 6)) : Run sc 104 0 [some (I x)] [] (hp iv) = some (some (I 0), hp iv) := by
  rw [B_X6_isColor_0, within_F h, aBind_some, pushR_some, B_X6_isColor_7, bck_pos (by omega)]
set_option maxHeartbeats 2000000 in
theorem runsOf_S {w h n k : Nat} {x : Int} (H : InvW iv w h n) (hk : k < 6) (hx : x = (k : Int) + 1) : ∃ iv2, Run sc 105 0 [some (Rf 1), some (I x), none, none] [] (hp iv) = some (some (Rf (8 + 6 * k)), hp iv2) ∧ InvW iv2 w h n ∧ iv2 3 (k + 1) = 0 ∧ FrC iv iv2 k := by
  subst hx
  have hC := H.2.2.2.2.2 k hk
  obtain ⟨hM, -⟩ := id H
  obtain ⟨⟨d1, d2, d3, d4, d5, d6⟩, -⟩ := id hM
  have en : ((k : Int) + 1 - 1).toNat = k := by omega
  have en1 : ((k : Int) + 1 - 1 + 1).toNat = k + 1 := by omega
  rw [B_X6_runsOf_0, isColC_T (by omega), aBind_some, pushR_some, B_X6_runsOf_4, ite_F (by omega), chk_pos (by omega), B_X6_runsOf_14 _ _ _ _ _ _ (by omega), chk_pos (by omega), bck_pos (by omega), en, en1]
  obtain ⟨c2, c3, m, c57, cR, cP, c0, c1⟩ := id hC
  rcases c3 with t | t
  · exact ⟨iv, by rw [if_pos t, B_X6_runsOf_56 _ _ _ hk], H, t, fun _ _ _ => rfl, fun _ _ => rfl, fun _ _ => rfl⟩
  · rw [if_neg (by omega), chk_pos (by omega), bck_pos (by omega), bck_pos (by omega), B_X6_runsOf_48 _ _ _ hk]
    generalize hiv1 : setO iv 3 (upI (iv 3) (k + 1) 0) = iv1
    have g1 : ∀ j, j ≠ 3 → iv1 j = iv j := fun j hj => by rw [← hiv1, setO_ne hj]
    have g3 : ∀ f, f ≠ k + 1 → iv1 3 f = iv 3 f := fun f hf => by rw [← hiv1, setO_same, upI_ne hf]
    have g30 : iv1 3 (k + 1) = 0 := by rw [← hiv1, setO_same, upI_same]
    obtain ⟨iv3, m2, e2, o2, n2, r2⟩ := findRuns_S (sc := sc) (iv := iv1) (d1 := none) (d2 := none) hk (by rw [g1 2 (by omega)]; exact d1) (by rw [g1 2 (by omega)]; exact d2) d4 d6 (by rw [g1 _ (by omega)]; exact c2)
    have gn1 : gN iv1 = gN iv := by funext x y; unfold gN; rw [g1 4 (by omega)]
    rw [gn1] at r2
    obtain ⟨em, ag⟩ := r2.agree cR
    subst em
    obtain ⟨b1, b2⟩ := r2.b d4 d6
    have hRB : RunsB iv3 k m2 := ⟨n2, b1, fun r hr => by have := b2 r hr; omega⟩
    obtain ⟨iv4, e4, o4, p4, q4⟩ := firstOrd_S (sc := sc) hk hRB
    have agx : AgX m2 (iv3 (9 + 6 * k)) (iv3 (10 + 6 * k)) (mX iv (k + 1)) (mY iv (k + 1)) := fun i hi => ⟨(ag i hi).1, (ag i hi).2.1⟩
    have fr : FrC iv iv4 k := by
      refine ⟨fun j hj hr => ?_, fun f hf => ?_, fun f hf => ?_⟩
      · rw [o4 j (by omega) (by omega), o2.1 j (by omega) (by omega) (by omega) (by omega), g1 j hj]
      · rw [o4 3 (by omega) (by omega), o2.1 3 (by omega) (by omega) (by omega) (by omega), g3 f hf]
      · rw [o4 _ (by omega) (by omega), o2.2 f hf, g1 _ (by omega)]
    have z30 : iv4 3 (k + 1) = 0 := by rw [o4 3 (by omega) (by omega), o2.1 3 (by omega) (by omega) (by omega) (by omega), g30]
    have gn4 : gN iv4 = gN iv := by funext x y; unfold gN; rw [fr.1 4 (by omega) (by omega)]
    have eX : mX iv4 = mX iv := by funext c r; unfold mX; rw [fr.1 58 (by omega) (by omega)]
    have eY : mY iv4 = mY iv := by funext c r; unfold mY; rw [fr.1 59 (by omega) (by omega)]
    have eL : mL iv4 = mL iv := by funext c r; unfold mL; rw [fr.1 60 (by omega) (by omega)]
    have eO : mO iv4 = mO iv := by funext c r; unfold mO; rw [fr.1 61 (by omega) (by omega)]
    have hpm : PermN m2 (iv4 (12 + 6 * k)) (iv4 (13 + 6 * k)) := foO_perm.congr p4 q4
    have hC4 : CrI iv4 w h k := by
      unfold CrI
      rw [gn4, eX, eY, eL, eO, fr.1 57 (by omega) (by omega)]
      refine ⟨by rw [fr.2.2 2 (by omega)]; exact c2, Or.inl z30, m2, c57, cR, cP, fun _ => ⟨?_, ?_, fun p hpp => ?_, hpm⟩, fun z => by omega⟩
      · rw [o4 _ (by omega) (by omega), n2]
      · rw [o4 (9 + 6 * k) (by omega) (by omega), o4 (10 + 6 * k) (by omega) (by omega), o4 (11 + 6 * k) (by omega) (by omega)]; exact r2
      · rw [p4 p hpp, c1 t p hpp, foO_cg agx hpp]
    refine ⟨iv4, ?_, H.fr hk fr hC4, z30, fr⟩
    rw [e2, aBind_some, pushR_none, B_X6_runsOf_52 _ _ _ hk, e4, aBind_some, pushR_none, B_X6_runsOf_56 _ _ _ hk]
end INVS
