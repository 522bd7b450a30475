/-! what the class keeps: cells, yarn, pages, back stitches, text; of each color its runs (told by the cells) and its order O. StitchChart: runsOf -/
section RBEG
variable {g g2 : Nat → Nat → Int} {c : Int} {w h : Nat}
/-- where the run r begins -/
noncomputable def rBg (g : Nat → Nat → Int) (c : Int) (w h r : Nat) : Nat × Nat := @dite _ (∃ q : Nat × Nat, q.1 < w ∧ q.2 < h ∧ stR g c q.1 q.2 ∧ nR g c w q.2 q.1 = r) (Classical.propDecidable _) (fun e => Classical.choose e) (fun _ => (0, 0))
noncomputable def rX (g : Nat → Nat → Int) (c : Int) (w h r : Nat) : Int := ((rBg g c w h r).1 : Int)
noncomputable def rY (g : Nat → Nat → Int) (c : Int) (w h r : Nat) : Int := ((rBg g c w h r).2 : Int)
noncomputable def rL (g : Nat → Nat → Int) (c : Int) (w h r : Nat) : Int := (lenR g c w (rBg g c w h r).1 (rBg g c w h r).2 : Int)
theorem rBg_of {x y : Nat} (hx : x < w) (hy : y < h) (hs : stR g c x y) : rBg g c w h (nR g c w y x) = (x, y) := by
  have e : ∃ q : Nat × Nat, q.1 < w ∧ q.2 < h ∧ stR g c q.1 q.2 ∧ nR g c w q.2 q.1 = nR g c w y x := ⟨(x, y), hx, hy, hs, rfl⟩
  unfold rBg
  rw [dif_pos e]
  obtain ⟨q1, q2, q3, q4⟩ := Classical.choose_spec e
  obtain ⟨a, b⟩ := nR_inj q1 hx q3 hs q4
  exact Prod.ext a b
theorem rOK : RunsOK g c w h (allS g c w h) (rX g c w h) (rY g c w h) (rL g c w h) := ⟨rfl, fun x y hx hy hs => by unfold rX rY rL; rw [rBg_of hx hy hs]; exact ⟨rfl, rfl, rfl⟩⟩
theorem r_cg (e : ∀ x y, x < w → y < h → (g2 x y = c ↔ g x y = c)) : allS g2 c w h = allS g c w h ∧ ∀ r, r < allS g c w h → rX g2 c w h r = rX g c w h r ∧ rY g2 c w h r = rY g c w h r ∧ rL g2 c w h r = rL g c w h r := by
  obtain ⟨a, b⟩ := ((rOK (g := g) (c := c) (w := w) (h := h)).congr e).agree (rOK (g := g2) (c := c) (w := w) (h := h))
  exact ⟨a.symm, fun r hr => ⟨(b r hr).1.symm, (b r hr).2.1.symm, (b r hr).2.2.symm⟩⟩
end RBEG
def nK (g : Nat → Nat → Int) (w h k : Nat) : Nat := allS g ((k : Int) + 1) w h
noncomputable def xK (g : Nat → Nat → Int) (w h k : Nat) : Nat → Int := rX g ((k : Int) + 1) w h
noncomputable def yK (g : Nat → Nat → Int) (w h k : Nat) : Nat → Int := rY g ((k : Int) + 1) w h
noncomputable def lK (g : Nat → Nat → Int) (w h k : Nat) : Nat → Int := rL g ((k : Int) + 1) w h
theorem kOK {g : Nat → Nat → Int} {w h k : Nat} : RunsOK g ((k : Int) + 1) w h (nK g w h k) (xK g w h k) (yK g w h k) (lK g w h k) := rOK
section INVS
variable {sc : Nat × (Nat → Int)} {iv iv2 iv3 : Nat → Nat → Int}
/-- none lie outside -/
def BkOut (g : Nat → Nat → Int) (w h : Nat) : Prop := ∀ j, j < 625 → (¬ inU w h (pX j) (pY j) → g 45 j = 0) ∧ (¬ inF w h (pX j) (pY j) → g 46 j = 0)
/-- the runs of a color: O is its order, also while it isn't looked up -/
def CrC (iv : Nat → Nat → Int) (O : Nat → Int) (w h k : Nat) : Prop := iv (8 + 6 * k) 2 = (k : Int) + 1 ∧ (iv 3 (k + 1) = 0 ∨ iv 3 (k + 1) = 1) ∧ (∃ P, PermN (nK (gN iv) w h k) O P) ∧
  (iv 3 (k + 1) = 0 → iv (8 + 6 * k) 3 = nK (gN iv) w h k ∧ RunsOK (gN iv) ((k : Int) + 1) w h (nK (gN iv) w h k) (iv (9 + 6 * k)) (iv (10 + 6 * k)) (iv (11 + 6 * k)) ∧ (∀ p, p < nK (gN iv) w h k → iv (12 + 6 * k) p = O p) ∧ PermN (nK (gN iv) w h k) (iv (12 + 6 * k)) (iv (13 + 6 * k))) ∧
  (iv 3 (k + 1) = 1 → ∀ p, p < nK (gN iv) w h k → O p = foO (nK (gN iv) w h k) (xK (gN iv) w h k) (yK (gN iv) w h k) p)
def InvC (iv : Nat → Nat → Int) (O : Nat → Nat → Int) (w h n : Nat) : Prop := (DimB iv w h ∧ ∀ j, j < 576 → 0 ≤ iv 4 j ∧ iv 4 j ≤ 6) ∧ LayB iv ∧ YarnB iv ∧ (bitB (iv 45) ∧ bitB (iv 46) ∧ BkOut iv w h) ∧ TxtB iv n ∧ ∀ k, k < 6 → CrC iv (O k) w h k
/-- what the runs of a color need of a heap -/
theorem CrC.cg {O : Nat → Int} {w h k : Nat} (H : CrC iv O w h k) (e3 : iv2 3 (k + 1) = iv 3 (k + 1)) (eg : ∀ x y, x < w → y < h → (gN iv2 x y = (k : Int) + 1 ↔ gN iv x y = (k : Int) + 1)) (e8 : iv2 (8 + 6 * k) 2 = iv (8 + 6 * k) 2 ∧ iv2 (8 + 6 * k) 3 = iv (8 + 6 * k) 3) (e9 : iv2 (9 + 6 * k) = iv (9 + 6 * k)) (e10 : iv2 (10 + 6 * k) = iv (10 + 6 * k)) (e11 : iv2 (11 + 6 * k) = iv (11 + 6 * k)) (e12 : iv2 (12 + 6 * k) = iv (12 + 6 * k)) (e13 : iv2 (13 + 6 * k) = iv (13 + 6 * k)) : CrC iv2 O w h k := by
  obtain ⟨n1, n2⟩ := r_cg eg
  have en : nK (gN iv2) w h k = nK (gN iv) w h k := n1
  obtain ⟨a, b, c, d, e⟩ := H
  unfold CrC
  rw [e3, e8.1, e8.2, e9, e10, e11, e12, e13, en]
  refine ⟨a, b, c, fun z => ?_, fun z p hpp => ?_⟩
  · obtain ⟨f1, f2, f3, f4⟩ := d z
    exact ⟨f1, f2.congr eg, f3, f4⟩
  · rw [e z p hpp]
    exact (congrArg (fun z : Nat => (z : Int)) (foO_cg (X2 := xK (gN iv) w h k) (Y2 := yK (gN iv) w h k) (fun i hi => ⟨(n2 i hi).1, (n2 i hi).2.1⟩) hpp)).symm
/-- only what the class keeps of the runs of a color differs -/
def FrC (iv iv2 : Nat → Nat → Int) (k : Nat) : Prop := (∀ j, j ≠ 3 → (j < 8 + 6 * k ∨ 13 + 6 * k < j) → iv2 j = iv j) ∧ (∀ f, f ≠ k + 1 → iv2 3 f = iv 3 f) ∧ ∀ f, f ≠ 3 → iv2 (8 + 6 * k) f = iv (8 + 6 * k) f
theorem InvC.fr {O : Nat → Nat → Int} {O2 : Nat → Int} {w h n k : Nat} (H : InvC iv O w h n) (hk : k < 6) (hF : FrC iv iv2 k) (hC : CrC iv2 O2 w h k) : InvC iv2 (fun j => if j = k then O2 else O j) w h n := by
  obtain ⟨⟨h1, h1'⟩, h2, h3, h4, h5, h6⟩ := H
  obtain ⟨f1, f2, f3⟩ := hF
  have e2 := f1 2 (by omega) (by omega)
  have e4 := f1 4 (by omega) (by omega)
  have e49 : iv2 49 = iv 49 := f1 49 (by omega) (by omega)
  have e6 := f1 6 (by omega) (by omega)
  have e45 : iv2 45 = iv 45 := f1 45 (by omega) (by omega)
  have e46 : iv2 46 = iv 46 := f1 46 (by omega) (by omega)
  have e50 : iv2 50 = iv 50 := f1 50 (by omega) (by omega)
  have e51 : iv2 51 = iv 51 := f1 51 (by omega) (by omega)
  refine ⟨⟨?_, by rw [e4]; exact h1'⟩, ?_, ?_, ?_, ?_, fun k2 hk2 => ?_⟩
  · unfold DimB at h1 ⊢; rw [e2]; exact h1
  · unfold LayB at h2 ⊢; rw [e49]; exact h2
  · unfold YarnB at h3 ⊢; rw [e6]; exact h3
  · unfold BkOut at h4 ⊢; rw [e45, e46]; exact h4
  · unfold TxtB at h5 ⊢; rw [e50, e51]; exact h5
  · by_cases e : k2 = k
    · subst e; dsimp only; rw [if_pos rfl]; exact hC
    · dsimp only; rw [if_neg e]
      exact (h6 k2 hk2).cg (f2 _ (by omega)) (fun x y _ _ => by unfold gN; rw [e4]) (by rw [f1 (8 + 6 * k2) (by omega) (by omega)]; exact ⟨rfl, rfl⟩) (f1 _ (by omega) (by omega)) (f1 _ (by omega) (by omega)) (f1 _ (by omega) (by omega)) (f1 _ (by omega) (by omega)) (f1 _ (by omega) (by omega))
theorem same_O {O : Nat → Nat → Int} {k : Nat} : (fun j => if j = k then O k else O j) = O := by
  funext j
  by_cases e : j = k
  · rw [if_pos e, e]
  · rw [if_neg e]
theorem isColC_T {x : Int} (h : 1 ≤ x ∧ x ≤ 6) : Run sc 104 0 [some (I x)] [] (hp iv) = some (some (I 1), hp iv) := by
  rw [B_X6_isColor_0, within_T h, aBind_some, pushR_some, B_X6_isColor_7, bck_pos (by omega)]
theorem isColC_F {x : Int} (h : ¬ (1 ≤ x ∧ x ≤ 6)) : Run sc 104 0 [some (I x)] [] (hp iv) = some (some (I 0), hp iv) := by
  rw [B_X6_isColor_0, within_F h, aBind_some, pushR_some, B_X6_isColor_7, bck_pos (by omega)]
set_option maxHeartbeats 2000000 in
theorem runsOf_S {O : Nat → Nat → Int} {w h n k : Nat} {x : Int} (H : InvC iv O w h n) (hk : k < 6) (hx : x = (k : Int) + 1) : ∃ iv2, Run sc 105 0 [some (Rf 1), some (I x), none, none] [] (hp iv) = some (some (Rf (8 + 6 * k)), hp iv2) ∧ InvC iv2 O w h n ∧ iv2 3 (k + 1) = 0 ∧ FrC iv iv2 k := by
  subst hx
  have hC := H.2.2.2.2.2 k hk
  obtain ⟨⟨⟨d1, d2, d3, d4, d5, d6⟩, -⟩, -⟩ := id H
  have en : ((k : Int) + 1 - 1).toNat = k := by omega
  have en1 : ((k : Int) + 1 - 1 + 1).toNat = k + 1 := by omega
  rw [B_X6_runsOf_0, isColC_T (by omega), aBind_some, pushR_some, B_X6_runsOf_4, ite_F (by omega), chk_pos (by omega), B_X6_runsOf_14 _ _ _ _ _ _ (by omega), chk_pos (by omega), bck_pos (by omega), en, en1]
  obtain ⟨c2, c3, cP, c0, c1⟩ := id hC
  rcases c3 with t | t
  · exact ⟨iv, by rw [if_pos t, B_X6_runsOf_56 _ _ _ hk], H, t, fun _ _ _ => rfl, fun _ _ => rfl, fun _ _ => rfl⟩
  · rw [if_neg (by omega), chk_pos (by omega), bck_pos (by omega), bck_pos (by omega), B_X6_runsOf_48 _ _ _ hk]
    generalize hiv1 : setO iv 3 (upI (iv 3) (k + 1) 0) = iv1
    have g1 : ∀ j, j ≠ 3 → iv1 j = iv j := fun j hj => by rw [← hiv1, setO_ne hj]
    have g3 : ∀ f, f ≠ k + 1 → iv1 3 f = iv 3 f := fun f hf => by rw [← hiv1, setO_same, upI_ne hf]
    have g30 : iv1 3 (k + 1) = 0 := by rw [← hiv1, setO_same, upI_same]
    obtain ⟨iv3, m2, e2, o2, n2, r2⟩ := findRuns_S (sc := sc) (iv := iv1) (d1 := none) (d2 := none) hk (by rw [g1 2 (by omega)]; exact d1) (by rw [g1 2 (by omega)]; exact d2) d4 d6 (by rw [g1 _ (by omega)]; exact c2)
    have gn1 : gN iv1 = gN iv := by funext x y; unfold gN; rw [g1 4 (by omega)]
    rw [gn1] at r2
    obtain ⟨em, ag⟩ := r2.agree (kOK (g := gN iv) (w := w) (h := h) (k := k))
    subst em
    obtain ⟨b1, b2⟩ := r2.b d4 d6
    have hRB : RunsB iv3 k (nK (gN iv) w h k) := ⟨n2, b1, fun r hr => by have := b2 r hr; omega⟩
    obtain ⟨iv4, e4, o4, p4, q4⟩ := firstOrd_S (sc := sc) hk hRB
    have agx : AgX (nK (gN iv) w h k) (iv3 (9 + 6 * k)) (iv3 (10 + 6 * k)) (xK (gN iv) w h k) (yK (gN iv) w h k) := fun i hi => ⟨(ag i hi).1, (ag i hi).2.1⟩
    have fr : FrC iv iv4 k := by
      refine ⟨fun j hj hr => ?_, fun f hf => ?_, fun f hf => ?_⟩
      · rw [o4 j (by omega) (by omega), o2.1 j (by omega) (by omega) (by omega) (by omega), g1 j hj]
      · rw [o4 3 (by omega) (by omega), o2.1 3 (by omega) (by omega) (by omega) (by omega), g3 f hf]
      · rw [o4 _ (by omega) (by omega), o2.2 f hf, g1 _ (by omega)]
    have z30 : iv4 3 (k + 1) = 0 := by rw [o4 3 (by omega) (by omega), o2.1 3 (by omega) (by omega) (by omega) (by omega), g30]
    have gn4 : gN iv4 = gN iv := by funext x y; unfold gN; rw [fr.1 4 (by omega) (by omega)]
    have hpm : PermN (nK (gN iv) w h k) (iv4 (12 + 6 * k)) (iv4 (13 + 6 * k)) := foO_perm.congr p4 q4
    have hC4 : CrC iv4 (O k) w h k := by
      unfold CrC
      rw [gn4]
      refine ⟨by rw [fr.2.2 2 (by omega)]; exact c2, Or.inl z30, cP, fun _ => ⟨?_, ?_, fun p hpp => ?_, hpm⟩, fun z => by omega⟩
      · rw [o4 _ (by omega) (by omega), n2]
      · rw [o4 (9 + 6 * k) (by omega) (by omega), o4 (10 + 6 * k) (by omega) (by omega), o4 (11 + 6 * k) (by omega) (by omega)]; exact r2
      · rw [p4 p hpp, c1 t p hpp, foO_cg agx hpp]
    have hI := H.fr hk fr hC4
    rw [same_O] at hI
    refine ⟨iv4, ?_, hI, z30, fr⟩
    rw [e2, aBind_some, pushR_none, B_X6_runsOf_52 _ _ _ hk, e4, aBind_some, pushR_none, B_X6_runsOf_56 _ _ _ hk]
/-- the runs of a color that are looked up -/
def ViewC (iv : Nat → Nat → Int) (O : Nat → Int) (w h k : Nat) : Prop := RunsB iv k (nK (gN iv) w h k) ∧ AgX (nK (gN iv) w h k) (iv (9 + 6 * k)) (iv (10 + 6 * k)) (xK (gN iv) w h k) (yK (gN iv) w h k) ∧ (∀ r, r < nK (gN iv) w h k → iv (11 + 6 * k) r = lK (gN iv) w h k r) ∧ (∀ p, p < nK (gN iv) w h k → iv (12 + 6 * k) p = O p) ∧ PermN (nK (gN iv) w h k) (iv (12 + 6 * k)) (iv (13 + 6 * k))
theorem CrC.view {O : Nat → Int} {w h k : Nat} (H : CrC iv O w h k) (ht : iv 3 (k + 1) = 0) (hw : w ≤ 24) (hh : h ≤ 24) : ViewC iv O w h k := by
  obtain ⟨a, b, e, f, i⟩ := H
  obtain ⟨f1, f2, f3, f4⟩ := f ht
  obtain ⟨-, ag⟩ := f2.agree (kOK (g := gN iv) (w := w) (h := h) (k := k))
  obtain ⟨b1, b2⟩ := f2.b hw hh
  refine ⟨⟨f1, b1, fun r hr => ?_⟩, fun r hr => ⟨(ag r hr).1, (ag r hr).2.1⟩, fun r hr => (ag r hr).2.2, f3, f4⟩
  have := b2 r hr; omega
end INVS
