/-! calls that change an order -/
section CALLS3
variable {sc : Nat × (Nat → Int)} {iv iv1 iv2 iv3 : Nat → Nat → Int}
theorem CrI.cg2 {w h k : Nat} (H : CrI iv w h k) (e3 : iv2 3 (k + 1) = iv 3 (k + 1)) (e4 : iv2 4 = iv 4) (hw : w ≤ 24) (hh : h ≤ 24) (e57 : iv2 57 = iv 57) (e58 : iv2 58 = iv 58) (e59 : iv2 59 = iv 59) (e60 : iv2 60 = iv 60) (eO : ∀ p, p < 288 → mO iv2 (k + 1) p = mO iv (k + 1) p) (e8 : iv2 (8 + 6 * k) = iv (8 + 6 * k)) (e9 : iv2 (9 + 6 * k) = iv (9 + 6 * k)) (e10 : iv2 (10 + 6 * k) = iv (10 + 6 * k)) (e11 : iv2 (11 + 6 * k) = iv (11 + 6 * k)) (e12 : iv2 (12 + 6 * k) = iv (12 + 6 * k)) (e13 : iv2 (13 + 6 * k) = iv (13 + 6 * k)) : CrI iv2 w h k := by
  have eX : mX iv2 = mX iv := by funext c r; unfold mX; rw [e58]
  have eY : mY iv2 = mY iv := by funext c r; unfold mY; rw [e59]
  have eL : mL iv2 = mL iv := by funext c r; unfold mL; rw [e60]
  have eg : gN iv2 = gN iv := by funext x y; unfold gN; rw [e4]
  unfold CrI at H ⊢
  rw [e3, e57, e8, e9, e10, e11, e12, e13, eX, eY, eL, eg]
  obtain ⟨a, b, m, c, d, ⟨P, e⟩, f, i⟩ := H
  obtain ⟨b1, -⟩ := d.b hw hh
  exact ⟨a, b, m, c, d, ⟨P, e.congr (fun p hpp => eO p (by omega)) (fun _ _ => rfl)⟩, fun z => by obtain ⟨f1, f2, f3, f4⟩ := f z; exact ⟨f1, f2, fun p hpp => by rw [f3 p hpp, eO p (by omega)], f4⟩, fun z p hpp => by rw [eO p (by omega)]; exact i z p hpp⟩
theorem InvW.ord {w h n k m : Nat} (H : InvW iv1 w h n) (hk : k < 6) (ht : iv1 3 (k + 1) = 0) (hm : iv1 57 (k + 1) = (m : Int)) (o : OnlyO iv1 iv2 k) (o2 : OnlyM iv2 iv3 (k + 1)) (eq : ∀ p, p < m → mO iv3 (k + 1) p = iv2 (12 + 6 * k) p) (pm : PermN m (iv2 (12 + 6 * k)) (iv2 (13 + 6 * k))) : InvW iv3 w h n := by
  have f1 : ∀ j, j ≠ 12 + 6 * k → j ≠ 13 + 6 * k → j ≠ 61 → j ≠ 62 → iv3 j = iv1 j := fun j a b c d => (o2.1 j c d).trans (o j a b)
  obtain ⟨h1, h2, h3, ⟨h4, h4'⟩, h5, h6⟩ := H
  have hwh := h1.1
  have e2 := f1 2 (by omega) (by omega) (by omega) (by omega)
  have e3 := f1 3 (by omega) (by omega) (by omega) (by omega)
  have e4 := f1 4 (by omega) (by omega) (by omega) (by omega)
  have e49 := f1 49 (by omega) (by omega) (by omega) (by omega)
  have e6 := f1 6 (by omega) (by omega) (by omega) (by omega)
  have e45 := f1 45 (by omega) (by omega) (by omega) (by omega)
  have e46 := f1 46 (by omega) (by omega) (by omega) (by omega)
  have e50 := f1 50 (by omega) (by omega) (by omega) (by omega)
  have e51 := f1 51 (by omega) (by omega) (by omega) (by omega)
  have e52 := f1 52 (by omega) (by omega) (by omega) (by omega)
  have e53 := f1 53 (by omega) (by omega) (by omega) (by omega)
  have e55 := f1 55 (by omega) (by omega) (by omega) (by omega)
  have e56 := f1 56 (by omega) (by omega) (by omega) (by omega)
  have e57 := f1 57 (by omega) (by omega) (by omega) (by omega)
  have e58 := f1 58 (by omega) (by omega) (by omega) (by omega)
  have e59 := f1 59 (by omega) (by omega) (by omega) (by omega)
  have e60 := f1 60 (by omega) (by omega) (by omega) (by omega)
  have e63 := f1 63 (by omega) (by omega) (by omega) (by omega)
  have dm : DimB iv3 w h := by unfold DimB; rw [e2]; exact hwh
  refine ⟨?_, ?_, ?_, ⟨?_, ?_⟩, ?_, fun k2 hk2 => ?_⟩
  · obtain ⟨a, b, c, d⟩ := h1
    exact ⟨dm, by rw [e52]; exact b, by rw [e52]; exact c, by rw [e53, e4]; exact d⟩
  · unfold MLy LayB at h2 ⊢; rw [e49, e52]; exact h2
  · unfold YarnB at h3 ⊢; rw [e52, e6]; exact h3
  · obtain ⟨a, b, c, d⟩ := h4
    exact ⟨dm, by rw [e52]; exact b, by rw [e52]; exact c, by rw [e45, e46, e55, e56]; exact d⟩
  · unfold BkOut at h4' ⊢; rw [e45, e46]; exact h4'
  · unfold TxtB MTx at h5 ⊢; rw [e50, e51, e52, e63]; exact h5
  · have hs := h6 k2 hk2
    by_cases e : k2 = k
    · subst e
      have eX : mX iv3 = mX iv1 := by funext c r; unfold mX; rw [e58]
      have eY : mY iv3 = mY iv1 := by funext c r; unfold mY; rw [e59]
      have eL : mL iv3 = mL iv1 := by funext c r; unfold mL; rw [e60]
      have eg : gN iv3 = gN iv1 := by funext x y; unfold gN; rw [e4]
      have e12 : iv3 (12 + 6 * k2) = iv2 (12 + 6 * k2) := o2.1 _ (by omega) (by omega)
      have e13 : iv3 (13 + 6 * k2) = iv2 (13 + 6 * k2) := o2.1 _ (by omega) (by omega)
      unfold CrI at hs ⊢
      rw [e3, e57, f1 (8 + 6 * k2) (by omega) (by omega) (by omega) (by omega), f1 (9 + 6 * k2) (by omega) (by omega) (by omega) (by omega), f1 (10 + 6 * k2) (by omega) (by omega) (by omega) (by omega), f1 (11 + 6 * k2) (by omega) (by omega) (by omega) (by omega), e12, e13, eX, eY, eL, eg]
      obtain ⟨a, b, m2, c, d, ⟨P, e⟩, f, i⟩ := hs
      have em : m2 = m := by rw [hm] at c; omega
      subst em
      obtain ⟨g1, g2, g3, g4⟩ := f ht
      exact ⟨a, b, m2, c, d, ⟨_, pm.congr (fun p hpp => eq p hpp) (fun _ _ => rfl)⟩, fun _ => ⟨g1, g2, fun p hpp => (eq p hpp).symm, pm⟩, fun z => by omega⟩
    · refine hs.cg2 (by rw [e3]) e4 hwh.2.2.2.1 hwh.2.2.2.2.2 e57 e58 e59 e60 (fun p hpp => ?_) (f1 _ (by omega) (by omega) (by omega) (by omega)) (f1 _ (by omega) (by omega) (by omega) (by omega)) (f1 _ (by omega) (by omega) (by omega) (by omega)) (f1 _ (by omega) (by omega) (by omega) (by omega)) (f1 _ (by omega) (by omega) (by omega) (by omega)) (f1 _ (by omega) (by omega) (by omega) (by omega))
      unfold mO
      rw [o2.2 _ (by omega), o 61 (by omega) (by omega)]
end CALLS3
