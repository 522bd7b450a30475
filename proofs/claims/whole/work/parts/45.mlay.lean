/-! StitchChartModel: all runs anew -/
section MLAYM
variable {g : Nat → Nat → Int} {c : Int} {w : Nat}
/-- the runs of a color up to a cell, the lengths counted so far -/
def MRt (g : Nat → Nat → Int) (c : Int) (w y x : Nat) (X Y L : Nat → Int) : Prop := ∀ x2 y2, x2 < w → (y2 < y ∨ (y2 = y ∧ x2 < x)) → stR g c x2 y2 → X (nR g c w y2 x2) = x2 ∧ Y (nR g c w y2 x2) = y2 ∧ ∃ l : Nat, L (nR g c w y2 x2) = l ∧ IsLenTo g c x2 y2 l (if y2 < y then w else x)
theorem MRt.row {y : Nat} {X Y L : Nat → Int} (H : MRt g c w y w X Y L) : MRt g c w (y + 1) 0 X Y L := by
  intro x2 y2 h1 h2 h3
  obtain ⟨a, b, l, e, i⟩ := H x2 y2 h1 (by omega) h3
  refine ⟨a, b, l, e, ?_⟩
  rw [if_pos (by omega)]
  by_cases q : y2 < y
  · rwa [if_pos q] at i
  · rwa [if_neg q] at i
/-- a cell of another color -/
theorem MRt.other {x y : Nat} {X Y L : Nat → Int} (H : MRt g c w y x X Y L) (hc : g x y ≠ c) : MRt g c w y (x + 1) X Y L := by
  intro x2 y2 h1 h2 h3
  have hne : ¬ (x2 = x ∧ y2 = y) := fun q => by rw [q.1, q.2] at h3; exact hc h3.1
  obtain ⟨a, b, l, e, i1, i2, i3⟩ := H x2 y2 h1 (by omega) h3
  refine ⟨a, b, l, e, i1, ?_, ?_⟩
  · split at i2
    · rename_i q; rw [if_pos q]; exact i2
    · rename_i q; rw [if_neg q]; omega
  · by_cases q : y2 < y
    · rw [if_pos q] at i3 ⊢; exact i3
    · rw [if_neg q] at i2 i3 ⊢
      intro z
      by_cases z2 : x2 + l < x
      · exact i3 z2
      · rw [show x2 + l = x by omega, show y2 = y by omega]; exact hc
/-- a cell that begins a run -/
theorem MRt.new {x y : Nat} {X Y L : Nat → Int} (H : MRt g c w y x X Y L) (hx : x < w) (hs : stR g c x y) : MRt g c w y (x + 1) (upI X (nR g c w y x) x) (upI Y (nR g c w y x) y) (upI L (nR g c w y x) 1) := by
  intro x2 y2 h1 h2 h3
  by_cases q : x2 = x ∧ y2 = y
  · obtain ⟨rfl, rfl⟩ := q
    rw [upI_same, upI_same, upI_same]
    refine ⟨rfl, rfl, 1, rfl, fun i hi => ?_, ?_, ?_⟩
    · rw [show i = 0 by omega]; exact hs.1
    · rw [if_neg (by omega)]; omega
    · rw [if_neg (by omega)]; omega
  · have ne : nR g c w y2 x2 ≠ nR g c w y x := fun e => by
      obtain ⟨z1, z2⟩ := nR_inj (w := w) h1 hx h3 hs e
      exact q ⟨z1, z2⟩
    rw [upI_ne ne, upI_ne ne, upI_ne ne]
    obtain ⟨a, b, l, e, i1, i2, i3⟩ := H x2 y2 h1 (by omega) h3
    refine ⟨a, b, l, e, i1, ?_, ?_⟩
    · split at i2
      · rename_i z; rw [if_pos z]; exact i2
      · rename_i z; rw [if_neg z]; omega
    · by_cases z : y2 < y
      · rw [if_pos z] at i3 ⊢; exact i3
      · rw [if_neg z] at i2 i3 ⊢
        intro z1
        by_cases z2 : x2 + l < x
        · exact i3 z2
        · have hy : y2 = y := by omega
          subst hy
          exfalso
          have hl : l ≠ 0 := fun e0 => by omega
          have hgl := i1 (l - 1) (by omega)
          rw [show x2 + (l - 1) = x - 1 by omega] at hgl
          rcases hs.2 with k | k
          · omega
          · exact k hgl
/-- the run that reaches a cell -/
theorem run_at {y : Nat} : ∀ x, 0 < x → g (x - 1) y = c → ∃ x2, x2 < x ∧ stR g c x2 y ∧ nR g c w y x2 + 1 = nR g c w y x ∧ ∀ i, x2 ≤ i → i < x → g i y = c := by
  intro x
  induction x with
  | zero => intro h; omega
  | succ x ih =>
    intro _ hc
    have hc : g x y = c := hc
    by_cases hs : stR g c x y
    · exact ⟨x, by omega, hs, (nR_T hs).symm, fun i a b => by rw [show i = x by omega]; exact hc⟩
    · have hx0 : x ≠ 0 := fun z => hs ⟨hc, Or.inl z⟩
      have hl : g (x - 1) y = c := Classical.byContradiction fun z => hs ⟨hc, Or.inr z⟩
      obtain ⟨x2, a, b, d, e⟩ := ih (by omega) hl
      refine ⟨x2, by omega, b, by rw [nR_F hs]; exact d, fun i h1 h2 => ?_⟩
      by_cases q : i = x
      · rw [q]; exact hc
      · exact e i h1 (by omega)
/-- a cell that goes on with a run -/
theorem MRt.more {x y : Nat} {X Y L : Nat → Int} (H : MRt g c w y x X Y L) (hx : x < w) (hc : g x y = c) (hs : ¬ stR g c x y) : 1 ≤ nR g c w y x ∧ MRt g c w y (x + 1) X Y (upI L (nR g c w y x - 1) (L (nR g c w y x - 1) + 1)) := by
  have hx0 : x ≠ 0 := fun z => hs ⟨hc, Or.inl z⟩
  have hl : g (x - 1) y = c := Classical.byContradiction fun z => hs ⟨hc, Or.inr z⟩
  obtain ⟨x0, a0, b0, d0, e0⟩ := run_at (g := g) (c := c) (w := w) x (by omega) hl
  refine ⟨by omega, fun x2 y2 h1 h2 h3 => ?_⟩
  have hne : ¬ (x2 = x ∧ y2 = y) := fun q => by rw [q.1, q.2] at h3; exact hs h3
  obtain ⟨a, b, l, e, i1, i2, i3⟩ := H x2 y2 h1 (by omega) h3
  by_cases q : x2 = x0 ∧ y2 = y
  · obtain ⟨rfl, rfl⟩ := q
    have ei : nR g c w y2 x - 1 = nR g c w y2 x2 := by omega
    rw [if_neg (by omega)] at i2 i3
    have hxl : x2 + l = x := by
      by_cases z : x2 + l < x
      · exact absurd (e0 (x2 + l) (by omega) z) (i3 z)
      · omega
    rw [ei, upI_same]
    refine ⟨a, b, l + 1, by rw [e]; rfl, fun i hi => ?_, ?_, ?_⟩
    · by_cases z : i = l
      · rw [z, hxl]; exact hc
      · exact i1 i (by omega)
    · rw [if_neg (by omega)]; omega
    · rw [if_neg (by omega)]; omega
  · have ne : nR g c w y2 x2 ≠ nR g c w y x - 1 := fun z => by
      obtain ⟨z1, z2⟩ := nR_inj (w := w) h1 (by omega) h3 b0 (show nR g c w y2 x2 = nR g c w y x0 by omega)
      exact q ⟨z1, z2⟩
    rw [upI_ne ne]
    refine ⟨a, b, l, e, i1, ?_, ?_⟩
    · split at i2
      · rename_i z; rw [if_pos z]; exact i2
      · rename_i z; rw [if_neg z]; omega
    · by_cases z : y2 < y
      · rw [if_pos z] at i3 ⊢; exact i3
      · rw [if_neg z] at i2 i3 ⊢
        intro z1
        by_cases z2 : x2 + l < x
        · exact i3 z2
        · have hy : y2 = y := by omega
          subst hy
          exfalso
          have hxl : x2 + l = x := by omega
          have cov : ∀ i, x2 ≤ i → i < x → g i y2 = c := fun i m1 m2 => by
            have := i1 (i - x2) (by omega)
            rwa [show x2 + (i - x2) = i by omega] at this
          rcases Nat.lt_trichotomy x2 x0 with k | k | k
          · rcases b0.2 with m | m
            · omega
            · exact m (cov (x0 - 1) (by omega) (by omega))
          · exact q ⟨k, rfl⟩
          · rcases h3.2 with m | m
            · omega
            · exact m (e0 (x2 - 1) (by omega) (by omega))
theorem MRt.done {h n : Nat} {X Y L : Nat → Int} (H : MRt g c w h 0 X Y L) (hn : n = nR g c w h 0) : RunsOK g c w h n X Y L := by
  refine ⟨hn, fun x y hx hy hs => ?_⟩
  obtain ⟨a, b, l, e, i⟩ := H x y hx (Or.inl hy) hs
  rw [if_pos hy] at i
  exact ⟨a, b, by rw [e, IsLenTo.eq l x i]⟩
theorem nR_288 {h x y : Nat} (hw : w ≤ 24) (hh : h ≤ 24) (hx : x < w) (hy : y < h) (hs : stR g c x y) : nR g c w y x < 288 := by
  have h1 := nR_lt_all (h := h) hx hy hs
  have h2 := allS_b (g := g) (c := c) hw h
  omega
theorem nR_le288 {h x y : Nat} (hw : w ≤ 24) (hh : h ≤ 24) (hx : x ≤ w) (hy : y < h) : nR g c w y x ≤ 288 := by
  have h1 : nR g c w y x ≤ allS g c w (y + 1) := Nat.add_le_add_left (rowS_mono hx) _
  have h2 := allS_b (g := g) (c := c) hw (y + 1)
  omega
theorem MRt.congr {y x h : Nat} {X Y L X2 Y2 L2 : Nat → Int} (H : MRt g c w y x X Y L) (hw : w ≤ 24) (hh : h ≤ 24) (hy : y < h ∨ (y = h ∧ x = 0)) (e : ∀ r, r < 288 → X2 r = X r ∧ Y2 r = Y r ∧ L2 r = L r) : MRt g c w y x X2 Y2 L2 := by
  intro x2 y2 h1 h2 h3
  have hr := nR_288 (h := h) hw hh h1 (by omega) h3
  obtain ⟨e1, e2, e3⟩ := e _ hr
  rw [e1, e2, e3]
  exact H x2 y2 h1 h2 h3
end MLAYM
