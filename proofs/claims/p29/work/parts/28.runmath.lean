/-! runs of a color in a grid, as plain numbers -/
section RUNMATH
variable {g : Nat → Nat → Int} {c : Int} {w h : Nat}
/-- a run of the color begins here -/
abbrev stR (g : Nat → Nat → Int) (c : Int) (x y : Nat) : Prop := g x y = c ∧ (x = 0 ∨ g (x - 1) y ≠ c)
def rowS (g : Nat → Nat → Int) (c : Int) (y : Nat) : Nat → Nat
  | 0 => 0
  | x + 1 => rowS g c y x + if stR g c x y then 1 else 0
def allS (g : Nat → Nat → Int) (c : Int) (w : Nat) : Nat → Nat
  | 0 => 0
  | y + 1 => allS g c w y + rowS g c y w
/-- how many begin before a cell -/
def nR (g : Nat → Nat → Int) (c : Int) (w y x : Nat) : Nat := allS g c w y + rowS g c y x
theorem rowS_s {y x : Nat} : rowS g c y (x + 1) = rowS g c y x + if stR g c x y then 1 else 0 := rfl
theorem nR_T {y x : Nat} (hs : stR g c x y) : nR g c w y (x + 1) = nR g c w y x + 1 := by
  unfold nR; rw [rowS_s, if_pos hs]; rfl
theorem nR_F {y x : Nat} (hs : ¬ stR g c x y) : nR g c w y (x + 1) = nR g c w y x := by
  unfold nR; rw [rowS_s, if_neg hs]; rfl
theorem nR_row {y : Nat} : nR g c w (y + 1) 0 = nR g c w y w := rfl
theorem nR_z : nR g c w 0 0 = 0 := rfl
theorem nR_all {y : Nat} : nR g c w y 0 = allS g c w y := rfl
theorem rowS_mono {y x x2 : Nat} (hx : x ≤ x2) : rowS g c y x ≤ rowS g c y x2 := by
  induction hx with
  | refl => exact Nat.le_refl _
  | step _ ih => rw [rowS_s]; omega
theorem allS_mono {y y2 : Nat} (hy : y ≤ y2) : allS g c w y ≤ allS g c w y2 := by
  induction hy with
  | refl => exact Nat.le_refl _
  | step _ ih => exact Nat.le_trans ih (Nat.le_add_right _ _)
theorem nR_lt {x y x2 y2 : Nat} (hx : x < w) (hs : stR g c x y) (hlt : y < y2 ∨ (y = y2 ∧ x < x2)) : nR g c w y x < nR g c w y2 x2 := by
  have h1 : nR g c w y (x + 1) = nR g c w y x + 1 := nR_T hs
  rcases hlt with q | ⟨rfl, q⟩
  · have h2 : nR g c w y (x + 1) ≤ allS g c w (y + 1) := by
      show allS g c w y + rowS g c y (x + 1) ≤ allS g c w y + rowS g c y w
      have := rowS_mono (g := g) (c := c) (y := y) (show x + 1 ≤ w by omega)
      omega
    have h3 := allS_mono (g := g) (c := c) (w := w) (show y + 1 ≤ y2 by omega)
    have h4 : allS g c w y2 ≤ nR g c w y2 x2 := Nat.le_add_right _ _
    omega
  · have h2 : nR g c w y (x + 1) ≤ nR g c w y x2 := Nat.add_le_add_left (rowS_mono (by omega)) _
    omega
theorem nR_inj {x y x2 y2 : Nat} (hx : x < w) (hx2 : x2 < w) (hs : stR g c x y) (hs2 : stR g c x2 y2) (e : nR g c w y x = nR g c w y2 x2) : x = x2 ∧ y = y2 := by
  rcases Nat.lt_trichotomy y y2 with q | q | q
  · have := nR_lt (w := w) (x2 := x2) hx hs (Or.inl q); omega
  · rcases Nat.lt_trichotomy x x2 with p | p | p
    · have := nR_lt (w := w) hx hs (Or.inr ⟨q, p⟩); omega
    · exact ⟨p, q⟩
    · have := nR_lt (w := w) hx2 hs2 (Or.inr ⟨q.symm, p⟩); omega
  · have := nR_lt (w := w) (x2 := x) hx2 hs2 (Or.inl q); omega
theorem nR_lt_all {x y : Nat} (hx : x < w) (hy : y < h) (hs : stR g c x y) : nR g c w y x < allS g c w h := by
  have := nR_lt (w := w) (x2 := 0) hx hs (Or.inl hy)
  exact this
theorem row_surj {y r : Nat} : ∀ x, r < rowS g c y x → ∃ i, i < x ∧ stR g c i y ∧ rowS g c y i = r := by
  intro x
  induction x with
  | zero => intro hr; exact absurd hr (Nat.not_lt_zero _)
  | succ x ih =>
    intro hr
    rw [rowS_s] at hr
    by_cases hs : stR g c x y
    · rw [if_pos hs] at hr
      by_cases e : r = rowS g c y x
      · exact ⟨x, by omega, hs, e.symm⟩
      · obtain ⟨i, h1, h2⟩ := ih (by omega); exact ⟨i, by omega, h2⟩
    · rw [if_neg hs] at hr
      obtain ⟨i, h1, h2⟩ := ih (by omega); exact ⟨i, by omega, h2⟩
theorem all_surj {r : Nat} : ∀ h, r < allS g c w h → ∃ x y, x < w ∧ y < h ∧ stR g c x y ∧ nR g c w y x = r := by
  intro h
  induction h with
  | zero => intro hr; exact absurd hr (Nat.not_lt_zero _)
  | succ h ih =>
    intro hr
    have e : allS g c w (h + 1) = allS g c w h + rowS g c h w := rfl
    by_cases q : r < allS g c w h
    · obtain ⟨x, y, h1, h2, h3⟩ := ih q; exact ⟨x, y, h1, by omega, h3⟩
    · obtain ⟨i, h1, h2, h3⟩ := row_surj (g := g) (c := c) (y := h) (r := r - allS g c w h) w (by omega)
      refine ⟨i, h, h1, by omega, h2, ?_⟩
      unfold nR; omega
theorem rowS_half {y : Nat} : ∀ x, (g (x - 1) y = c ∧ x ≠ 0 → 2 * rowS g c y x ≤ x + 1) ∧ (¬ (g (x - 1) y = c ∧ x ≠ 0) → 2 * rowS g c y x ≤ x) := by
  intro x
  induction x with
  | zero => exact ⟨fun q => absurd rfl q.2, fun _ => Nat.le_refl _⟩
  | succ x ih =>
    obtain ⟨i1, i2⟩ := ih
    rw [rowS_s, show x + 1 - 1 = x from rfl]
    by_cases hc : g x y = c
    · refine ⟨fun _ => ?_, fun q => absurd ⟨hc, by omega⟩ q⟩
      by_cases hs : stR g c x y
      · rw [if_pos hs]
        have : ¬ (g (x - 1) y = c ∧ x ≠ 0) := fun q => by
          rcases hs.2 with z | z
          · exact q.2 z
          · exact z q.1
        have := i2 this
        omega
      · rw [if_neg hs]
        by_cases q : g (x - 1) y = c ∧ x ≠ 0
        · have := i1 q; omega
        · have := i2 q; omega
    · rw [if_neg (fun q => hc q.1)]
      refine ⟨fun q => absurd q.1 hc, fun _ => ?_⟩
      by_cases q : g (x - 1) y = c ∧ x ≠ 0
      · have := i1 q; omega
      · have := i2 q; omega
theorem allS_b (hw : w ≤ 24) : ∀ h, allS g c w h ≤ 12 * h := by
  intro h
  induction h with
  | zero => exact Nat.le_refl _
  | succ h ih =>
    have e : allS g c w (h + 1) = allS g c w h + rowS g c h w := rfl
    have := rowS_half (g := g) (c := c) (y := h) w
    by_cases q : g (w - 1) h = c ∧ w ≠ 0
    · have := this.1 q; omega
    · have := this.2 q; omega
/-- how long the color goes on from a cell -/
def lfR (g : Nat → Nat → Int) (c : Int) (y : Nat) : Nat → Nat → Nat
  | 0, _ => 0
  | f + 1, x => if g x y = c then 1 + lfR g c y f (x + 1) else 0
def lenR (g : Nat → Nat → Int) (c : Int) (w x y : Nat) : Nat := lfR g c y (w - x) x
theorem lenR_in {x y : Nat} (hx : x < w) (hc : g x y = c) : lenR g c w x y = 1 + lenR g c w (x + 1) y := by
  unfold lenR
  obtain ⟨f, hf⟩ : ∃ f, w - x = f + 1 := ⟨w - x - 1, by omega⟩
  rw [hf, show w - (x + 1) = f by omega]
  show (if g x y = c then _ else _) = _
  rw [if_pos hc]
theorem lenR_out {x y : Nat} (hc : w ≤ x ∨ g x y ≠ c) : lenR g c w x y = 0 := by
  unfold lenR
  by_cases hx : w ≤ x
  · rw [show w - x = 0 by omega]; rfl
  · obtain ⟨f, hf⟩ : ∃ f, w - x = f + 1 := ⟨w - x - 1, by omega⟩
    rw [hf]
    show (if g x y = c then _ else _) = _
    rw [if_neg (fun q => by rcases hc with z | z; exact hx z; exact z q)]
/-- counted so far, up to b -/
def IsLenTo (g : Nat → Nat → Int) (c : Int) (x y l b : Nat) : Prop := (∀ i, i < l → g (x + i) y = c) ∧ x + l ≤ b ∧ (x + l < b → g (x + l) y ≠ c)
theorem IsLenTo.eq {y : Nat} : ∀ l x, IsLenTo g c x y l w → lenR g c w x y = l := by
  intro l
  induction l with
  | zero =>
    intro x hl
    obtain ⟨-, h2, h3⟩ := hl
    apply lenR_out
    by_cases q : x < w
    · exact Or.inr (h3 q)
    · exact Or.inl (by omega)
  | succ l ih =>
    intro x hl
    obtain ⟨h1, h2, h3⟩ := hl
    rw [lenR_in (w := w) (show x < w by omega) (by have := h1 0 (by omega); simpa using this), ih (x + 1) ⟨fun i hi => ?_, by omega, fun q => ?_⟩]
    · omega
    · have := h1 (i + 1) (by omega); rwa [show x + (i + 1) = x + 1 + i by omega] at this
    · have := h3 (by omega); rwa [show x + (l + 1) = x + 1 + l by omega] at this
theorem lenR_le {x y : Nat} (hx : x ≤ w) : x + lenR g c w x y ≤ w := by
  unfold lenR
  have key : ∀ f x, lfR g c y f x ≤ f := by
    intro f
    induction f with
    | zero => intro x; exact Nat.le_refl _
    | succ f ih =>
      intro x
      show (if g x y = c then 1 + lfR g c y f (x + 1) else 0) ≤ f + 1
      split
      · have := ih (x + 1); omega
      · omega
  have := key (w - x) x
  omega
/-- n runs stand in rows X, Y, L -/
def RunsOK (g : Nat → Nat → Int) (c : Int) (w h n : Nat) (X Y L : Nat → Int) : Prop := n = allS g c w h ∧ ∀ x y, x < w → y < h → stR g c x y → X (nR g c w y x) = x ∧ Y (nR g c w y x) = y ∧ L (nR g c w y x) = lenR g c w x y
theorem RunsOK.at {n : Nat} {X Y L : Nat → Int} (H : RunsOK g c w h n X Y L) {r : Nat} (hr : r < n) : ∃ x y, x < w ∧ y < h ∧ stR g c x y ∧ nR g c w y x = r ∧ X r = x ∧ Y r = y ∧ L r = lenR g c w x y := by
  obtain ⟨h1, h2⟩ := H
  subst h1
  obtain ⟨x, y, a, b, d, e⟩ := all_surj h hr
  have := h2 x y a b d
  rw [e] at this
  exact ⟨x, y, a, b, d, e, this⟩
theorem RunsOK.agree {n n2 : Nat} {X Y L X2 Y2 L2 : Nat → Int} (H : RunsOK g c w h n X Y L) (H2 : RunsOK g c w h n2 X2 Y2 L2) : n = n2 ∧ ∀ r, r < n → X r = X2 r ∧ Y r = Y2 r ∧ L r = L2 r := by
  refine ⟨H.1.trans H2.1.symm, fun r hr => ?_⟩
  obtain ⟨x, y, a, b, d, e, f1, f2, f3⟩ := H.at hr
  obtain ⟨g1, g2, g3⟩ := H2.2 x y a b d
  rw [e] at g1 g2 g3
  exact ⟨by rw [f1, g1], by rw [f2, g2], by rw [f3, g3]⟩
theorem RunsOK.b {n : Nat} {X Y L : Nat → Int} (H : RunsOK g c w h n X Y L) (hw : w ≤ 24) (hh : h ≤ 24) : n ≤ 288 ∧ ∀ r, r < n → (0 ≤ X r ∧ X r < w) ∧ (0 ≤ Y r ∧ Y r < h) ∧ 0 ≤ L r ∧ L r ≤ 24 := by
  refine ⟨by have := allS_b (g := g) (c := c) hw h; have := H.1; omega, fun r hr => ?_⟩
  obtain ⟨x, y, a, b, d, e, f1, f2, f3⟩ := H.at hr
  have := lenR_le (g := g) (c := c) (w := w) (y := y) (x := x) (by omega)
  rw [f1, f2, f3]
  omega
/-- all stitches of the color lie in its runs -/
def cnC (g : Nat → Nat → Int) (c : Int) (w h : Nat) : Int := sumN (fun j => sumN (fun i => if g i j = c then 1 else 0) w) h
theorem row_total {L : Nat → Int} {y : Nat} (hL : ∀ x, x < w → stR g c x y → L (nR g c w y x) = lenR g c w x y) : ∀ x, x ≤ w → sumN L (nR g c w y x) = sumN L (nR g c w y 0) + sumN (fun i => if g i y = c then 1 else 0) x + if x ≠ 0 ∧ g (x - 1) y = c then (lenR g c w x y : Int) else 0 := by
  intro x
  induction x with
  | zero => intro _; rw [if_neg (by omega)]; show _ = _ + (0 : Int) + 0; omega
  | succ x ih =>
    intro hx
    have hi := ih (by omega)
    have e : sumN (fun i => if g i y = c then (1 : Int) else 0) (x + 1) = sumN (fun i => if g i y = c then 1 else 0) x + if g x y = c then 1 else 0 := rfl
    rw [e]
    by_cases hc : g x y = c
    · rw [if_pos hc, if_pos ⟨by omega, hc⟩]
      have hl := lenR_in (w := w) (show x < w by omega) hc
      by_cases hs : stR g c x y
      · rw [nR_T hs]
        have e2 : sumN L (nR g c w y x + 1) = sumN L (nR g c w y x) + L (nR g c w y x) := rfl
        rw [e2, hL x (by omega) hs, hi, if_neg (fun q => by rcases hs.2 with z | z; exact q.1 z; exact z q.2)]
        omega
      · rw [nR_F hs, hi]
        rw [if_pos (show x ≠ 0 ∧ g (x - 1) y = c from Classical.byContradiction fun z => hs ⟨hc, by
          by_cases q : x = 0
          · exact Or.inl q
          · exact Or.inr fun q2 => z ⟨q, q2⟩⟩)]
        omega
    · rw [if_neg hc, if_neg (fun q => hc q.2), nR_F (fun q => hc q.1), hi, lenR_out (Or.inr hc)]
      split <;> omega
theorem RunsOK.total {n : Nat} {X Y L : Nat → Int} (H : RunsOK g c w h n X Y L) : sumN L n = cnC g c w h := by
  obtain ⟨h1, h2⟩ := H
  subst h1
  have key : ∀ y, y ≤ h → sumN L (nR g c w y 0) = cnC g c w y := by
    intro y
    induction y with
    | zero => intro _; rfl
    | succ y ih =>
      intro hy
      have := row_total (g := g) (c := c) (w := w) (L := L) (y := y) (fun x hx hs => (h2 x y hx (by omega) hs).2.2) w (Nat.le_refl _)
      rw [nR_row, this, ih (by omega), lenR_out (Or.inl (Nat.le_refl _))]
      show _ = cnC g c w y + sumN (fun i => if g i y = c then 1 else 0) w
      split <;> omega
  exact key h (Nat.le_refl _)
theorem nR_congr {g2 : Nat → Nat → Int} (e : ∀ x y, x < w → y < h → (g2 x y = c ↔ g x y = c)) : ∀ y, y < h → ∀ x, x ≤ w → rowS g2 c y x = rowS g c y x := by
  intro y hy x
  induction x with
  | zero => intro _; rfl
  | succ x ih =>
    intro hx
    rw [rowS_s, rowS_s, ih (by omega)]
    have h1 : stR g2 c x y ↔ stR g c x y := by
      unfold stR
      rw [e x y (by omega) hy]
      by_cases q : x = 0
      · simp [q]
      · rw [Ne, e (x - 1) y (by omega) hy]
    by_cases q : stR g c x y
    · rw [if_pos q, if_pos (h1.mpr q)]
    · rw [if_neg q, if_neg (fun z => q (h1.mp z))]
theorem RunsOK.congr {g2 : Nat → Nat → Int} {n : Nat} {X Y L : Nat → Int} (H : RunsOK g c w h n X Y L) (e : ∀ x y, x < w → y < h → (g2 x y = c ↔ g x y = c)) : RunsOK g2 c w h n X Y L := by
  have e1 := nR_congr e
  have e2 : ∀ y, y ≤ h → allS g2 c w y = allS g c w y := by
    intro y
    induction y with
    | zero => intro _; rfl
    | succ y ih =>
      intro hy
      show allS g2 c w y + rowS g2 c y w = allS g c w y + rowS g c y w
      rw [ih (by omega), e1 y (by omega) w (Nat.le_refl _)]
  have e3 : ∀ x y, y < h → x ≤ w → nR g2 c w y x = nR g c w y x := fun x y hy hx => by unfold nR; rw [e2 y (by omega), e1 y hy x hx]
  have e4 : ∀ f x y, y < h → x + f ≤ w → lfR g2 c y f x = lfR g c y f x := by
    intro f
    induction f with
    | zero => intro x y _ _; rfl
    | succ f ih =>
      intro x y hy hx
      show (if g2 x y = c then 1 + lfR g2 c y f (x + 1) else 0) = if g x y = c then 1 + lfR g c y f (x + 1) else 0
      rw [ih (x + 1) y hy (by omega)]
      by_cases q : g x y = c
      · rw [if_pos q, if_pos ((e x y (by omega) hy).mpr q)]
      · rw [if_neg q, if_neg (fun z => q ((e x y (by omega) hy).mp z))]
  refine ⟨by rw [e2 h (Nat.le_refl _)]; exact H.1, fun x y hx hy hs => ?_⟩
  have hs2 : stR g c x y := by
    refine ⟨(e x y hx hy).mp hs.1, ?_⟩
    rcases hs.2 with z | z
    · exact Or.inl z
    · by_cases q : x = 0
      · exact Or.inl q
      · exact Or.inr (fun q2 => z ((e (x - 1) y (by omega) hy).mpr q2))
  rw [e3 x y hy (by omega)]
  unfold lenR
  rw [e4 (w - x) x y hy (by omega)]
  exact H.2 x y hx hy hs2
end RUNMATH
