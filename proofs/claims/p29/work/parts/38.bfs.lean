/-! groups of points, as plain numbers -/
section BFS
/-- points that an edge joins -/
def adjP (w h : Int) (U F : Nat → Int) (a b : Nat) : Prop :=
  (eU w h U ((a % 25 : Nat) : Int) ((a / 25 : Nat) : Int) = 1 ∧ b = a + 25) ∨ (eU w h U ((a % 25 : Nat) : Int) (((a / 25 : Nat) : Int) - 1) = 1 ∧ b + 25 = a) ∨
  (eF w h F ((a % 25 : Nat) : Int) ((a / 25 : Nat) : Int) = 1 ∧ b = a + 1) ∨ (eF w h F (((a % 25 : Nat) : Int) - 1) ((a / 25 : Nat) : Int) = 1 ∧ b + 1 = a)
theorem adjP_lt {w h : Int} {U F : Nat → Int} {a b : Nat} (hw : w ≤ 24) (hh : h ≤ 24) (ha : a < 625) (H : adjP w h U F a b) : b < 625 := by
  unfold adjP eU eF at H
  rcases H with ⟨q, e⟩ | ⟨q, e⟩ | ⟨q, e⟩ | ⟨q, e⟩
  · split at q <;> omega
  · omega
  · split at q <;> omega
  · omega
/-- what a point and the reached ones lead to -/
def clo (A : Nat → Nat → Prop) (R0 : Nat → Int) (p j : Nat) : Prop := ∀ Q : Nat → Prop, (∀ a b, Q a → A a b → Q b) → (∀ a, a < 625 → R0 a = 1 → Q a) → Q p → Q j
theorem clo.p {A : Nat → Nat → Prop} {R0 : Nat → Int} {p : Nat} : clo A R0 p p := fun _ _ _ h => h
theorem clo.step {A : Nat → Nat → Prop} {R0 : Nat → Int} {p a b : Nat} (h : clo A R0 p a) (hab : A a b) : clo A R0 p b := fun Q h1 h2 h3 => h1 a b (h Q h1 h2 h3) hab
noncomputable def cloI (A : Nat → Nat → Prop) (R0 : Nat → Int) (p j : Nat) : Int := @ite _ (clo A R0 p j) (Classical.propDecidable _) 1 0
theorem cloI_T {A : Nat → Nat → Prop} {R0 : Nat → Int} {p j : Nat} (h : clo A R0 p j) : cloI A R0 p j = 1 := if_pos h
theorem cloI_F {A : Nat → Nat → Prop} {R0 : Nat → Int} {p j : Nat} (h : ¬ clo A R0 p j) : cloI A R0 p j = 0 := if_neg h
theorem cloI_b {A : Nat → Nat → Prop} {R0 : Nat → Int} {p j : Nat} : cloI A R0 p j = 0 ∨ cloI A R0 p j = 1 := by
  by_cases h : clo A R0 p j
  · exact Or.inr (cloI_T h)
  · exact Or.inl (cloI_F h)
theorem cloI_1 {A : Nat → Nat → Prop} {R0 : Nat → Int} {p j : Nat} (h : cloI A R0 p j = 1) : clo A R0 p j := by
  by_cases q : clo A R0 p j
  · exact q
  · rw [cloI_F q] at h; omega
/-- a search from p: reached R, n in the row q, k of them gone through -/
def BF (A : Nat → Nat → Prop) (R0 : Nat → Int) (p : Nat) (R q : Nat → Int) (n k : Nat) : Prop :=
  (∀ j, j < 625 → 0 ≤ R j ∧ R j ≤ 1 ∧ (R0 j = 1 → R j = 1)) ∧ (∀ i, i < n → 0 ≤ q i ∧ q i < 625 ∧ R (q i).toNat = 1) ∧
  (∀ j : Nat, j < 625 → R j = 1 → R0 j = 1 ∨ ∃ i, i < n ∧ q i = j) ∧ (∀ j, j < 625 → R j = 1 → clo A R0 p j) ∧
  (∀ f : Nat → Int, sumN (fun i => f (q i).toNat) n = sumN (fun j => if R j = 1 ∧ R0 j ≠ 1 then f j else 0) 625) ∧
  R p = 1 ∧ (∀ i, i < k → ∀ b, A (q i).toNat b → R b = 1) ∧ k ≤ n
theorem BF.n_le {A : Nat → Nat → Prop} {R0 R q : Nat → Int} {p n k : Nat} (H : BF A R0 p R q n k) : n ≤ 625 := by
  have h5 := H.2.2.2.2.1 (fun _ => 1)
  rw [sumN_one] at h5
  have := sumN_le (f := fun j => if R j = 1 ∧ R0 j ≠ 1 then (1 : Int) else 0) (n := 625) (c := 1) (fun i _ => by split <;> omega)
  omega
theorem BF.n_lt {A : Nat → Nat → Prop} {R0 R q : Nat → Int} {p n k b : Nat} (H : BF A R0 p R q n k) (hb : b < 625) (hr : R b ≠ 1) : n < 625 := by
  have h5 := H.2.2.2.2.1 (fun _ => 1)
  rw [sumN_one] at h5
  have h1 := H.n_le
  by_cases e : n = 625
  · have := sumN_full (f := fun j => if R j = 1 ∧ R0 j ≠ 1 then (1 : Int) else 0) (n := 625) (fun i _ => by split <;> omega) (by rw [← h5, e]) b hb
    rw [if_neg (fun z => hr z.1)] at this
    omega
  · omega
theorem BF.add {A : Nat → Nat → Prop} {R0 R q : Nat → Int} {p n k b : Nat} (H : BF A R0 p R q n k) (hb : b < 625) (hr : R b ≠ 1) (hc : clo A R0 p b) : BF A R0 p (upI R b 1) (upI q n b) (n + 1) k := by
  obtain ⟨h1, h2, h3, h4, h5, h6, h7, h8⟩ := H
  have mono : ∀ j, R j = 1 → upI R b 1 j = 1 := fun j hj => by
    by_cases e : j = b
    · rw [e, upI_same]
    · rw [upI_ne e]; exact hj
  have r0 : R0 b ≠ 1 := fun z => hr ((h1 b hb).2.2 z)
  refine ⟨fun j hj => ?_, fun i hi => ?_, fun j hj hR => ?_, fun j hj hR => ?_, fun f => ?_, mono p h6, fun i hi c hac => ?_, by omega⟩
  · by_cases e : j = b
    · rw [e, upI_same]; omega
    · rw [upI_ne e]; exact h1 j hj
  · by_cases e : i = n
    · rw [e, upI_same]
      exact ⟨by omega, by omega, by rw [Int.toNat_natCast, upI_same]⟩
    · rw [upI_ne e]
      obtain ⟨a1, a2, a3⟩ := h2 i (by omega)
      exact ⟨a1, a2, mono _ a3⟩
  · by_cases e : j = b
    · exact Or.inr ⟨n, by omega, by rw [upI_same, e]⟩
    · rw [upI_ne e] at hR
      rcases h3 j hj hR with z | ⟨i, z1, z2⟩
      · exact Or.inl z
      · exact Or.inr ⟨i, by omega, by rw [upI_ne (by omega)]; exact z2⟩
  · by_cases e : j = b
    · rw [e]; exact hc
    · rw [upI_ne e] at hR; exact h4 j hj hR
  · have e1 : sumN (fun i => f (upI q n b i).toNat) (n + 1) = sumN (fun i => f (upI q n b i).toNat) n + f (upI q n b n).toNat := rfl
    rw [e1, sumN_congr (g := fun i => f (q i).toNat) (fun i hi => by rw [upI_ne (by omega)]), h5 f, upI_same, Int.toNat_natCast]
    rw [sumN_upd (f := fun j => if R j = 1 ∧ R0 j ≠ 1 then f j else 0) hb (g := fun j => if upI R b 1 j = 1 ∧ R0 j ≠ 1 then f j else 0) (fun j _ hne => by rw [upI_ne hne])]
    rw [upI_same, if_pos ⟨rfl, r0⟩, if_neg (fun z => hr z.1)]
    omega
  · rw [upI_ne (by omega)] at hac
    exact mono c (h7 i hi c hac)
theorem BF.init {A : Nat → Nat → Prop} {R0 q : Nat → Int} {p : Nat} (hR : ∀ j, j < 625 → 0 ≤ R0 j ∧ R0 j ≤ 1) (hpp : p < 625) (hr : R0 p ≠ 1) : BF A R0 p (upI R0 p 1) (upI q 0 p) 1 0 := by
  have mono : ∀ j, R0 j = 1 → upI R0 p 1 j = 1 := fun j hj => by
    by_cases e : j = p
    · rw [e, upI_same]
    · rw [upI_ne e]; exact hj
  refine ⟨fun j hj => ?_, fun i hi => ?_, fun j hj hR => ?_, fun j hj hR => ?_, fun f => ?_, upI_same, fun i hi => by omega, by omega⟩
  · by_cases e : j = p
    · rw [e, upI_same]; omega
    · rw [upI_ne e]; have := hR j hj; exact ⟨this.1, this.2, fun z => z⟩
  · rw [show i = 0 by omega, upI_same]; exact ⟨by omega, by omega, by rw [Int.toNat_natCast, upI_same]⟩
  · by_cases e : j = p
    · exact Or.inr ⟨0, by omega, by rw [upI_same, e]⟩
    · rw [upI_ne e] at hR; exact Or.inl hR
  · by_cases e : j = p
    · rw [e]; exact clo.p
    · rw [upI_ne e] at hR; exact fun Q _ h2 _ => h2 j hj hR
  · rw [sumN_upd (f := fun _ => (0 : Int)) hpp (g := fun j => if upI R0 p 1 j = 1 ∧ R0 j ≠ 1 then f j else 0) (fun j _ hne => by
      rw [upI_ne hne, if_neg (fun z => z.2 z.1)])]
    rw [upI_same, if_pos ⟨rfl, hr⟩, sumN_zero (f := fun _ => (0 : Int)) (fun _ _ => rfl)]
    show 0 + f (upI q 0 p 0).toNat = _
    rw [upI_same, Int.toNat_natCast]
    omega
theorem BF.next {A : Nat → Nat → Prop} {R0 R q : Nat → Int} {p n k : Nat} (H : BF A R0 p R q n k) (hk : k < n) (h : ∀ b, A (q k).toNat b → R b = 1) : BF A R0 p R q n (k + 1) := by
  obtain ⟨h1, h2, h3, h4, h5, h6, h7, h8⟩ := H
  refine ⟨h1, h2, h3, h4, h5, h6, fun i hi b hb => ?_, hk⟩
  by_cases e : i = k
  · rw [e] at hb; exact h b hb
  · exact h7 i (by omega) b hb
theorem BF.done {A : Nat → Nat → Prop} {R0 R q : Nat → Int} {p n : Nat} (H : BF A R0 p R q n n) (hA : ∀ a b, a < 625 → A a b → b < 625) (h0 : ∀ a b, a < 625 → R0 a = 1 → A a b → R0 b = 1) (hpp : p < 625) : ∀ j, j < 625 → R j = cloI A R0 p j := by
  obtain ⟨h1, h2, h3, h4, h5, h6, h7, h8⟩ := H
  intro j hj
  by_cases q1 : R j = 1
  · rw [q1, cloI_T (h4 j hj q1)]
  · rw [cloI_F (fun z => ?_)]
    · have := h1 j hj; omega
    · have := z (fun j => j < 625 ∧ R j = 1) (fun a b hab hA2 => by
        obtain ⟨a1, a2⟩ := hab
        have hb := hA a b a1 hA2
        rcases h3 a a1 a2 with z | ⟨i, z1, z2⟩
        · exact ⟨hb, (h1 b hb).2.2 (h0 a b a1 z hA2)⟩
        · refine ⟨hb, h7 i z1 b ?_⟩
          rw [z2, Int.toNat_natCast]; exact hA2) (fun a ha hr => ⟨ha, (h1 a ha).2.2 hr⟩) ⟨hpp, h6⟩
      exact q1 this.2
/-- the points of the first t ones' groups; how many groups, strands, odd points -/
noncomputable def grS (A : Nat → Nat → Prop) (pt : Nat → Int) : Nat → (Nat → Int) × (Int × Int × Int)
  | 0 => (fun _ => 0, (0, 0, 0))
  | t + 1 => if 0 < pt t ∧ (grS A pt t).1 t ≠ 1 then (cloI A (grS A pt t).1 t, ((grS A pt t).2.1 + 1, (grS A pt t).2.2.1 + (if 2 < sumN (fun j => if cloI A (grS A pt t).1 t j = 1 ∧ (grS A pt t).1 j ≠ 1 then pt j % 2 else 0) 625 then sumN (fun j => if cloI A (grS A pt t).1 t j = 1 ∧ (grS A pt t).1 j ≠ 1 then pt j % 2 else 0) 625 / 2 else 1), (grS A pt t).2.2.2 + sumN (fun j => if cloI A (grS A pt t).1 t j = 1 ∧ (grS A pt t).1 j ≠ 1 then pt j % 2 else 0) 625)) else grS A pt t
noncomputable def grO (A : Nat → Nat → Prop) (pt : Nat → Int) (t : Nat) : Int := sumN (fun j => if cloI A (grS A pt t).1 t j = 1 ∧ (grS A pt t).1 j ≠ 1 then pt j % 2 else 0) 625
theorem grS_T {A : Nat → Nat → Prop} {pt : Nat → Int} {t : Nat} (h : 0 < pt t ∧ (grS A pt t).1 t ≠ 1) : grS A pt (t + 1) = (cloI A (grS A pt t).1 t, ((grS A pt t).2.1 + 1, (grS A pt t).2.2.1 + (if 2 < grO A pt t then grO A pt t / 2 else 1), (grS A pt t).2.2.2 + grO A pt t)) := by
  show (if 0 < pt t ∧ (grS A pt t).1 t ≠ 1 then _ else _) = _
  rw [if_pos h]; rfl
theorem grS_F {A : Nat → Nat → Prop} {pt : Nat → Int} {t : Nat} (h : ¬ (0 < pt t ∧ (grS A pt t).1 t ≠ 1)) : grS A pt (t + 1) = grS A pt t := by
  show (if 0 < pt t ∧ (grS A pt t).1 t ≠ 1 then _ else _) = _
  rw [if_neg h]
theorem grS_bit {A : Nat → Nat → Prop} {pt : Nat → Int} : ∀ t j, (grS A pt t).1 j = 0 ∨ (grS A pt t).1 j = 1 := by
  intro t
  induction t with
  | zero => intro j; exact Or.inl rfl
  | succ t ih =>
    intro j
    by_cases q : 0 < pt t ∧ (grS A pt t).1 t ≠ 1
    · rw [grS_T q]; exact cloI_b
    · rw [grS_F q]; exact ih j
theorem grS_clo {A : Nat → Nat → Prop} {pt : Nat → Int} : ∀ t a b, (grS A pt t).1 a = 1 → A a b → (grS A pt t).1 b = 1 := by
  intro t
  induction t with
  | zero => intro a b h; have h : (0 : Int) = 1 := h; omega
  | succ t ih =>
    intro a b
    by_cases q : 0 < pt t ∧ (grS A pt t).1 t ≠ 1
    · rw [grS_T q]; exact fun h1 h2 => cloI_T ((cloI_1 h1).step h2)
    · rw [grS_F q]; exact ih a b
theorem grO_b {A : Nat → Nat → Prop} {pt : Nat → Int} {t : Nat} : 0 ≤ grO A pt t ∧ grO A pt t ≤ 625 := by
  unfold grO
  constructor
  · exact sumN_nonneg (fun j _ => by split <;> omega)
  · have := sumN_le (f := fun j => if cloI A (grS A pt t).1 t j = 1 ∧ (grS A pt t).1 j ≠ 1 then pt j % 2 else 0) (n := 625) (c := 1) (fun j _ => by split <;> omega)
    omega
theorem grS_b {A : Nat → Nat → Prop} {pt : Nat → Int} : ∀ t : Nat, t ≤ 625 → (0 ≤ (grS A pt t).2.1 ∧ (grS A pt t).2.1 ≤ t) ∧ (0 ≤ (grS A pt t).2.2.1 ∧ (grS A pt t).2.2.1 ≤ 320 * t) ∧ 0 ≤ (grS A pt t).2.2.2 ∧ (grS A pt t).2.2.2 ≤ 625 * t := by
  intro t
  induction t with
  | zero => intro _; exact ⟨⟨Int.le_refl 0, Int.le_refl 0⟩, ⟨Int.le_refl 0, Int.le_refl 0⟩, Int.le_refl 0, Int.le_refl 0⟩
  | succ t ih =>
    intro ht
    obtain ⟨h1, h2, h3⟩ := ih (by omega)
    by_cases q : 0 < pt t ∧ (grS A pt t).1 t ≠ 1
    · rw [grS_T q]
      have := grO_b (A := A) (pt := pt) (t := t)
      dsimp only
      refine ⟨by omega, ?_, by omega⟩
      split <;> omega
    · rw [grS_F q]; omega
/-- in the end, all odd points are counted -/
theorem grS_odd {A : Nat → Nat → Prop} {pt : Nat → Int} : ∀ t, t ≤ 625 → (grS A pt t).2.2.2 = sumN (fun j => if (grS A pt t).1 j = 1 then pt j % 2 else 0) 625 ∧ ∀ j, j < t → 0 < pt j → (grS A pt t).1 j = 1 := by
  intro t
  induction t with
  | zero => exact fun _ => ⟨(sumN_zero (fun j _ => if_neg (by show ¬ (0 : Int) = 1; omega))).symm, fun j hj => absurd hj (Nat.not_lt_zero _)⟩
  | succ t ih =>
    intro ht
    obtain ⟨h1, h2⟩ := ih (by omega)
    by_cases q : 0 < pt t ∧ (grS A pt t).1 t ≠ 1
    · have mono : ∀ j, j < 625 → (grS A pt t).1 j = 1 → cloI A (grS A pt t).1 t j = 1 := fun j hj z => cloI_T (fun Q _ z2 _ => z2 j hj z)
      rw [grS_T q]
      constructor
      · show (grS A pt t).2.2.2 + grO A pt t = sumN (fun j => if cloI A (grS A pt t).1 t j = 1 then pt j % 2 else 0) 625
        rw [h1]
        unfold grO
        rw [← sumN_add]
        apply sumN_congr
        intro j hj
        by_cases z : (grS A pt t).1 j = 1
        · rw [if_pos z, if_neg (fun y => y.2 z), if_pos (mono j hj z)]; omega
        · rw [if_neg z]
          by_cases z2 : cloI A (grS A pt t).1 t j = 1
          · rw [if_pos ⟨z2, z⟩, if_pos z2]; omega
          · rw [if_neg (fun y => z2 y.1), if_neg z2]; omega
      · intro j hj hpos
        show cloI A (grS A pt t).1 t j = 1
        by_cases e : j = t
        · rw [e]; exact cloI_T clo.p
        · exact mono j (by omega) (h2 j (by omega) hpos)
    · rw [grS_F q]
      refine ⟨h1, fun j hj hpos => ?_⟩
      by_cases e : j = t
      · subst e
        exact Classical.byContradiction fun z => q ⟨hpos, z⟩
      · exact h2 j (by omega) hpos
theorem grS_skip {A : Nat → Nat → Prop} {pt : Nat → Int} {t m : Nat} (h : ∀ j, t ≤ j → j < t + m → pt j = 0) : grS A pt (t + m) = grS A pt t := by
  induction m with
  | zero => rfl
  | succ m ih =>
    show grS A pt (t + m + 1) = _
    rw [grS_F (fun z => by have := h (t + m) (by omega) (by omega); omega), ih (fun j a b => h j a (by omega))]
end BFS
