/-! ways, costs, orders: plain functions that both sides answer by -/
def absI (z : Int) : Int := if 0 ≤ z then z else 0 - z
theorem absI_b {z m : Int} (h : -m ≤ z ∧ z ≤ m) : 0 ≤ absI z ∧ absI z ≤ m := by unfold absI; split <;> omega
def wayF (X Y : Nat → Int) (a b : Nat) : Int := 10 * (absI (X a - X b) + absI (Y a - Y b))
def cstF (reach tail w : Int) : Int := if reach < w then 2 * tail else w
theorem wayF_b {X Y : Nat → Int} {a b : Nat} (h1 : 0 ≤ X a ∧ X a ≤ 23) (h2 : 0 ≤ X b ∧ X b ≤ 23) (h3 : 0 ≤ Y a ∧ Y a ≤ 23) (h4 : 0 ≤ Y b ∧ Y b ≤ 23) : 0 ≤ wayF X Y a b ∧ wayF X Y a b ≤ 460 := by
  have e1 := absI_b (z := X a - X b) (m := 23) (by omega)
  have e2 := absI_b (z := Y a - Y b) (m := 23) (by omega)
  unfold wayF
  omega
theorem cstF_b {r t w : Int} (h1 : 0 ≤ r ∧ r ≤ 1000) (h2 : 0 ≤ t ∧ t ≤ 200) (h3 : 0 ≤ w) : 0 ≤ cstF r t w ∧ cstF r t w ≤ 1000 := by unfold cstF; split <;> omega
/-- the run at a place, none outside -/
def rP (n : Nat) (O : Nat → Int) (p : Int) : Int := if 0 ≤ p ∧ p < n then O p.toNat else -1
def cB (n : Nat) (X Y : Nat → Int) (r t a b : Int) : Int := if (0 ≤ a ∧ a < n) ∧ (0 ≤ b ∧ b < n) then cstF r t (wayF X Y a.toNat b.toNat) else 0
theorem rP_in {n : Nat} {O : Nat → Int} {p : Nat} (h : p < n) : rP n O p = O p := by unfold rP; rw [if_pos (by omega)]; rfl
/-- the cost to a place from the one before it -/
def cpF (X Y : Nat → Int) (r t : Int) (O : Nat → Int) (p : Nat) : Int := if p = 0 then 0 else cstF r t (wayF X Y (O (p - 1)).toNat (O p).toNat)
def thrF (n : Nat) (X Y Ln : Nat → Int) (r t : Int) (O : Nat → Int) : Int := (if n = 0 then 0 else 2 * t) + sumN (fun p => 48 * Ln p + cpF X Y r t O p) n
def staF (n : Nat) (X Y : Nat → Int) (r : Int) (O : Nat → Int) : Int := if n = 0 then 0 else 1 + sumN (fun p => if p = 0 then 0 else if r < wayF X Y (O (p - 1)).toNat (O p).toNat then 1 else 0) n
/-- what a move saves -/
def svF (n : Nat) (X Y : Nat → Int) (r t : Int) (O : Nat → Int) (a b : Int) : Int :=
  (cB n X Y r t (rP n O (a - 1)) (rP n O a) + cB n X Y r t (rP n O a) (rP n O (a + 1)) + cB n X Y r t (rP n O (if a < b then b else b - 1)) (rP n O (if a < b then b + 1 else b)))
  - (cB n X Y r t (rP n O (a - 1)) (rP n O (a + 1)) + (cB n X Y r t (rP n O (if a < b then b else b - 1)) (rP n O a)) + cB n X Y r t (rP n O a) (rP n O (if a < b then b + 1 else b)))
/-- an order with a run moved, and its places -/
def mvO (O : Nat → Int) (a b : Nat) (p : Nat) : Int := if p = b then O a else if a ≤ p ∧ p < b then O (p + 1) else if b < p ∧ p ≤ a then O (p - 1) else O p
def mvP (P : Nat → Int) (a b : Nat) (r : Nat) : Int := if P r = a then b else if (a : Int) < P r ∧ P r ≤ b then P r - 1 else if (b : Int) ≤ P r ∧ P r < a then P r + 1 else P r
def PermN (n : Nat) (O P : Nat → Int) : Prop := (∀ p, p < n → 0 ≤ O p ∧ O p < n ∧ P (O p).toNat = p) ∧ ∀ r, r < n → 0 ≤ P r ∧ P r < n ∧ O (P r).toNat = r
theorem PermN.inj {n : Nat} {O P : Nat → Int} (h : PermN n O P) {p q : Nat} (hp : p < n) (hq : q < n) (e : O p = O q) : p = q := by
  have h1 := (h.1 p hp).2.2
  have h2 := (h.1 q hq).2.2
  rw [e] at h1
  omega
theorem PermN.mv {n : Nat} {O P : Nat → Int} (h : PermN n O P) {a b : Nat} (ha : a < n) (hb : b < n) : PermN n (mvO O a b) (mvP P a b) := by
  constructor
  · intro p hp
    unfold mvO
    by_cases e1 : p = b
    · rw [if_pos e1]
      obtain ⟨x1, x2, x3⟩ := h.1 a ha
      refine ⟨x1, x2, ?_⟩
      unfold mvP; rw [if_pos x3, e1]
    · rw [if_neg e1]
      by_cases e2 : a ≤ p ∧ p < b
      · rw [if_pos e2]
        obtain ⟨x1, x2, x3⟩ := h.1 (p + 1) (by omega)
        refine ⟨x1, x2, ?_⟩
        unfold mvP; rw [x3, if_neg (by omega), if_pos (by omega)]; omega
      · rw [if_neg e2]
        by_cases e3 : b < p ∧ p ≤ a
        · rw [if_pos e3]
          obtain ⟨x1, x2, x3⟩ := h.1 (p - 1) (by omega)
          refine ⟨x1, x2, ?_⟩
          unfold mvP; rw [x3, if_neg (by omega), if_neg (by omega), if_pos (by omega)]; omega
        · rw [if_neg e3]
          obtain ⟨x1, x2, x3⟩ := h.1 p hp
          refine ⟨x1, x2, ?_⟩
          unfold mvP; rw [x3, if_neg (by omega), if_neg (by omega), if_neg (by omega)]
  · intro r hr
    obtain ⟨x1, x2, x3⟩ := h.2 r hr
    unfold mvP
    by_cases e1 : P r = a
    · rw [if_pos e1]
      refine ⟨by omega, by omega, ?_⟩
      unfold mvO; rw [show ((b : Int)).toNat = b from rfl, if_pos rfl, ← x3, e1]; rfl
    · rw [if_neg e1]
      by_cases e2 : (a : Int) < P r ∧ P r ≤ b
      · rw [if_pos e2]
        refine ⟨by omega, by omega, ?_⟩
        unfold mvO; rw [if_neg (by omega), if_pos (by omega), ← x3]; congr 1; omega
      · rw [if_neg e2]
        by_cases e3 : (b : Int) ≤ P r ∧ P r < a
        · rw [if_pos e3]
          refine ⟨by omega, by omega, ?_⟩
          unfold mvO; rw [if_neg (by omega), if_neg (by omega), if_pos (by omega), ← x3]; congr 1; omega
        · rw [if_neg e3]
          refine ⟨x1, x2, ?_⟩
          unfold mvO; rw [if_neg (by omega), if_neg (by omega), if_neg (by omega), x3]
/-- the nearest of those that are left, the lowest of them -/
def nearF (d : Nat → Int) (pl : Nat → Bool) : Nat → Option Nat
  | 0 => none
  | n + 1 => match nearF d pl n with
    | none => if pl n = true then none else some n
    | some b => if pl n = true then some b else if d n < d b then some n else some b
theorem nearF_lt {d : Nat → Int} {pl : Nat → Bool} : ∀ {n b : Nat}, nearF d pl n = some b → b < n ∧ pl b = false := by
  intro n
  induction n with
  | zero => intro b h; cases h
  | succ n ih =>
    intro b h
    unfold nearF at h
    cases hp : pl n with
    | true =>
      cases hq : nearF d pl n with
      | none => rw [hq] at h; dsimp only at h; rw [if_pos hp] at h; cases h
      | some b1 =>
        rw [hq] at h; dsimp only at h; rw [if_pos hp] at h; cases h
        obtain ⟨x1, x2⟩ := ih hq
        exact ⟨by omega, x2⟩
    | false =>
      cases hq : nearF d pl n with
      | none => rw [hq] at h; dsimp only at h; rw [if_neg (by rw [hp]; decide)] at h; cases h; exact ⟨by omega, hp⟩
      | some b1 =>
        rw [hq] at h; dsimp only at h; rw [if_neg (by rw [hp]; decide)] at h
        obtain ⟨x1, x2⟩ := ih hq
        by_cases c : d n < d b1
        · rw [if_pos c] at h; cases h; exact ⟨by omega, hp⟩
        · rw [if_neg c] at h; cases h; exact ⟨by omega, x2⟩
theorem nearF_none {d : Nat → Int} {pl : Nat → Bool} : ∀ {n : Nat}, nearF d pl n = none → ∀ r, r < n → pl r = true := by
  intro n
  induction n with
  | zero => intro h r hr; omega
  | succ n ih =>
    intro h r hr
    unfold nearF at h
    cases hq : nearF d pl n with
    | some b1 =>
      rw [hq] at h; dsimp only at h
      by_cases c : pl n = true
      · rw [if_pos c] at h; cases h
      · rw [if_neg c] at h; by_cases c2 : d n < d b1
        · rw [if_pos c2] at h; cases h
        · rw [if_neg c2] at h; cases h
    | none =>
      rw [hq] at h; dsimp only at h
      by_cases c : pl n = true
      · by_cases e : r = n
        · rw [e]; exact c
        · exact ih hq r (by omega)
      · rw [if_neg c] at h; cases h
/-- the first order: the run before a place, and which are placed by then -/
def foS (n : Nat) (X Y : Nat → Int) : Nat → Nat × (Nat → Bool)
  | 0 => (0, fun _ => false)
  | k + 1 => let l := if k = 0 then 0 else (nearF (wayF X Y (foS n X Y k).1) (foS n X Y k).2 n).getD 0
    (l, fun r => (foS n X Y k).2 r || decide (r = l))
def foO (n : Nat) (X Y : Nat → Int) (p : Nat) : Nat := (foS n X Y (p + 1)).1
theorem foS_1 {n : Nat} {X Y : Nat → Int} {k : Nat} : (foS n X Y (k + 1)).1 = if k = 0 then 0 else (nearF (wayF X Y (foS n X Y k).1) (foS n X Y k).2 n).getD 0 := rfl
theorem foS_2 {n : Nat} {X Y : Nat → Int} {k r : Nat} : (foS n X Y (k + 1)).2 r = ((foS n X Y k).2 r || decide (r = foO n X Y k)) := rfl
theorem sumN_one {n : Nat} : sumN (fun _ => 1) n = n := by
  induction n with
  | zero => rfl
  | succ n ih => show sumN (fun _ => 1) n + 1 = _; rw [ih]; rfl
def cntB (pl : Nat → Bool) (n : Nat) : Int := sumN (fun r => if pl r = true then 1 else 0) n
theorem foS_ok {n : Nat} {X Y : Nat → Int} : ∀ k, k ≤ n → cntB (foS n X Y k).2 n = k ∧ ∀ r, (foS n X Y k).2 r = true → r < n := by
  intro k
  induction k with
  | zero => intro _; exact ⟨sumN_zero (fun r _ => if_neg (by show ¬ (false = true); decide)), fun r h => by cases h⟩
  | succ k ih =>
    intro hk
    obtain ⟨i1, i2⟩ := ih (by omega)
    have key : foO n X Y k < n ∧ (foS n X Y k).2 (foO n X Y k) = false := by
      unfold foO
      rw [foS_1]
      by_cases e : k = 0
      · rw [if_pos e]; subst e; exact ⟨by omega, rfl⟩
      · rw [if_neg e]
        cases hq : nearF (wayF X Y (foS n X Y k).1) (foS n X Y k).2 n with
        | some b => exact nearF_lt hq
        | none =>
          have h1 : cntB (foS n X Y k).2 n = n := by
            unfold cntB
            rw [sumN_congr (g := fun _ => 1) (fun r hr => if_pos (nearF_none hq r hr))]
            exact sumN_one
          omega
    constructor
    · unfold cntB at i1 ⊢
      rw [sumN_upd (f := fun r => if (foS n X Y k).2 r = true then 1 else 0) key.1 (fun j hj hne => by rw [foS_2, decide_eq_false hne, Bool.or_false]), i1]
      rw [foS_2, decide_eq_true rfl, Bool.or_true, if_pos rfl, key.2, if_neg (by decide)]
      omega
    · intro r hr
      rw [foS_2] at hr
      by_cases e : r = foO n X Y k
      · rw [e]; exact key.1
      · rw [decide_eq_false e, Bool.or_false] at hr; exact i2 r hr
theorem foO_ok {n : Nat} {X Y : Nat → Int} {k : Nat} (hk : k < n) : foO n X Y k < n ∧ (foS n X Y k).2 (foO n X Y k) = false ∧ (k ≠ 0 → nearF (wayF X Y (foS n X Y k).1) (foS n X Y k).2 n = some (foO n X Y k)) ∧ (k = 0 → foO n X Y k = 0) := by
  obtain ⟨i1, i2⟩ := foS_ok (n := n) (X := X) (Y := Y) k (by omega)
  unfold foO
  rw [foS_1]
  by_cases e : k = 0
  · rw [if_pos e]; subst e; exact ⟨by omega, rfl, fun z => absurd rfl z, fun _ => rfl⟩
  · rw [if_neg e]
    cases hq : nearF (wayF X Y (foS n X Y k).1) (foS n X Y k).2 n with
    | some b => exact ⟨(nearF_lt hq).1, (nearF_lt hq).2, fun _ => rfl, fun z => absurd z e⟩
    | none =>
      have h1 : cntB (foS n X Y k).2 n = n := by
        unfold cntB
        rw [sumN_congr (g := fun _ => 1) (fun r hr => if_pos (nearF_none hq r hr))]
        exact sumN_one
      omega
theorem sumN_full {f : Nat → Int} : ∀ {n : Nat}, (∀ i, i < n → f i ≤ 1) → sumN f n = n → ∀ i, i < n → f i = 1 := by
  intro n
  induction n with
  | zero => intro _ _ i hi; omega
  | succ n ih =>
    intro h1 h2 i hi
    have e : sumN f (n + 1) = sumN f n + f n := rfl
    have h3 : sumN f n ≤ n * 1 := sumN_le (fun i hi => h1 i (by omega))
    have h4 := h1 n (by omega)
    by_cases ei : i = n
    · rw [ei]; omega
    · exact ih (fun i hi => h1 i (by omega)) (by omega) i (by omega)
theorem foS_all {n : Nat} {X Y : Nat → Int} {r : Nat} (hr : r < n) : (foS n X Y n).2 r = true := by
  obtain ⟨i1, -⟩ := foS_ok (n := n) (X := X) (Y := Y) n (Nat.le_refl _)
  have h := sumN_full (f := fun r => if (foS n X Y n).2 r = true then (1 : Int) else 0) (fun i _ => by show (if (foS n X Y n).2 i = true then (1 : Int) else 0) ≤ 1; split <;> omega) i1 r hr
  have h : (if (foS n X Y n).2 r = true then (1 : Int) else 0) = 1 := h
  by_cases c : (foS n X Y n).2 r = true
  · exact c
  · rw [if_neg c] at h; omega
theorem foS_placed {n : Nat} {X Y : Nat → Int} {r : Nat} : ∀ k, (foS n X Y k).2 r = true ↔ ∃ p, p < k ∧ foO n X Y p = r := by
  intro k
  induction k with
  | zero => exact ⟨fun h => (by cases h), fun ⟨p, hp, _⟩ => absurd hp (by omega)⟩
  | succ k ih =>
    rw [foS_2, Bool.or_eq_true, ih, decide_eq_true_eq]
    constructor
    · rintro (⟨p, h1, h2⟩ | h)
      · exact ⟨p, by omega, h2⟩
      · exact ⟨k, by omega, h.symm⟩
    · rintro ⟨p, h1, h2⟩
      by_cases e : p = k
      · rw [e] at h2; exact Or.inr h2.symm
      · exact Or.inl ⟨p, by omega, h2⟩
theorem foO_inj {n : Nat} {X Y : Nat → Int} {p q : Nat} (hp : p < n) (hq : q < n) (e : foO n X Y p = foO n X Y q) : p = q := by
  rcases Nat.lt_trichotomy p q with h | h | h
  · have h1 := (foO_ok (X := X) (Y := Y) hq).2.1
    rw [← e, (foS_placed q).mpr ⟨p, h, rfl⟩] at h1; cases h1
  · exact h
  · have h1 := (foO_ok (X := X) (Y := Y) hp).2.1
    rw [e, (foS_placed p).mpr ⟨q, h, rfl⟩] at h1; cases h1
def foI (n : Nat) (X Y : Nat → Int) : Nat → Nat → Nat
  | 0, _ => 0
  | k + 1, r => if foO n X Y k = r then k else foI n X Y k r
theorem foI_of {n : Nat} {X Y : Nat → Int} {p : Nat} : ∀ k, k ≤ n → p < k → foI n X Y k (foO n X Y p) = p := by
  intro k
  induction k with
  | zero => intro _ h; omega
  | succ k ih =>
    intro hk hp
    unfold foI
    by_cases e : foO n X Y k = foO n X Y p
    · rw [if_pos e]; exact foO_inj (by omega) (by omega) e
    · rw [if_neg e]
      by_cases e2 : p = k
      · rw [e2] at e; exact absurd rfl e
      · exact ih (by omega) (by omega)
theorem foO_perm {n : Nat} {X Y : Nat → Int} : PermN n (fun p => (foO n X Y p : Int)) (fun r => (foI n X Y n r : Int)) := by
  constructor
  · intro p hp
    have h1 := (foO_ok (X := X) (Y := Y) hp).1
    refine ⟨Int.natCast_nonneg _, (by show ((foO n X Y p : Nat) : Int) < n; omega), ?_⟩
    show ((foI n X Y n ((foO n X Y p : Nat) : Int).toNat : Nat) : Int) = p
    rw [Int.toNat_natCast, foI_of n (Nat.le_refl _) hp]
  · intro r hr
    obtain ⟨p, h1, h2⟩ := (foS_placed n).mp (foS_all (X := X) (Y := Y) hr)
    have h3 : foI n X Y n r = p := by rw [← h2, foI_of n (Nat.le_refl _) h1]
    dsimp only
    rw [h3]
    refine ⟨by omega, by omega, ?_⟩
    rw [Int.toNat_natCast, h2]
