/-! what a move saves is what the ways become less; passes of shortening -/
section SHORT
variable {n : Nat} {X Y : Nat → Int} {r t : Int} {O : Nat → Int}
def OrdN (n : Nat) (O : Nat → Int) : Prop := ∀ p, p < n → 0 ≤ O p ∧ O p < n
theorem mvO_ord {a b : Nat} (h : OrdN n O) (ha : a < n) (hb : b < n) : OrdN n (mvO O a b) := by
  intro p hp
  unfold mvO
  split
  · exact h a ha
  · split
    · exact h _ (by omega)
    · split
      · exact h _ (by omega)
      · exact h p hp
theorem rP_out {p : Int} (h : p < 0 ∨ (n : Int) ≤ p) : rP n O p = -1 := by unfold rP; rw [if_neg (by omega)]
theorem cB_out {a b : Int} (h : a < 0 ∨ b < 0) : cB n X Y r t a b = 0 := by unfold cB; rw [if_neg (by omega)]
theorem cB_in {p q : Nat} (h : OrdN n O) (hp : p < n) (hq : q < n) : cB n X Y r t (O p) (O q) = cstF r t (wayF X Y (O p).toNat (O q).toNat) := by
  have := h p hp; have := h q hq
  unfold cB; rw [if_pos (by omega)]
theorem cp_of {O' : Nat → Int} {p u v : Nat} (hp : p ≠ 0) (h1 : O' (p - 1) = O u) (h2 : O' p = O v) : cpF X Y r t O' p = cstF r t (wayF X Y (O u).toNat (O v).toNat) := by
  unfold cpF; rw [if_neg hp, h1, h2]
theorem cp_succ {O : Nat → Int} {p : Nat} : cstF r t (wayF X Y (O p).toNat (O (p + 1)).toNat) = cpF X Y r t O (p + 1) := by
  unfold cpF; rw [if_neg (Nat.succ_ne_zero p)]; rfl
theorem cp_self {O : Nat → Int} {p : Nat} (hp : p ≠ 0) : cstF r t (wayF X Y (O (p - 1)).toNat (O p).toNat) = cpF X Y r t O p := by
  unfold cpF; rw [if_neg hp]
set_option maxHeartbeats 4000000 in
theorem mv_cost {a b : Nat} (h : OrdN n O) (ha : a < n) (hb : b < n) (hab : a ≠ b) : sumN (cpF X Y r t (mvO O a b)) n = sumN (cpF X Y r t O) n - svF n X Y r t O a b := by
  -- costs by places
  have fz : cpF X Y r t O 0 = 0 := by unfold cpF; rw [if_pos rfl]
  have gz : cpF X Y r t (mvO O a b) 0 = 0 := by unfold cpF; rw [if_pos rfl]
  have fp : ∀ p, p ≠ 0 → p < n → cB n X Y r t (O (p - 1)) (O p) = cpF X Y r t O p := fun p h0 hp => by
    rw [cB_in h (by omega) hp]; exact cp_self h0
  by_cases c : a < b
  · have o1 : ∀ p, p < a → mvO O a b p = O p := fun p hp => by unfold mvO; rw [if_neg (by omega), if_neg (by omega), if_neg (by omega)]
    have o2 : ∀ p, a ≤ p → p < b → mvO O a b p = O (p + 1) := fun p h1 h2 => by unfold mvO; rw [if_neg (by omega), if_pos (by omega)]
    have o3 : mvO O a b b = O a := by unfold mvO; rw [if_pos rfl]
    have o4 : ∀ p, b < p → mvO O a b p = O p := fun p hp => by unfold mvO; rw [if_neg (by omega), if_neg (by omega), if_neg (by omega)]
    have g1 : ∀ p, p < a → cpF X Y r t (mvO O a b) p = cpF X Y r t O p := fun p hp => by
      by_cases h0 : p = 0
      · rw [h0, fz, gz]
      · rw [cp_of h0 (o1 _ (by omega)) (o1 _ hp)]; exact cp_self h0
    have g2 : ∀ p, a < p → p < b → cpF X Y r t (mvO O a b) p = cpF X Y r t O (p + 1) := fun p h1 h2 => by
      rw [cp_of (by omega) (o2 _ (by omega) (by omega)) (o2 _ (by omega) h2), show p - 1 + 1 = p by omega]
      exact cp_succ
    have g4 : ∀ p, b + 1 < p → cpF X Y r t (mvO O a b) p = cpF X Y r t O p := fun p hp => by
      rw [cp_of (by omega) (o4 _ (by omega)) (o4 _ (by omega))]; exact cp_self (by omega)
    have key : ∀ m, m ≤ n → sumN (cpF X Y r t (mvO O a b)) m - sumN (cpF X Y r t O) m = if m ≤ a then 0 else if m ≤ b then cpF X Y r t (mvO O a b) a - cpF X Y r t O a + (cpF X Y r t O m - cpF X Y r t O (a + 1)) else (cpF X Y r t (mvO O a b) a - cpF X Y r t O a - cpF X Y r t O (a + 1) + cpF X Y r t (mvO O a b) b) + if m = b + 1 then 0 else cpF X Y r t (mvO O a b) (b + 1) - cpF X Y r t O (b + 1) := by
      intro m
      induction m with
      | zero => intro _; rw [if_pos (Nat.zero_le _)]; rfl
      | succ m ih =>
        intro hm
        have hi := ih (by omega)
        have e1 : sumN (cpF X Y r t (mvO O a b)) (m + 1) = sumN (cpF X Y r t (mvO O a b)) m + cpF X Y r t (mvO O a b) m := rfl
        have e2 : sumN (cpF X Y r t O) (m + 1) = sumN (cpF X Y r t O) m + cpF X Y r t O m := rfl
        rcases Nat.lt_trichotomy m a with q | q | q
        · rw [if_pos (by omega)] at hi
          rw [if_pos (by omega), e1, e2, g1 m q]; omega
        · rw [if_pos (by omega)] at hi
          subst q
          rw [if_neg (by omega), if_pos (by omega), e1, e2]
          omega
        · rw [if_neg (by omega)] at hi
          rw [if_neg (by omega)]
          rcases Nat.lt_trichotomy m b with q2 | q2 | q2
          · rw [if_pos (by omega)] at hi
            rw [if_pos (by omega), e1, e2, g2 m q q2]; omega
          · rw [if_pos (by omega)] at hi
            subst q2
            rw [if_neg (by omega), if_pos rfl, e1, e2]
            omega
          · rw [if_neg (by omega)] at hi
            rw [if_neg (by omega), if_neg (by omega), e1, e2]
            by_cases q3 : m = b + 1
            · rw [if_pos q3] at hi; subst q3; omega
            · rw [if_neg q3] at hi; rw [g4 m (by omega)]; omega
    have hk := key n (Nat.le_refl _)
    rw [if_neg (by omega), if_neg (by omega)] at hk
    have s1 : cB n X Y r t (rP n O ((a : Int) - 1)) (rP n O a) = cpF X Y r t O a := by
      by_cases h0 : a = 0
      · rw [h0, fz]; exact cB_out (Or.inl (by rw [rP_out (by omega)]; omega))
      · rw [show ((a : Int) - 1) = ((a - 1 : Nat) : Int) by omega, rP_in (p := a - 1) (by omega), rP_in ha, fp a h0 ha]
    have s2 : cB n X Y r t (rP n O a) (rP n O ((a : Int) + 1)) = cpF X Y r t O (a + 1) := by
      rw [show ((a : Int) + 1) = ((a + 1 : Nat) : Int) from rfl, rP_in ha, rP_in (p := a + 1) (by omega)]
      exact fp (a + 1) (by omega) (by omega)
    have s4 : cB n X Y r t (rP n O ((a : Int) - 1)) (rP n O ((a : Int) + 1)) = cpF X Y r t (mvO O a b) a := by
      by_cases h0 : a = 0
      · subst h0; rw [gz]; exact cB_out (Or.inl (by rw [rP_out (by omega)]; omega))
      · rw [show ((a : Int) - 1) = ((a - 1 : Nat) : Int) by omega, show ((a : Int) + 1) = ((a + 1 : Nat) : Int) from rfl, rP_in (p := a - 1) (by omega), rP_in (p := a + 1) (by omega), cB_in h (by omega) (by omega)]
        exact (cp_of h0 (o1 _ (by omega)) (o2 _ (by omega) c)).symm
    have s5 : cB n X Y r t (rP n O b) (rP n O a) = cpF X Y r t (mvO O a b) b := by
      rw [rP_in hb, rP_in ha, cB_in h hb ha]
      refine (cp_of (by omega) ?_ o3).symm
      rw [o2 _ (by omega) (by omega)]; congr 1; omega
    unfold svF
    rw [if_pos (show (a : Int) < b by omega), if_pos (show (a : Int) < b by omega), s1, s2, s4, s5]
    by_cases hl : b + 1 < n
    · have s3 : cB n X Y r t (rP n O b) (rP n O ((b : Int) + 1)) = cpF X Y r t O (b + 1) := by
        rw [show ((b : Int) + 1) = ((b + 1 : Nat) : Int) from rfl, rP_in hb, rP_in (p := b + 1) hl]
        exact fp (b + 1) (by omega) hl
      have s6 : cB n X Y r t (rP n O a) (rP n O ((b : Int) + 1)) = cpF X Y r t (mvO O a b) (b + 1) := by
        rw [show ((b : Int) + 1) = ((b + 1 : Nat) : Int) from rfl, rP_in ha, rP_in (p := b + 1) hl, cB_in h ha hl]
        exact (cp_of (by omega) o3 (o4 _ (by omega))).symm
      rw [s3, s6]
      rw [if_neg (by omega)] at hk
      omega
    · have s3 : ∀ z, cB n X Y r t z (rP n O ((b : Int) + 1)) = 0 := fun z => cB_out (Or.inr (by rw [rP_out (by omega)]; omega))
      rw [s3, s3]
      rw [if_pos (by omega)] at hk
      omega
  · have c2 : b < a := by omega
    have o1 : ∀ p, p < b → mvO O a b p = O p := fun p hp => by unfold mvO; rw [if_neg (by omega), if_neg (by omega), if_neg (by omega)]
    have o2 : ∀ p, b < p → p ≤ a → mvO O a b p = O (p - 1) := fun p h1 h2 => by unfold mvO; rw [if_neg (by omega), if_neg (by omega), if_pos (by omega)]
    have o3 : mvO O a b b = O a := by unfold mvO; rw [if_pos rfl]
    have o4 : ∀ p, a < p → mvO O a b p = O p := fun p hp => by unfold mvO; rw [if_neg (by omega), if_neg (by omega), if_neg (by omega)]
    have g1 : ∀ p, p < b → cpF X Y r t (mvO O a b) p = cpF X Y r t O p := fun p hp => by
      by_cases h0 : p = 0
      · rw [h0, fz, gz]
      · rw [cp_of h0 (o1 _ (by omega)) (o1 _ hp)]; exact cp_self h0
    have g2 : ∀ p, b + 1 < p → p ≤ a → cpF X Y r t (mvO O a b) p = cpF X Y r t O (p - 1) := fun p h1 h2 => by
      rw [cp_of (by omega) (o2 _ (by omega) (by omega)) (o2 _ (by omega) h2)]
      exact cp_self (by omega)
    have g4 : ∀ p, a + 1 < p → cpF X Y r t (mvO O a b) p = cpF X Y r t O p := fun p hp => by
      rw [cp_of (by omega) (o4 _ (by omega)) (o4 _ (by omega))]; exact cp_self (by omega)
    have key : ∀ m, m ≤ n → sumN (cpF X Y r t (mvO O a b)) m - sumN (cpF X Y r t O) m = if m ≤ b then 0 else if m = b + 1 then cpF X Y r t (mvO O a b) b - cpF X Y r t O b else if m ≤ a + 1 then cpF X Y r t (mvO O a b) b - cpF X Y r t O b + cpF X Y r t (mvO O a b) (b + 1) - cpF X Y r t O (m - 1) else cpF X Y r t (mvO O a b) b - cpF X Y r t O b + cpF X Y r t (mvO O a b) (b + 1) - cpF X Y r t O a + (cpF X Y r t (mvO O a b) (a + 1) - cpF X Y r t O (a + 1)) := by
      intro m
      induction m with
      | zero => intro _; rw [if_pos (Nat.zero_le _)]; rfl
      | succ m ih =>
        intro hm
        have hi := ih (by omega)
        have e1 : sumN (cpF X Y r t (mvO O a b)) (m + 1) = sumN (cpF X Y r t (mvO O a b)) m + cpF X Y r t (mvO O a b) m := rfl
        have e2 : sumN (cpF X Y r t O) (m + 1) = sumN (cpF X Y r t O) m + cpF X Y r t O m := rfl
        rcases Nat.lt_trichotomy m b with q | q | q
        · rw [if_pos (by omega)] at hi
          rw [if_pos (by omega), e1, e2, g1 m q]; omega
        · rw [if_pos (by omega)] at hi
          subst q
          rw [if_neg (by omega), if_pos rfl, e1, e2]
          omega
        · rw [if_neg (by omega)] at hi
          rw [if_neg (by omega), if_neg (by omega), e1, e2]
          by_cases q1 : m = b + 1
          · rw [if_pos q1] at hi
            subst q1
            rw [if_pos (by omega), show b + 1 + 1 - 1 = b + 1 by omega]
            omega
          · rw [if_neg q1] at hi
            by_cases q2 : m ≤ a
            · rw [if_pos (by omega)] at hi
              rw [if_pos (by omega), g2 m (by omega) q2, show m + 1 - 1 = m by omega]; omega
            · rw [if_neg (by omega)]
              by_cases q3 : m = a + 1
              · rw [if_pos (by omega)] at hi
                subst q3
                rw [show a + 1 - 1 = a by omega] at hi
                omega
              · rw [if_neg (by omega)] at hi
                rw [g4 m (by omega)]; omega
    have hk := key n (Nat.le_refl _)
    rw [if_neg (by omega), if_neg (by omega)] at hk
    have s1 : cB n X Y r t (rP n O ((a : Int) - 1)) (rP n O a) = cpF X Y r t O a := by
      rw [show ((a : Int) - 1) = ((a - 1 : Nat) : Int) by omega, rP_in (p := a - 1) (by omega), rP_in ha, fp a (by omega) ha]
    have s3 : cB n X Y r t (rP n O ((b : Int) - 1)) (rP n O b) = cpF X Y r t O b := by
      by_cases h0 : b = 0
      · rw [h0, fz]; exact cB_out (Or.inl (by rw [rP_out (by omega)]; omega))
      · rw [show ((b : Int) - 1) = ((b - 1 : Nat) : Int) by omega, rP_in (p := b - 1) (by omega), rP_in hb, fp b h0 hb]
    have s5 : cB n X Y r t (rP n O ((b : Int) - 1)) (rP n O a) = cpF X Y r t (mvO O a b) b := by
      by_cases h0 : b = 0
      · subst h0; rw [gz]; exact cB_out (Or.inl (by rw [rP_out (by omega)]; omega))
      · rw [show ((b : Int) - 1) = ((b - 1 : Nat) : Int) by omega, rP_in (p := b - 1) (by omega), rP_in ha, cB_in h (by omega) ha]
        exact (cp_of h0 (o1 _ (by omega)) o3).symm
    have s6 : cB n X Y r t (rP n O a) (rP n O b) = cpF X Y r t (mvO O a b) (b + 1) := by
      have hx : mvO O a b (b + 1) = O b := by
        have := o2 (b + 1) (by omega) (by omega)
        rwa [show b + 1 - 1 = b by omega] at this
      rw [rP_in hb, rP_in ha, cB_in h ha hb]
      exact (cp_of (p := b + 1) (u := a) (v := b) (Nat.succ_ne_zero b) (show mvO O a b (b + 1 - 1) = O a from o3) hx).symm
    unfold svF
    rw [if_neg (show ¬ (a : Int) < b by omega), if_neg (show ¬ (a : Int) < b by omega), s1, s3, s5, s6]
    by_cases hl : a + 1 < n
    · have s2 : cB n X Y r t (rP n O a) (rP n O ((a : Int) + 1)) = cpF X Y r t O (a + 1) := by
        rw [show ((a : Int) + 1) = ((a + 1 : Nat) : Int) from rfl, rP_in ha, rP_in (p := a + 1) hl]
        exact fp (a + 1) (by omega) hl
      have s4 : cB n X Y r t (rP n O ((a : Int) - 1)) (rP n O ((a : Int) + 1)) = cpF X Y r t (mvO O a b) (a + 1) := by
        have hx : mvO O a b (a + 1 - 1) = O (a - 1) := by
          rw [show a + 1 - 1 = a by omega]; exact o2 a (by omega) (Nat.le_refl _)
        have hy : mvO O a b (a + 1) = O (a + 1) := o4 (a + 1) (by omega)
        rw [show ((a : Int) - 1) = ((a - 1 : Nat) : Int) by omega, show ((a : Int) + 1) = ((a + 1 : Nat) : Int) from rfl, rP_in (p := a - 1) (by omega), rP_in (p := a + 1) hl, cB_in h (by omega) hl]
        exact (cp_of (p := a + 1) (u := a - 1) (v := a + 1) (Nat.succ_ne_zero a) hx hy).symm
      rw [s2, s4]
      rw [if_neg (by omega)] at hk
      omega
    · have s2 : ∀ z, cB n X Y r t z (rP n O ((a : Int) + 1)) = 0 := fun z => cB_out (Or.inr (by rw [rP_out (by omega)]; omega))
      rw [s2, s2]
      rw [if_pos (by omega), show n - 1 = a by omega] at hk
      omega
/-- one try of a move, a pass over all, with the number of moves -/
def tryM (n : Nat) (X Y : Nat → Int) (r t : Int) (a : Nat) (b : Nat) (s : (Nat → Int) × Int) : (Nat → Int) × Int := if b = a then s else if 0 < svF n X Y r t s.1 a b then (mvO s.1 a b, s.2 + 1) else s
def rowM (n : Nat) (X Y : Nat → Int) (r t : Int) (a : Nat) (s : (Nat → Int) × Int) : Nat → (Nat → Int) × Int
  | 0 => s
  | b + 1 => tryM n X Y r t a b (rowM n X Y r t a s b)
def pasM (n : Nat) (X Y : Nat → Int) (r t : Int) (s : (Nat → Int) × Int) : Nat → (Nat → Int) × Int
  | 0 => s
  | a + 1 => rowM n X Y r t a (pasM n X Y r t s a) n
/-- what moves keep: an order, and that each saves at least 1 -/
def SavM (n : Nat) (X Y : Nat → Int) (r t : Int) (s s2 : (Nat → Int) × Int) : Prop := OrdN n s2.1 ∧ s.2 ≤ s2.2 ∧ sumN (cpF X Y r t s2.1) n + (s2.2 - s.2) ≤ sumN (cpF X Y r t s.1) n
theorem tryM_sav {a b : Nat} {s0 s : (Nat → Int) × Int} (ha : a < n) (hb : b < n) (h : SavM n X Y r t s0 s) : SavM n X Y r t s0 (tryM n X Y r t a b s) := by
  unfold tryM
  by_cases c : b = a
  · rw [if_pos c]; exact h
  · rw [if_neg c]
    by_cases c2 : 0 < svF n X Y r t s.1 a b
    · rw [if_pos c2]
      obtain ⟨h1, h2, h3⟩ := h
      have e := mv_cost (X := X) (Y := Y) (r := r) (t := t) h1 ha hb (fun z => c z.symm)
      exact ⟨mvO_ord h1 ha hb, by show s0.2 ≤ s.2 + 1; omega, by show sumN (cpF X Y r t (mvO s.1 a b)) n + (s.2 + 1 - s0.2) ≤ _; omega⟩
    · rw [if_neg c2]; exact h
theorem rowM_sav {a : Nat} {s0 s : (Nat → Int) × Int} (ha : a < n) (h : SavM n X Y r t s0 s) : ∀ b, b ≤ n → SavM n X Y r t s0 (rowM n X Y r t a s b) := by
  intro b
  induction b with
  | zero => intro _; exact h
  | succ b ih => intro hb; exact tryM_sav ha (by omega) (ih (by omega))
theorem pasM_sav {s : (Nat → Int) × Int} (h : OrdN n s.1) : ∀ a, a ≤ n → SavM n X Y r t s (pasM n X Y r t s a) := by
  intro a
  induction a with
  | zero => intro _; exact ⟨h, Int.le_refl _, by show sumN (cpF X Y r t s.1) n + (s.2 - s.2) ≤ sumN (cpF X Y r t s.1) n; omega⟩
  | succ a ih => intro ha; exact rowM_sav (by omega) (ih (by omega)) n (Nat.le_refl _)
/-- the orders behind the passes; all moves up to there -/
def itM (n : Nat) (X Y : Nat → Int) (r t : Int) (O : Nat → Int) : Nat → (Nat → Int) × Int
  | 0 => (O, 0)
  | k + 1 => let q := pasM n X Y r t ((itM n X Y r t O k).1, 0) n
    (q.1, (itM n X Y r t O k).2 + q.2)
/-- the moves of the pass k -/
def mvN (n : Nat) (X Y : Nat → Int) (r t : Int) (O : Nat → Int) (k : Nat) : Int := (pasM n X Y r t ((itM n X Y r t O k).1, 0) n).2
theorem itM_ok (h : OrdN n O) : ∀ k, OrdN n (itM n X Y r t O k).1 ∧ 0 ≤ (itM n X Y r t O k).2 ∧ sumN (cpF X Y r t (itM n X Y r t O k).1) n + (itM n X Y r t O k).2 ≤ sumN (cpF X Y r t O) n := by
  intro k
  induction k with
  | zero => exact ⟨h, Int.le_refl _, by show _ + (0 : Int) ≤ _; exact Int.le_of_eq (Int.add_zero _)⟩
  | succ k ih =>
    obtain ⟨i1, i2, i3⟩ := ih
    have h1 := pasM_sav (X := X) (Y := Y) (r := r) (t := t) (s := ((itM n X Y r t O k).1, 0)) i1 n (Nat.le_refl _)
    obtain ⟨j1, j2, j3⟩ := h1
    refine ⟨j1, ?_, ?_⟩
    · show 0 ≤ (itM n X Y r t O k).2 + (pasM n X Y r t ((itM n X Y r t O k).1, 0) n).2
      dsimp only at j2; omega
    · show sumN (cpF X Y r t (pasM n X Y r t ((itM n X Y r t O k).1, 0) n).1) n + ((itM n X Y r t O k).2 + (pasM n X Y r t ((itM n X Y r t O k).1, 0) n).2) ≤ _
      dsimp only at j3; omega
theorem mvN_nonneg (h : OrdN n O) (k : Nat) : 0 ≤ mvN n X Y r t O k := (pasM_sav (X := X) (Y := Y) (r := r) (t := t) (s := ((itM n X Y r t O k).1, 0)) (itM_ok h k).1 n (Nat.le_refl _)).2.1
/-- there is a pass without a move, before the 576001st -/
theorem itM_end (h : OrdN n O) (hc : ∀ O', OrdN n O' → 0 ≤ sumN (cpF X Y r t O') n ∧ sumN (cpF X Y r t O') n ≤ 576000) : ∃ k, k ≤ 576000 ∧ mvN n X Y r t O k = 0 ∧ ∀ j, j < k → mvN n X Y r t O j ≠ 0 := by
  have ex : ∃ k, k ≤ 576000 ∧ mvN n X Y r t O k = 0 := by
    refine Classical.byContradiction fun hn => ?_
    have all : ∀ k : Nat, k ≤ 576001 → (k : Int) ≤ (itM n X Y r t O k).2 := by
      intro k
      induction k with
      | zero => intro _; exact (itM_ok h 0).2.1
      | succ k ih =>
        intro hk
        have h1 := ih (by omega)
        have h2 : mvN n X Y r t O k ≠ 0 := fun z => hn ⟨k, by omega, z⟩
        have h3 := mvN_nonneg (X := X) (Y := Y) (r := r) (t := t) h k
        have e : (itM n X Y r t O (k + 1)).2 = (itM n X Y r t O k).2 + mvN n X Y r t O k := rfl
        omega
    have h1 := all 576001 (Nat.le_refl _)
    have h2 := itM_ok (X := X) (Y := Y) (r := r) (t := t) h 576001
    have h3 := hc _ h2.1
    have h4 := hc _ h
    omega
  obtain ⟨k, hk1, hk2⟩ := ex
  induction k using Nat.strongRecOn with
  | _ k ih =>
    by_cases q : ∃ j, j < k ∧ mvN n X Y r t O j = 0
    · obtain ⟨j, j1, j2⟩ := q
      exact ih j j1 (by omega) j2
    · exact ⟨k, hk1, hk2, fun j hj z => q ⟨j, hj, z⟩⟩
end SHORT
