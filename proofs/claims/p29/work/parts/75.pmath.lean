/-! pages: what they share out -/
theorem sumN_pre {f : Nat → Int} {i : Nat} : ∀ {n : Nat}, i ≤ n → (∀ j, j < n → 0 ≤ f j) → 0 ≤ sumN f i ∧ sumN f i ≤ sumN f n := by
  intro n
  induction n with
  | zero => intro hi _; have : i = 0 := by omega
            subst this; exact ⟨Int.le_refl _, Int.le_refl _⟩
  | succ n ih =>
    intro hi h
    by_cases q : i = n + 1
    · subst q; exact ⟨sumN_nonneg h, Int.le_refl _⟩
    · obtain ⟨a, b⟩ := ih (by omega) (fun j hj => h j (by omega))
      refine ⟨a, ?_⟩
      show _ ≤ sumN f n + f n
      have := h n (by omega)
      omega
theorem sum_at {c v : Int} {n : Nat} (hv : 0 ≤ v ∧ v < n) : sumN (fun p => if v = (p : Int) then c else 0) n = c := by
  have e := sumN_delta (f := fun _ => c) (a := v.toNat) (n := n) (by omega)
  refine Eq.trans ?_ e
  apply sumN_congr
  intro p _
  by_cases z : v = (p : Int)
  · rw [if_pos z, if_pos (by omega)]
  · rw [if_neg z, if_neg (by omega)]
theorem sumN_winP {f : Nat → Int} {a m : Nat} : ∀ {n : Nat}, (m = 0 ∨ a + m ≤ n) → (∀ j, j < n → (j < a ∨ a + m ≤ j) → f j = 0) → sumN f n = sumN (fun i => f (a + i)) m := by
  intro n
  induction n generalizing m with
  | zero =>
    intro h1 h2
    have : m = 0 := by omega
    subst this
    rfl
  | succ n ih =>
    intro h1 h2
    show sumN f n + f n = _
    by_cases q : m ≠ 0 ∧ a + m = n + 1
    · obtain ⟨m2, rfl⟩ : ∃ m2, m = m2 + 1 := ⟨m - 1, by omega⟩
      rw [ih (m := m2) (by omega) (fun j hj hc => h2 j (by omega) (by omega))]
      show _ = sumN (fun i => f (a + i)) m2 + f (a + m2)
      rw [show a + m2 = n by omega]
    · rw [ih (m := m) (by omega) (fun j hj hc => h2 j (by omega) hc), h2 n (by omega) (by omega)]
      omega
section PMATH
variable {g : Nat → Nat → Int} {O : Nat → Nat → Int} {w h n : Nat}
theorem own_in {x y : Int} (hL : LayB g) (hD : DimB g w h) (hx : 0 ≤ x ∧ x < w) (hy : 0 ≤ y ∧ y < h) : (0 ≤ ownC g x y ∧ ownC g x y < acr g * dwn g) ∧ ownC g x y % acr g = fsF (g 49 3) x (g 49 1) ∧ ownC g x y / acr g = fsF (g 49 3) y (g 49 2) := by
  have ht := tot_b hL hD
  obtain ⟨d1, d2, d3, d4, d5, d6⟩ := id hD
  obtain ⟨l1, l2, l3⟩ := id hL
  have a3 := fsF_lt (a := x) (side := g 2 0) l1.1 l3 (by omega)
  have a3' := fsF_lt (a := y) (side := g 2 1) l2.1 l3 (by omega)
  have a4 := fsF_b (a := x) l1 l3 (by omega)
  have a5 := fsF_b (a := y) l2 l3 (by omega)
  have e0 : pgF (g 49 3) (g 2 0) (g 49 1) = acr g := rfl
  have e1 : pgF (g 49 3) (g 2 1) (g 49 2) = dwn g := rfl
  rw [e0] at a3
  rw [e1] at a3'
  have eo : ownC g x y = fsF (g 49 3) y (g 49 2) * acr g + fsF (g 49 3) x (g 49 1) := rfl
  rw [eo]
  generalize fsF (g 49 3) x (g 49 1) = a at *
  generalize fsF (g 49 3) y (g 49 2) = b at *
  have m1 : 0 ≤ b * acr g := Int.mul_nonneg a5.1 (by omega)
  have m2 : (b + 1) * acr g ≤ dwn g * acr g := Int.mul_le_mul_of_nonneg_right (by omega) (by omega)
  rw [Int.add_mul, Int.one_mul, Int.mul_comm (dwn g)] at m2
  refine ⟨⟨by omega, by omega⟩, ?_, ?_⟩
  · rw [Int.add_comm, Int.add_mul_emod_self_right]
    exact Int.emod_eq_of_lt a4.1 a3
  · rw [Int.add_comm, Int.add_mul_ediv_right _ _ (by omega), Int.ediv_eq_zero_of_lt a4.1 a3]
    omega
theorem own_win {x y p : Int} (hL : LayB g) (hD : DimB g w h) (hx : 0 ≤ x ∧ x < w) (hy : 0 ≤ y ∧ y < h) (ho : ownC g x y = p) : (lefC g p ≤ x ∧ x < rigC g p) ∧ topC g p ≤ y ∧ y < botC g p := by
  obtain ⟨-, em, ed⟩ := own_in hL hD hx hy
  obtain ⟨d1, d2, d3, d4, d5, d6⟩ := id hD
  obtain ⟨l1, l2, l3⟩ := id hL
  have a1 := fsF_at (a := x) l1.1 l3 hx.1
  have a2 := fsF_at (a := y) l2.1 l3 hy.1
  rw [ho] at em ed
  have el : lefC g p = fsF (g 49 3) x (g 49 1) * (g 49 1 - g 49 3) := by unfold lefC; rw [em]
  have et : topC g p = fsF (g 49 3) y (g 49 2) * (g 49 2 - g 49 3) := by unfold topC; rw [ed]
  refine ⟨⟨by omega, ?_⟩, by omega, ?_⟩
  · unfold rigC; split <;> omega
  · unfold botC; split <;> omega
def onT (g : Nat → Nat → Int) (p lo hi x y : Int) : Int := if ownC g x y = p then (if lo ≤ gC g x y ∧ gC g x y ≤ hi then 1 else 0) else 0
theorem tal_all {p lo hi : Int} (hL : LayB g) (hD : DimB g w h) (hp0 : 0 ≤ p) : talC g p 1 lo hi = sumN (fun j => sumN (fun i => onT g p lo hi i j) w) h := by
  have ht := tot_b hL hD
  obtain ⟨d1, d2, d3, d4, d5, d6⟩ := id hD
  obtain ⟨l1, l2, l3⟩ := id hL
  have bl := lef_b (p := p) hL hD
  have bt : 0 ≤ topC g p := by
    unfold topC
    exact Int.mul_nonneg (divB (a := p) (d := acr g) hp0 (by omega)).1 (by omega)
  have br : rigC g p ≤ w := by unfold rigC; split <;> omega
  have bb : botC g p ≤ h := by unfold botC; split <;> omega
  unfold talC
  rw [sumN_winP (f := fun j => sumN (fun i => onT g p lo hi i j) w) (a := (topC g p).toNat) (m := (botC g p - topC g p).toNat) (by omega) (fun j hj hc => sumN_zero fun i hi2 => by
    unfold onT
    exact if_neg (fun y => by have := own_win hL hD (x := i) (y := j) (by omega) (by omega) y; omega))]
  apply sumN_congr
  intro j hj
  rw [sumN_winP (f := fun i => onT g p lo hi i (((topC g p).toNat + j : Nat) : Int)) (a := (lefC g p).toNat) (m := (rigC g p - lefC g p).toNat) (by omega) (fun i hi2 hc => by
    unfold onT
    exact if_neg (fun y => by have := own_win hL hD (x := i) (y := (((topC g p).toNat + j : Nat) : Int)) (by omega) (by omega) y; omega))]
  apply sumN_congr
  intro i hi2
  unfold talT onT
  rw [show lefC g p + (i : Int) = (((lefC g p).toNat + i : Nat) : Int) by omega, show topC g p + (j : Int) = (((topC g p).toNat + j : Nat) : Int) by omega]
  generalize ((((lefC g p).toNat + i : Nat)) : Int) = x
  generalize ((((topC g p).toNat + j : Nat)) : Int) = y
  by_cases z2 : ownC g x y = p
  · rw [if_pos z2, if_pos z2]
    by_cases z : lo ≤ gC g x y ∧ gC g x y ≤ hi
    · rw [if_pos z, if_pos ⟨rfl, z⟩]
    · rw [if_neg z, if_neg (fun k => z k.2)]
  · rw [if_neg z2, if_neg z2, if_neg (fun k => by have := k.1; omega)]
/-- the pages share the cells out -/
theorem tal_sum {lo hi : Int} (hL : LayB g) (hD : DimB g w h) : sumN (fun p => talC g p 1 lo hi) (acr g * dwn g).toNat = sumN (fun j => sumN (fun i => if lo ≤ gC g i j ∧ gC g i j ≤ hi then 1 else 0) w) h := by
  have ht := tot_b hL hD
  rw [sumN_congr (g := fun p => sumN (fun j => sumN (fun i => onT g p lo hi i j) w) h) (fun p _ => tal_all hL hD (by omega)), sumN_swap (f := fun p j => sumN (fun i => onT g p lo hi i j) w)]
  apply sumN_congr
  intro j hj
  rw [sumN_swap (f := fun p i => onT g p lo hi i j)]
  apply sumN_congr
  intro i hi
  have ho := (own_in hL hD (x := i) (y := j) (by omega) (by omega)).1
  exact sum_at (v := ownC g i j) (by omega)
theorem rp_sum {X Y : Nat → Int} {N m : Nat} (ho : ∀ r, r < m → 0 ≤ ownC g (X r) (Y r) ∧ ownC g (X r) (Y r) < N) : sumN (fun p => rpF (ownC g) p m X Y) N = m := by
  unfold rpF
  rw [sumN_swap (f := fun p r => if ownC g (X r) (Y r) = (p : Int) then 1 else 0), sumN_congr (g := fun _ => 1) (fun r hr => sum_at (ho r hr)), sumN_one]
theorem ends_sum {t : Int} : ∀ m : Nat, sumN (fun q => (if q = 0 then t else 0) + if q + 1 = m then t else 0) m = if m = 0 then 0 else 2 * t := by
  intro m
  cases m with
  | zero => rfl
  | succ m =>
    rw [if_neg (by omega), sumN_add, sumN_congr (g := fun q => if 0 = q then t else 0) (fun q _ => by
      by_cases z : q = 0
      · rw [if_pos z, if_pos z.symm]
      · rw [if_neg z, if_neg (fun y => z y.symm)]), sumN_delta (f := fun _ => t) (by omega), sumN_congr (g := fun q => if m = q then t else 0) (fun q _ => by
      by_cases z : q + 1 = m + 1
      · rw [if_pos z, if_pos (by omega)]
      · rw [if_neg z, if_neg (by omega)]), sumN_delta (f := fun _ => t) (by omega)]
    omega
theorem sp_sum {X Y Q : Nat → Int} {r t : Int} {N m : Nat} (ho : ∀ q, q < m → 0 ≤ ownC g (X (Q q).toNat) (Y (Q q).toNat) ∧ ownC g (X (Q q).toNat) (Y (Q q).toNat) < N) : sumN (fun p => spF (ownC g) p m X Y r t Q) N = (if m = 0 then 0 else 2 * t) + sumN (cpF X Y r t Q) m := by
  unfold spF
  rw [sumN_swap (f := fun p q => spT (ownC g) p m X Y r t Q q), ← ends_sum, ← sumN_add]
  apply sumN_congr
  intro q hq
  refine (sum_at (ho q hq)).trans ?_
  by_cases z : q = 0
  · rw [if_pos z, if_pos z]
    unfold cpF
    rw [if_pos z]
    omega
  · rw [if_neg z, if_neg z]
    omega
set_option maxHeartbeats 1000000 in
/-- what the pages tell of a color is, all together, what the chart tells -/
theorem op_sum {k : Nat} (H : InvC g O w h n) (hk : k < 6) : sumN (fun p => opC g O w h p 0 k) (acr g * dwn g).toNat = cvC g O w h 0 k ∧ sumN (fun p => opC g O w h p 1 k) (acr g * dwn g).toNat = cvC g O w h 2 k ∧ sumN (fun p => opC g O w h p 2 k) (acr g * dwn g).toNat = cvC g O w h 3 k := by
  obtain ⟨⟨hD, -⟩, hL, hy, -⟩ := id H
  obtain ⟨d1, d2, d3, d4, d5, d6⟩ := id hD
  have ht := tot_b hL hD
  obtain ⟨⟨q1, q2⟩, hO, -⟩ := H.bnd hk
  have ho : ∀ r, r < nK (gN g) w h k → 0 ≤ ownC g (xK (gN g) w h k r) (yK (gN g) w h k r) ∧ ownC g (xK (gN g) w h k r) (yK (gN g) w h k r) < ((acr g * dwn g).toNat : Int) := fun r hr => by
    obtain ⟨x1, x2, -⟩ := q2 r hr
    have := (own_in hL hD x1 x2).1
    omega
  have e1 : sumN (fun p => talC g p 1 ((k : Int) + 1) ((k : Int) + 1)) (acr g * dwn g).toNat = cnC (gN g) ((k : Int) + 1) w h := by
    rw [tal_sum hL hD]
    refine sumN_congr fun j hj => sumN_congr fun i hi => ?_
    rw [gC_in d1 d2 hi hj]
    by_cases z : gN g i j = (k : Int) + 1
    · rw [if_pos z, if_pos (by omega)]
    · rw [if_neg z, if_neg (by omega)]
  have o0 : ∀ p : Int, opC g O w h p 0 k = talC g p 1 ((k : Int) + 1) ((k : Int) + 1) := fun p => if_pos rfl
  have o1 : ∀ p : Int, opC g O w h p 1 k = rpF (ownC g) p (nK (gN g) w h k) (xK (gN g) w h k) (yK (gN g) w h k) := fun p => by unfold opC; rw [if_neg (by omega), if_pos rfl]
  have o2 : ∀ p : Int, opC g O w h p 2 k = 48 * talC g p 1 ((k : Int) + 1) ((k : Int) + 1) + spF (ownC g) p (nK (gN g) w h k) (xK (gN g) w h k) (yK (gN g) w h k) (g 6 0) (g 6 1) (O k) := fun p => by unfold opC; rw [if_neg (by omega), if_neg (by omega)]
  refine ⟨?_, ?_, ?_⟩
  · rw [sumN_congr (fun p _ => o0 p), e1]
    exact (if_pos rfl).symm
  · rw [sumN_congr (fun p _ => o1 p), rp_sum ho]
    unfold cvC
    rw [if_neg (by omega), if_neg (by omega), if_pos rfl]
  · rw [sumN_congr (fun p _ => o2 p), sumN_add, sumN_mul, e1, sp_sum (fun q hq => by
      have := hO q hq
      exact ho _ (by omega))]
    have ec : cvC g O w h 3 k = thrF (nK (gN g) w h k) (xK (gN g) w h k) (yK (gN g) w h k) (lK (gN g) w h k) (g 6 0) (g 6 1) (O k) := by
      unfold cvC
      rw [if_neg (by omega), if_neg (by omega), if_neg (by omega), if_pos rfl]
    rw [ec, thr_split, kOK.total]
    omega
theorem sel_sum {F : Nat → Nat → Int} {c : Int} {N : Nat} : sumN (fun p => selT (F p) c) N = selT (fun k => sumN (fun p => F p k) N) c := by
  unfold selT
  rw [sumN_swap (f := fun p k => selS (F p) c k)]
  apply sumN_congr
  intro k _
  unfold selS
  split
  · rfl
  · exact sumN_zero fun _ _ => rfl
theorem sel_b {f : Nat → Int} {c : Int} (hf : ∀ k, k < 6 → 0 ≤ f k ∧ f k ≤ 1000000) : 0 ≤ selT f c ∧ selT f c ≤ 6000000 := by
  unfold selT
  have e : ∀ k, k < 6 → 0 ≤ selS f c k ∧ selS f c k ≤ 1000000 := fun k hk => by
    have := hf k hk
    unfold selS
    split <;> omega
  have h1 := sumN_le (f := selS f c) (n := 6) (c := 1000000) (fun k hk => (e k hk).2)
  have h2 := sumN_nonneg (f := selS f c) (n := 6) (fun k hk => (e k hk).1)
  omega
theorem sel_cg {f g : Nat → Int} {c : Int} (e : ∀ k, k < 6 → f k = g k) : selT f c = selT g c := sumN_congr fun k hk => by unfold selS; rw [e k hk]
/-- the last place of a page across is that page's own -/
theorem fs_last {ov s side m : Int} (hs : 4 ≤ s) (ho : 0 ≤ ov ∧ ov ≤ 3) (hd : 1 ≤ side) (hm : 0 ≤ m ∧ m < pgF ov side s) : m * (s - ov) < side ∧ fsF ov ((if side < m * (s - ov) + s then side else m * (s - ov) + s) - 1) s = m := by
  unfold pgF at hm
  by_cases z : s < side
  · rw [if_pos z] at hm
    have h1 := Int.ediv_mul_le (side - s + (s - ov) - 1) (show s - ov ≠ 0 by omega)
    have h2 : m * (s - ov) ≤ (side - s + (s - ov) - 1) / (s - ov) * (s - ov) := Int.mul_le_mul_of_nonneg_right (by omega) (by omega)
    have h3 : m * (s - ov) < side := by omega
    refine ⟨h3, ?_⟩
    unfold fsF
    by_cases m0 : m = 0
    · subst m0
      rw [Int.zero_mul]
      rw [if_pos (by split <;> omega)]
    · have h4 : 1 * (s - ov) ≤ m * (s - ov) := Int.mul_le_mul_of_nonneg_right (by omega) (by omega)
      rw [if_neg (by split <;> omega)]
      have e : ((if side < m * (s - ov) + s then side else m * (s - ov) + s) - 1 - s) / (s - ov) = m - 1 := by
        have hq : (m - 1) * (s - ov) = m * (s - ov) - (s - ov) := by rw [Int.sub_mul, Int.one_mul]
        apply Int.le_antisymm
        · have : ((if side < m * (s - ov) + s then side else m * (s - ov) + s) - 1 - s) / (s - ov) < m := Int.ediv_lt_of_lt_mul (by omega) (by split <;> omega)
          omega
        · exact Int.le_ediv_of_mul_le (by omega) (by rw [hq]; split <;> omega)
      rw [e]; omega
  · rw [if_neg z] at hm
    have m0 : m = 0 := by omega
    subst m0
    rw [Int.zero_mul]
    refine ⟨by omega, ?_⟩
    unfold fsF
    rw [if_pos (by split <;> omega)]
/-- what shows a place is not below its first page -/
theorem fs_first {ov s a m : Int} (hs : 4 ≤ s) (ho : 0 ≤ ov ∧ ov ≤ 3) (hm : 0 ≤ m) (ha : a < m * (s - ov) + s) : fsF ov a s ≤ m := by
  unfold fsF
  split
  · exact hm
  · have := Int.ediv_lt_of_lt_mul (a := a - s) (b := m) (c := s - ov) (by omega) (by omega)
    omega
theorem pag_geo {p : Int} (hL : LayB g) (hD : DimB g w h) (hp0 : 0 ≤ p ∧ p < acr g * dwn g) : (0 ≤ lefC g p ∧ lefC g p < rigC g p ∧ rigC g p ≤ w) ∧ (0 ≤ topC g p ∧ topC g p < botC g p ∧ botC g p ≤ h) ∧ ownC g (rigC g p - 1) (botC g p - 1) = p := by
  have ht := tot_b hL hD
  obtain ⟨d1, d2, d3, d4, d5, d6⟩ := id hD
  obtain ⟨l1, l2, l3⟩ := id hL
  have bl := lef_b (p := p) hL hD
  have bt := top_b (p := p) hL hD (by omega)
  have bm := modB (a := p) (d := acr g) (by omega)
  have bd : 0 ≤ p / acr g ∧ p / acr g < dwn g := ⟨(divB (a := p) (d := acr g) hp0.1 (by omega)).1, Int.ediv_lt_of_lt_mul (by omega) (by rw [Int.mul_comm]; exact hp0.2)⟩
  obtain ⟨a1, a2⟩ := fs_last (m := p % acr g) (side := g 2 0) l1.1 l3 (by omega) bm
  obtain ⟨b1, b2⟩ := fs_last (m := p / acr g) (side := g 2 1) l2.1 l3 (by omega) bd
  have el : lefC g p = p % acr g * (g 49 1 - g 49 3) := rfl
  have et : topC g p = p / acr g * (g 49 2 - g 49 3) := rfl
  have er : rigC g p = if g 2 0 < lefC g p + g 49 1 then g 2 0 else lefC g p + g 49 1 := rfl
  have eb : botC g p = if g 2 1 < topC g p + g 49 2 then g 2 1 else topC g p + g 49 2 := rfl
  rw [← el] at a1 a2
  rw [← et] at b1 b2
  rw [← er] at a2
  rw [← eb] at b2
  refine ⟨⟨bl.1, ?_, ?_⟩, ⟨bt.1, ?_, ?_⟩, ?_⟩
  · rw [er]; split <;> omega
  · rw [er]; split <;> omega
  · rw [eb]; split <;> omega
  · rw [eb]; split <;> omega
  · have eo : ownC g (rigC g p - 1) (botC g p - 1) = fsF (g 49 3) (botC g p - 1) (g 49 2) * acr g + fsF (g 49 3) (rigC g p - 1) (g 49 1) := rfl
    rw [eo, a2, b2]
    have := Int.emod_add_mul_ediv p (acr g)
    rw [Int.mul_comm] at this
    omega
theorem pag_first {p x y : Int} (hL : LayB g) (hD : DimB g w h) (hp0 : 0 ≤ p ∧ p < acr g * dwn g) (hx : x < rigC g p) (hy : y < botC g p) : ownC g x y ≤ p := by
  have ht := tot_b hL hD
  obtain ⟨l1, l2, l3⟩ := id hL
  have bm := modB (a := p) (d := acr g) (by omega)
  have bd := (divB (a := p) (d := acr g) hp0.1 (by omega)).1
  have el : lefC g p = p % acr g * (g 49 1 - g 49 3) := rfl
  have et : topC g p = p / acr g * (g 49 2 - g 49 3) := rfl
  have hr : rigC g p ≤ lefC g p + g 49 1 := by unfold rigC; split <;> omega
  have hb : botC g p ≤ topC g p + g 49 2 := by unfold botC; split <;> omega
  have f1 := fs_first (a := x) (m := p % acr g) l1.1 l3 bm.1 (by omega)
  have f2 := fs_first (a := y) (m := p / acr g) l2.1 l3 bd (by omega)
  have eo : ownC g x y = fsF (g 49 3) y (g 49 2) * acr g + fsF (g 49 3) x (g 49 1) := rfl
  have m1 : fsF (g 49 3) y (g 49 2) * acr g ≤ p / acr g * acr g := Int.mul_le_mul_of_nonneg_right f2 (by omega)
  have := Int.emod_add_mul_ediv p (acr g)
  rw [Int.mul_comm] at this
  rw [eo]
  omega
end PMATH
