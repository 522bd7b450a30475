/-! calls that change cells: reset, setCell, fill, merge */ -/
section CELLS
variable {sc : Nat × (Nat → Int)} {iv iv0 s s1 : Nat → Nat → Int} {O : Nat → Nat → Int} {w h n : Nat}
/-- the orders where some colors are concerned: their first ones -/
noncomputable def newO (D : Nat → Prop) (s : Nat → Nat → Int) (O : Nat → Nat → Int) (w h k : Nat) : Nat → Int := @ite _ (D (k + 1)) (Classical.propDecidable _) (foK s w h k) (O k)
theorem newO_T {D : Nat → Prop} {k : Nat} (hD : D (k + 1)) : newO D s O w h k = foK s w h k := if_pos hD
theorem newO_F {D : Nat → Prop} {k : Nat} (hD : ¬ D (k + 1)) : newO D s O w h k = O k := if_neg hD
/-- some colors are concerned, the others have their cells still -/
theorem InvC.chg {D : Nat → Prop} (H : InvC iv O w h n) (f : ∀ k, k < 50 → k ≠ 3 → k ≠ 4 → k ≠ 5 → s k = iv k) (f50 : s 50 1 = iv 50 1) (f51 : s 51 = iv 51) (t1 : ∀ c, D c → s 3 c = 1) (t2 : ∀ c, ¬ D c → s 3 c = iv 3 c) (hg : ∀ j, j < 576 → 0 ≤ s 4 j ∧ s 4 j ≤ 6) (hq : ∀ c : Nat, ¬ D c → ∀ j, j < 576 → (s 4 j = (c : Int) ↔ iv 4 j = (c : Int))) : InvC s (newO D s O w h) w h n := by
  obtain ⟨⟨h1, h1'⟩, h2, h3, h4, h5, h6⟩ := id H
  obtain ⟨d1, d2, d3, d4, d5, d6⟩ := id h1
  have g : ∀ k, 5 < k → k < 50 → s k = iv k := fun k u v => f k v (by omega) (by omega) (by omega)
  have e2 : s 2 = iv 2 := f 2 (by omega) (by omega) (by omega) (by omega)
  refine ⟨⟨?_, hg⟩, ?_, ?_, ?_, ?_, fun k hk => ?_⟩
  · unfold DimB at h1 ⊢; rw [e2]; exact h1
  · unfold LayB at h2 ⊢; rw [g 49 (by omega) (by omega)]; exact h2
  · unfold YarnB at h3 ⊢; rw [g 6 (by omega) (by omega)]; exact h3
  · unfold BkOut at h4 ⊢; rw [g 45 (by omega) (by omega), g 46 (by omega) (by omega)]; exact h4
  · unfold TxtB at h5 ⊢; rw [f50, f51]; exact h5
  · by_cases hD : D (k + 1)
    · have ts := t1 _ hD
      rw [newO_T hD]
      unfold CrC
      rw [g (8 + 6 * k) (by omega) (by omega)]
      exact ⟨(h6 k hk).1, Or.inr ts, ⟨_, foO_perm⟩, fun z => by omega, fun _ _ _ => rfl⟩
    · rw [newO_F hD]
      exact (h6 k hk).cg (t2 _ hD) (fun x y hx hy => hq (k + 1) hD (y * 24 + x) (by omega)) (by rw [g (8 + 6 * k) (by omega) (by omega)]; exact ⟨rfl, rfl⟩) (g _ (by omega) (by omega)) (g _ (by omega) (by omega)) (g _ (by omega) (by omega)) (g _ (by omega) (by omega)) (g _ (by omega) (by omega))
/-- the colors concerned -/
def dChg (iv s : Nat → Nat → Int) (c : Nat) : Prop := ∃ j, j < 576 ∧ iv 4 j ≠ s 4 j ∧ (iv 4 j = (c : Int) ∨ s 4 j = (c : Int))
theorem InvC.chG {r : Int} (H : InvC iv O w h n) (hch : ChG iv s r) : InvC s (newO (dChg iv s) s O w h) w h n := by
  obtain ⟨u1, u2, u3, u4, u5, u6⟩ := hch
  refine H.chg (fun k _ a b _ => u1 k a b) (by rw [u1 50 (by omega) (by omega)]) (u1 51 (by omega) (by omega)) u2 u3 u5 (fun c hc j hj => ?_)
  by_cases e : iv 4 j = s 4 j
  · rw [e]
  · exact ⟨fun z => absurd ⟨j, hj, e, Or.inr z⟩ hc, fun z => absurd ⟨j, hj, e, Or.inl z⟩ hc⟩
theorem setCell_S {x y c : Int} (H : InvC iv O w h n) (hin : inC iv x y) (hc : 0 ≤ c ∧ c ≤ 6) : ∃ s r, Run sc 81 0 [some (Rf 1), some (I x), some (I y), some (I c), none] [] (hp iv) = some (some (I (gC iv x y)), hp s) ∧ ChG iv s r ∧ ∀ j, s 4 j = if j = (y * 24 + x).toNat then c else iv 4 j := by
  obtain ⟨⟨⟨d1, d2, d3, d4, d5, d6⟩, a3⟩, -⟩ := id H
  have hin2 := hin
  unfold inC at hin2
  have hj : (y * 24 + x).toNat < 576 := by omega
  have hch := (ChG.rf (iv := iv) a3).put hj rfl hc
  have hput := put_S (sc := sc) (iv := iv) (x := x) (y := y) (c := c) (by omega) (by omega) hin hc (a3 _ hj)
  refine ⟨_, _, ?_, hch, fun j => putS_4⟩
  rw [B_X6_setCell_0, has_T hin, aBind_some, pushR_some, B_X6_setCell_9, ite_F (by omega), B_X6_setCell_14, within_T hc, aBind_some, pushR_some, B_X6_setCell_21, ite_F (by omega), B_X6_setCell_27, colorAt_S (by omega) (by omega), aBind_some, pushR_some, B_X6_setCell_36, hput, aBind_some, pushR_some, B_X6_setCell_48]
theorem setCell_no {x y c : Int} (H : InvC iv O w h n) : (¬ inC iv x y → Run sc 81 0 [some (Rf 1), some (I x), some (I y), some (I c), none] [] (hp iv) = some (some (I (-1)), hp iv)) ∧ (inC iv x y → ¬ (0 ≤ c ∧ c ≤ 6) → Run sc 81 0 [some (Rf 1), some (I x), some (I y), some (I c), none] [] (hp iv) = some (some (I (-2)), hp iv)) := by
  refine ⟨fun hin => ?_, fun hin hc => ?_⟩
  · rw [B_X6_setCell_0, has_F hin, aBind_some, pushR_some, B_X6_setCell_9, ite_T rfl]
  · rw [B_X6_setCell_0, has_T hin, aBind_some, pushR_some, B_X6_setCell_9, ite_F (by omega), B_X6_setCell_14, within_F hc, aBind_some, pushR_some, B_X6_setCell_21, ite_T rfl]
/-- a cell of the first lines of a rectangle -/
abbrev rcP (x y wd i j : Nat) : Prop := x ≤ j % 24 ∧ j % 24 < x + wd ∧ y ≤ j / 24 ∧ j / 24 < y + i
theorem fillC_S {x y wd ht : Nat} {c : Int} (H : InvC iv O w h n) (hc : 0 ≤ c ∧ c ≤ 6) (hx : x + wd ≤ w) (hy : y + ht ≤ h) : ∃ r s1, Run sc 82 69 [some (Rf 1), some (I x), some (I y), some (I wd), some (I ht), some (I c), some (I 0), some (I 0)] [] (hp iv) = some (some (I r), hp s1) ∧ ChG iv s1 r ∧ ∀ j, s1 4 j = if rcP x y wd ht j then c else iv 4 j := by
  obtain ⟨⟨⟨d1, d2, d3, d4, d5, d6⟩, a3⟩, -⟩ := id H
  obtain ⟨s, e, g1, g2⟩ := loop_ex (fun i (s : Int × (Nat → Nat → Int)) => Run sc 82 69 [some (Rf 1), some (I x), some (I y), some (I wd), some (I ht), some (I c), some (I s.1), some (I i)] [] (hp s.2)) (fun i s => ChG iv s.2 s.1 ∧ ∀ j, s.2 4 j = if rcP x y wd i j then c else iv 4 j) ht 0 (0, iv) (Nat.zero_le _) ⟨ChG.rf a3, fun j => by rw [if_neg (by omega)]⟩ (fun i s _ hi hP => by
    obtain ⟨a, s⟩ := s
    obtain ⟨p1, p2⟩ := hP
    dsimp only at p1 p2
    have k2 : s 2 = iv 2 := p1.1 2 (by omega) (by omega)
    obtain ⟨r, s2, e2, q1, q2, q3, q4⟩ := putRow_S (sc := sc) (iv0 := iv) (iv := s) (x := (x : Int)) (y := (y : Int) + i) (c := c) (n0 := a) (w := w) (hh := h) (len := wd) (by rw [k2]; exact d1) d4 (by rw [k2]; exact d2) d6 (by omega) (by omega) (by omega) hc p1 (fun j j1 j2 => by rw [p2 j, if_neg (by omega)])
    have nb := p1.n_b
    refine ⟨(a + r, s2), ?_, q1, fun j => ?_⟩
    · dsimp only
      rw [B_X6_fill_69, ite_T (by omega), chk_pos (by omega), e2, aBind_some, pushR_some, B_X6_fill_93, chk_pos (by omega), chk_pos (by omega)]
    · dsimp only
      rw [q4 j, p2 j]
      by_cases z : (y : Int) + i ≤ (j / 24 : Nat) ∧ ((j / 24 : Nat) : Int) ≤ y + i ∧ x ≤ j % 24 ∧ j % 24 < x + wd
      · rw [if_pos (by omega), if_pos (by omega)]
      · by_cases z2 : rcP x y wd i j
        · rw [if_neg (by omega), if_pos z2, if_pos (by omega)]
        · rw [if_neg (by omega), if_neg z2, if_neg (by omega)])
  obtain ⟨a, s⟩ := s
  dsimp only at g1 g2
  refine ⟨a, s, (show _ = _ from e).trans ?_, g1, g2⟩
  dsimp only
  rw [B_X6_fill_69, ite_F (by omega), B_X6_fill_102]
theorem fill_S {x y a b : Nat} {c : Int} (H : InvC iv O w h n) (ha : 1 ≤ a ∧ x + a ≤ w) (hb : 1 ≤ b ∧ y + b ≤ h) (hc : 0 ≤ c ∧ c ≤ 6) : ∃ r s1, Run sc 82 0 [some (Rf 1), some (I x), some (I y), some (I a), some (I b), some (I c), none, none] [] (hp iv) = some (some (I r), hp s1) ∧ ChG iv s1 r ∧ ∀ j, s1 4 j = if rcP x y a b j then c else iv 4 j := by
  obtain ⟨⟨⟨d1, d2, d3, d4, d5, d6⟩, a3⟩, -⟩ := id H
  have hin : inC iv (x : Int) (y : Int) := by unfold inC; omega
  obtain ⟨r, s1, e1, hch, p4⟩ := fillC_S (sc := sc) H hc ha.2 hb.2
  refine ⟨r, s1, ?_, hch, p4⟩
  rw [B_X6_fill_0, has_T hin, aBind_some, pushR_some, B_X6_fill_9, ite_F (by omega), B_X6_fill_14, chk_pos (by omega), within_T (by omega), aBind_some, pushR_some, B_X6_fill_28, ite_F (by omega), chk_pos (by omega), within_T (by omega), aBind_some, pushR_some, B_X6_fill_46, ite_F (by omega), within_T hc, aBind_some, pushR_some, B_X6_fill_57, ite_F (by omega), B_X6_fill_63, e1]
theorem fill_no {x y a b c : Int} (H : InvC iv O w h n) : (¬ inC iv x y → Run sc 82 0 [some (Rf 1), some (I x), some (I y), some (I a), some (I b), some (I c), none, none] [] (hp iv) = some (some (I (-1)), hp iv)) ∧ (inC iv x y → ¬ ((1 ≤ a ∧ a ≤ iv 2 0 - x) ∧ (1 ≤ b ∧ b ≤ iv 2 1 - y) ∧ 0 ≤ c ∧ c ≤ 6) → Run sc 82 0 [some (Rf 1), some (I x), some (I y), some (I a), some (I b), some (I c), none, none] [] (hp iv) = some (some (I (-2)), hp iv)) := by
  obtain ⟨⟨⟨d1, d2, d3, d4, d5, d6⟩, a3⟩, -⟩ := id H
  refine ⟨fun hin => ?_, fun hin hc => ?_⟩
  · rw [B_X6_fill_0, has_F hin, aBind_some, pushR_some, B_X6_fill_9, ite_T rfl]
  · have hin2 := hin
    unfold inC at hin2
    by_cases ha : 1 ≤ a ∧ a ≤ iv 2 0 - x
    · by_cases hb : 1 ≤ b ∧ b ≤ iv 2 1 - y
      · rw [B_X6_fill_0, has_T hin, aBind_some, pushR_some, B_X6_fill_9, ite_F (by omega), B_X6_fill_14, chk_pos (by omega), within_T ha, aBind_some, pushR_some, B_X6_fill_28, ite_F (by omega), chk_pos (by omega), within_T hb, aBind_some, pushR_some, B_X6_fill_46, ite_F (by omega), within_F (fun z => hc ⟨ha, hb, z⟩), aBind_some, pushR_some, B_X6_fill_57, ite_T rfl, B_X6_fill_60]
      · rw [B_X6_fill_0, has_T hin, aBind_some, pushR_some, B_X6_fill_9, ite_F (by omega), B_X6_fill_14, chk_pos (by omega), within_T ha, aBind_some, pushR_some, B_X6_fill_28, ite_F (by omega), chk_pos (by omega), within_F hb, aBind_some, pushR_some, B_X6_fill_46, ite_T rfl, B_X6_fill_60]
    · rw [B_X6_fill_0, has_T hin, aBind_some, pushR_some, B_X6_fill_9, ite_F (by omega), B_X6_fill_14, chk_pos (by omega), within_F ha, aBind_some, pushR_some, B_X6_fill_28, ite_T rfl, B_X6_fill_60]
/-- the cells after rounds of merging; how many change; the colors concerned -/
def mgA (iv : Nat → Nat → Int) (w h : Nat) : Nat → Nat → Int
  | 0 => iv 4
  | i + 1 => fun j => if j % 24 < w ∧ j / 24 < h then mrgC (setO iv 4 (mgA iv w h i)) ((j % 24 : Nat) : Int) ((j / 24 : Nat) : Int) else mgA iv w h i j
def mgR (iv : Nat → Nat → Int) (w h i : Nat) : Int := sumN (fun j => if mgA iv w h i j = mgA iv w h (i + 1) j then 0 else 1) 576
def mgC (iv : Nat → Nat → Int) (w h i c : Nat) : Prop := ∃ j, j < 576 ∧ mgA iv w h i j ≠ mgA iv w h (i + 1) j ∧ (mgA iv w h i j = (c : Int) ∨ mgA iv w h (i + 1) j = (c : Int))
def mgD (iv : Nat → Nat → Int) (w h K c : Nat) : Prop := ∃ i, i < K ∧ mgC iv w h i c
theorem mgD_s {K c : Nat} : mgD iv w h (K + 1) c ↔ mgD iv w h K c ∨ mgC iv w h K c := by
  constructor
  · rintro ⟨i, hi, hc⟩
    by_cases e : i = K
    · rw [e] at hc; exact Or.inr hc
    · exact Or.inl ⟨i, by omega, hc⟩
  · rintro (⟨i, hi, hc⟩ | hc)
    · exact ⟨i, by omega, hc⟩
    · exact ⟨K, by omega, hc⟩
theorem mgD_keep {c : Nat} : ∀ K, ¬ mgD iv w h K c → ∀ j, j < 576 → (mgA iv w h K j = (c : Int) ↔ iv 4 j = (c : Int)) := by
  intro K
  induction K with
  | zero => intro _ j _; exact Iff.rfl
  | succ K ih =>
    intro hD j hj
    have h1 := ih (fun z => hD (mgD_s.mpr (Or.inl z))) j hj
    have h2 : ¬ mgC iv w h K c := fun z => hD (mgD_s.mpr (Or.inr z))
    rw [← h1]
    by_cases e : mgA iv w h K j = mgA iv w h (K + 1) j
    · rw [e]
    · exact ⟨fun z => absurd ⟨j, hj, e, Or.inr z⟩ h2, fun z => absurd ⟨j, hj, e, Or.inl z⟩ h2⟩
theorem mgA_b (H : InvC iv O w h n) : ∀ i j, j < 576 → 0 ≤ mgA iv w h i j ∧ mgA iv w h i j ≤ 6 := by
  obtain ⟨⟨⟨d1, d2, d3, d4, d5, d6⟩, a3⟩, -⟩ := id H
  intro i
  induction i with
  | zero => intro j hj; exact a3 j hj
  | succ i ih =>
    intro j hj
    show 0 ≤ (if j % 24 < w ∧ j / 24 < h then mrgC (setO iv 4 (mgA iv w h i)) ((j % 24 : Nat) : Int) ((j / 24 : Nat) : Int) else mgA iv w h i j) ∧ (if j % 24 < w ∧ j / 24 < h then mrgC (setO iv 4 (mgA iv w h i)) ((j % 24 : Nat) : Int) ((j / 24 : Nat) : Int) else mgA iv w h i j) ≤ 6
    split
    · exact mrgC_b (by rw [setO_ne (by omega)]; exact d1) d4 (by rw [setO_ne (by omega)]; exact d2) d6 (fun j hj => by rw [setO_same]; exact ih j hj)
    · exact ih j hj
theorem mgR_b {i : Nat} : 0 ≤ mgR iv w h i ∧ mgR iv w h i ≤ 576 := by
  unfold mgR
  have h1 := sumN_le (f := fun j => if mgA iv w h i j = mgA iv w h (i + 1) j then (0 : Int) else 1) (n := 576) (c := 1) (fun i _ => by split <;> omega)
  have h2 := sumN_nonneg (f := fun j => if mgA iv w h i j = mgA iv w h (i + 1) j then (0 : Int) else 1) (n := 576) (fun i _ => by split <;> omega)
  omega
theorem mg_end : ∀ R : Nat, ∃ K, K ≤ R ∧ (∀ j, j < K → mgR iv w h j ≠ 0) ∧ (K = R ∨ mgR iv w h K = 0) := by
  intro R
  induction R with
  | zero => exact ⟨0, by omega, fun j hj => absurd hj (Nat.not_lt_zero _), Or.inl rfl⟩
  | succ R ih =>
    obtain ⟨K, k1, k2, k3⟩ := ih
    by_cases z : mgR iv w h K = 0
    · exact ⟨K, by omega, k2, Or.inr z⟩
    · have eK : K = R := k3.resolve_right z
      subst eK
      refine ⟨K + 1, by omega, fun j hj => ?_, Or.inl rfl⟩
      by_cases e : j = K
      · rw [e]; exact z
      · exact k2 j (by omega)
/-- the class after rounds -/
def mCI (iv : Nat → Nat → Int) (w h i : Nat) (s : Nat → Nat → Int) : Prop := (∀ k, k ≠ 3 → k ≠ 4 → k ≠ 5 → s k = iv k) ∧ s 4 = mgA iv w h i ∧ (∀ c, mgD iv w h i c → s 3 c = 1) ∧ ∀ c, ¬ mgD iv w h i c → s 3 c = iv 3 c
theorem mst_S {i : Nat} (H0 : InvC iv O w h n) (H : mCI iv w h i s) : ∃ s2, Run sc 59 0 [some (Rf 2), none, none, none] [] (hp s) = some (some (I (mgR iv w h i)), hp s2) ∧ mCI iv w h (i + 1) s2 := by
  obtain ⟨⟨⟨d1, d2, d3, d4, d5, d6⟩, a3⟩, -⟩ := id H0
  obtain ⟨h1, h2, h3, h4⟩ := H
  have k2 : s 2 = iv 2 := h1 2 (by omega) (by omega) (by omega)
  obtain ⟨r, i1, i2, e, q1, q2, q3, q4⟩ := mergeOnce_S (sc := sc) (iv := s) (w := w) (hh := h) (by rw [k2]; exact d1) d4 (by rw [k2]; exact d2) d6 (fun j hj => by rw [h2]; exact mgA_b H0 i j hj)
  have e14 : i1 4 = mgA iv w h i := by rw [q1 4 (by omega), h2]
  have e24 : i2 4 = mgA iv w h (i + 1) := by
    funext j
    show i2 4 j = if j % 24 < w ∧ j / 24 < h then mrgC (setO iv 4 (mgA iv w h i)) ((j % 24 : Nat) : Int) ((j / 24 : Nat) : Int) else mgA iv w h i j
    by_cases z : j % 24 < w ∧ j / 24 < h
    · rw [if_pos z]
      have := q3 (j % 24) (j / 24) z.1 z.2
      rw [show j / 24 * 24 + j % 24 = j by omega] at this
      rw [this]
      exact mrgC_congr (by rw [setO_ne (by omega), k2]) (by rw [setO_same, h2]) _ _
    · rw [if_neg z, q4 j (fun x y hx hy => by omega), h2]
  obtain ⟨u1, u2, u3, u4, -, -⟩ := q2
  rw [e14, e24] at u2 u3 u4
  refine ⟨i2, ?_, fun k a b c => by rw [u1 k a b, q1 k c, h1 k a b c], e24, fun c hc => ?_, fun c hc => ?_⟩
  · rw [e, u4]; rfl
  · by_cases z : mgC iv w h i c
    · exact u2 c z
    · rw [u3 c z, q1 3 (by omega)]
      exact h3 c ((mgD_s.mp hc).resolve_right z)
  · rw [u3 c (fun z => hc (mgD_s.mpr (Or.inr z))), q1 3 (by omega)]
    exact h4 c (fun z => hc (mgD_s.mpr (Or.inl z)))
/-- where it ends -/
def mgE (K R : Nat) : Nat := if K = R then K else K + 1
theorem mgC_all {N K : Nat} (H : InvC iv O w h n) (hn : N ≤ 20) (hK : K ≤ N) (h1 : ∀ j, j < K → mgR iv w h j ≠ 0) (h2 : K = N ∨ mgR iv w h K = 0) (d4 : Option AV) : ∃ s2, Run sc 86 17 [some (Rf 1), some (I N), some (I 0), some (I 0), d4] [] (hp iv) = some (some (I (sumN (mgR iv w h) K)), hp s2) ∧ mCI iv w h (mgE K N) s2 := by
  obtain ⟨s, e, g1, g2, g3⟩ := loop_ex (fun i (s : Int × Option AV × (Nat → Nat → Int)) => Run sc 86 17 [some (Rf 1), some (I N), some (I s.1), some (I i), s.2.1] [] (hp s.2.2)) (fun i s => s.1 = sumN (mgR iv w h) i ∧ (0 ≤ s.1 ∧ s.1 ≤ 576 * i) ∧ mCI iv w h i s.2.2) K 0 (0, d4, iv) (Nat.zero_le _) ⟨rfl, by simp, fun _ _ _ _ => rfl, rfl, fun c hc => absurd hc (fun ⟨i, hi, _⟩ => absurd hi (Nat.not_lt_zero _)), fun _ _ => rfl⟩ (fun i s _ hi hP => by
    obtain ⟨a, d, s⟩ := s
    obtain ⟨p1, p2, p3⟩ := hP
    dsimp only at p1 p2 p3
    obtain ⟨s2, e2, q2⟩ := mst_S (sc := sc) H p3
    have hb := mgR_b (iv := iv) (w := w) (h := h) (i := i)
    have hz := h1 i hi
    refine ⟨(a + mgR iv w h i, some (I (mgR iv w h i)), s2), ?_, by show _ = sumN (mgR iv w h) i + mgR iv w h i; rw [← p1], by show 0 ≤ a + _ ∧ a + _ ≤ 576 * ((i + 1 : Nat) : Int); omega, q2⟩
    dsimp only
    rw [B_X6_merge_17, ite_T (by omega), e2, aBind_some, pushR_some, B_X6_merge_29, ite_F hz, B_X6_merge_39, chk_pos (by omega), chk_pos (by omega)])
  obtain ⟨a, d, s⟩ := s
  dsimp only at g1 g2 g3
  by_cases z : K = N
  · refine ⟨s, (show _ = _ from e).trans ?_, by unfold mgE; rw [if_pos z]; exact g3⟩
    dsimp only
    rw [B_X6_merge_17, ite_F (by omega), B_X6_merge_50, g1]
  · have hz : mgR iv w h K = 0 := h2.resolve_left z
    obtain ⟨s2, e2, q2⟩ := mst_S (sc := sc) H g3
    refine ⟨s2, (show _ = _ from e).trans ?_, by unfold mgE; rw [if_neg z]; exact q2⟩
    dsimp only
    rw [B_X6_merge_17, ite_T (by omega), e2, aBind_some, pushR_some, B_X6_merge_29, ite_T hz, B_X6_merge_50, g1]
theorem mCI.inv {i : Nat} (H : InvC iv O w h n) (q : mCI iv w h i s) : InvC s (newO (mgD iv w h i) s O w h) w h n := by
  obtain ⟨h1, h2, h3, h4⟩ := q
  exact H.chg (fun k _ a b c => h1 k a b c) (by rw [h1 50 (by omega) (by omega) (by omega)]) (h1 51 (by omega) (by omega) (by omega)) h3 h4 (fun j hj => by rw [h2]; exact mgA_b H i j hj) (fun c hc j hj => by rw [h2]; exact mgD_keep i hc j hj)
theorem merge_S {N : Nat} (H : InvC iv O w h n) (hN : 1 ≤ N ∧ N ≤ 20) : ∃ s K, Run sc 86 0 [some (Rf 1), some (I N), none, none, none] [] (hp iv) = some (some (I (sumN (mgR iv w h) K)), hp s) ∧ mCI iv w h (mgE K N) s ∧ K ≤ N ∧ (∀ j, j < K → mgR iv w h j ≠ 0) ∧ (K = N ∨ mgR iv w h K = 0) := by
  obtain ⟨K, k1, k2, k3⟩ := mg_end (iv := iv) (w := w) (h := h) N
  obtain ⟨s, e, q⟩ := mgC_all (sc := sc) H hN.2 k1 k2 k3 none
  refine ⟨s, K, ?_, q, k1, k2, k3⟩
  rw [B_X6_merge_0, within_T (by omega), aBind_some, pushR_some, B_X6_merge_7, ite_F (by omega), B_X6_merge_13, e]
theorem merge_bad {N : Int} (hN : ¬ (1 ≤ N ∧ N ≤ 20)) : Run sc 86 0 [some (Rf 1), some (I N), none, none, none] [] (hp iv) = some (some (I (-2)), hp iv) := by
  rw [B_X6_merge_0, within_F hN, aBind_some, pushR_some, B_X6_merge_7, ite_T rfl]
theorem reset_S {x y : Nat} (H : InvC iv O w h n) (hx : 1 ≤ x ∧ x ≤ 24) (hy : 1 ≤ y ∧ y ≤ 24) : ∃ s O2, Run sc 77 0 [some (Rf 1), some (I x), some (I y)] [] (hp iv) = some (some (I ((x : Int) * y)), hp s) ∧ InvC s O2 x y n ∧ (∀ k, k ≠ 2 → k ≠ 3 → k ≠ 4 → k ≠ 45 → k ≠ 46 → s k = iv k) ∧ ∀ j, j < 576 → s 4 j = 0 := by
  obtain ⟨⟨h1, h1'⟩, h2, h3, h4, h5, h6⟩ := id H
  obtain ⟨s1, e1, o1, u0, u1, u4, u3⟩ := startAnew_S (sc := sc) (iv := iv) (x := (x : Int)) (y := (y : Int)) (by omega) (by omega)
  obtain ⟨s2, e2, o2, z2⟩ := remAll_S (sc := sc) (iv := s1)
  have hm := mulB (a := (x : Int)) (b := (y : Int)) (m := 24) (n := 24) (by omega) (by omega)
  have k1 : ∀ k, k ≠ 2 → k ≠ 3 → k ≠ 4 → k ≠ 45 → k ≠ 46 → s2 k = iv k := fun k a b c d e => by rw [o2 k d e, o1 k a b c]
  have z4 : ∀ j, j < 576 → s2 4 j = 0 := fun j hj => by rw [o2 4 (by omega) (by omega)]; exact u4 j hj
  refine ⟨s2, fun k => foK s2 x y k, ?_, ⟨⟨?_, fun j hj => by rw [z4 j hj]; omega⟩, ?_, ?_, ⟨fun j hj => by rw [(z2 j hj).1]; omega, fun j hj => by rw [(z2 j hj).2]; omega, fun j hj => ⟨fun _ => (z2 j hj).1, fun _ => (z2 j hj).2⟩⟩, ?_, fun k hk => ?_⟩, k1, z4⟩
  · rw [B_X6_reset_0, within_T (by omega), aBind_some, pushR_some, B_X6_reset_7, ite_F (by omega), within_T (by omega), aBind_some, pushR_some, B_X6_reset_17, ite_F (by omega), B_X6_reset_23, e1, aBind_some, pushR_none, B_X6_reset_32, e2, aBind_some, pushR_none, B_X6_reset_39, chk_pos (by omega)]
  · unfold DimB; rw [o2 2 (by omega) (by omega)]; exact ⟨u0, u1, by omega, by omega, by omega, by omega⟩
  · unfold LayB at h2 ⊢; rw [k1 49 (by omega) (by omega) (by omega) (by omega) (by omega)]; exact h2
  · unfold YarnB at h3 ⊢; rw [k1 6 (by omega) (by omega) (by omega) (by omega) (by omega)]; exact h3
  · unfold TxtB at h5 ⊢; rw [k1 50 (by omega) (by omega) (by omega) (by omega) (by omega), k1 51 (by omega) (by omega) (by omega) (by omega) (by omega)]; exact h5
  · have ts : s2 3 (k + 1) = 1 := by rw [o2 3 (by omega) (by omega)]; exact u3 (k + 1) (by omega)
    unfold CrC
    rw [k1 (8 + 6 * k) (by omega) (by omega) (by omega) (by omega) (by omega)]
    exact ⟨(h6 k hk).1, Or.inr ts, ⟨_, foO_perm⟩, fun z => by omega, fun _ _ _ => rfl⟩
theorem reset_bad {x y : Int} (hxy : ¬ ((1 ≤ x ∧ x ≤ 24) ∧ 1 ≤ y ∧ y ≤ 24)) : Run sc 77 0 [some (Rf 1), some (I x), some (I y)] [] (hp iv) = some (some (I (-2)), hp iv) := by
  by_cases hx : 1 ≤ x ∧ x ≤ 24
  · rw [B_X6_reset_0, within_T hx, aBind_some, pushR_some, B_X6_reset_7, ite_F (by omega), within_F (fun z => hxy ⟨hx, z⟩), aBind_some, pushR_some, B_X6_reset_17, ite_T rfl, B_X6_reset_20]
  · rw [B_X6_reset_0, within_F hx, aBind_some, pushR_some, B_X6_reset_7, ite_T rfl, B_X6_reset_20]
end CELLS
