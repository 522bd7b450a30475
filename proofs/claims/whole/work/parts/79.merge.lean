/-! merge */ -/
section MERGE
variable {sc : Nat × (Nat → Int)} {iv s t s1 : Nat → Nat → Int} {w h : Nat}
/-- the cells after rounds of merging; how many change; the colors concerned -/
def mgA (iv : Nat → Nat → Int) (w h : Nat) : Nat → Nat → Int
  | 0 => iv 4
  | i + 1 => fun j => if j % 24 < w ∧ j / 24 < h then mrgC (setO iv 4 (mgA iv w h i)) ((j % 24 : Nat) : Int) ((j / 24 : Nat) : Int) else mgA iv w h i j
def mgR (iv : Nat → Nat → Int) (w h i : Nat) : Int := sumN (fun j => if mgA iv w h i j = mgA iv w h (i + 1) j then 0 else 1) 576
def mgC (iv : Nat → Nat → Int) (w h i c : Nat) : Prop := ∃ j, j < 576 ∧ mgA iv w h i j ≠ mgA iv w h (i + 1) j ∧ (mgA iv w h i j = (c : Int) ∨ mgA iv w h (i + 1) j = (c : Int))
def mgD (iv : Nat → Nat → Int) (w h K c : Nat) : Prop := ∃ i, i < K ∧ mgC iv w h i c
theorem mgD_s {K c : Nat} : mgD iv w h (K + 1) c ↔ mgD iv w h K c ∨ mgC iv w h K c := by
  constructor
  · rintro ⟨i, hi, hc⟩
    by_cases e : i = K
    · rw [e] at hc; exact Or.inr hc
    · exact Or.inl ⟨i, by omega, hc⟩
  · rintro (⟨i, hi, hc⟩ | hc)
    · exact ⟨i, by omega, hc⟩
    · exact ⟨K, by omega, hc⟩
theorem mgD_keep {c : Nat} : ∀ K, ¬ mgD iv w h K c → ∀ j, j < 576 → (mgA iv w h K j = (c : Int) ↔ iv 4 j = (c : Int)) := by
  intro K
  induction K with
  | zero => intro _ j _; exact Iff.rfl
  | succ K ih =>
    intro hD j hj
    have h1 := ih (fun z => hD (mgD_s.mpr (Or.inl z))) j hj
    have h2 : ¬ mgC iv w h K c := fun z => hD (mgD_s.mpr (Or.inr z))
    rw [← h1]
    by_cases e : mgA iv w h K j = mgA iv w h (K + 1) j
    · rw [e]
    · exact ⟨fun z => absurd ⟨j, hj, e, Or.inr z⟩ h2, fun z => absurd ⟨j, hj, e, Or.inl z⟩ h2⟩
theorem mgA_b (hM : MGr iv iv w h) : ∀ i j, j < 576 → 0 ≤ mgA iv w h i j ∧ mgA iv w h i j ≤ 6 := by
  obtain ⟨⟨d1, d2, d3, d4, d5, d6⟩, a1, a2, a3⟩ := id hM
  intro i
  induction i with
  | zero => intro j hj; exact (a3 j hj).2
  | succ i ih =>
    intro j hj
    show 0 ≤ (if j % 24 < w ∧ j / 24 < h then mrgC (setO iv 4 (mgA iv w h i)) ((j % 24 : Nat) : Int) ((j / 24 : Nat) : Int) else mgA iv w h i j) ∧ (if j % 24 < w ∧ j / 24 < h then mrgC (setO iv 4 (mgA iv w h i)) ((j % 24 : Nat) : Int) ((j / 24 : Nat) : Int) else mgA iv w h i j) ≤ 6
    split
    · exact mrgC_b (by rw [setO_ne (by omega)]; exact d1) d4 (by rw [setO_ne (by omega)]; exact d2) d6 (fun j hj => by rw [setO_same]; exact ih j hj)
    · exact ih j hj
theorem mgR_b {i : Nat} : 0 ≤ mgR iv w h i ∧ mgR iv w h i ≤ 576 := by
  unfold mgR
  have h1 := sumN_le (f := fun j => if mgA iv w h i j = mgA iv w h (i + 1) j then (0 : Int) else 1) (n := 576) (c := 1) (fun i _ => by split <;> omega)
  have h2 := sumN_nonneg (f := fun j => if mgA iv w h i j = mgA iv w h (i + 1) j then (0 : Int) else 1) (n := 576) (fun i _ => by split <;> omega)
  omega
theorem mg_end : ∀ R : Nat, ∃ K, K ≤ R ∧ (∀ j, j < K → mgR iv w h j ≠ 0) ∧ (K = R ∨ mgR iv w h K = 0) := by
  intro R
  induction R with
  | zero => exact ⟨0, Nat.le_refl _, fun j hj => absurd hj (Nat.not_lt_zero _), Or.inl rfl⟩
  | succ R ih =>
    obtain ⟨K, k1, k2, k3⟩ := ih
    rcases k3 with k3 | k3
    · by_cases z : mgR iv w h K = 0
      · exact ⟨K, by omega, k2, Or.inr z⟩
      · refine ⟨K + 1, by omega, fun j hj => ?_, Or.inl (by omega)⟩
        by_cases e : j = K
        · rw [e]; exact z
        · exact k2 j (by omega)
    · exact ⟨K, by omega, k2, Or.inr k3⟩
/-- the class after rounds -/
def mCI (iv : Nat → Nat → Int) (w h i : Nat) (s : Nat → Nat → Int) : Prop := (∀ k, k ≠ 3 → k ≠ 4 → k ≠ 5 → s k = iv k) ∧ s 4 = mgA iv w h i ∧ (∀ c, mgD iv w h i c → s 3 c = 1) ∧ ∀ c, ¬ mgD iv w h i c → s 3 c = iv 3 c
theorem mst_S {i : Nat} (hM : MGr iv iv w h) (H : mCI iv w h i s) : ∃ s2, Run sc 59 0 [some (Rf 2), none, none, none] [] (hp s) = some (some (I (mgR iv w h i)), hp s2) ∧ mCI iv w h (i + 1) s2 := by
  obtain ⟨⟨d1, d2, d3, d4, d5, d6⟩, a1, a2, a3⟩ := id hM
  obtain ⟨h1, h2, h3, h4⟩ := H
  have k2 : s 2 = iv 2 := h1 2 (by omega) (by omega) (by omega)
  obtain ⟨r, i1, i2, e, q1, q2, q3, q4⟩ := mergeOnce_S (sc := sc) (iv := s) (w := w) (hh := h) (by rw [k2]; exact d1) d4 (by rw [k2]; exact d2) d6 (fun j hj => by rw [h2]; exact mgA_b hM i j hj)
  have e14 : i1 4 = mgA iv w h i := by rw [q1 4 (by omega), h2]
  have e24 : i2 4 = mgA iv w h (i + 1) := by
    funext j
    show i2 4 j = if j % 24 < w ∧ j / 24 < h then mrgC (setO iv 4 (mgA iv w h i)) ((j % 24 : Nat) : Int) ((j / 24 : Nat) : Int) else mgA iv w h i j
    by_cases z : j % 24 < w ∧ j / 24 < h
    · rw [if_pos z]
      have := q3 (j % 24) (j / 24) z.1 z.2
      rw [show j / 24 * 24 + j % 24 = j by omega] at this
      rw [this]
      exact mrgC_congr (by rw [setO_ne (by omega), k2]) (by rw [setO_same, h2]) _ _
    · rw [if_neg z, q4 j (fun x y hx hy => by omega), h2]
  obtain ⟨u1, u2, u3, u4, -, -⟩ := q2
  rw [e14, e24] at u2 u3 u4
  refine ⟨i2, ?_, fun k a b c => by rw [u1 k a b, q1 k c, h1 k a b c], e24, fun c hc => ?_, fun c hc => ?_⟩
  · rw [e, u4]; rfl
  · by_cases z : mgC iv w h i c
    · exact u2 c z
    · rw [u3 c z, q1 3 (by omega)]
      exact h3 c ((mgD_s.mp hc).resolve_right z)
  · rw [u3 c (fun z => hc (mgD_s.mpr (Or.inr z))), q1 3 (by omega)]
    exact h4 c (fun z => hc (mgD_s.mpr (Or.inl z)))
/-- where both end -/
def mgE (K R : Nat) : Nat := if K = R then K else K + 1
theorem mgC_all {n K : Nat} (hM : MGr iv iv w h) (hn : n ≤ 20) (hK : K ≤ n) (h1 : ∀ j, j < K → mgR iv w h j ≠ 0) (h2 : K = n ∨ mgR iv w h K = 0) (d4 : Option AV) : ∃ s2, Run sc 86 17 [some (Rf 1), some (I n), some (I 0), some (I 0), d4] [] (hp iv) = some (some (I (sumN (mgR iv w h) K)), hp s2) ∧ mCI iv w h (mgE K n) s2 := by
  obtain ⟨s, e, g1, g2, g3⟩ := loop_ex (fun i (s : Int × Option AV × (Nat → Nat → Int)) => Run sc 86 17 [some (Rf 1), some (I n), some (I s.1), some (I i), s.2.1] [] (hp s.2.2)) (fun i s => s.1 = sumN (mgR iv w h) i ∧ (0 ≤ s.1 ∧ s.1 ≤ 576 * i) ∧ mCI iv w h i s.2.2) K 0 (0, d4, iv) (Nat.zero_le _) ⟨rfl, by simp, fun _ _ _ _ => rfl, rfl, fun c hc => absurd hc (fun ⟨i, hi, _⟩ => absurd hi (Nat.not_lt_zero _)), fun _ _ => rfl⟩ (fun i s _ hi hP => by
    obtain ⟨a, d, s⟩ := s
    obtain ⟨p1, p2, p3⟩ := hP
    dsimp only at p1 p2 p3
    obtain ⟨s2, e2, q2⟩ := mst_S (sc := sc) hM p3
    have hb := mgR_b (iv := iv) (w := w) (h := h) (i := i)
    have hz := h1 i hi
    refine ⟨(a + mgR iv w h i, some (I (mgR iv w h i)), s2), ?_, by show _ = sumN (mgR iv w h) i + mgR iv w h i; rw [← p1], by show 0 ≤ a + _ ∧ a + _ ≤ 576 * ((i + 1 : Nat) : Int); omega, q2⟩
    dsimp only
    rw [B_X6_merge_17, ite_T (by omega), e2, aBind_some, pushR_some, B_X6_merge_29, ite_F hz, B_X6_merge_39, chk_pos (by omega), chk_pos (by omega)])
  obtain ⟨a, d, s⟩ := s
  dsimp only at g1 g2 g3
  by_cases z : K = n
  · refine ⟨s, (show _ = _ from e).trans ?_, by unfold mgE; rw [if_pos z]; exact g3⟩
    dsimp only
    rw [B_X6_merge_17, ite_F (by omega), B_X6_merge_50, g1]
  · have hz : mgR iv w h K = 0 := h2.resolve_left z
    obtain ⟨s2, e2, q2⟩ := mst_S (sc := sc) hM g3
    refine ⟨s2, (show _ = _ from e).trans ?_, by unfold mgE; rw [if_neg z]; exact q2⟩
    dsimp only
    rw [B_X6_merge_17, ite_T (by omega), e2, aBind_some, pushR_some, B_X6_merge_29, ite_T hz, B_X6_merge_50, g1]
end MERGE
