/-! the start: a chart of 10 by 8 cells without a stitch -/
section START
theorem rowS_z {g : Nat → Nat → Int} {c : Int} (hz : ∀ x y, g x y ≠ c) {y : Nat} : ∀ x, rowS g c y x = 0 := by
  intro x
  induction x with
  | zero => rfl
  | succ x ih => rw [rowS_s, ih, if_neg (fun z => hz _ _ z.1)]
theorem allS_z {g : Nat → Nat → Int} {c : Int} {w : Nat} (hz : ∀ x y, g x y ≠ c) : ∀ h, allS g c w h = 0 := by
  intro h
  induction h with
  | zero => rfl
  | succ h ih =>
    show allS g c w h + rowS g c h w = 0
    rw [ih, rowS_z hz]
theorem start_C : InvC ii_13 (fun _ _ => 0) 10 8 0 := by
  have y4 : ∀ j, ii_13 4 j = 0 := fun _ => rfl
  have y45 : ∀ j, ii_13 45 j = 0 := fun _ => rfl
  have y46 : ∀ j, ii_13 46 j = 0 := fun _ => rfl
  refine ⟨⟨⟨rfl, rfl, by omega, by omega, by omega, by omega⟩, fun j _ => by rw [y4]; omega⟩, ?_, ?_, ⟨fun j _ => by rw [y45]; omega, fun j _ => by rw [y46]; omega, fun j _ => ⟨fun _ => y45 j, fun _ => y46 j⟩⟩, ⟨rfl, by omega, fun i hi => absurd hi (Nat.not_lt_zero _)⟩, fun c hc => ?_⟩
  · unfold LayB; rw [show ii_13 49 1 = 8 from rfl, show ii_13 49 2 = 6 from rfl, show ii_13 49 3 = 1 from rfl]; omega
  · unfold YarnB; rw [show ii_13 6 0 = 60 from rfl, show ii_13 6 1 = 30 from rfl]; omega
  · have hz : ∀ x y, gN ii_13 x y ≠ ((c : Int) + 1) := fun x y => by
      show ii_13 4 (y * 24 + x) ≠ _
      rw [y4]; omega
    have e0 : nK (gN ii_13) 10 8 c = 0 := allS_z hz 8
    have c8 : ii_13 (8 + 6 * c) 2 = (c : Int) + 1 ∧ ii_13 (8 + 6 * c) 3 = 0 := by
      have key : c = 0 ∨ c = 1 ∨ c = 2 ∨ c = 3 ∨ c = 4 ∨ c = 5 := by omega
      rcases key with rfl | rfl | rfl | rfl | rfl | rfl <;> exact ⟨rfl, rfl⟩
    have c3 : ii_13 3 (c + 1) = 0 := rfl
    have pz : ∀ O P : Nat → Int, PermN 0 O P := fun O P => ⟨fun p hp0 => absurd hp0 (Nat.not_lt_zero _), fun p hp0 => absurd hp0 (Nat.not_lt_zero _)⟩
    unfold CrC
    rw [e0]
    exact ⟨c8.1, Or.inl c3, ⟨fun _ => 0, pz _ _⟩, fun _ => ⟨c8.2, ⟨e0.symm, fun x y _ _ hs => absurd hs.1 (hz x y)⟩, fun p hp0 => absurd hp0 (Nat.not_lt_zero _), pz _ _⟩, fun z => by rw [c3] at z; cases z⟩
theorem start_Z : Zr [] ii_13 := fun k hk j => by
  have hk2 : 51 < k := by simpa using hk
  have e : ∀ (f : Nat → Nat → Int) (a : Nat) (x : Nat → Int), a ≤ 51 → setO f a x k j = f k j := fun f a x ha => by rw [setO_ne (by omega)]
  unfold ii_13 ii_12 ii_11 ii_10 ii_9 ii_8 ii_7 ii_6 ii_5 ii_4 ii_3 ii_2 ii_1
  simp only [e _ _ _ (show 2 ≤ 51 by omega), e _ _ _ (show 6 ≤ 51 by omega), e _ _ _ (show 8 ≤ 51 by omega), e _ _ _ (show 14 ≤ 51 by omega), e _ _ _ (show 20 ≤ 51 by omega), e _ _ _ (show 26 ≤ 51 by omega), e _ _ _ (show 32 ≤ 51 by omega), e _ _ _ (show 38 ≤ 51 by omega), e _ _ _ (show 49 ≤ 51 by omega)]
  rfl
end START
/-! the law answers 1 on every script -/
def h00 : AH := ([], fun _ _ => 0, fun _ _ => 0)
theorem law_answers (L : Nat) (xs : Nat → Int) : ∃ h' : AH, Run (L, xs) 0 0 [some (.inr 0), none, none, none, none, none, none, none, none, none, none, none, none, none, none, none, none, none] [] h00 = some (some (.inl 1), h') ∧ h'.1.length ≤ 600000 ∧ aSl h'.1 ≤ 7302250 := by
  obtain ⟨cs2, iv2, e, l2, a2⟩ := law_body (sc := (L, xs)) (d2 := none) (d3 := none) (d4 := none) (d5 := none) (d6 := none) (d7 := none) (d8 := none) (d9 := none) (d10 := none) (d11 := none) (d12 := none) start_C start_Z ⟨rfl, rfl, rfl, rfl, rfl, rfl, rfl, rfl, rfl, rfl, rfl⟩ ⟨rfl, rfl⟩
  have k : hq [] ii_13 = hk_128 := by rw [ctor_hk]; rfl
  rw [k] at e
  refine ⟨hq cs2 iv2, (show _ = _ from KT_63).trans e, ?_, ?_⟩
  · have c1 : CSL.length = 51 := by decide
    show (CSL ++ cs2).length ≤ 600000
    rw [List.length_append]
    omega
  · have c1 : aSl CSL ≤ 50000 := by decide
    show aSl (CSL ++ cs2) ≤ 7302250
    rw [aSl_app]
    omega
