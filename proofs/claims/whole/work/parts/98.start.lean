def h00 : AH := ([], fun _ _ => 0, fun _ _ => 0)
theorem law_answers (L : Nat) (xs : Nat → Int) (hL : L ≤ 3072) (hxs : ∀ j, in32 (xs j)) : ∃ h' : AH, Run (L, xs) 0 0 [some (.inr 0), none, none, none] [] h00 = some (some (.inl 1), h') ∧ h'.1.length ≤ 600000 ∧ aSl h'.1 ≤ 7302250 := by
  sorry
