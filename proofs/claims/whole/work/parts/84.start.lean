/-! the start: behind the constructors class and model are alike -/
section START
variable {sc : Nat × (Nat → Int)}
theorem rowS_z {g : Nat → Nat → Int} {c : Int} (hz : ∀ x y, g x y ≠ c) {y : Nat} : ∀ x, rowS g c y x = 0 := by
  intro x
  induction x with
  | zero => rfl
  | succ x ih => rw [rowS_s, ih, if_neg (fun z => hz _ _ z.1)]
theorem allS_z {g : Nat → Nat → Int} {c : Int} {w : Nat} (hz : ∀ x y, g x y ≠ c) : ∀ h, allS g c w h = 0 := by
  intro h
  induction h with
  | zero => rfl
  | succ h ih =>
    show allS g c w h + rowS g c h w = 0
    rw [ih, rowS_z hz]
theorem start_B : ∃ iv2, Run sc 108 0 [some (Rf 52)] [] hk_129 = some (none, hp iv2) ∧ InvW iv2 10 8 0 := by
  have hD : DimB ii_18 10 8 := ⟨rfl, rfl, by omega, by omega, by omega, by omega⟩
  have z4 : ∀ j, ii_18 4 j = 0 := fun _ => rfl
  obtain ⟨iv2, e, o, m0, m1, mf, m53, m56, mr⟩ := begin_M (sc := sc) (iv := ii_18) hD (fun j _ => z4 j)
  have e' : Run sc 110 0 [some (Rf 52), some (I 10), some (I 8), none] [] (hp ii_18) = some (none, hp iv2) := e
  have k : ∀ k, k < 52 → iv2 k = ii_18 k := fun k hk => o k (by omega) (by omega) (by omega) (by omega) (by omega)
  refine ⟨iv2, ?_, ?_⟩
  · rw [KT_72, ctor_hk]
    refine (R_invV mc_108 dX7_init_153 mo_108 ct_7_67 (by decide) (b := 52) (rest := []) (m := 28) (lv2 := [some (Rf 52), some (I 10), some (I 8), none]) rfl rfl rfl ⟨Nat.le_of_ble_eq_true rfl, Nat.le_of_ble_eq_true rfl⟩).trans ?_
    rw [e', aBind_some, pushR_none]
    exact R_return mc_108 dX7_init_156 rfl
  · have hD2 : DimB iv2 10 8 := by unfold DimB; rw [k 2 (by omega)]; exact hD
    have y4 : ∀ j, iv2 4 j = 0 := fun j => by rw [k 4 (by omega)]; exact z4 j
    have y45 : ∀ j, iv2 45 j = 0 := fun j => by rw [k 45 (by omega)]; rfl
    have y46 : ∀ j, iv2 46 j = 0 := fun j => by rw [k 46 (by omega)]; rfl
    refine ⟨⟨hD2, m0, m1, fun j hj => by rw [m53 j hj, y4]; exact ⟨rfl, by omega, by omega⟩⟩, ⟨?_, ?_, ?_, ?_⟩, ⟨?_, ?_, ?_⟩, ⟨⟨hD2, m0, m1, fun j _ => by rw [y45]; omega, fun j _ => by rw [y46]; omega, fun j hj => by rw [(m56 j hj).1, (m56 j hj).2, y45, y46]; exact ⟨rfl, rfl⟩⟩, fun j _ => ⟨fun _ => y45 j, fun _ => y46 j⟩⟩, ⟨⟨?_, by omega, fun i hi => absurd hi (Nat.not_lt_zero _)⟩, ?_, by omega, fun i hi => absurd hi (Nat.not_lt_zero _)⟩, fun c hc => ?_⟩
    · unfold LayB; rw [k 49 (by omega), show ii_18 49 1 = 8 from rfl, show ii_18 49 2 = 6 from rfl, show ii_18 49 3 = 1 from rfl]; omega
    · rw [mf 4 (by omega), k 49 (by omega)]; rfl
    · rw [mf 5 (by omega), k 49 (by omega)]; rfl
    · rw [mf 6 (by omega), k 49 (by omega)]; rfl
    · unfold YarnB; rw [k 6 (by omega), show ii_18 6 0 = 60 from rfl, show ii_18 6 1 = 30 from rfl]; omega
    · rw [mf 2 (by omega), k 6 (by omega)]; rfl
    · rw [mf 3 (by omega), k 6 (by omega)]; rfl
    · rw [k 50 (by omega)]; rfl
    · rw [mf 17 (by omega)]; rfl
    · obtain ⟨m, r1, r2, r3⟩ := mr (c + 1) (by omega) (by omega)
      have eg : gN iv2 = gN ii_18 := by funext x y; unfold gN; rw [k 4 (by omega)]
      have hz : ∀ x y, gN iv2 x y ≠ ((c + 1 : Nat) : Int) := fun x y => by
        show iv2 4 (y * 24 + x) ≠ _
        rw [y4]; omega
      rw [← eg] at r2
      have em : m = 0 := by rw [r2.1]; exact allS_z hz 8
      subst em
      have c8 : iv2 (8 + 6 * c) 2 = (c : Int) + 1 ∧ iv2 (8 + 6 * c) 3 = 0 := by
        rw [k _ (by omega)]
        have key : c = 0 ∨ c = 1 ∨ c = 2 ∨ c = 3 ∨ c = 4 ∨ c = 5 := by omega
        rcases key with rfl | rfl | rfl | rfl | rfl | rfl <;> exact ⟨rfl, rfl⟩
      have c3 : iv2 3 (c + 1) = 0 := by rw [k 3 (by omega)]; rfl
      have pz : ∀ O P : Nat → Int, PermN 0 O P := fun O P => ⟨fun p hp0 => absurd hp0 (Nat.not_lt_zero _), fun p hp0 => absurd hp0 (Nat.not_lt_zero _)⟩
      exact ⟨c8.1, Or.inl c3, 0, r1, r2, ⟨fun _ => 0, pz _ _⟩, fun _ => ⟨c8.2, ⟨r2.1, fun x y _ _ hs => absurd hs.1 (hz x y)⟩, fun p hp0 => absurd hp0 (Nat.not_lt_zero _), pz _ _⟩, fun z => by omega⟩
end START
