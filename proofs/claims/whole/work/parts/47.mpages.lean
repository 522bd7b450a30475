/-! StitchChartModel: pages -/
section MPAGES
variable {sc : Nat × (Nat → Int)} {iv g : Nat → Nat → Int}
/-- the model's pages are cut as g's class pages -/
def MLy (g iv : Nat → Nat → Int) : Prop := LayB g ∧ iv 52 4 = g 49 1 ∧ iv 52 5 = g 49 2 ∧ iv 52 6 = g 49 3
theorem bes_M {ov s side : Int} (ho : iv 52 6 = ov) (hs : 4 ≤ s ∧ s ≤ 24) (hov : 0 ≤ ov ∧ ov ≤ 3) (hd : 1 ≤ side ∧ side ≤ 24) : Run sc 164 0 [some (Rf 52), some (I s), some (I side), none] [] (hp iv) = some (some (I (pgF ov side s)), hp iv) := by
  have hb := pgF_b (ov := ov) (side := side) hs hov hd.2
  have key : ∀ i : Int, 1 ≤ i → ((i - 1) * (s - ov) + s < side ↔ i < pgF ov side s) := by
    intro i hi
    unfold pgF
    by_cases c : s < side
    · rw [if_pos c]
      have h2 := Int.le_ediv_iff_mul_le (show (0 : Int) < s - ov by omega) (a := i) (b := side - s + (s - ov) - 1)
      have e : i * (s - ov) = (i - 1) * (s - ov) + (s - ov) := by
        have := Int.add_mul (i - 1) 1 (s - ov)
        rw [show i - 1 + 1 = i by omega, Int.one_mul] at this
        exact this
      constructor
      · intro q
        have := h2.mpr (by omega)
        omega
      · intro q
        have := h2.mp (by omega)
        omega
    · rw [if_neg c]
      have := Int.mul_nonneg (show 0 ≤ i - 1 by omega) (show 0 ≤ s - ov by omega)
      omega
  have bnd : ∀ i : Int, 1 ≤ i → i ≤ 50 → 0 ≤ (i - 1) * (s - ov) ∧ (i - 1) * (s - ov) ≤ 50 * 24 := fun i h1 h2 => mulB (by omega) (by omega)
  rw [B_X7_beside_0]
  obtain ⟨_, e, -⟩ := loop_ex (fun i (_ : Unit) => Run sc 164 2 [some (Rf 52), some (I s), some (I side), some (I i)] [] (hp iv)) (fun _ _ => True) (pgF ov side s).toNat 1 () (by omega) trivial (fun i _ hi1 hi _ => by
    have h1 := (key i (by omega)).mpr (by omega)
    have h2 := bnd i (by omega) (by omega)
    refine ⟨(), ?_, trivial⟩
    rw [B_X7_beside_2, ho, chk_pos (by omega), chk_pos (by omega), chk_pos (by omega), chk_pos (by omega), if_pos h1, chk_pos (by omega)])
  rw [show (((pgF ov side s).toNat : Nat) : Int) = pgF ov side s by omega] at e
  refine (show _ = _ from e).trans ?_
  have h1 := key (pgF ov side s) (by omega)
  have h2 := bnd (pgF ov side s) (by omega) (by omega)
  rw [B_X7_beside_2, ho, chk_pos (by omega), chk_pos (by omega), chk_pos (by omega), chk_pos (by omega), if_neg (by omega), B_X7_beside_24]
theorem fir_M {ov s a : Int} (ho : iv 52 6 = ov) (hs : 4 ≤ s ∧ s ≤ 24) (hov : 0 ≤ ov ∧ ov ≤ 3) (ha : 0 ≤ a ∧ a ≤ 30) : Run sc 165 0 [some (Rf 52), some (I s), some (I a), none] [] (hp iv) = some (some (I (fsF ov a s)), hp iv) := by
  have hb := fsF_b (ov := ov) (a := a) hs hov (by omega)
  have key : ∀ i : Int, 0 ≤ i → (a < i * (s - ov) + s ↔ fsF ov a s ≤ i) := by
    intro i hi
    unfold fsF
    by_cases c : a < s
    · rw [if_pos c]
      have := Int.mul_nonneg (show 0 ≤ i by omega) (show 0 ≤ s - ov by omega)
      omega
    · rw [if_neg c]
      have h2 := Int.le_ediv_iff_mul_le (show (0 : Int) < s - ov by omega) (a := i) (b := a - s)
      constructor
      · intro q
        have := fun z => h2.mp z
        omega
      · intro q
        have := fun z => h2.mpr z
        omega
  have bnd : ∀ i : Int, 0 ≤ i → i ≤ 100 → 0 ≤ i * (s - ov) ∧ i * (s - ov) ≤ 100 * 24 := fun i h1 h2 => mulB (by omega) (by omega)
  rw [B_X7_first_0]
  obtain ⟨_, e, -⟩ := loop_ex (fun i (_ : Unit) => Run sc 165 2 [some (Rf 52), some (I s), some (I a), some (I i)] [] (hp iv)) (fun _ _ => True) (fsF ov a s).toNat 0 () (by omega) trivial (fun i _ hi1 hi _ => by
    have h1 := key i (by omega)
    have h2 := bnd i (by omega) (by omega)
    refine ⟨(), ?_, trivial⟩
    rw [B_X7_first_2, ho, chk_pos (by omega), chk_pos (by omega), chk_pos (by omega), if_neg (by omega), chk_pos (by omega)])
  rw [show (((fsF ov a s).toNat : Nat) : Int) = fsF ov a s by omega] at e
  refine (show _ = _ from e).trans ?_
  have h1 := key (fsF ov a s) (by omega)
  have h2 := bnd (fsF ov a s) (by omega) (by omega)
  rw [B_X7_first_2, ho, chk_pos (by omega), chk_pos (by omega), chk_pos (by omega), if_pos (by omega), B_X7_first_22]
theorem besA_M {w h : Nat} (hM : MGr g iv w h) (hL : MLy g iv) : Run sc 164 0 [some (Rf 52), some (I (iv 52 4)), some (I (iv 52 0)), none] [] (hp iv) = some (some (I (acr g)), hp iv) := by
  obtain ⟨⟨d1, d2, d3, d4, d5, d6⟩, e1, e2, e3⟩ := hM
  obtain ⟨⟨l1, l2, l3⟩, m1, m2, m3⟩ := hL
  rw [bes_M m3 (by omega) l3 (by omega)]
  unfold acr
  rw [m1, e1, d1]
theorem besD_M {w h : Nat} (hM : MGr g iv w h) (hL : MLy g iv) : Run sc 164 0 [some (Rf 52), some (I (iv 52 5)), some (I (iv 52 1)), none] [] (hp iv) = some (some (I (dwn g)), hp iv) := by
  obtain ⟨⟨d1, d2, d3, d4, d5, d6⟩, e1, e2, e3⟩ := hM
  obtain ⟨⟨l1, l2, l3⟩, m1, m2, m3⟩ := hL
  rw [bes_M m3 (by omega) l3 (by omega)]
  unfold dwn
  rw [m2, e2, d2]
theorem own_M {w h : Nat} {x y : Int} (hM : MGr g iv w h) (hL : MLy g iv) (hx : 0 ≤ x ∧ x ≤ 30) (hy : 0 ≤ y ∧ y ≤ 30) : Run sc 166 0 [some (Rf 52), some (I x), some (I y)] [] (hp iv) = some (some (I (ownC g x y)), hp iv) := by
  obtain ⟨⟨d1, d2, d3, d4, d5, d6⟩, e1, e2, e3⟩ := id hM
  obtain ⟨⟨l1, l2, l3⟩, m1, m2, m3⟩ := id hL
  have hb := ownF_b (w := g 2 0) (x := x) (y := y) (by omega) l1 l2 l3 (by omega) (by omega)
  have hf := fsF_b (a := x) l1 l3 (by omega)
  have ha : pgF (g 49 3) (g 2 0) (g 49 1) = acr g := rfl
  unfold ownF at hb
  rw [ha] at hb
  rw [B_X7_owner_0, m2, fir_M m3 l2 l3 hy, aBind_some, pushR_some, B_X7_owner_9, besA_M hM hL, aBind_some, pushR_some, B_X7_owner_21, chk_pos (by omega), m1, fir_M m3 l1 l3 hx, aBind_some, pushR_some, B_X7_owner_31, chk_pos (by omega)]
  rfl
theorem pgs_M {w h : Nat} (hM : MGr g iv w h) (hL : MLy g iv) : Run sc 167 0 [some (Rf 52)] [] (hp iv) = some (some (I (acr g * dwn g)), hp iv) := by
  have := tot_b hL.1 hM.1
  rw [B_X7_pages_0, besA_M hM hL, aBind_some, pushR_some, B_X7_pages_12, besD_M hM hL, aBind_some, pushR_some, B_X7_pages_24, chk_pos (by omega)]
end MPAGES
