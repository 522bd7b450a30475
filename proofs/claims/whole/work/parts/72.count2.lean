/-! count, the class's loop -/
section COUNT2
variable {sc : Nat × (Nat → Int)} {iv iv1 iv2 : Nat → Nat → Int}
/-- what the model keeps of a color, also if the class has not looked it up -/
theorem CrI.mod {w h k : Nat} (H : CrI iv w h k) (hk : k < 6) (hw : w ≤ 24) (hh : h ≤ 24) : ∃ m, MRunB iv (k + 1) m ∧ MOrdB iv (k + 1) m := by
  obtain ⟨a, b, m, c, d, ⟨P, e⟩, f, i⟩ := H
  obtain ⟨c1, c2⟩ := d.b hw hh
  exact ⟨m, ⟨by omega, c, c1, fun r hr => by have := c2 r hr; omega⟩, e.ord⟩
theorem sum2_b {f : Nat → Nat → Int} {w h : Nat} (hw : w ≤ 24) (hh : h ≤ 24) (hf : ∀ j i, 0 ≤ f j i ∧ f j i ≤ 1) : 0 ≤ sumN (fun j => sumN (f j) w) h ∧ sumN (fun j => sumN (f j) w) h ≤ 576 := by
  have h1 : ∀ j, 0 ≤ sumN (f j) w ∧ sumN (f j) w ≤ 24 := fun j => by
    have := sumN_le (f := f j) (n := w) (c := 1) (fun i _ => (hf j i).2)
    have := sumN_nonneg (f := f j) (n := w) (fun i _ => (hf j i).1)
    omega
  have := sumN_le (f := fun j => sumN (f j) w) (n := h) (c := 24) (fun j _ => (h1 j).2)
  have := sumN_nonneg (f := fun j => sumN (f j) w) (n := h) (fun j _ => (h1 j).1)
  omega
theorem cvM_b {w h n k : Nat} {what : Int} (H : InvW iv w h n) (hk : k < 6) : 0 ≤ cvM iv w h (k + 1) what ∧ cvM iv w h (k + 1) what ≤ 1000000 := by
  obtain ⟨⟨⟨d1, d2, d3, d4, d5, d6⟩, -⟩, -⟩ := id H
  obtain ⟨m, hR, hO⟩ := (H.2.2.2.2.2 k hk).mod hk d4 d6
  obtain ⟨hy, y1, y2⟩ := H.2.2.1
  obtain ⟨z1, z2⟩ := hy
  have hy2 : MYarn iv := by unfold MYarn; rw [y1, y2]; exact ⟨z1, z2⟩
  obtain ⟨q1, q2, q3, q4⟩ := id hR
  have tn : (iv 57 (k + 1)).toNat = m := by rw [q2]; omega
  unfold cvM
  split
  · unfold cnC
    have := sum2_b (f := fun j i => if gN iv i j = ((k + 1 : Nat) : Int) then 1 else 0) d4 d6 (fun j i => by split <;> omega)
    omega
  · split
    · unfold loneC
      have := sum2_b (f := fun j i => if gC iv i j = ((k + 1 : Nat) : Int) then lonI iv i j else 0) d4 d6 (fun j i => by have := lonI_b (iv := iv) (x := i) (y := j); split <;> omega)
      omega
    · split
      · omega
      · rw [tn]
        split
        · unfold thrF
          have b : ∀ p, p < m → 0 ≤ 48 * mL iv (k + 1) p + cpF (mX iv (k + 1)) (mY iv (k + 1)) (iv 52 2) (iv 52 3) (mO iv (k + 1)) p ∧ 48 * mL iv (k + 1) p + cpF (mX iv (k + 1)) (mY iv (k + 1)) (iv 52 2) (iv 52 3) (mO iv (k + 1)) p ≤ 3000 := fun p hpp => by
            have := mcp_b hR hy2 hO hpp
            have := q4 p hpp
            omega
          have := sumN_le (fun p hpp => (b p hpp).2)
          have := sumN_nonneg (fun p hpp => (b p hpp).1)
          split <;> omega
        · unfold staF
          split
          · omega
          · have b : ∀ p, p < m → 0 ≤ (if p = 0 then (0 : Int) else if iv 52 2 < wayF (mX iv (k + 1)) (mY iv (k + 1)) (mO iv (k + 1) (p - 1)).toNat (mO iv (k + 1) p).toNat then 1 else 0) ∧ (if p = 0 then (0 : Int) else if iv 52 2 < wayF (mX iv (k + 1)) (mY iv (k + 1)) (mO iv (k + 1) (p - 1)).toNat (mO iv (k + 1) p).toNat then 1 else 0) ≤ 1 := fun p hpp => by split; omega; split <;> omega
            have := sumN_le (fun p hpp => (b p hpp).2)
            have := sumN_nonneg (fun p hpp => (b p hpp).1)
            omega
/-- the colors that are asked for, summed up -/
def selS (f : Nat → Int) (c : Int) (i : Nat) : Int := if c = 0 ∨ c = ((i + 1 : Nat) : Int) then f (i + 1) else 0
theorem cntC_S {w h n : Nat} {c what : Int} (H : InvW iv w h n) (hc : 0 ≤ c ∧ c ≤ 6) (hw : 0 ≤ what ∧ what ≤ 4) : ∃ iv2, Run sc 84 0 [some (Rf 1), some (I c), some (I what), none, none] [] (hp iv) = some (some (I (sumN (selS (fun e => cvM iv w h e what) c) 6)), hp iv2) ∧ InvW iv2 w h n ∧ FrA iv iv2 := by
  rw [B_X6_count_0, within_T hc, aBind_some, pushR_some, B_X6_count_7, ite_F (by omega), within_T hw, aBind_some, pushR_some, B_X6_count_16, ite_F (by omega), B_X6_count_22]
  obtain ⟨s, e, g1, g2, g3, g4⟩ := loop_ex (fun i (s : Int × (Nat → Nat → Int)) => Run sc 84 27 [some (Rf 1), some (I c), some (I what), some (I s.1), some (I (i + 1))] [] (hp s.2)) (fun i s => s.1 = sumN (selS (fun e => cvM iv w h e what) c) i ∧ (0 ≤ s.1 ∧ s.1 ≤ 1000000 * i) ∧ InvW s.2 w h n ∧ FrA iv s.2) 6 0 (0, iv) (Nat.zero_le _) ⟨rfl, by simp, H, FrA.rf⟩ (fun i s _ hi hP => by
    obtain ⟨a, s⟩ := s
    obtain ⟨p1, p2, p3, p4⟩ := hP
    dsimp only at p1 p2 p3 p4
    have hv := cvM_b (what := what) H hi
    have es : sumN (selS (fun e => cvM iv w h e what) c) (i + 1) = sumN (selS (fun e => cvM iv w h e what) c) i + selS (fun e => cvM iv w h e what) c i := rfl
    rw [es]
    unfold selS
    by_cases q : c = 0 ∨ c = ((i + 1 : Nat) : Int)
    · obtain ⟨s2, e2, h2, f2⟩ := cnt1_S (sc := sc) (what := what) p3 hi hw
      rw [cvM_fr p4] at e2
      rw [if_pos q]
      refine ⟨(a + cvM iv w h (i + 1) what, s2), ?_, by rw [p1]; rfl, by show 0 ≤ a + _ ∧ a + _ ≤ 1000000 * ((i + 1 : Nat) : Int); omega, h2, p4.tr f2⟩
      dsimp only
      have hd : Run sc 84 27 [some (Rf 1), some (I c), some (I what), some (I a), some (I ((i : Int) + 1))] [] (hp s) = Run sc 84 44 [some (Rf 1), some (I c), some (I what), some (I a), some (I ((i : Int) + 1))] [] (hp s) := by
        rw [B_X6_count_27, ite_F (by omega)]
        by_cases z : c = 0
        · rw [if_pos z]
        · rw [if_neg z, if_pos (by omega)]
      rw [hd, B_X6_count_44, e2, aBind_some, pushR_some, B_X6_count_52, chk_pos (by omega), B_X6_count_54, chk_pos (by omega)]
    · rw [if_neg q]
      refine ⟨(a, s), ?_, by show a = _ + (0 : Int); rw [p1]; unfold selS; omega, by show 0 ≤ a ∧ a ≤ 1000000 * ((i + 1 : Nat) : Int); omega, p3, p4⟩
      dsimp only
      rw [B_X6_count_27, ite_F (by omega), if_neg (by omega), if_neg (by omega), B_X6_count_54, chk_pos (by omega)])
  obtain ⟨a, s⟩ := s
  dsimp only at g1 g3 g4
  refine ⟨s, (show _ = _ from e).trans ?_, g3, g4⟩
  show Run sc 84 27 [some (Rf 1), some (I c), some (I what), some (I a), some (I (6 + 1))] [] (hp s) = _
  rw [B_X6_count_27, ite_T (by omega), B_X6_count_60, g1]
end COUNT2
