/-! count, the model */ -/
section COUNT3
variable {sc : Nat × (Nat → Int)} {iv : Nat → Nat → Int}
/-- one cell of the model's count -/
def mcT (iv : Nat → Nat → Int) (c what : Int) (i j : Nat) : Int := if 0 < gC iv i j ∧ (c = 0 ∨ gC iv i j = c) then (if what = 0 then 1 else lonI iv i j) else 0
theorem mcT_b {c what : Int} {i j : Nat} : 0 ≤ mcT iv c what i j ∧ mcT iv c what i j ≤ 1 := by
  have := lonI_b (iv := iv) (x := i) (y := j)
  unfold mcT
  split
  · split <;> omega
  · omega
theorem cntA_M {w h : Nat} {c what : Int} (hM : MGr iv iv w h) (hc : 0 ≤ c ∧ c ≤ 6) (hw : 0 ≤ what ∧ what ≤ 1) : ∃ d4 d5 d6, Run sc 136 27 [some (Rf 52), some (I c), some (I what), some (I 0), some (I 0), none, none] [] (hp iv) = Run sc 136 127 [some (Rf 52), some (I c), some (I what), some (I (sumN (fun i => sumN (fun j => mcT iv c what i j) h) w)), some (I d4), d5, d6] [] (hp iv) := by
  obtain ⟨⟨d1, d2, d3, d4, d5, d6⟩, e1, e2, e3⟩ := id hM
  obtain ⟨e, q⟩ := loop2 (fun i a (d : Option AV × Option AV) => Run sc 136 27 [some (Rf 52), some (I c), some (I what), some (I a), some (I i), d.1, d.2] [] (hp iv)) (fun i j a d => Run sc 136 44 [some (Rf 52), some (I c), some (I what), some (I a), some (I i), some (I j), d.2] [] (hp iv)) (fun i j => mcT iv c what i j) h w (by omega) (by omega) (fun j i _ _ => by have := mcT_b (iv := iv) (c := c) (what := what) (i := j) (j := i); omega)
    (fun i a d hi ha => ⟨d, by rw [B_X7_count_27, ite_T (by omega), ite_T (by omega)]⟩)
    (fun i j a d hi hj ha => by
      have hin : inC iv i j := by unfold inC; omega
      have hcb := gC_b (iv := iv) (x := i) (y := j) d1 d4 d2 d6 (fun j hj => (e3 j hj).2)
      have hlb := lonI_b (iv := iv) (x := i) (y := j)
      refine ⟨(none, some (I (if 0 < gC iv i j ∧ (c = 0 ∨ gC iv i j = c) then 1 else 0))), ?_⟩
      dsimp only
      have s1 : Run sc 136 44 [some (Rf 52), some (I c), some (I what), some (I a), some (I i), some (I j), d.2] [] (hp iv) = Run sc 136 85 [some (Rf 52), some (I c), some (I what), some (I a), some (I i), some (I j), d.2] [I (if 0 < gC iv i j ∧ (c = 0 ∨ gC iv i j = c) then 1 else 0)] (hp iv) := by
        rw [B_X7_count_44, ite_T (by omega), at_M hM, aBind_some, pushR_some, aM_in hin, B_X7_count_61]
        by_cases z : 0 < gC iv i j
        · rw [if_pos z]
          by_cases z2 : c = 0
          · rw [if_pos z2, if_pos ⟨z, Or.inl z2⟩, B_X7_count_80]
          · rw [if_neg z2, at_M hM, aBind_some, pushR_some, aM_in hin, B_X7_count_76]
            by_cases z3 : gC iv i j = c
            · rw [if_pos z3, if_pos ⟨z, Or.inr z3⟩, B_X7_count_80]
            · rw [if_neg z3, if_neg (fun y => y.2.elim z2 z3), B_X7_count_84]
        · rw [if_neg z, if_neg (fun y => z y.1), B_X7_count_84]
      rw [s1, B_X7_count_85]
      unfold mcT
      by_cases z : 0 < gC iv i j ∧ (c = 0 ∨ gC iv i j = c)
      · rw [if_pos z, if_neg (by omega), if_pos z]
        by_cases z2 : what = 0
        · rw [if_pos z2, if_pos z2, B_X7_count_108, B_X7_count_113, chk_pos (by omega), chk_pos (by omega)]
        · rw [if_neg z2, if_neg z2, sta_M hM (by omega) (by omega), aBind_some, pushR_some, B_X7_count_105]
          by_cases z3 : lonI iv i j = 0
          · rw [if_pos z3, B_X7_count_112, B_X7_count_113, chk_pos (by omega), chk_pos (by omega), z3]
          · rw [if_neg z3, B_X7_count_108, B_X7_count_113, chk_pos (by omega), chk_pos (by omega), show lonI iv i j = 1 by omega]
      · rw [if_neg z, if_pos rfl, if_neg z, B_X7_count_112, B_X7_count_113, chk_pos (by omega), chk_pos (by omega)])
    (fun i a d hi ha => ⟨(some (I h), d.2), by dsimp only; rw [B_X7_count_44, ite_F (by omega), B_X7_count_121, chk_pos (by omega)]⟩) (none, none)
  refine ⟨w, e.1, e.2, (show _ = _ from q).trans ?_⟩
  rw [B_X7_count_27, ite_F (by omega)]
/-- cells of the colors 1 to 6, color by color -/
theorem mcT_sum {w h : Nat} {c what : Int} (hM : MGr iv iv w h) (hc : 0 ≤ c ∧ c ≤ 6) (hw : 0 ≤ what ∧ what ≤ 1) : sumN (fun i => sumN (fun j => mcT iv c what i j) h) w = sumN (selS (fun e => cvM iv w h e what) c) 6 := by
  obtain ⟨⟨d1, d2, d3, d4, d5, d6⟩, e1, e2, e3⟩ := id hM
  have e0 : ∀ k, k < 6 → selS (fun e => cvM iv w h e what) c k = sumN (fun j => sumN (fun i => if c = 0 ∨ c = ((k + 1 : Nat) : Int) then (if gC iv i j = ((k + 1 : Nat) : Int) then (if what = 0 then 1 else lonI iv i j) else 0) else 0) w) h := fun k hk => by
    unfold selS
    by_cases q : c = 0 ∨ c = ((k + 1 : Nat) : Int)
    · rw [if_pos q]
      show cvM iv w h (k + 1) what = _
      unfold cvM
      by_cases z : what = 0
      · rw [if_pos z]
        unfold cnC
        apply sumN_congr
        intro j hj
        apply sumN_congr
        intro i hi
        rw [if_pos q, if_pos z, gC_in d1 d2 hi hj]
      · rw [if_neg z, if_pos (by omega)]
        unfold loneC
        apply sumN_congr
        intro j hj
        apply sumN_congr
        intro i hi
        rw [if_pos q, if_neg z]
    · rw [if_neg q]
      exact (sumN_zero fun j _ => sumN_zero fun i _ => if_neg q).symm
  rw [sumN_congr (f := selS (fun e => cvM iv w h e what) c) e0, sumN_swap (f := fun k j => sumN (fun i => if c = 0 ∨ c = ((k + 1 : Nat) : Int) then (if gC iv i j = ((k + 1 : Nat) : Int) then (if what = 0 then 1 else lonI iv i j) else 0) else 0) w), sumN_swap (f := fun i j => mcT iv c what i j)]
  apply sumN_congr
  intro j hj
  rw [sumN_swap (f := fun k i => if c = 0 ∨ c = ((k + 1 : Nat) : Int) then (if gC iv i j = ((k + 1 : Nat) : Int) then (if what = 0 then 1 else lonI iv i j) else 0) else 0)]
  apply sumN_congr
  intro i hi
  have hcb := gC_b (iv := iv) (x := i) (y := j) d1 d4 d2 d6 (fun j hj => (e3 j hj).2)
  unfold mcT
  generalize gC iv i j = v at *
  generalize (if what = 0 then (1 : Int) else lonI iv i j) = u
  show (if 0 < v ∧ (c = 0 ∨ v = c) then u else 0) = 0 + (if c = 0 ∨ c = ((0 + 1 : Nat) : Int) then (if v = ((0 + 1 : Nat) : Int) then u else 0) else 0) + (if c = 0 ∨ c = ((1 + 1 : Nat) : Int) then (if v = ((1 + 1 : Nat) : Int) then u else 0) else 0) + (if c = 0 ∨ c = ((2 + 1 : Nat) : Int) then (if v = ((2 + 1 : Nat) : Int) then u else 0) else 0) + (if c = 0 ∨ c = ((3 + 1 : Nat) : Int) then (if v = ((3 + 1 : Nat) : Int) then u else 0) else 0) + (if c = 0 ∨ c = ((4 + 1 : Nat) : Int) then (if v = ((4 + 1 : Nat) : Int) then u else 0) else 0) + (if c = 0 ∨ c = ((5 + 1 : Nat) : Int) then (if v = ((5 + 1 : Nat) : Int) then u else 0) else 0)
  obtain ⟨v, rfl⟩ : ∃ x : Nat, v = x := ⟨v.toNat, by omega⟩
  obtain ⟨c, rfl⟩ : ∃ x : Nat, c = x := ⟨c.toNat, by omega⟩
  have hv : v ≤ 6 := by omega
  have hc2 : c ≤ 6 := by omega
  have k : ∀ a b : Nat, ((a : Int) = (b : Int)) = (a = b) := fun a b => propext Int.ofNat_inj
  have k0 : ∀ a : Nat, ((a : Int) = 0) = (a = 0) := fun a => propext Int.ofNat_eq_zero
  have kp : ∀ a : Nat, ((0 : Int) < a) = (0 < a) := fun a => propext Int.natCast_pos
  simp only [k, k0, kp]
  simp only [eq_comm (a := v) (b := c)]
  match v, hv with
  | 0, _ => simp
  | 1, _ => simp
  | 2, _ => simp
  | 3, _ => simp
  | 4, _ => simp
  | 5, _ => simp
  | 6, _ => simp
end COUNT3
