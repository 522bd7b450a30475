/-! StitchChartModel: outline -/
section MOUT
variable {sc : Nat × (Nat → Int)} {iv g : Nat → Nat → Int}
theorem MBk.self {w h : Nat} (hD : DimB g w h) (e1 : iv 52 0 = w) (e2 : iv 52 1 = h) (hU : bitB (iv 56)) (hF : bitB (iv 55)) : MBk (setO (setO g 45 (iv 56)) 46 (iv 55)) iv w h := by
  refine ⟨?_, e1, e2, ?_, ?_, fun j hj => ⟨?_, ?_⟩⟩
  · unfold DimB; rw [setO_ne (by omega), setO_ne (by omega)]; exact hD
  · rw [setO_ne (by omega), setO_same]; exact hU
  · rw [setO_same]; exact hF
  · rw [setO_ne (by omega), setO_same]
  · rw [setO_same]
theorem putU_X {w h : Nat} {x y on : Int} (hD : DimB g w h) (e1 : iv 52 0 = w) (e2 : iv 52 1 = h) (hU : bitB (iv 56)) (hF : bitB (iv 55)) (c : inU w h x y) (ho : 0 ≤ on ∧ on ≤ 1) : Run sc 154 0 [some (Rf 52), some (I x), some (I y), some (I 1), some (I on), none] [] (hp iv) = some (some (I (if iv 56 (y * 25 + x).toNat = on then 0 else 1)), hp (setO iv 56 (upI (iv 56) (y * 25 + x).toNat on))) := by
  have := putU_M (sc := sc) (MBk.self hD e1 e2 hU hF) c ho
  rw [setO_ne (show 45 ≠ 46 by omega), setO_same] at this
  exact this
theorem putF_X {w h : Nat} {x y on : Int} (hD : DimB g w h) (e1 : iv 52 0 = w) (e2 : iv 52 1 = h) (hU : bitB (iv 56)) (hF : bitB (iv 55)) (c : inF w h x y) (ho : 0 ≤ on ∧ on ≤ 1) : Run sc 154 0 [some (Rf 52), some (I x), some (I y), some (I 0), some (I on), none] [] (hp iv) = some (some (I (if iv 55 (y * 25 + x).toNat = on then 0 else 1)), hp (setO iv 55 (upI (iv 55) (y * 25 + x).toNat on))) := by
  have := putF_M (sc := sc) (MBk.self hD e1 e2 hU hF) c ho
  rw [setO_same] at this
  exact this
theorem hC_a {c x y : Int} (hc : 1 ≤ c) {α : Type} {a b : α} : (if aM g x y = c then a else b) = if gC g x y = c then a else b := by
  by_cases q : gC g x y = c
  · rw [if_pos q, if_pos ((aM_eq hc).mpr q)]
  · rw [if_neg q, if_neg (fun z => q ((aM_eq hc).mp z))]
theorem outU_in {w h : Nat} {c x y : Int} (hD : DimB g w h) (hc : 1 ≤ c) (hx : 0 ≤ x) (hy : 0 ≤ y) (hne : hC g c x y ≠ hC g c (x - 1) y) : inU w h x y := by
  obtain ⟨d1, d2, d3, d4, d5, d6⟩ := hD
  refine Classical.byContradiction fun z => hne ?_
  rw [hC_out hc (by unfold inC; omega), hC_out hc (by unfold inC; omega)]
theorem outF_in {w h : Nat} {c x y : Int} (hD : DimB g w h) (hc : 1 ≤ c) (hx : 0 ≤ x) (hy : 0 ≤ y) (hne : hC g c x y ≠ hC g c x (y - 1)) : inF w h x y := by
  obtain ⟨d1, d2, d3, d4, d5, d6⟩ := hD
  refine Classical.byContradiction fun z => hne ?_
  rw [hC_out hc (by unfold inC; omega), hC_out hc (by unfold inC; omega)]
/-- the points before a place, column by column -/
abbrev visP (x y j : Nat) : Prop := j < 625 ∧ (j % 25 < x ∨ (j % 25 = x ∧ j / 25 < y))
set_option maxHeartbeats 4000000 in
theorem outl_M {w h : Nat} {c : Int} (hM : MGr g iv w h) (hB : MBk g iv w h) (hc : 1 ≤ c ∧ c ≤ 6) : ∃ iv2, Run sc 157 0 [some (Rf 52), some (I c), none, none, none, none] [] (hp iv) = some (some (I (outC g w h c)), hp iv2) ∧ (∀ k, k ≠ 55 → k ≠ 56 → iv2 k = iv k) ∧ ∀ j, j < 625 → iv2 56 j = nU g c j ∧ iv2 55 j = nF g c j := by
  have hD := hM.1
  obtain ⟨⟨d1, d2, d3, d4, d5, d6⟩, e1, e2, e3⟩ := id hM
  obtain ⟨-, -, -, hU, hF, e5⟩ := id hB
  let In : Nat → Nat → (Nat → Nat → Int) → Prop := fun x y s => (∀ k, k ≠ 55 → k ≠ 56 → s k = iv k) ∧ ∀ j, s 56 j = (if visP x y j then nU g c j else iv 56 j) ∧ s 55 j = (if visP x y j then nF g c j else iv 55 j)
  have bitIn : ∀ x y s, In x y s → bitB (s 56) ∧ bitB (s 55) := by
    intro x y s hI
    refine ⟨fun j hj => ?_, fun j hj => ?_⟩
    · rw [(hI.2 j).1]
      have b1 := hU j hj
      have b2 := (e5 j hj).1
      unfold nU
      split
      · split <;> omega
      · omega
    · rw [(hI.2 j).2]
      have b1 := hF j hj
      have b2 := (e5 j hj).2
      unfold nF
      split
      · split <;> omega
      · omega
  have mgIn : ∀ x y s, In x y s → MGr g s w h ∧ s 52 = iv 52 := by
    intro x y s hI
    have f1 := hI.1 52 (by omega) (by omega)
    have f2 := hI.1 53 (by omega) (by omega)
    exact ⟨by unfold MGr; rw [f1, f2]; exact hM, f1⟩
  have skip : ∀ x s, In x (h + 1) s → In (x + 1) 0 s := by
    intro x s hI
    refine ⟨hI.1, fun j => ?_⟩
    obtain ⟨q1, q2⟩ := hI.2 j
    have key : ∀ A B : Int, (¬ visP x (h + 1) j → visP (x + 1) 0 j → A = B) → (if visP x (h + 1) j then A else B) = if visP (x + 1) 0 j then A else B := by
      intro A B hAB
      by_cases q : visP x (h + 1) j
      · rw [if_pos q, if_pos (by unfold visP at q ⊢; omega)]
      · rw [if_neg q]
        by_cases q3 : visP (x + 1) 0 j
        · rw [if_pos q3, hAB q q3]
        · rw [if_neg q3]
    rw [q1, q2]
    refine ⟨key _ _ fun q q3 => ?_, key _ _ fun q q3 => ?_⟩
    · unfold nU
      rw [if_neg (fun z => by have := outU_in hD hc.1 (by omega) (by omega) z; unfold visP at q q3; omega), (e5 j q3.1).1]
    · unfold nF
      rw [if_neg (fun z => by have := outF_in hD hc.1 (by omega) (by omega) z; unfold visP at q q3; omega), (e5 j q3.1).2]
  rw [B_X7_outline_0, isCol_T hc, aBind_some, pushR_some, B_X7_outline_4, ite_F (by omega), B_X7_outline_10]
  obtain ⟨s, e, g1, g2, g3⟩ := loop_ex (fun x (s : (Int × Option AV × Option AV) × (Nat → Nat → Int)) => Run sc 157 14 [some (Rf 52), some (I c), some (I s.1.1), some (I x), s.1.2.1, s.1.2.2] [] (hp s.2)) (fun x s => s.1.1 = sumN (fun i => sumN (fun j => gU g c i j + gF g c i j) (h + 1)) x ∧ (0 ≤ s.1.1 ∧ s.1.1 ≤ 50 * x) ∧ In x 0 s.2) (w + 1) 0 ((0, none, none), iv) (Nat.zero_le _) ⟨rfl, by simp, fun _ _ _ => rfl, fun j => ⟨by rw [if_neg (by omega)], by rw [if_neg (by omega)]⟩⟩ (fun x s _ hx hP => by
    obtain ⟨⟨a, e4, e5'⟩, iv1⟩ := s
    obtain ⟨p1, p2, p3⟩ := hP
    dsimp only at p1 p2 p3
    obtain ⟨t, e, q1, q2, q3⟩ := loop_ex (fun y (s : (Int × Option AV) × (Nat → Nat → Int)) => Run sc 157 25 [some (Rf 52), some (I c), some (I s.1.1), some (I x), some (I y), s.1.2] [] (hp s.2)) (fun y s => s.1.1 = a + sumN (fun j => gU g c x j + gF g c x j) y ∧ (a ≤ s.1.1 ∧ s.1.1 ≤ a + 2 * y) ∧ In x y s.2) (h + 1) 0 ((a, e5'), iv1) (Nat.zero_le _) ⟨by show a = a + 0; omega, by simp, p3⟩ (fun y s _ hy hP => by
      obtain ⟨⟨b, e7⟩, iv2⟩ := s
      obtain ⟨r1, r2, r3⟩ := hP
      dsimp only at r1 r2 r3
      obtain ⟨mg, c52⟩ := mgIn _ _ _ r3
      obtain ⟨bu, bf⟩ := bitIn _ _ _ r3
      obtain ⟨-, m1, m2, -⟩ := id mg
      have hgu := gU_b (iv := g) (c := c) (x := x) (y := y)
      have hgf := gF_b (iv := g) (c := c) (x := x) (y := y)
      have jl : y * 25 + x < 625 := by omega
      have jn : ((y : Int) * 25 + x).toNat = y * 25 + x := by omega
      have jm : (y * 25 + x) % 25 = x := by omega
      have jd : (y * 25 + x) / 25 = y := by omega
      have vU : iv2 56 (y * 25 + x) = g 45 (y * 25 + x) := by rw [(r3.2 _).1, if_neg (by omega), (e5 _ jl).1]
      have vF : iv2 55 (y * 25 + x) = g 46 (y * 25 + x) := by rw [(r3.2 _).2, if_neg (by omega), (e5 _ jl).2]
      have s1 : Run sc 157 25 [some (Rf 52), some (I c), some (I b), some (I x), some (I y), e7] [] (hp iv2) = Run sc 157 50 [some (Rf 52), some (I c), some (I b), some (I x), some (I y), e7] [I (hC g c x y)] (hp iv2) := by
        rw [B_X7_outline_25, ite_F (by omega), at_M mg, aBind_some, pushR_some, B_X7_outline_41, hC_a hc.1]
        unfold hC
        by_cases q : gC g x y = c
        · rw [if_pos q, if_pos q]
        · rw [if_neg q, if_neg q, B_X7_outline_49]
      have s2 : ∃ iv3, Run sc 157 50 [some (Rf 52), some (I c), some (I b), some (I x), some (I y), e7] [I (hC g c x y)] (hp iv2) = Run sc 157 96 [some (Rf 52), some (I c), some (I (b + gU g c x y)), some (I x), some (I y), some (I (hC g c x y))] [] (hp iv3) ∧ (∀ k, k ≠ 56 → iv3 k = iv2 k) ∧ ∀ j, iv3 56 j = if j = y * 25 + x then nU g c j else iv2 56 j := by
        have same : ∀ j, hC g c x y = hC g c ((x : Int) - 1) y → iv2 56 j = if j = y * 25 + x then nU g c j else iv2 56 j := fun j q => by
          by_cases ej : j = y * 25 + x
          · rw [if_pos ej, ej, vU]
            unfold nU
            rw [jm, jd, if_neg (fun z => z q)]
          · rw [if_neg ej]
        rw [B_X7_outline_50]
        unfold gU
        by_cases q : hC g c x y = hC g c ((x : Int) - 1) y
        · refine ⟨iv2, ?_, fun _ _ => rfl, fun j => same j q⟩
          rw [if_neg (show ¬ hC g c x y ≠ hC g c ((x : Int) - 1) y from fun z => z q), Int.add_zero]
          by_cases hyh : (y : Int) < iv2 52 1
          · rw [if_pos hyh, chk_pos (by omega), at_M mg, aBind_some, pushR_some, B_X7_outline_72, hC_a hc.1]
            have z1 : (if gC g ((x : Int) - 1) y = c then Run sc 157 81 [some (Rf 52), some (I c), some (I b), some (I x), some (I y), some (I (hC g c x y))] [I 1, I (hC g c x y)] (hp iv2) else Run sc 157 80 [some (Rf 52), some (I c), some (I b), some (I x), some (I y), some (I (hC g c x y))] [I (hC g c x y)] (hp iv2)) = Run sc 157 81 [some (Rf 52), some (I c), some (I b), some (I x), some (I y), some (I (hC g c x y))] [I (hC g c ((x : Int) - 1) y), I (hC g c x y)] (hp iv2) := by
              by_cases k : gC g ((x : Int) - 1) y = c
              · rw [if_pos k, show hC g c ((x : Int) - 1) y = 1 from if_pos k]
              · rw [if_neg k, B_X7_outline_80, show hC g c ((x : Int) - 1) y = 0 from if_neg k]
            rw [z1, B_X7_outline_81, if_pos q]
          · rw [if_neg hyh]
        · have hin := outU_in hD hc.1 (by omega) (by omega) q
          refine ⟨setO iv2 56 (upI (iv2 56) ((y : Int) * 25 + x).toNat 1), ?_, fun k hk => setO_ne hk, fun j => ?_⟩
          · rw [if_pos (show hC g c x y ≠ hC g c ((x : Int) - 1) y from q), if_pos (show (y : Int) < iv2 52 1 by omega), chk_pos (by omega), at_M mg, aBind_some, pushR_some, B_X7_outline_72, hC_a hc.1]
            have z1 : (if gC g ((x : Int) - 1) y = c then Run sc 157 81 [some (Rf 52), some (I c), some (I b), some (I x), some (I y), some (I (hC g c x y))] [I 1, I (hC g c x y)] (hp iv2) else Run sc 157 80 [some (Rf 52), some (I c), some (I b), some (I x), some (I y), some (I (hC g c x y))] [I (hC g c x y)] (hp iv2)) = Run sc 157 81 [some (Rf 52), some (I c), some (I b), some (I x), some (I y), some (I (hC g c x y))] [I (hC g c ((x : Int) - 1) y), I (hC g c x y)] (hp iv2) := by
              by_cases k : gC g ((x : Int) - 1) y = c
              · rw [if_pos k, show hC g c ((x : Int) - 1) y = 1 from if_pos k]
              · rw [if_neg k, B_X7_outline_80, show hC g c ((x : Int) - 1) y = 0 from if_neg k]
            rw [z1, B_X7_outline_81, if_neg q, putU_X hD (by omega) (by omega) bu bf hin (by omega), aBind_some, pushR_some, B_X7_outline_94, jn, vU, chk_pos (by split <;> omega)]
          · rw [setO_same, jn]
            by_cases ej : j = y * 25 + x
            · rw [if_pos ej, ej, upI_same]
              unfold nU
              rw [jm, jd, if_pos q]
            · rw [if_neg ej, upI_ne ej]
      obtain ⟨iv3, s2, f1, f2⟩ := s2
      have c52' : iv3 52 = iv 52 := (f1 52 (by omega)).trans c52
      have mg3 : MGr g iv3 w h := by unfold MGr; rw [c52', f1 53 (by omega), r3.1 53 (by omega) (by omega)]; exact hM
      have bf3 : bitB (iv3 55) := by rw [f1 55 (by omega)]; exact bf
      have bu3 : bitB (iv3 56) := fun j hj => by
        rw [f2]
        have b1 := hU j hj
        have b2 := bu j hj
        unfold nU
        split
        · split <;> omega
        · omega
      have vF3 : iv3 55 (y * 25 + x) = g 46 (y * 25 + x) := by rw [f1 55 (by omega), vF]
      obtain ⟨-, n1, n2, -⟩ := id mg3
      have s4 : ∃ iv4, Run sc 157 96 [some (Rf 52), some (I c), some (I (b + gU g c x y)), some (I x), some (I y), some (I (hC g c x y))] [] (hp iv3) = Run sc 157 139 [some (Rf 52), some (I c), some (I (b + gU g c x y + gF g c x y)), some (I x), some (I y), some (I (hC g c x y))] [] (hp iv4) ∧ (∀ k, k ≠ 55 → iv4 k = iv3 k) ∧ ∀ j, iv4 55 j = if j = y * 25 + x then nF g c j else iv3 55 j := by
        have z1 : (if gC g x ((y : Int) - 1) = c then Run sc 157 124 [some (Rf 52), some (I c), some (I (b + gU g c x y)), some (I x), some (I y), some (I (hC g c x y))] [I 1, I (hC g c x y)] (hp iv3) else Run sc 157 123 [some (Rf 52), some (I c), some (I (b + gU g c x y)), some (I x), some (I y), some (I (hC g c x y))] [I (hC g c x y)] (hp iv3)) = Run sc 157 124 [some (Rf 52), some (I c), some (I (b + gU g c x y)), some (I x), some (I y), some (I (hC g c x y))] [I (hC g c x ((y : Int) - 1)), I (hC g c x y)] (hp iv3) := by
          by_cases k : gC g x ((y : Int) - 1) = c
          · rw [if_pos k, show hC g c x ((y : Int) - 1) = 1 from if_pos k]
          · rw [if_neg k, B_X7_outline_123, show hC g c x ((y : Int) - 1) = 0 from if_neg k]
        rw [B_X7_outline_96]
        unfold gF
        by_cases q : hC g c x y = hC g c x ((y : Int) - 1)
        · refine ⟨iv3, ?_, fun _ _ => rfl, fun j => ?_⟩
          · rw [if_neg (show ¬ hC g c x y ≠ hC g c x ((y : Int) - 1) from fun z => z q), Int.add_zero]
            by_cases hxw : (x : Int) < iv3 52 0
            · rw [if_pos hxw, chk_pos (by omega), at_M mg3, aBind_some, pushR_some, B_X7_outline_115, hC_a hc.1, z1, B_X7_outline_124, if_pos q]
            · rw [if_neg hxw]
          · by_cases ej : j = y * 25 + x
            · rw [if_pos ej, ej, vF3]
              unfold nF
              rw [jm, jd, if_neg (fun z => z q)]
            · rw [if_neg ej]
        · have hin := outF_in hD hc.1 (by omega) (by omega) q
          refine ⟨setO iv3 55 (upI (iv3 55) ((y : Int) * 25 + x).toNat 1), ?_, fun k hk => setO_ne hk, fun j => ?_⟩
          · rw [if_pos (show hC g c x y ≠ hC g c x ((y : Int) - 1) from q), if_pos (show (x : Int) < iv3 52 0 by omega), chk_pos (by omega), at_M mg3, aBind_some, pushR_some, B_X7_outline_115, hC_a hc.1, z1, B_X7_outline_124, if_neg q, putF_X hD (by omega) (by omega) bu3 bf3 hin (by omega), aBind_some, pushR_some, B_X7_outline_137, jn, vF3, chk_pos (by split <;> omega)]
          · rw [setO_same, jn]
            by_cases ej : j = y * 25 + x
            · rw [if_pos ej, ej, upI_same]
              unfold nF
              rw [jm, jd, if_pos q]
            · rw [if_neg ej, upI_ne ej]
      obtain ⟨iv4, s4, k1, k2⟩ := s4
      refine ⟨((b + gU g c x y + gF g c x y, some (I (hC g c x y))), iv4), ?_, ?_, ?_, ?_, ?_⟩
      · show Run sc 157 25 [some (Rf 52), some (I c), some (I b), some (I x), some (I y), e7] [] (hp iv2) = Run sc 157 25 [some (Rf 52), some (I c), some (I (b + gU g c x y + gF g c x y)), some (I x), some (I ((y : Int) + 1)), some (I (hC g c x y))] [] (hp iv4)
        rw [s1, s2, s4, B_X7_outline_139, chk_pos (by omega)]
      · show b + gU g c x y + gF g c x y = a + (sumN (fun j => gU g c x j + gF g c x j) y + (gU g c x y + gF g c x y)); omega
      · show a ≤ b + gU g c x y + gF g c x y ∧ b + gU g c x y + gF g c x y ≤ a + 2 * ((y + 1 : Nat) : Int); omega
      · intro k a1 a2
        show iv4 k = iv k
        rw [k1 k a1, f1 k a2, r3.1 k a1 a2]
      · intro j
        show iv4 56 j = (if visP x (y + 1) j then nU g c j else iv 56 j) ∧ iv4 55 j = (if visP x (y + 1) j then nF g c j else iv 55 j)
        rw [k1 56 (by omega), f2, k2, f1 55 (by omega), (r3.2 j).1, (r3.2 j).2]
        by_cases ej : j = y * 25 + x
        · rw [if_pos ej, if_pos ej, if_pos (by unfold visP; omega), if_pos (by unfold visP; omega)]; exact ⟨rfl, rfl⟩
        · rw [if_neg ej, if_neg ej]
          by_cases q : visP x y j
          · rw [if_pos q, if_pos q, if_pos (by unfold visP at q ⊢; omega), if_pos (by unfold visP at q ⊢; omega)]; exact ⟨rfl, rfl⟩
          · rw [if_neg q, if_neg q, if_neg (by unfold visP at q ⊢; omega), if_neg (by unfold visP at q ⊢; omega)]; exact ⟨rfl, rfl⟩)
    obtain ⟨⟨b, e6⟩, iv2⟩ := t
    dsimp only at q1 q2 q3
    obtain ⟨mg0, -⟩ := mgIn _ _ _ p3
    obtain ⟨mg2, -⟩ := mgIn _ _ _ q3
    obtain ⟨-, m1, m2, -⟩ := id mg0
    obtain ⟨-, n1, n2, -⟩ := id mg2
    refine ⟨((b, some (I ((h + 1 : Nat) : Int)), e6), iv2), ?_, ?_, ?_, skip x iv2 q3⟩
    · show Run sc 157 14 [some (Rf 52), some (I c), some (I a), some (I x), e4, e5'] [] (hp iv1) = Run sc 157 14 [some (Rf 52), some (I c), some (I b), some (I ((x : Int) + 1)), some (I ((h + 1 : Nat) : Int)), e6] [] (hp iv2)
      rw [B_X7_outline_14, ite_F (by omega)]
      refine (show _ = _ from e).trans ?_
      show Run sc 157 25 [some (Rf 52), some (I c), some (I b), some (I x), some (I ((h + 1 : Nat) : Int)), e6] [] (hp iv2) = _
      rw [B_X7_outline_25, ite_T (by omega), B_X7_outline_145, chk_pos (by omega)]
    · show b = sumN (fun i => sumN (fun j => gU g c i j + gF g c i j) (h + 1)) x + sumN (fun j => gU g c x j + gF g c x j) (h + 1); omega
    · show 0 ≤ b ∧ b ≤ 50 * ((x + 1 : Nat) : Int); omega)
  obtain ⟨⟨a, e4, e5'⟩, iv1⟩ := s
  dsimp only at g1 g2 g3
  obtain ⟨mg0, -⟩ := mgIn _ _ _ g3
  obtain ⟨-, m1, m2, -⟩ := id mg0
  refine ⟨iv1, (show _ = _ from e).trans ?_, g3.1, fun j hj => ?_⟩
  · show Run sc 157 14 [some (Rf 52), some (I c), some (I a), some (I ((w + 1 : Nat) : Int)), e4, e5'] [] (hp iv1) = _
    rw [B_X7_outline_14, ite_T (by omega), B_X7_outline_151, g1, sumN_swap]
    rfl
  · obtain ⟨z1, z2⟩ := g3.2 j
    rw [z1, z2]
    by_cases q : visP (w + 1) 0 j
    · rw [if_pos q, if_pos q]; exact ⟨rfl, rfl⟩
    · rw [if_neg q, if_neg q, (e5 j hj).1, (e5 j hj).2]
      unfold nU nF
      rw [if_neg (fun z => by have := outU_in hD hc.1 (by omega) (by omega) z; unfold visP at q; omega), if_neg (fun z => by have := outF_in hD hc.1 (by omega) (by omega) z; unfold visP at q; omega)]
      exact ⟨rfl, rfl⟩
end MOUT
