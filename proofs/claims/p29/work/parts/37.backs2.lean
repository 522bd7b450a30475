/-! StitchChart$BackStitches: outline -/
section BACKS2
variable {sc : Nat × (Nat → Int)} {iv : Nat → Nat → Int}
/-- 1 for a cell of the color -/
def hC (iv : Nat → Nat → Int) (c x y : Int) : Int := if gC iv x y = c then 1 else 0
theorem hC_b {c x y : Int} : 0 ≤ hC iv c x y ∧ hC iv c x y ≤ 1 := by unfold hC; split <;> omega
theorem hC_out {c x y : Int} (hc : 1 ≤ c) (h : ¬ inC iv x y) : hC iv c x y = 0 := by unfold hC; rw [gC_out h, if_neg (by omega)]
/-- the new bits: upright, flat -/
def nU (iv : Nat → Nat → Int) (c : Int) (j : Nat) : Int := if hC iv c ((j % 25 : Nat) : Int) ((j / 25 : Nat) : Int) ≠ hC iv c (((j % 25 : Nat) : Int) - 1) ((j / 25 : Nat) : Int) then 1 else iv 45 j
def nF (iv : Nat → Nat → Int) (c : Int) (j : Nat) : Int := if hC iv c ((j % 25 : Nat) : Int) ((j / 25 : Nat) : Int) ≠ hC iv c ((j % 25 : Nat) : Int) (((j / 25 : Nat) : Int) - 1) then 1 else iv 46 j
def gU (iv : Nat → Nat → Int) (c x y : Int) : Int := if hC iv c x y ≠ hC iv c (x - 1) y then (if iv 45 (y * 25 + x).toNat = 1 then 0 else 1) else 0
def gF (iv : Nat → Nat → Int) (c x y : Int) : Int := if hC iv c x y ≠ hC iv c x (y - 1) then (if iv 46 (y * 25 + x).toNat = 1 then 0 else 1) else 0
theorem gU_b {c x y : Int} : 0 ≤ gU iv c x y ∧ gU iv c x y ≤ 1 := by unfold gU; split; split <;> omega; omega
theorem gF_b {c x y : Int} : 0 ≤ gF iv c x y ∧ gF iv c x y ≤ 1 := by unfold gF; split; split <;> omega; omega
def outC (iv : Nat → Nat → Int) (w h : Nat) (c : Int) : Int := sumN (fun j => sumN (fun i => gU iv c i j + gF iv c i j) (w + 1)) (h + 1)
set_option maxHeartbeats 4000000 in
theorem out_S {w h : Nat} {c : Int} (hD : DimB iv w h) (hU : bitB (iv 45)) (hF : bitB (iv 46)) (hc : 1 ≤ c) : ∃ iv2, Run sc 6 0 [some (Rf 44), some (I c), none, none, none, none] [] (hp iv) = some (some (I (outC iv w h c)), hp iv2) ∧ (∀ k, k ≠ 45 → k ≠ 46 → iv2 k = iv k) ∧ ∀ j, j < 625 → iv2 45 j = nU iv c j ∧ iv2 46 j = nF iv c j := by
  obtain ⟨d1, d2, d3, d4, d5, d6⟩ := id hD
  have outU : ∀ x y : Int, 0 ≤ x → 0 ≤ y → hC iv c x y ≠ hC iv c (x - 1) y → inU w h x y := by
    intro x y hx hy hne
    refine Classical.byContradiction fun z => hne ?_
    rw [hC_out hc (by unfold inC; omega), hC_out hc (by unfold inC; omega)]
  have outF : ∀ x y : Int, 0 ≤ x → 0 ≤ y → hC iv c x y ≠ hC iv c x (y - 1) → inF w h x y := by
    intro x y hx hy hne
    refine Classical.byContradiction fun z => hne ?_
    rw [hC_out hc (by unfold inC; omega), hC_out hc (by unfold inC; omega)]
  let In : Nat → (Nat → Nat → Int) → Prop := fun t s => (∀ k, k ≠ 45 → k ≠ 46 → s k = iv k) ∧ ∀ j, s 45 j = (if j < t ∧ j < 625 then nU iv c j else iv 45 j) ∧ s 46 j = (if j < t ∧ j < 625 then nF iv c j else iv 46 j)
  have bitIn : ∀ t s, In t s → bitB (s 45) ∧ bitB (s 46) := by
    intro t s hI
    refine ⟨fun j hj => ?_, fun j hj => ?_⟩
    · rw [(hI.2 j).1]
      split
      · unfold nU; split
        · omega
        · exact hU j hj
      · exact hU j hj
    · rw [(hI.2 j).2]
      split
      · unfold nF; split
        · omega
        · exact hF j hj
      · exact hF j hj
  have dimIn : ∀ t s, In t s → DimB s w h ∧ (∀ x y, gC s x y = gC iv x y) := by
    intro t s hI
    have f2 := hI.1 2 (by omega) (by omega)
    have f4 := hI.1 4 (by omega) (by omega)
    exact ⟨by unfold DimB; rw [f2]; exact hD, fun x y => gC_congr f2 f4 x y⟩
  have skip : ∀ y s, In (y * 25 + (w + 1)) s → y ≤ h → In ((y + 1) * 25 + 0) s := by
    intro y s hI hy
    refine ⟨hI.1, fun j => ?_⟩
    obtain ⟨e1, e2⟩ := hI.2 j
    have key : ∀ A B : Int, (¬ j < y * 25 + (w + 1) → j < (y + 1) * 25 + 0 → A = B) → (if j < y * 25 + (w + 1) ∧ j < 625 then A else B) = if j < (y + 1) * 25 + 0 ∧ j < 625 then A else B := by
      intro A B hAB
      by_cases q : j < y * 25 + (w + 1)
      · by_cases q2 : j < 625
        · rw [if_pos ⟨q, q2⟩, if_pos (by omega)]
        · rw [if_neg (fun z => q2 z.2), if_neg (fun z => q2 z.2)]
      · rw [if_neg (fun z => q z.1)]
        by_cases q3 : j < (y + 1) * 25 + 0 ∧ j < 625
        · rw [if_pos q3, hAB q q3.1]
        · rw [if_neg q3]
    rw [e1, e2]
    refine ⟨key _ _ fun q q3 => ?_, key _ _ fun q q3 => ?_⟩
    · unfold nU
      rw [if_neg (fun z => by have := outU _ _ (by omega) (by omega) z; omega)]
    · unfold nF
      rw [if_neg (fun z => by have := outF _ _ (by omega) (by omega) z; omega)]
  rw [B_X0_addOutline_0]
  obtain ⟨s, e, g1, g2, g3⟩ := loop_ex (fun y (s : (Int × Option AV × Option AV) × (Nat → Nat → Int)) => Run sc 6 4 [some (Rf 44), some (I c), some (I s.1.1), some (I y), s.1.2.1, s.1.2.2] [] (hp s.2)) (fun y s => s.1.1 = sumN (fun j => sumN (fun i => gU iv c i j + gF iv c i j) (w + 1)) y ∧ (0 ≤ s.1.1 ∧ s.1.1 ≤ 50 * y) ∧ In (y * 25 + 0) s.2) (h + 1) 0 ((0, none, none), iv) (Nat.zero_le _) ⟨rfl, by simp, fun _ _ _ => rfl, fun j => ⟨by rw [if_neg (by omega)], by rw [if_neg (by omega)]⟩⟩ (fun y s _ hy hP => by
    obtain ⟨⟨a, e4, e5⟩, iv1⟩ := s
    obtain ⟨p1, p2, p3⟩ := hP
    dsimp only at p1 p2 p3
    obtain ⟨t, e, q1, q2, q3⟩ := loop_ex (fun x (s : (Int × Option AV) × (Nat → Nat → Int)) => Run sc 6 18 [some (Rf 44), some (I c), some (I s.1.1), some (I y), some (I x), s.1.2] [] (hp s.2)) (fun x s => s.1.1 = a + sumN (fun i => gU iv c i y + gF iv c i y) x ∧ (a ≤ s.1.1 ∧ s.1.1 ≤ a + 2 * x) ∧ In (y * 25 + x) s.2) (w + 1) 0 ((a, e5), iv1) (Nat.zero_le _) ⟨by show a = a + 0; omega, by simp, p3⟩ (fun x s _ hx hP => by
      obtain ⟨⟨b, e5⟩, iv2⟩ := s
      obtain ⟨r1, r2, r3⟩ := hP
      dsimp only at r1 r2 r3
      obtain ⟨dm, gc⟩ := dimIn _ _ r3
      obtain ⟨bu, bf⟩ := bitIn _ _ r3
      obtain ⟨m1, m2, m3, m4, m5, m6⟩ := id dm
      have hgu := gU_b (iv := iv) (c := c) (x := x) (y := y)
      have hgf := gF_b (iv := iv) (c := c) (x := x) (y := y)
      have vU : iv2 45 (y * 25 + x) = iv 45 (y * 25 + x) := by rw [(r3.2 _).1, if_neg (by omega)]
      have vF : iv2 46 (y * 25 + x) = iv 46 (y * 25 + x) := by rw [(r3.2 _).2, if_neg (by omega)]
      have jn : ((y : Int) * 25 + x).toNat = y * 25 + x := by omega
      have jm : (y * 25 + x) % 25 = x := by omega
      have jd : (y * 25 + x) / 25 = y := by omega
      -- to the choice of the upright edge
      have s1 : Run sc 6 18 [some (Rf 44), some (I c), some (I b), some (I y), some (I x), e5] [] (hp iv2) = Run sc 6 74 [some (Rf 44), some (I c), some (I b), some (I y), some (I x), some (I (hC iv c x y))] [I (hC iv c ((x : Int) - 1) y), I (hC iv c x y)] (hp iv2) := by
        rw [B_X0_addOutline_18, ite_F (by omega), colorAt_S (by omega) (by omega), aBind_some, pushR_some, B_X0_addOutline_40, gc]
        have z1 : (if gC iv x y = c then Run sc 6 49 [some (Rf 44), some (I c), some (I b), some (I y), some (I x), e5] [I 1] (hp iv2) else Run sc 6 48 [some (Rf 44), some (I c), some (I b), some (I y), some (I x), e5] [] (hp iv2)) = Run sc 6 49 [some (Rf 44), some (I c), some (I b), some (I y), some (I x), e5] [I (hC iv c x y)] (hp iv2) := by
          unfold hC
          by_cases q : gC iv x y = c
          · rw [if_pos q, if_pos q]
          · rw [if_neg q, if_neg q, B_X0_addOutline_48]
        rw [z1, B_X0_addOutline_49, chk_pos (by omega), colorAt_S (by omega) (by omega), aBind_some, pushR_some, B_X0_addOutline_65, gc]
        by_cases q : gC iv ((x : Int) - 1) y = c
        · rw [if_pos q, show hC iv c ((x : Int) - 1) y = 1 from if_pos q]
        · rw [if_neg q, B_X0_addOutline_73, show hC iv c ((x : Int) - 1) y = 0 from if_neg q]
      -- the upright edge
      have s2 : ∃ iv3, Run sc 6 74 [some (Rf 44), some (I c), some (I b), some (I y), some (I x), some (I (hC iv c x y))] [I (hC iv c ((x : Int) - 1) y), I (hC iv c x y)] (hp iv2) = Run sc 6 89 [some (Rf 44), some (I c), some (I (b + gU iv c x y)), some (I y), some (I x), some (I (hC iv c x y))] [] (hp iv3) ∧ (∀ k, k ≠ 45 → iv3 k = iv2 k) ∧ ∀ j, iv3 45 j = if j = y * 25 + x then nU iv c j else iv2 45 j := by
        rw [B_X0_addOutline_74]
        unfold gU
        by_cases q : hC iv c x y = hC iv c ((x : Int) - 1) y
        · refine ⟨iv2, by rw [if_pos q, if_neg (fun z => z q), Int.add_zero], fun _ _ => rfl, fun j => ?_⟩
          by_cases ej : j = y * 25 + x
          · rw [if_pos ej, ej, vU]
            unfold nU
            rw [jm, jd, if_neg (fun z => z q)]
          · rw [if_neg ej]
        · have hin := outU x y (by omega) (by omega) q
          refine ⟨bkP iv2 45 ((y : Int) * 25 + x).toNat 1, ?_, fun k hk => bkP_ne hk, fun j => ?_⟩
          · have hb := bu (y * 25 + x) (by omega)
            rw [if_neg q, if_pos q, putU_S dm bu hin (by omega), aBind_some, pushR_some, B_X0_addOutline_87, jn, vU, chk_pos (by split <;> omega)]
          · rw [bkP_eq, jn]
            by_cases ej : j = y * 25 + x
            · rw [if_pos ej, if_pos ej, ej]
              unfold nU
              rw [jm, jd, if_pos q]
            · rw [if_neg ej, if_neg ej]
      obtain ⟨iv3, s2, f1, f2⟩ := s2
      have r4 : (∀ k, k ≠ 45 → k ≠ 46 → iv3 k = iv k) := fun k k1 k2 => (f1 k k1).trans (r3.1 k k1 k2)
      have f2' := r4 2 (by omega) (by omega)
      have f4' := r4 4 (by omega) (by omega)
      have dm3 : DimB iv3 w h := by unfold DimB; rw [f2']; exact hD
      have gc3 : ∀ x y, gC iv3 x y = gC iv x y := fun x y => gC_congr f2' f4' x y
      have bf3 : bitB (iv3 46) := by rw [f1 46 (by omega)]; exact bf
      obtain ⟨n1, n2, n3, n4, n5, n6⟩ := id dm3
      have s3 : Run sc 6 89 [some (Rf 44), some (I c), some (I (b + gU iv c x y)), some (I y), some (I x), some (I (hC iv c x y))] [] (hp iv3) = Run sc 6 112 [some (Rf 44), some (I c), some (I (b + gU iv c x y)), some (I y), some (I x), some (I (hC iv c x y))] [I (hC iv c x ((y : Int) - 1)), I (hC iv c x y)] (hp iv3) := by
        rw [B_X0_addOutline_89, chk_pos (by omega), colorAt_S (by omega) (by omega), aBind_some, pushR_some, B_X0_addOutline_103, gc3]
        by_cases q : gC iv x ((y : Int) - 1) = c
        · rw [if_pos q, show hC iv c x ((y : Int) - 1) = 1 from if_pos q]
        · rw [if_neg q, B_X0_addOutline_111, show hC iv c x ((y : Int) - 1) = 0 from if_neg q]
      have s4 : ∃ iv4, Run sc 6 112 [some (Rf 44), some (I c), some (I (b + gU iv c x y)), some (I y), some (I x), some (I (hC iv c x y))] [I (hC iv c x ((y : Int) - 1)), I (hC iv c x y)] (hp iv3) = Run sc 6 127 [some (Rf 44), some (I c), some (I (b + gU iv c x y + gF iv c x y)), some (I y), some (I x), some (I (hC iv c x y))] [] (hp iv4) ∧ (∀ k, k ≠ 46 → iv4 k = iv3 k) ∧ ∀ j, iv4 46 j = if j = y * 25 + x then nF iv c j else iv3 46 j := by
        have vF3 : iv3 46 (y * 25 + x) = iv 46 (y * 25 + x) := by rw [f1 46 (by omega), vF]
        rw [B_X0_addOutline_112]
        unfold gF
        by_cases q : hC iv c x y = hC iv c x ((y : Int) - 1)
        · refine ⟨iv3, by rw [if_pos q, if_neg (fun z => z q), Int.add_zero], fun _ _ => rfl, fun j => ?_⟩
          by_cases ej : j = y * 25 + x
          · rw [if_pos ej, ej, vF3]
            unfold nF
            rw [jm, jd, if_neg (fun z => z q)]
          · rw [if_neg ej]
        · have hin := outF x y (by omega) (by omega) q
          refine ⟨bkP iv3 46 ((y : Int) * 25 + x).toNat 1, ?_, fun k hk => bkP_ne hk, fun j => ?_⟩
          · have hb := bf3 (y * 25 + x) (by omega)
            rw [if_neg q, if_pos q, putF_S dm3 bf3 hin (by omega), aBind_some, pushR_some, B_X0_addOutline_125, jn, vF3, chk_pos (by split <;> omega)]
          · rw [bkP_eq, jn]
            by_cases ej : j = y * 25 + x
            · rw [if_pos ej, if_pos ej, ej]
              unfold nF
              rw [jm, jd, if_pos q]
            · rw [if_neg ej, if_neg ej]
      obtain ⟨iv4, s4, k1, k2⟩ := s4
      refine ⟨((b + gU iv c x y + gF iv c x y, some (I (hC iv c x y))), iv4), ?_, ?_, ?_, ?_, ?_⟩
      · show Run sc 6 18 [some (Rf 44), some (I c), some (I b), some (I y), some (I x), e5] [] (hp iv2) = Run sc 6 18 [some (Rf 44), some (I c), some (I (b + gU iv c x y + gF iv c x y)), some (I y), some (I ((x : Int) + 1)), some (I (hC iv c x y))] [] (hp iv4)
        rw [s1, s2, s3, s4, B_X0_addOutline_127, chk_pos (by omega)]
      · show b + gU iv c x y + gF iv c x y = a + (sumN (fun i => gU iv c i y + gF iv c i y) x + (gU iv c x y + gF iv c x y)); omega
      · show a ≤ b + gU iv c x y + gF iv c x y ∧ b + gU iv c x y + gF iv c x y ≤ a + 2 * ((x + 1 : Nat) : Int); omega
      · intro k a1 a2
        show iv4 k = iv k
        rw [k1 k a2, f1 k a1, r3.1 k a1 a2]
      · intro j
        show iv4 45 j = (if j < y * 25 + (x + 1) ∧ j < 625 then nU iv c j else iv 45 j) ∧ iv4 46 j = (if j < y * 25 + (x + 1) ∧ j < 625 then nF iv c j else iv 46 j)
        rw [k1 45 (by omega), f2, k2, f1 46 (by omega), (r3.2 j).1, (r3.2 j).2]
        by_cases ej : j = y * 25 + x
        · rw [if_pos ej, if_pos ej, if_pos (by omega), if_pos (by omega)]; exact ⟨rfl, rfl⟩
        · rw [if_neg ej, if_neg ej]
          by_cases q : j < y * 25 + x ∧ j < 625
          · rw [if_pos q, if_pos q, if_pos (by omega), if_pos (by omega)]; exact ⟨rfl, rfl⟩
          · rw [if_neg q, if_neg q, if_neg (by omega), if_neg (by omega)]; exact ⟨rfl, rfl⟩)
    obtain ⟨⟨b, e6⟩, iv2⟩ := t
    dsimp only at q1 q2 q3
    obtain ⟨dm0, -⟩ := dimIn _ _ p3
    obtain ⟨dm, -⟩ := dimIn _ _ q3
    obtain ⟨m1, m2, m3, m4, m5, m6⟩ := id dm
    obtain ⟨n1, n2, n3, n4, n5, n6⟩ := id dm0
    refine ⟨((b, some (I ((w + 1 : Nat) : Int)), e6), iv2), ?_, ?_, ?_, skip y iv2 q3 (by omega)⟩
    · show Run sc 6 4 [some (Rf 44), some (I c), some (I a), some (I y), e4, e5] [] (hp iv1) = Run sc 6 4 [some (Rf 44), some (I c), some (I b), some (I ((y : Int) + 1)), some (I ((w + 1 : Nat) : Int)), e6] [] (hp iv2)
      rw [B_X0_addOutline_4, ite_F (by omega)]
      refine (show _ = _ from e).trans ?_
      show Run sc 6 18 [some (Rf 44), some (I c), some (I b), some (I y), some (I ((w + 1 : Nat) : Int)), e6] [] (hp iv2) = _
      rw [B_X0_addOutline_18, ite_T (by omega), B_X0_addOutline_133, chk_pos (by omega)]
    · show b = sumN (fun j => sumN (fun i => gU iv c i j + gF iv c i j) (w + 1)) y + sumN (fun i => gU iv c i y + gF iv c i y) (w + 1); omega
    · show 0 ≤ b ∧ b ≤ 50 * ((y + 1 : Nat) : Int); omega)
  obtain ⟨⟨a, e4, e5⟩, iv1⟩ := s
  dsimp only at g1 g2 g3
  obtain ⟨dm0, -⟩ := dimIn _ _ g3
  obtain ⟨n1, n2, n3, n4, n5, n6⟩ := id dm0
  refine ⟨iv1, (show _ = _ from e).trans ?_, g3.1, fun j hj => ?_⟩
  · show Run sc 6 4 [some (Rf 44), some (I c), some (I a), some (I ((h + 1 : Nat) : Int)), e4, e5] [] (hp iv1) = _
    rw [B_X0_addOutline_4, ite_T (by omega), B_X0_addOutline_139, g1]
    rfl
  · obtain ⟨z1, z2⟩ := g3.2 j
    rw [z1, z2]
    by_cases q : j < (h + 1) * 25 + 0 ∧ j < 625
    · rw [if_pos q, if_pos q]; exact ⟨rfl, rfl⟩
    · rw [if_neg q, if_neg q]
      unfold nU nF
      rw [if_neg (fun z => by have := outU _ _ (by omega) (by omega) z; omega), if_neg (fun z => by have := outF _ _ (by omega) (by omega) z; omega)]
      exact ⟨rfl, rfl⟩
end BACKS2
