/-! the law: backs, outlines -/
section LBACKS
variable {sc : Nat × (Nat → Int)} {g iv iv2 : Nat → Nat → Int} {O : Nat → Nat → Int} {w h n : Nat} {cs : List (Nat × Nat)} {t c : Int}
set_option maxHeartbeats 4000000 in
theorem lbacks_L (C : Cur g O w h n cs iv) (htl : g 6 1 = t) : ∃ iv2, Run sc 117 0 [some (Rf 1), some (I (w : Int)), some (I (h : Int)), some (I t), none, none, none, none, none, none] [] (hq cs iv) = some (some (I 1), hq cs iv2) ∧ Cur g O w h n cs iv2 ∧ Hi iv iv2 := by
  obtain ⟨⟨⟨d1, d2, d3, d4, d5, d6⟩, -⟩, -, ⟨y1, y2⟩, ⟨hU, hF, -⟩, -⟩ := id C.1
  rw [htl] at y2
  obtain ⟨s, e, q1, q2, q3, -⟩ := loop_ex (fun y (s : (Int × Int × Int) × Option AV × Option AV) => Run sc 117 12 [some (Rf 1), some (I (w : Int)), some (I (h : Int)), some (I t), some (I s.1.1), some (I s.1.2.1), some (I s.1.2.2), some (I y), s.2.1, s.2.2] [] (hq cs iv)) (fun y s => s.1.1 = sumN (fun j => sumN (fun i => eU w h (g 45) i j + eF w h (g 46) i j) (w + 1)) y ∧ s.1.2.1 = sumN (fun j => sumN (fun i => ptF w h (g 45) (g 46) i j % 2) (w + 1)) y ∧ s.1.2.2 = sumN (fun j => sumN (fun i => if 0 < ptF w h (g 45) (g 46) i j then 1 else 0) (w + 1)) y ∧ (0 ≤ s.1.1 ∧ s.1.1 ≤ 50 * y) ∧ (0 ≤ s.1.2.1 ∧ s.1.2.1 ≤ 50 * y) ∧ 0 ≤ s.1.2.2 ∧ s.1.2.2 ≤ 50 * y) (h + 1) 0 ((0, 0, 0), none, none) (Nat.zero_le _) ⟨rfl, rfl, rfl, by simp, by simp, by simp⟩ (fun y s _ hy hP => by
    obtain ⟨⟨x4, x5, x6⟩, s8, s9⟩ := s
    obtain ⟨p1, p2, p3, p4, p5, p6⟩ := hP
    dsimp only at p1 p2 p3 p4 p5 p6
    obtain ⟨u, e, q1, q2, q3, q4, q5, q6⟩ := loop_ex (fun x (s : Int × Int × Int) => Run sc 117 21 [some (Rf 1), some (I (w : Int)), some (I (h : Int)), some (I t), some (I s.1), some (I s.2.1), some (I s.2.2), some (I ((y : Int))), some (I x), s9] [] (hq cs iv)) (fun x s => s.1 = x4 + sumN (fun i => eU w h (g 45) i y + eF w h (g 46) i y) x ∧ s.2.1 = x5 + sumN (fun i => ptF w h (g 45) (g 46) i y % 2) x ∧ s.2.2 = x6 + sumN (fun i => if 0 < ptF w h (g 45) (g 46) i y then 1 else 0) x ∧ (x4 ≤ s.1 ∧ s.1 ≤ x4 + 2 * x) ∧ (x5 ≤ s.2.1 ∧ s.2.1 ≤ x5 + x) ∧ x6 ≤ s.2.2 ∧ s.2.2 ≤ x6 + x) (w + 1) 0 (x4, x5, x6) (Nat.zero_le _) ⟨by show x4 = x4 + 0; omega, by show x5 = x5 + 0; omega, by show x6 = x6 + 0; omega, by simp, by simp, by simp⟩ (fun x s _ hx hP => by
      obtain ⟨a4, a5, a6⟩ := s
      obtain ⟨r1, r2, r3, r4, r5, r6⟩ := hP
      dsimp only at r1 r2 r3 r4 r5 r6
      obtain ⟨b1, b2, b3, b4⟩ := bk_e C.1 (x : Int) (y : Int)
      have pb := ptF_b (w := w) (h := h) (x := x) (y := y) hU hF (by omega) (by omega)
      have e1 : (if bkU g w h x y = 1 then Run sc 117 47 [some (Rf 1), some (I (w : Int)), some (I (h : Int)), some (I t), some (I a4), some (I a5), some (I a6), some (I ((y : Int))), some (I ((x : Int))), s9] [(I 1), (I a4)] (hq cs iv) else Run sc 117 46 [some (Rf 1), some (I (w : Int)), some (I (h : Int)), some (I t), some (I a4), some (I a5), some (I a6), some (I ((y : Int))), some (I ((x : Int))), s9] [(I a4)] (hq cs iv)) = Run sc 117 47 [some (Rf 1), some (I (w : Int)), some (I (h : Int)), some (I t), some (I a4), some (I a5), some (I a6), some (I ((y : Int))), some (I ((x : Int))), s9] [(I (eU w h (g 45) x y)), (I a4)] (hq cs iv) := by
        by_cases z : bkU g w h x y = 1
        · rw [if_pos z, b1.mp z]
        · rw [if_neg z, B_L_backs_46, show eU w h (g 45) x y = 0 by have := fun q => z (b1.mpr q); omega]
      have e2 : (if bkF g w h x y = 1 then Run sc 117 65 [some (Rf 1), some (I (w : Int)), some (I (h : Int)), some (I t), some (I a4), some (I a5), some (I a6), some (I ((y : Int))), some (I ((x : Int))), s9] [(I 1), (I (eU w h (g 45) x y)), (I a4)] (hq cs iv) else Run sc 117 64 [some (Rf 1), some (I (w : Int)), some (I (h : Int)), some (I t), some (I a4), some (I a5), some (I a6), some (I ((y : Int))), some (I ((x : Int))), s9] [(I (eU w h (g 45) x y)), (I a4)] (hq cs iv)) = Run sc 117 65 [some (Rf 1), some (I (w : Int)), some (I (h : Int)), some (I t), some (I a4), some (I a5), some (I a6), some (I ((y : Int))), some (I ((x : Int))), s9] [(I (eF w h (g 46) x y)), (I (eU w h (g 45) x y)), (I a4)] (hq cs iv) := by
        by_cases z : bkF g w h x y = 1
        · rw [if_pos z, b2.mp z]
        · rw [if_neg z, B_L_backs_64, show eF w h (g 46) x y = 0 by have := fun q => z (b2.mpr q); omega]
      refine ⟨(a4 + (eU w h (g 45) x y + eF w h (g 46) x y), a5 + ptF w h (g 45) (g 46) x y % 2, a6 + (if 0 < ptF w h (g 45) (g 46) x y then 1 else 0)), ?_, ?_, ?_, ?_, ?_, ?_, ?_⟩
      · dsimp only
        rw [B_L_backs_21, if_neg (by omega), backU_L C, aBind_some, pushR_some, B_L_backs_38, e1, B_L_backs_47, backF_L C, aBind_some, pushR_some, B_L_backs_56, e2, B_L_backs_65, chk_pos (by omega), chk_pos (by omega), at_L C (by omega) (by omega), aBind_some, pushR_some, B_L_backs_79, bck_pos (by omega), bck_pos (by omega), chk_pos (by omega), at_L C (by omega) (by omega), aBind_some, pushR_some, B_L_backs_94]
        by_cases z : 0 < ptF w h (g 45) (g 46) x y
        · rw [if_pos z, if_pos z, B_L_backs_102, chk_pos (by omega), chk_pos (by omega)]
        · rw [if_neg z, if_neg z, B_L_backs_101, B_L_backs_102, chk_pos (by omega), chk_pos (by omega)]
      · show a4 + (eU w h (g 45) x y + eF w h (g 46) x y) = x4 + (sumN (fun i => eU w h (g 45) i y + eF w h (g 46) i y) x + (eU w h (g 45) x y + eF w h (g 46) x y)); rw [r1]; omega
      · show a5 + (ptF w h (g 45) (g 46) x y % 2) = x5 + (sumN (fun i => ptF w h (g 45) (g 46) i y % 2) x + (ptF w h (g 45) (g 46) x y % 2)); rw [r2]; omega
      · show a6 + (if 0 < ptF w h (g 45) (g 46) x y then 1 else 0) = x6 + (sumN (fun i => if 0 < ptF w h (g 45) (g 46) i y then 1 else 0) x + (if 0 < ptF w h (g 45) (g 46) x y then 1 else 0)); rw [r3]; omega
      · show x4 ≤ a4 + _ ∧ a4 + _ ≤ x4 + 2 * ((x + 1 : Nat) : Int); omega
      · show x5 ≤ a5 + _ ∧ a5 + _ ≤ x5 + ((x + 1 : Nat) : Int); omega
      · show x6 ≤ a6 + _ ∧ a6 + _ ≤ x6 + ((x + 1 : Nat) : Int); split <;> omega)
    obtain ⟨a4, a5, a6⟩ := u
    dsimp only at q1 q2 q3 q4 q5 q6 e
    refine ⟨((a4, a5, a6), some (I ((w + 1 : Nat) : Int)), s9), ?_, by dsimp only; rw [q1, p1]; rfl, by dsimp only; rw [q2, p2]; rfl, by dsimp only; rw [q3, p3]; rfl, by dsimp only; omega, by dsimp only; omega, by dsimp only; omega⟩
    dsimp only
    rw [show (((0 : Nat) : Int)) = 0 from rfl] at e
    rw [B_L_backs_12, if_neg (by omega), e, B_L_backs_21, if_pos (by omega), B_L_backs_111, chk_pos (by omega)])
  obtain ⟨⟨x4, x5, x6⟩, s8, s9⟩ := s
  dsimp only at q1 q2 q3 e
  have m4 : x4 = edgC w h (g 45) (g 46) := q1
  have m5 : x5 = oddC w h (g 45) (g 46) := q2
  have m6 : x6 = ptsC w h (g 45) (g 46) := q3
  obtain ⟨z1, z2, z3, z4, z5, z6, z7⟩ := backs_math d4 d6 hU hF
  have eb := edgC_b d4 d6 hU hF
  have ob : 0 ≤ oddC w h (g 45) (g 46) ∧ oddC w h (g 45) (g 46) ≤ 1250 := by
    rw [oddC_x d4 d6]
    have h1 := sumN_le (f := fun j => ptN w h (g 45) (g 46) j % 2) (n := 625) (c := 1) (fun j _ => by omega)
    have h2 := sumN_nonneg (f := fun j => ptN w h (g 45) (g 46) j % 2) (n := 625) (fun j _ => by omega)
    omega
  have pb : 0 ≤ ptsC w h (g 45) (g 46) := by
    unfold ptsC
    exact sumN_nonneg fun j _ => sumN_nonneg fun i _ => by split <;> omega
  obtain ⟨v1, f1, C1, h1⟩ := backs_L (sc := sc) (what := 1) C
  obtain ⟨v2, f2, C2, h2⟩ := backs_L (sc := sc) (what := 2) C1
  obtain ⟨v3, f3, C3, h3⟩ := backs_L (sc := sc) (what := 0) C2
  obtain ⟨v4, f4, C4, h4⟩ := backs_L (sc := sc) (what := 3) C3
  obtain ⟨v5, f5, C5, h5⟩ := backs_L (sc := sc) (what := 4) C4
  obtain ⟨v6, f6, C6, h6⟩ := backs_L (sc := sc) (what := 5) C5
  rw [htl] at f1 f2 f3 f4 f5 f6
  have w0 : bacF w h (g 45) (g 46) t 0 = edgC w h (g 45) (g 46) := if_pos rfl
  have w1 : bacF w h (g 45) (g 46) t 1 = grC w h (g 45) (g 46) := by unfold bacF; rw [if_neg (by omega), if_pos rfl]
  have w2 : bacF w h (g 45) (g 46) t 2 = stC w h (g 45) (g 46) := by unfold bacF; rw [if_neg (by omega), if_neg (by omega), if_pos rfl]
  have w3 : bacF w h (g 45) (g 46) t 3 = 20 * edgC w h (g 45) (g 46) + 2 * t * stC w h (g 45) (g 46) := by unfold bacF; rw [if_neg (by omega), if_neg (by omega), if_neg (by omega), if_pos rfl]
  have w4 : bacF w h (g 45) (g 46) t 4 = oddC w h (g 45) (g 46) := by unfold bacF; rw [if_neg (by omega), if_neg (by omega), if_neg (by omega), if_neg (by omega), if_pos rfl]
  have w5 : bacF w h (g 45) (g 46) t 5 = -2 := by unfold bacF; rw [if_neg (by omega), if_neg (by omega), if_neg (by omega), if_neg (by omega), if_neg (by omega)]
  rw [w1] at f1
  rw [w2] at f2
  rw [w0] at f3
  rw [w3] at f4
  rw [w4] at f5
  rw [w5] at f6
  have n1 : bkU g w h ((w : Int) + 1) 0 = -1 := if_neg (by omega)
  have n2 : bkU g w h 0 (h : Int) = -1 := if_neg (by omega)
  have n3 : bkF g w h (w : Int) 0 = -1 := if_neg (by omega)
  have n4 : bkF g w h 0 (-1) = -1 := if_neg (by omega)
  generalize edgC w h (g 45) (g 46) = E at *
  generalize oddC w h (g 45) (g 46) = D at *
  generalize ptsC w h (g 45) (g 46) = P at *
  generalize grC w h (g 45) (g 46) = G at *
  generalize stC w h (g 45) (g 46) = S at *
  have tb := mulB (a := 2 * t) (b := S) (m := 400) (n := 5000) (by omega) (by omega)
  refine ⟨v6, ?_, C6, fun k hk => (h6 k hk).trans ((h5 k hk).trans ((h4 k hk).trans ((h3 k hk).trans ((h2 k hk).trans (h1 k hk)))))⟩
  rw [show (((0 : Nat) : Int)) = 0 from rfl] at e
  rw [B_L_backs_0, e, B_L_backs_12, if_pos (by omega), B_L_backs_117, f1, aBind_some, pushR_some, B_L_backs_122, f2, aBind_some, pushR_some, B_L_backs_129, if_neg (by omega), chk_pos (by omega), if_neg (by omega), if_neg (by omega), chk_pos (by omega), if_neg (by omega), bck_pos (by omega), bck_pos (by omega), chk_pos (by omega), if_neg (by omega)]
  have fin : Run sc 117 204 [some (Rf 1), some (I (w : Int)), some (I (h : Int)), some (I t), some (I x4), some (I x5), some (I x6), some (I G), some (I S), s9] [(I 1)] (hq cs v2) = some (some (I 1), hq cs v6) := by
    subst m4 m5
    rw [B_L_backs_204, if_neg (by omega), f3, aBind_some, pushR_some, B_L_backs_216, if_pos rfl, f4, aBind_some, pushR_some, B_L_backs_226, chk_pos (by omega), chk_pos (by omega), chk_pos (by omega), chk_pos (by omega), if_pos rfl, f5, aBind_some, pushR_some, B_L_backs_246, if_pos rfl, f6, aBind_some, pushR_some, B_L_backs_256, if_pos rfl, chk_pos (by omega), backU_L C6, n1, aBind_some, pushR_some, B_L_backs_270, if_pos rfl, backU_L C6, n2, aBind_some, pushR_some, B_L_backs_281, if_pos rfl, backF_L C6, n3, aBind_some, pushR_some, B_L_backs_292, if_pos rfl, backF_L C6, n4, aBind_some, pushR_some, B_L_backs_303, if_pos rfl, B_L_backs_312, bck_pos (by omega)]
  by_cases z : G = 0
  · have ze := z7.mp z
    rw [if_pos z, B_L_backs_186, if_pos (by omega), B_L_backs_196, if_pos rfl]
    exact fin
  · have ze : ¬ E = 0 := fun y => z (z7.mpr y)
    rw [if_neg z, B_L_backs_185, B_L_backs_186, if_neg (by omega), B_L_backs_195, B_L_backs_196, if_pos rfl]
    exact fin
end LBACKS
