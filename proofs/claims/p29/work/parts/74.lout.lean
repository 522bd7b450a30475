/-! the law: outlines -/
section OUTM
variable {iv s t : Nat → Nat → Int} {w h : Nat}
def difI (a b : Int) : Int := if a = b then 0 else 1
theorem difI_par {a b c d : Int} (ha : 0 ≤ a ∧ a ≤ 1) (hb : 0 ≤ b ∧ b ≤ 1) (hc : 0 ≤ c ∧ c ≤ 1) (hd : 0 ≤ d ∧ d ≤ 1) : (difI a b + difI c d + difI a c + difI b d) % 2 = 0 := by
  have e : ∀ x : Int, 0 ≤ x ∧ x ≤ 1 → x = 0 ∨ x = 1 := fun x hx => by omega
  rcases e a ha with rfl | rfl <;> rcases e b hb with rfl | rfl <;> rcases e c hc with rfl | rfl <;> rcases e d hd with rfl | rfl <;> rfl
theorem difI_ne {a b : Int} : (if a ≠ b then (1 : Int) else 0) = difI a b := by
  unfold difI
  by_cases z : a = b
  · rw [if_pos z, if_neg (fun y => y z)]
  · rw [if_neg z, if_pos z]
theorem difI_b {a b : Int} : 0 ≤ difI a b ∧ difI a b ≤ 1 := by unfold difI; split <;> omega
theorem hC_cg {c x y : Int} (e2 : s 2 = iv 2) (e4 : s 4 = iv 4) : hC s c x y = hC iv c x y := by unfold hC; rw [gC_congr e2 e4]
/-- the bits of an outline on a chart without back stitches -/
theorem out_eU {c : Int} (hD : DimB iv w h) (hc : 1 ≤ c) (hz : ∀ j, j < 625 → iv 45 j = 0) (hn : ∀ j, j < 625 → s 45 j = nU iv c j) (x y : Int) : eU w h (s 45) x y = difI (hC iv c x y) (hC iv c (x - 1) y) := by
  obtain ⟨d1, d2, d3, d4, d5, d6⟩ := id hD
  unfold eU
  by_cases q : 0 ≤ x ∧ x ≤ (w : Int) ∧ 0 ≤ y ∧ y + 1 ≤ (h : Int)
  · have hj : (y * 25 + x).toNat < 625 := by omega
    have e1 : (((y * 25 + x).toNat % 25 : Nat) : Int) = x := by omega
    have e2 : (((y * 25 + x).toNat / 25 : Nat) : Int) = y := by omega
    rw [if_pos (by omega), hn _ hj]
    unfold nU
    rw [e1, e2, hz _ hj, difI_ne]
  · rw [if_neg (by omega)]
    unfold difI
    by_cases z : hC iv c x y = hC iv c (x - 1) y
    · rw [if_pos z]
    · exfalso
      by_cases p : 0 ≤ x ∧ 0 ≤ y
      · have := outU_in hD hc p.1 p.2 z
        unfold inU at this
        omega
      · apply z
        rw [hC_out hc (by unfold inC; omega), hC_out hc (by unfold inC; omega)]
theorem out_eF {c : Int} (hD : DimB iv w h) (hc : 1 ≤ c) (hz : ∀ j, j < 625 → iv 46 j = 0) (hn : ∀ j, j < 625 → s 46 j = nF iv c j) (x y : Int) : eF w h (s 46) x y = difI (hC iv c x y) (hC iv c x (y - 1)) := by
  obtain ⟨d1, d2, d3, d4, d5, d6⟩ := id hD
  unfold eF
  by_cases q : 0 ≤ x ∧ x + 1 ≤ (w : Int) ∧ 0 ≤ y ∧ y ≤ (h : Int)
  · have hj : (y * 25 + x).toNat < 625 := by omega
    have e1 : (((y * 25 + x).toNat % 25 : Nat) : Int) = x := by omega
    have e2 : (((y * 25 + x).toNat / 25 : Nat) : Int) = y := by omega
    rw [if_pos (by omega), hn _ hj]
    unfold nF
    rw [e1, e2, hz _ hj, difI_ne]
  · rw [if_neg (by omega)]
    unfold difI
    by_cases z : hC iv c x y = hC iv c x (y - 1)
    · rw [if_pos z]
    · exfalso
      by_cases p : 0 ≤ x ∧ 0 ≤ y
      · have := outF_in hD hc p.1 p.2 z
        unfold inF at this
        omega
      · apply z
        rw [hC_out hc (by unfold inC; omega), hC_out hc (by unfold inC; omega)]
theorem edgC_0 {U F : Nat → Int} (hw : w ≤ 24) (hh : h ≤ 24) (hU : ∀ j, j < 625 → U j = 0) (hF : ∀ j, j < 625 → F j = 0) : edgC w h U F = 0 := by
  unfold edgC
  refine sumN_zero fun j hj => sumN_zero fun i hi => ?_
  have e1 : eU w h U i j = 0 := by
    unfold eU
    by_cases q : 0 ≤ (i : Int) ∧ (i : Int) ≤ (w : Int) ∧ 0 ≤ (j : Int) ∧ (j : Int) + 1 ≤ (h : Int)
    · rw [if_pos (by omega), hU _ (by omega)]
    · rw [if_neg (by omega)]
  have e2 : eF w h F i j = 0 := by
    unfold eF
    by_cases q : 0 ≤ (i : Int) ∧ (i : Int) + 1 ≤ (w : Int) ∧ 0 ≤ (j : Int) ∧ (j : Int) ≤ (h : Int)
    · rw [if_pos (by omega), hF _ (by omega)]
    · rw [if_neg (by omega)]
  rw [e1, e2]; rfl
theorem outC_edg {c : Int} (hD : DimB iv w h) (hc : 1 ≤ c) (hz : ∀ j, j < 625 → iv 45 j = 0 ∧ iv 46 j = 0) (hn : ∀ j, j < 625 → s 45 j = nU iv c j ∧ s 46 j = nF iv c j) : outC iv w h c = edgC w h (s 45) (s 46) := by
  obtain ⟨d1, d2, d3, d4, d5, d6⟩ := id hD
  unfold outC edgC
  refine sumN_congr fun j hj => sumN_congr fun i hi => ?_
  rw [out_eU hD hc (fun j hj => (hz j hj).1) (fun j hj => (hn j hj).1), out_eF hD hc (fun j hj => (hz j hj).2) (fun j hj => (hn j hj).2)]
  unfold gU gF
  rw [(hz _ (show ((j : Int) * 25 + (i : Int)).toNat < 625 by omega)).1, (hz _ (show ((j : Int) * 25 + (i : Int)).toNat < 625 by omega)).2, if_neg (show ¬ ((0 : Int) = 1) by omega), difI_ne, difI_ne]
/-- a second outline of the same color adds nothing -/
theorem outC_2 {c : Int} (hD : DimB iv w h) (hc : 1 ≤ c) (hz : ∀ j, j < 625 → iv 45 j = 0 ∧ iv 46 j = 0) (hn : ∀ j, j < 625 → s 45 j = nU iv c j ∧ s 46 j = nF iv c j) (e2 : t 2 = iv 2) (e4 : t 4 = iv 4) (e45 : t 45 = s 45) (e46 : t 46 = s 46) : outC t w h c = 0 := by
  obtain ⟨d1, d2, d3, d4, d5, d6⟩ := id hD
  unfold outC
  refine sumN_zero fun j hj => sumN_zero fun i hi => ?_
  have hJ : ((j : Int) * 25 + (i : Int)).toNat < 625 := by omega
  have x1 : ((((j : Int) * 25 + (i : Int)).toNat % 25 : Nat) : Int) = i := by omega
  have x2 : ((((j : Int) * 25 + (i : Int)).toNat / 25 : Nat) : Int) = j := by omega
  have y1 : gU t c i j = 0 := by
    unfold gU
    rw [hC_cg e2 e4, hC_cg e2 e4, e45, (hn _ hJ).1]
    unfold nU
    rw [x1, x2]
    by_cases z : hC iv c i j ≠ hC iv c ((i : Int) - 1) j
    · rw [if_pos z, if_pos z, if_pos rfl]
    · rw [if_neg z]
  have y2 : gF t c i j = 0 := by
    unfold gF
    rw [hC_cg e2 e4, hC_cg e2 e4, e46, (hn _ hJ).2]
    unfold nF
    rw [x1, x2]
    by_cases z : hC iv c i j ≠ hC iv c i ((j : Int) - 1)
    · rw [if_pos z, if_pos z, if_pos rfl]
    · rw [if_neg z]
  rw [y1, y2]; rfl
end OUTM
section LOUT
variable {sc : Nat × (Nat → Int)} {g iv iv2 : Nat → Nat → Int} {O : Nat → Nat → Int} {w h n : Nat} {cs : List (Nat × Nat)} {c : Int}
theorem hC_L {x y : Int} (H : InvC g O w h n) (hc : 1 ≤ c) : (celF g x y = c ↔ gC g x y = c) := by
  unfold celF
  by_cases z : inC g x y
  · rw [if_pos z]
  · rw [if_neg z, gC_out z]; exact ⟨fun q => by omega, fun q => by omega⟩
set_option maxHeartbeats 4000000 in
theorem loutlines_L (H : InvC iv O w h n) (hZ : Zr cs iv) (hc : 1 ≤ c ∧ c ≤ 6) : ∃ iv2, Run sc 118 0 [some (Rf 1), some (I (w : Int)), some (I (h : Int)), some (I c), none, none, none, none, none] [] (hq cs iv) = some (some (I 1), hq cs iv2) ∧ InvC iv2 O w h n ∧ Zr cs iv2 ∧ iv2 6 = iv 6 := by
  obtain ⟨⟨hD, -⟩, -, -, ⟨b1, b2, -⟩, -⟩ := id H
  obtain ⟨d1, d2, d3, d4, d5, d6⟩ := id hD
  have eb := edgC_b d4 d6 b1 b2
  have zr : ∀ {a b : Nat → Nat → Int}, Zr cs a → (∀ k, k ≠ 45 → k ≠ 46 → b k = a k) → Zr cs b := fun za f k hk j => by rw [f k (by omega) (by omega)]; exact za k hk j
  obtain ⟨s1, f1, H1, k1, z1⟩ := clearBack_S (sc := sc) H
  have C1 : Cur s1 O w h n cs s1 := Cur.rf H1 (zr hZ k1)
  obtain ⟨v1, g1, D1, -⟩ := backs_L (sc := sc) (what := 0) C1
  rw [show bacF w h (s1 45) (s1 46) (s1 6 1) 0 = edgC w h (s1 45) (s1 46) from if_pos rfl, edgC_0 d4 d6 (fun j hj => (z1 j hj).1) (fun j hj => (z1 j hj).2)] at g1
  obtain ⟨s2, f2, H2, k2, z2⟩ := clearBack_S (sc := sc) D1.2.1
  rw [D1.e (j := 45) (by omega), D1.e (j := 46) (by omega), edgC_0 d4 d6 (fun j hj => (z1 j hj).1) (fun j hj => (z1 j hj).2)] at f2
  obtain ⟨s3, f3, H3, k3, z3⟩ := outline_S (sc := sc) H2 hc
  have hD2 := H2.1.1
  rw [outC_edg hD2 hc.1 z2 z3] at f3
  have Z3 : Zr cs s3 := zr (zr D1.2.2.2 k2) k3
  have C : Cur s3 O w h n cs s3 := Cur.rf H3 Z3
  obtain ⟨-, -, -, ⟨hU, hF, -⟩, -⟩ := id H3
  have e45 := out_eU (s := s3) hD2 hc.1 (fun j hj => (z2 j hj).1) (fun j hj => (z3 j hj).1)
  have e46 := out_eF (s := s3) hD2 hc.1 (fun j hj => (z2 j hj).2) (fun j hj => (z3 j hj).2)
  have pe : ∀ x y : Int, ptF w h (s3 45) (s3 46) x y % 2 = 0 := fun x y => by
    unfold ptF
    rw [e45, e45, e46, e46]
    have := difI_par (hC_b (iv := s2) (c := c) (x := x) (y := y)) (hC_b (iv := s2) (c := c) (x := x - 1) (y := y)) (hC_b (iv := s2) (c := c) (x := x) (y := y - 1)) (hC_b (iv := s2) (c := c) (x := x - 1) (y := y - 1))
    omega
  have hs : ∀ x y : Int, hC s3 c x y = hC s2 c x y := fun x y => hC_cg (k3 2 (by omega) (by omega)) (k3 4 (by omega) (by omega))
  have eb3 := edgC_b d4 d6 hU hF
  obtain ⟨m1, m2, m3, m4, m5, m6, m7⟩ := backs_math d4 d6 hU hF
  have od : oddC w h (s3 45) (s3 46) = 0 := by
    unfold oddC
    exact sumN_zero fun j _ => sumN_zero fun i _ => pe i j
  obtain ⟨u1, h1, E1, -⟩ := backs_L (sc := sc) (what := 0) C
  obtain ⟨u2, h2, E2, -⟩ := backs_L (sc := sc) (what := 2) E1
  obtain ⟨u3, h3, E3, -⟩ := backs_L (sc := sc) (what := 1) E2
  obtain ⟨u4, h4, E4, -⟩ := backs_L (sc := sc) (what := 4) E3
  obtain ⟨s5, f5, H5, k5, z5⟩ := outline_S (sc := sc) E4.2.1 hc
  have k32 := k3 2 (by omega) (by omega)
  have k34 := k3 4 (by omega) (by omega)
  rw [outC_2 hD2 hc.1 z2 z3 ((E4.e (j := 2) (by omega)).trans k32) ((E4.e (j := 4) (by omega)).trans k34) (E4.e (by omega)) (E4.e (by omega))] at f5
  have w0 : bacF w h (s3 45) (s3 46) (s3 6 1) 0 = edgC w h (s3 45) (s3 46) := if_pos rfl
  have w1 : bacF w h (s3 45) (s3 46) (s3 6 1) 1 = grC w h (s3 45) (s3 46) := by unfold bacF; rw [if_neg (by omega), if_pos rfl]
  have w2 : bacF w h (s3 45) (s3 46) (s3 6 1) 2 = stC w h (s3 45) (s3 46) := by unfold bacF; rw [if_neg (by omega), if_neg (by omega), if_pos rfl]
  have w4 : bacF w h (s3 45) (s3 46) (s3 6 1) 4 = oddC w h (s3 45) (s3 46) := by unfold bacF; rw [if_neg (by omega), if_neg (by omega), if_neg (by omega), if_neg (by omega), if_pos rfl]
  rw [w0] at h1
  rw [w2] at h2
  rw [w1] at h3
  rw [w4, od] at h4
  refine ⟨s5, ?_, H5, zr E4.2.2.2 k5, ?_⟩
  rotate_left
  · rw [k5 6 (by omega) (by omega), E4.e (j := 6) (by omega), k3 6 (by omega) (by omega), k2 6 (by omega) (by omega), D1.e (j := 6) (by omega), k1 6 (by omega) (by omega)]
  generalize edgC w h (s3 45) (s3 46) = E at *
  rw [B_L_outlines_0, Run_ex f1, aBind_some, pushR_some, B_L_outlines_4, if_neg (by omega), g1, aBind_some, pushR_some, B_L_outlines_16, if_pos rfl, Run_ex f2, aBind_some, pushR_some, B_L_outlines_23, if_pos rfl, B_L_outlines_28, Run_ex f3, aBind_some, pushR_some, B_L_outlines_33]
  generalize edgC w h (iv 45) (iv 46) = a4 at *
  obtain ⟨s, e, -⟩ := loop_ex (fun y (s : Option AV × Option AV) => Run sc 118 38 [some (Rf 1), some (I (w : Int)), some (I (h : Int)), some (I c), some (I a4), some (I E), some (I y), s.1, s.2] [] (hq cs s3)) (fun y s => True) (h + 1) 0 (none, none) (Nat.zero_le _) trivial (fun y s _ hy _ => by
    obtain ⟨s7, s8⟩ := s
    obtain ⟨u, e, -⟩ := loop_ex (fun x (s : Option AV) => Run sc 118 47 [some (Rf 1), some (I (w : Int)), some (I (h : Int)), some (I c), some (I a4), some (I E), some (I ((y : Int))), some (I x), s] [] (hq cs s3)) (fun x s => True) (w + 1) 0 s8 (Nat.zero_le _) trivial (fun x s _ hx _ => by
      refine ⟨some (I (hC s2 c x y)), ?_, trivial⟩
      have hb := hC_b (iv := s2) (c := c) (x := x) (y := y)
      have cel : ∀ a b : Int, celF s3 a b = c ↔ hC s2 c a b = 1 := fun a b => by
        rw [hC_L H3 hc.1, ← hs]
        unfold hC
        by_cases z : gC s3 a b = c
        · rw [if_pos z]; exact ⟨fun _ => rfl, fun _ => z⟩
        · rw [if_neg z]; exact ⟨fun q => absurd q z, fun q => by omega⟩
      have t1 : (if celF s3 x y = c then Run sc 118 70 [some (Rf 1), some (I (w : Int)), some (I (h : Int)), some (I c), some (I a4), some (I E), some (I ((y : Int))), some (I ((x : Int))), s] [(I 1)] (hq cs s3) else Run sc 118 69 [some (Rf 1), some (I (w : Int)), some (I (h : Int)), some (I c), some (I a4), some (I E), some (I ((y : Int))), some (I ((x : Int))), s] [] (hq cs s3)) = Run sc 118 70 [some (Rf 1), some (I (w : Int)), some (I (h : Int)), some (I c), some (I a4), some (I E), some (I ((y : Int))), some (I ((x : Int))), s] [(I (hC s2 c x y))] (hq cs s3) := by
        by_cases z : celF s3 x y = c
        · rw [if_pos z, (cel _ _).mp z]
        · rw [if_neg z, B_L_outlines_69, show hC s2 c x y = 0 by have q1 : ¬ hC s2 c x y = 1 := fun q => z ((cel _ _).mpr q); omega]
      have bU : bkU s3 w h x y = if (y : Int) = h then -1 else difI (hC s2 c x y) (hC s2 c ((x : Int) - 1) y) := by
        unfold bkU
        rw [e45]
        by_cases z : (y : Int) = h
        · rw [if_pos z, if_neg (by unfold inU; omega)]
        · rw [if_neg z, if_pos (by unfold inU; omega)]
      have bF : bkF s3 w h x y = if (x : Int) = w then -1 else difI (hC s2 c x y) (hC s2 c x ((y : Int) - 1)) := by
        unfold bkF
        rw [e46]
        by_cases z : (x : Int) = w
        · rw [if_pos z, if_neg (by unfold inF; omega)]
        · rw [if_neg z, if_pos (by unfold inF; omega)]
      have t2 : (if (y : Int) = h then Run sc 118 120 [some (Rf 1), some (I (w : Int)), some (I (h : Int)), some (I c), some (I a4), some (I E), some (I ((y : Int))), some (I ((x : Int))), some (I (hC s2 c x y))] [(I (-1)), (I (bkU s3 w h x y))] (hq cs s3) else Run sc 118 91 [some (Rf 1), some (I (w : Int)), some (I (h : Int)), some (I c), some (I a4), some (I E), some (I ((y : Int))), some (I ((x : Int))), some (I (hC s2 c x y))] [(I (bkU s3 w h x y))] (hq cs s3)) = Run sc 118 120 [some (Rf 1), some (I (w : Int)), some (I (h : Int)), some (I c), some (I a4), some (I E), some (I ((y : Int))), some (I ((x : Int))), some (I (hC s2 c x y))] [(I (bkU s3 w h x y)), (I (bkU s3 w h x y))] (hq cs s3) := by
        rw [bU]
        by_cases z : (y : Int) = h
        · rw [if_pos z, if_pos z]
        · rw [if_neg z, if_neg z, B_L_outlines_91, chk_pos (by omega), cell_L C, aBind_some, pushR_some, B_L_outlines_103]
          have hb2 := hC_b (iv := s2) (c := c) (x := (x : Int) - 1) (y := y)
          have t3 : (if celF s3 ((x : Int) - 1) y = c then Run sc 118 112 [some (Rf 1), some (I (w : Int)), some (I (h : Int)), some (I c), some (I a4), some (I E), some (I ((y : Int))), some (I ((x : Int))), some (I (hC s2 c x y))] [(I 1), (I (hC s2 c x y)), (I (difI (hC s2 c x y) (hC s2 c ((x : Int) - 1) y)))] (hq cs s3) else Run sc 118 111 [some (Rf 1), some (I (w : Int)), some (I (h : Int)), some (I c), some (I a4), some (I E), some (I ((y : Int))), some (I ((x : Int))), some (I (hC s2 c x y))] [(I (hC s2 c x y)), (I (difI (hC s2 c x y) (hC s2 c ((x : Int) - 1) y)))] (hq cs s3)) = Run sc 118 112 [some (Rf 1), some (I (w : Int)), some (I (h : Int)), some (I c), some (I a4), some (I E), some (I ((y : Int))), some (I ((x : Int))), some (I (hC s2 c x y))] [(I (hC s2 c ((x : Int) - 1) y)), (I (hC s2 c x y)), (I (difI (hC s2 c x y) (hC s2 c ((x : Int) - 1) y)))] (hq cs s3) := by
            by_cases z : celF s3 ((x : Int) - 1) y = c
            · rw [if_pos z, (cel _ _).mp z]
            · rw [if_neg z, B_L_outlines_111, show hC s2 c ((x : Int) - 1) y = 0 by have q1 : ¬ hC s2 c ((x : Int) - 1) y = 1 := fun q => z ((cel _ _).mpr q); omega]
          rw [t3, B_L_outlines_112]
          unfold difI
          by_cases q : hC s2 c x y = hC s2 c ((x : Int) - 1) y
          · rw [if_pos q, if_pos q, B_L_outlines_119]
          · rw [if_neg q, if_neg q]
      have t4 : (if (x : Int) = w then Run sc 118 171 [some (Rf 1), some (I (w : Int)), some (I (h : Int)), some (I c), some (I a4), some (I E), some (I ((y : Int))), some (I ((x : Int))), some (I (hC s2 c x y))] [(I (-1)), (I (bkF s3 w h x y))] (hq cs s3) else Run sc 118 142 [some (Rf 1), some (I (w : Int)), some (I (h : Int)), some (I c), some (I a4), some (I E), some (I ((y : Int))), some (I ((x : Int))), some (I (hC s2 c x y))] [(I (bkF s3 w h x y))] (hq cs s3)) = Run sc 118 171 [some (Rf 1), some (I (w : Int)), some (I (h : Int)), some (I c), some (I a4), some (I E), some (I ((y : Int))), some (I ((x : Int))), some (I (hC s2 c x y))] [(I (bkF s3 w h x y)), (I (bkF s3 w h x y))] (hq cs s3) := by
        rw [bF]
        by_cases z : (x : Int) = w
        · rw [if_pos z, if_pos z]
        · rw [if_neg z, if_neg z, B_L_outlines_142, chk_pos (by omega), cell_L C, aBind_some, pushR_some, B_L_outlines_154]
          have hb2 := hC_b (iv := s2) (c := c) (x := x) (y := (y : Int) - 1)
          have t3 : (if celF s3 x ((y : Int) - 1) = c then Run sc 118 163 [some (Rf 1), some (I (w : Int)), some (I (h : Int)), some (I c), some (I a4), some (I E), some (I ((y : Int))), some (I ((x : Int))), some (I (hC s2 c x y))] [(I 1), (I (hC s2 c x y)), (I (difI (hC s2 c x y) (hC s2 c x ((y : Int) - 1))))] (hq cs s3) else Run sc 118 162 [some (Rf 1), some (I (w : Int)), some (I (h : Int)), some (I c), some (I a4), some (I E), some (I ((y : Int))), some (I ((x : Int))), some (I (hC s2 c x y))] [(I (hC s2 c x y)), (I (difI (hC s2 c x y) (hC s2 c x ((y : Int) - 1))))] (hq cs s3)) = Run sc 118 163 [some (Rf 1), some (I (w : Int)), some (I (h : Int)), some (I c), some (I a4), some (I E), some (I ((y : Int))), some (I ((x : Int))), some (I (hC s2 c x y))] [(I (hC s2 c x ((y : Int) - 1))), (I (hC s2 c x y)), (I (difI (hC s2 c x y) (hC s2 c x ((y : Int) - 1))))] (hq cs s3) := by
            by_cases z : celF s3 x ((y : Int) - 1) = c
            · rw [if_pos z, (cel _ _).mp z]
            · rw [if_neg z, B_L_outlines_162, show hC s2 c x ((y : Int) - 1) = 0 by have q1 : ¬ hC s2 c x ((y : Int) - 1) = 1 := fun q => z ((cel _ _).mpr q); omega]
          rw [t3, B_L_outlines_163]
          unfold difI
          by_cases q : hC s2 c x y = hC s2 c x ((y : Int) - 1)
          · rw [if_pos q, if_pos q, B_L_outlines_170]
          · rw [if_neg q, if_neg q]
      have pb := ptF_b (w := w) (h := h) (x := x) (y := y) hU hF (by omega) (by omega)
      rw [B_L_outlines_47, if_neg (by omega), cell_L C, aBind_some, pushR_some, B_L_outlines_61, t1, B_L_outlines_70, backU_L C, aBind_some, pushR_some, B_L_outlines_81, t2, B_L_outlines_120, if_pos rfl, backF_L C, aBind_some, pushR_some, B_L_outlines_132, t4, B_L_outlines_171, if_pos rfl, at_L C (by omega) (by omega), aBind_some, pushR_some, B_L_outlines_182, bck_pos (by omega), bck_pos (by omega), if_pos (pe x y), B_L_outlines_189, chk_pos (by omega)])
    refine ⟨(some (I ((w + 1 : Nat) : Int)), u), ?_, trivial⟩
    dsimp only at e ⊢
    rw [show (((0 : Nat) : Int)) = 0 from rfl] at e
    rw [B_L_outlines_38, if_neg (by omega), e, B_L_outlines_47, if_pos (by omega), B_L_outlines_195, chk_pos (by omega)])
  obtain ⟨s7, s8⟩ := s
  dsimp only at e
  rw [show (((0 : Nat) : Int)) = 0 from rfl] at e
  have sg : stC w h (s3 45) (s3 46) = grC w h (s3 45) (s3 46) := by omega
  rw [sg] at h2
  rw [e, B_L_outlines_38, if_pos (by omega), B_L_outlines_201, h1, aBind_some, pushR_some, B_L_outlines_206, if_pos rfl, h2, aBind_some, pushR_some, B_L_outlines_216, h3, aBind_some, pushR_some, B_L_outlines_221, if_pos rfl, h4, aBind_some, pushR_some, B_L_outlines_229, if_pos rfl, Run_ex f5, aBind_some, pushR_some, B_L_outlines_237, if_pos rfl, Run_ex (outline_bad (by omega)), aBind_some, pushR_some, B_L_outlines_245, if_pos rfl, Run_ex (outline_bad (by omega)), aBind_some, pushR_some, B_L_outlines_256, if_pos rfl, B_L_outlines_266, bck_pos (by omega)]
end LOUT
