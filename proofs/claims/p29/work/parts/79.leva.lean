/-! the law: a stitch set, a rectangle filled -/
section LEVA
variable {sc : Nat × (Nat → Int)} {g iv iv2 : Nat → Nat → Int} {O : Nat → Nat → Int} {w h n : Nat} {cs : List (Nat × Nat)} {A B D r t c X Y : Int} {e : Nat} {d13 d14 d15 d16 d17 : Option AV}
set_option maxHeartbeats 4000000 in
theorem evSet_L (H : InvC iv O w h n) (hZ : Zr cs iv) (hx : 0 ≤ X ∧ X < w) (hy : 0 ≤ Y ∧ Y < h) (hc : 0 ≤ c ∧ c < 7) : ∃ iv2 O2 x14, Run sc 0 145 [some (Rf 0), some (Rf 1), some (I A), some (I ((w : Int))), some (I ((h : Int))), some (I r), some (I t), some (I ((e : Int))), some (I B), some (I D), some (I 0), some (I X), some (I Y), d13, d14, d15, d16, d17] [(I c)] (hq cs iv) = Run sc 0 694 [some (Rf 0), some (Rf 1), some (I A), some (I ((w : Int))), some (I ((h : Int))), some (I r), some (I t), some (I ((e : Int))), some (I B), some (I D), some (I 0), some (I X), some (I Y), some (I c), x14, d15, d16, d17] [] (hq cs iv2) ∧ InvC iv2 O2 w h n ∧ Zr cs iv2 ∧ iv2 6 = iv 6 := by
  obtain ⟨⟨⟨d1, d2, d3, d4, d5, d6⟩, a3⟩, -⟩ := id H
  have hin : inC iv X Y := by unfold inC; omega
  have C0 : Cur iv O w h n cs iv := Cur.rf H hZ
  obtain ⟨s, m, e1, hch, hs⟩ := setCell_S (sc := sc) (c := c) H hin (by omega)
  have H1 := H.chG hch
  have Z1 : Zr cs s := fun k hk j => by rw [hch.1 k (by omega) (by omega)]; exact hZ k hk j
  have C1 : Cur s (newO (dChg iv s) s O w h) w h n cs s := Cur.rf H1 Z1
  have hi : (Y * 24 + X).toNat < 576 := by omega
  have g0 : celF iv X Y = gC iv X Y := if_pos hin
  have v0 : gC iv X Y = iv 4 (Y * 24 + X).toNat := if_pos hin
  have hin1 : inC s X Y := by unfold inC; rw [hch.1 2 (by omega) (by omega)]; exact hin
  have v1 : s 4 (Y * 24 + X).toNat = c := by rw [hs, if_pos rfl]
  have g1 : celF s X Y = c := by
    unfold celF gC
    rw [if_pos hin1, if_pos hin1]
    exact v1
  have gb := gC_bd H X Y
  have nea : ∀ (q : Int) (v : Nat → Nat → Int), gC iv X Y ≠ c → q ≠ 0 → (q = c ∨ q = gC iv X Y) → Cur s (newO (dChg iv s) s O w h) w h n cs v → ∃ v2, Run sc 112 0 [some (Rf 1), some (I q), none, none, none, none, none, none, none, none] [] (hq cs v) = some (some (I 1), hq cs v2) ∧ Cur s (newO (dChg iv s) s O w h) w h n cs v2 := fun q v ne q0 hq Cv => by
    obtain ⟨k, hk⟩ : ∃ k : Nat, q = (k : Int) + 1 := ⟨(q - 1).toNat, by omega⟩
    have dq : dChg iv s (k + 1) := ⟨(Y * 24 + X).toNat, hi, by rw [v1, ← v0]; exact ne, by rw [v1, ← v0]; rcases hq with z | z <;> omega⟩
    obtain ⟨v2, f, Cv2, -⟩ := nearest_L (sc := sc) (k := k) Cv (by omega) hk (fun p _ => by rw [newO_T dq])
    exact ⟨v2, f, Cv2⟩
  have fin : ∀ v, Cur s (newO (dChg iv s) s O w h) w h n cs v → ∃ v2, Run sc 0 211 [some (Rf 0), some (Rf 1), some (I A), some (I ((w : Int))), some (I ((h : Int))), some (I r), some (I t), some (I ((e : Int))), some (I B), some (I D), some (I 0), some (I X), some (I Y), some (I c), some (I (gC iv X Y)), d15, d16, d17] [] (hq cs v) = Run sc 0 694 [some (Rf 0), some (Rf 1), some (I A), some (I ((w : Int))), some (I ((h : Int))), some (I r), some (I t), some (I ((e : Int))), some (I B), some (I D), some (I 0), some (I X), some (I Y), some (I c), some (I (gC iv X Y)), d15, d16, d17] [] (hq cs v2) ∧ Cur s (newO (dChg iv s) s O w h) w h n cs v2 := fun v Cv => by
    by_cases z : gC iv X Y = c
    · exact ⟨v, by rw [B_L_law_211, if_pos z, B_L_law_234], Cv⟩
    · by_cases z0 : gC iv X Y = 0
      · exact ⟨v, by rw [B_L_law_211, if_neg z, if_pos z0, B_L_law_234], Cv⟩
      · obtain ⟨v2, f, Cv2⟩ := nea _ v z z0 (Or.inr rfl) Cv
        exact ⟨v2, by rw [B_L_law_211, if_neg z, if_neg z0, f, aBind_some, pushR_some, B_L_law_229, if_neg (by omega), B_L_law_234], Cv2⟩
  have mid : ∃ v, Run sc 0 185 [some (Rf 0), some (Rf 1), some (I A), some (I ((w : Int))), some (I ((h : Int))), some (I r), some (I t), some (I ((e : Int))), some (I B), some (I D), some (I 0), some (I X), some (I Y), some (I c), some (I (gC iv X Y)), d15, d16, d17] [(I c)] (hq cs s) = Run sc 0 211 [some (Rf 0), some (Rf 1), some (I A), some (I ((w : Int))), some (I ((h : Int))), some (I r), some (I t), some (I ((e : Int))), some (I B), some (I D), some (I 0), some (I X), some (I Y), some (I c), some (I (gC iv X Y)), d15, d16, d17] [] (hq cs v) ∧ Cur s (newO (dChg iv s) s O w h) w h n cs v := by
    by_cases z : gC iv X Y = c
    · exact ⟨s, by rw [B_L_law_185, if_pos rfl, if_pos z], C1⟩
    · by_cases z0 : c = 0
      · exact ⟨s, by rw [B_L_law_185, if_pos rfl, if_neg z, if_pos z0], C1⟩
      · obtain ⟨v2, f, Cv2⟩ := nea _ s z z0 (Or.inl rfl) C1
        exact ⟨v2, by rw [B_L_law_185, if_pos rfl, if_neg z, if_neg z0, f, aBind_some, pushR_some, B_L_law_208, if_neg (by omega)], Cv2⟩
  obtain ⟨v, f1, Cv⟩ := mid
  obtain ⟨v2, f2, Cv2⟩ := fin v Cv
  refine ⟨v2, _, some (I (gC iv X Y)), ?_, Cv2.2.1, Cv2.2.2.2, (Cv2.e (j := 6) (by omega)).trans (hch.1 6 (by omega) (by omega))⟩
  rw [B_L_law_145, if_pos rfl, cell_L C0, g0, aBind_some, pushR_some, B_L_law_160, Run_ex e1, aBind_some, pushR_some, B_L_law_172, if_pos rfl, cell_L C1, g1, aBind_some, pushR_some, f1, f2]
/-- what a rectangle changes -/
def dfT (iv : Nat → Nat → Int) (c : Int) (x y : Nat) : Int := if gC iv x y = c then 0 else 1
theorem due_sum {x y a b : Nat} {m : Int} {s : Nat → Nat → Int} (H : InvC iv O w h n) (ha : x + a ≤ w) (hb : y + b ≤ h) (hch : ChG iv s m) (hs : ∀ j, s 4 j = if rcP x y a b j then c else iv 4 j) : m = sumN (fun k => dfT iv c (x + k % a) (y + k / a)) (b * a) := by
  obtain ⟨⟨⟨d1, d2, d3, d4, d5, d6⟩, a3⟩, -⟩ := id H
  rw [hch.2.2.2.1, show 576 = 24 * 24 from rfl, sumN_lines, sumN_lines]
  have e : ∀ i j, i < 24 → j < 24 → (if iv 4 (j * 24 + i) = s 4 (j * 24 + i) then (0 : Int) else 1) = if x ≤ i ∧ i < x + a ∧ y ≤ j ∧ j < y + b then dfT iv c i j else 0 := fun i j hi hj => by
    rw [hs]
    have r : rcP x y a b (j * 24 + i) ↔ x ≤ i ∧ i < x + a ∧ y ≤ j ∧ j < y + b := by
      unfold rcP
      rw [show (j * 24 + i) % 24 = i by omega, show (j * 24 + i) / 24 = j by omega]
    by_cases z : x ≤ i ∧ i < x + a ∧ y ≤ j ∧ j < y + b
    · rw [if_pos (r.mpr z), if_pos z]
      unfold dfT
      rw [gC_in d1 d2 (by omega) (by omega)]
      rfl
    · rw [if_neg (fun q => z (r.mp q)), if_neg z, if_pos rfl]
  rw [sumN_winP (f := fun j => sumN (fun i => if iv 4 (j * 24 + i) = s 4 (j * 24 + i) then (0 : Int) else 1) 24) (a := y) (m := b) (by omega) (fun j hj hq => sumN_zero fun i hi => by rw [e i j hi hj, if_neg (by omega)])]
  apply sumN_congr
  intro j hj
  rw [sumN_winP (f := fun i => if iv 4 ((y + j) * 24 + i) = s 4 ((y + j) * 24 + i) then (0 : Int) else 1) (a := x) (m := a) (by omega) (fun i hi hq => by rw [e i (y + j) hi (by omega), if_neg (by omega)])]
  apply sumN_congr
  intro i hi
  rw [e (x + i) (y + j) (by omega) (by omega), if_pos (by omega), (divmod hi).1, (divmod hi).2]
theorem due_again {x y a b : Nat} {m : Int} {s s2 : Nat → Nat → Int} (hch : ChG s s2 m) (hs : ∀ j, s 4 j = if rcP x y a b j then c else iv 4 j) (hs2 : ∀ j, s2 4 j = if rcP x y a b j then c else s 4 j) : m = 0 := by
  rw [hch.2.2.2.1]
  refine sumN_zero fun j _ => if_pos ?_
  rw [hs2]
  by_cases z : rcP x y a b j
  · rw [if_pos z, hs, if_pos z]
  · rw [if_neg z]
set_option maxHeartbeats 4000000 in
theorem evFill_L {x y : Nat} (H : InvC iv O w h n) (hZ : Zr cs iv) (hX : X = x) (hY : Y = y) (hx : x < w) (hy : y < h) (hc : 0 ≤ c ∧ c < 7) : ∃ iv2 O2 x14 x15 x16 x17, Run sc 0 145 [some (Rf 0), some (Rf 1), some (I A), some (I ((w : Int))), some (I ((h : Int))), some (I r), some (I t), some (I ((e : Int))), some (I B), some (I D), some (I 1), some (I X), some (I Y), d13, d14, d15, d16, d17] [(I c)] (hq cs iv) = Run sc 0 694 [some (Rf 0), some (Rf 1), some (I A), some (I ((w : Int))), some (I ((h : Int))), some (I r), some (I t), some (I ((e : Int))), some (I B), some (I D), some (I 1), some (I X), some (I Y), some (I c), x14, x15, x16, x17] [] (hq cs iv2) ∧ InvC iv2 O2 w h n ∧ Zr cs iv2 ∧ iv2 6 = iv 6 := by
  obtain ⟨⟨⟨d1, d2, d3, d4, d5, d6⟩, a3⟩, -⟩ := id H
  subst hX hY
  have ba := lowF_b (v := D / 8) (m := (w : Int) - (x : Int)) (by omega)
  have bb := lowF_b (v := D / 128) (m := (h : Int) - (y : Int)) (by omega)
  obtain ⟨a, ha⟩ : ∃ a : Nat, 1 + lowF (D / 8) ((w : Int) - (x : Int)) = a := ⟨(1 + lowF (D / 8) ((w : Int) - (x : Int))).toNat, by omega⟩
  obtain ⟨b, hb⟩ : ∃ b : Nat, 1 + lowF (D / 128) ((h : Int) - (y : Int)) = b := ⟨(1 + lowF (D / 128) ((h : Int) - (y : Int))).toNat, by omega⟩
  have C0 : Cur iv O w h n cs iv := Cur.rf H hZ
  obtain ⟨m, s, e1, hch, hs⟩ := fill_S (sc := sc) (x := x) (y := y) (a := a) (b := b) (c := c) H (by omega) (by omega) (by omega)
  have H1 := H.chG hch
  obtain ⟨m2, s2, e2, hch2, hs2⟩ := fill_S (sc := sc) (x := x) (y := y) (a := a) (b := b) (c := c) H1 (by omega) (by omega) (by omega)
  have H2 := H1.chG hch2
  have Z2 : Zr cs s2 := fun k hk j => by rw [hch2.1 k (by omega) (by omega), hch.1 k (by omega) (by omega)]; exact hZ k hk j
  have em := due_sum H (by omega) (by omega) hch hs
  have em2 := due_again hch2 hs hs2
  subst em2
  have mab := mulB (a := (a : Int)) (b := (b : Int)) (m := 24) (n := 24) (by omega) (by omega)
  have cab : (a : Int) * (b : Int) = ((b * a : Nat) : Int) := by rw [Int.natCast_mul, Int.mul_comm]
  obtain ⟨u, f, q1, q2, q3⟩ := loop_ex (fun k (u : Int) => Run sc 0 281 [some (Rf 0), some (Rf 1), some (I A), some (I ((w : Int))), some (I ((h : Int))), some (I r), some (I t), some (I ((e : Int))), some (I B), some (I D), some (I 1), some (I (x : Int)), some (I (y : Int)), some (I c), some (I ((a : Int))), some (I ((b : Int))), some (I u), some (I k)] [] (hq cs iv)) (fun k u => u = sumN (fun k => dfT iv c (x + k % a) (y + k / a)) k ∧ 0 ≤ u ∧ u ≤ k) (b * a) 0 0 (Nat.zero_le _) ⟨rfl, by omega, by omega⟩ (fun k u _ hk hP => by
    obtain ⟨p1, p2, p3⟩ := hP
    obtain ⟨i1, i2⟩ := in_chart hk
    have ex : (k : Int) % (a : Int) = ((k % a : Nat) : Int) := rfl
    have ey : (k : Int) / (a : Int) = ((k / a : Nat) : Int) := rfl
    have p0 : (0 : Int) ≤ ((k / a : Nat) : Int) := Int.natCast_nonneg _
    have p0' : (0 : Int) ≤ ((k % a : Nat) : Int) := Int.natCast_nonneg _
    have gc : celF iv ((x : Int) + ((k % a : Nat) : Int)) ((y : Int) + ((k / a : Nat) : Int)) = gC iv ((x + k % a : Nat) : Int) ((y + k / a : Nat) : Int) := if_pos (by unfold inC; omega)
    have es : sumN (fun k => dfT iv c (x + k % a) (y + k / a)) (k + 1) = sumN (fun k => dfT iv c (x + k % a) (y + k / a)) k + dfT iv c (x + k % a) (y + k / a) := rfl
    refine ⟨u + dfT iv c (x + k % a) (y + k / a), ?_, ?_, ?_, ?_⟩
    · rw [B_L_law_281, chk_pos (by omega), if_pos (by omega), bck_pos (by omega), bck_pos (by omega), ex, chk_pos (by omega), bck_pos (by omega), bck_pos (by omega), ey, chk_pos (by omega), cell_L C0, gc, aBind_some, pushR_some, B_L_law_313]
      unfold dfT
      by_cases z : gC iv ((x + k % a : Nat) : Int) ((y + k / a : Nat) : Int) = c
      · rw [if_pos z, if_pos z, B_L_law_323, chk_pos (by omega), chk_pos (by omega)]
      · rw [if_neg z, if_neg z, B_L_law_322, B_L_law_323, chk_pos (by omega), chk_pos (by omega)]
    · rw [es, p1]
    · unfold dfT; split <;> omega
    · unfold dfT; split <;> omega)
  rw [show (((0 : Nat) : Int)) = 0 from rfl] at f
  rw [← em] at q1
  subst q1
  refine ⟨s2, _, some (I (a : Int)), some (I (b : Int)), some (I u), some (I ((b * a : Nat) : Int)), ?_, H2, Z2, (hch2.1 6 (by omega) (by omega)).trans (hch.1 6 (by omega) (by omega))⟩
  rw [B_L_law_145, if_neg (by omega), B_L_law_237, if_pos rfl, chk_pos (by omega), low_L (by omega), aBind_some, pushR_some, B_L_law_255, chk_pos (by omega), chk_pos (by omega), low_L (by omega), aBind_some, pushR_some, B_L_law_272, chk_pos (by omega), ha, hb, f, B_L_law_281, chk_pos (by omega), if_neg (by omega), B_L_law_332, Run_ex e1, aBind_some, pushR_some, B_L_law_346, if_pos rfl, Run_ex e2, aBind_some, pushR_some, B_L_law_365, if_pos rfl, B_L_law_370]
end LEVA
