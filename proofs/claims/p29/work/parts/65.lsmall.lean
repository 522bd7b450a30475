/-! the law's small methods: cell, low, size, lone, at, nearest -/
theorem nearF_min {d : Nat → Int} {pl : Nat → Bool} : ∀ (n b : Nat), nearF d pl n = some b → ∀ r, r < n → pl r = false → d b ≤ d r ∧ (d r = d b → b ≤ r) := by
  intro n
  induction n with
  | zero => intro b h; cases h
  | succ n ih =>
    intro b h r hr hp
    unfold nearF at h
    cases e : nearF d pl n with
    | none =>
      rw [e] at h
      dsimp only at h
      have hn := nearF_none e
      by_cases q : r = n
      · subst q
        rw [hp] at h
        have : b = r := by
          by_cases z : (false : Bool) = true
          · cases z
          · rw [if_neg z] at h; cases h; rfl
        subst this
        exact ⟨Int.le_refl _, fun _ => Nat.le_refl _⟩
      · have := hn r (by omega)
        rw [hp] at this
        cases this
    | some b0 =>
      rw [e] at h
      dsimp only at h
      by_cases q : pl n = true
      · rw [if_pos q] at h
        cases h
        by_cases z : r = n
        · subst z; rw [hp] at q; cases q
        · exact ih b e r (by omega) hp
      · rw [if_neg q] at h
        have h0 := nearF_lt e
        by_cases z : d n < d b0
        · rw [if_pos z] at h
          cases h
          by_cases y : r = n
          · subst y; exact ⟨Int.le_refl _, fun _ => Nat.le_refl _⟩
          · have := ih _ e r (by omega) hp
            exact ⟨by omega, fun y => by omega⟩
        · rw [if_neg z] at h
          cases h
          by_cases y : r = n
          · subst y; exact ⟨by omega, fun _ => by omega⟩
          · exact ih _ e r (by omega) hp
/-- in the first order, the next run is the nearest, the lowest of them -/
theorem foO_min {n : Nat} {X Y : Nat → Int} {i j : Nat} (hi : 0 < i) (hij : i < j) (hj : j < n) : wayF X Y (foO n X Y (i - 1)) (foO n X Y i) ≤ wayF X Y (foO n X Y (i - 1)) (foO n X Y j) ∧ (wayF X Y (foO n X Y (i - 1)) (foO n X Y j) = wayF X Y (foO n X Y (i - 1)) (foO n X Y i) → foO n X Y i ≤ foO n X Y j) := by
  obtain ⟨-, -, h3, -⟩ := foO_ok (X := X) (Y := Y) (show i < n by omega)
  have h4 := h3 (by omega)
  have e1 : (foS n X Y i).1 = foO n X Y (i - 1) := by
    obtain ⟨m, rfl⟩ : ∃ m, i = m + 1 := ⟨i - 1, by omega⟩
    rfl
  rw [e1] at h4
  have hp : (foS n X Y i).2 (foO n X Y j) = false := by
    cases e : (foS n X Y i).2 (foO n X Y j) with
    | false => rfl
    | true =>
      obtain ⟨p, hp1, hp2⟩ := (foS_placed i).mp e
      have := foO_inj (show p < n by omega) hj hp2
      omega
  exact nearF_min n _ h4 _ (foO_ok hj).1 hp
section LSMALL
variable {sc : Nat × (Nat → Int)} {g iv iv2 : Nat → Nat → Int} {O : Nat → Nat → Int} {w h n : Nat} {cs : List (Nat × Nat)}
def lowF (v m : Int) : Int := (v % (2147483647 + 1)) % m
theorem lowF_b {v m : Int} (hm : 1 ≤ m) : 0 ≤ lowF v m ∧ lowF v m < m := ⟨Int.emod_nonneg _ (by omega), Int.emod_lt_of_pos _ (by omega)⟩
theorem low_L {v m : Int} (hm : 1 ≤ m ∧ m ≤ 2147483647) : Run sc 109 0 [some (I v), some (I m)] [] (hq cs iv) = some (some (I (lowF v m)), hq cs iv) := by
  rw [B_L_low_0, bck_pos hm, bck_pos (by omega)]
  rfl
theorem size_L {v : Int} (hv : -10000 ≤ v ∧ v ≤ 10000) : Run sc 110 0 [some (I v)] [] (hq cs iv) = some (some (I (absI v)), hq cs iv) := by
  unfold absI
  by_cases c : v < 0
  · rw [B_L_size_0, if_pos c, chk_pos (by omega), B_L_size_10, if_neg (by omega), show -v = 0 - v by omega]
  · rw [B_L_size_0, if_neg c, B_L_size_9, B_L_size_10, if_pos (by omega)]
/-- the int of the script that the law reads -/
def scF (sc : Nat × (Nat → Int)) (k : Int) : Int := if k < sc.1 then sc.2 k.toNat else 5710007 * k + 2203
theorem cellS_L {k : Int} (hk : 0 ≤ k ∧ k ≤ 300) : Run sc 108 0 [some (Rf 0), some (I k)] [] (hq cs iv) = some (some (I (scF sc k)), hq cs iv) := by
  unfold scF
  by_cases c : k < sc.1
  · rw [if_pos c, B_L_cell_0, if_pos c, bck_pos (by omega), B_L_cell_20]
  · rw [if_neg c, B_L_cell_0, if_neg c, B_L_cell_12, chk_pos (by omega), chk_pos (by omega), B_L_cell_20]
theorem gC_bd (C : InvC g O w h n) (x y : Int) : 0 ≤ gC g x y ∧ gC g x y ≤ 6 := by
  obtain ⟨⟨⟨d1, d2, d3, d4, d5, d6⟩, a3⟩, -⟩ := id C
  exact gC_b d1 d4 d2 d6 a3
set_option maxHeartbeats 1000000 in
theorem lone_L {x y : Int} (C : Cur g O w h n cs iv) (hin : inC g x y) : Run sc 113 0 [some (Rf 1), some (I x), some (I y), none, none] [] (hq cs iv) = some (some (I (lonI g x y)), hq cs iv) := by
  obtain ⟨⟨⟨d1, d2, d3, d4, d5, d6⟩, a3⟩, -⟩ := id C.1
  have hin2 := hin
  unfold inC at hin2
  have hb := gC_bd C.1 x y
  have ec : celF g x y = gC g x y := if_pos hin
  rw [B_L_lone_0, cell_L C, aBind_some, pushR_some, ec, B_L_lone_6]
  unfold lonI nbr
  generalize hc : gC g x y = c at hb
  have key : ∀ dx dy : Int, 0 < c → (celF g (x + dx) (y + dy) = c ↔ nT g x y c dx dy = 1) := fun dx dy h0 => by
    unfold celF nT
    by_cases z : inC g (x + dx) (y + dy)
    · rw [if_pos z]
      by_cases q : gC g (x + dx) (y + dy) = c
      · rw [if_pos q]; exact ⟨fun _ => rfl, fun _ => q⟩
      · rw [if_neg q]; exact ⟨fun k => absurd k q, fun k => by omega⟩
    · rw [if_neg z, gC_out z, if_neg (by omega)]
      exact ⟨fun k => by omega, fun k => by omega⟩
  have st : ∀ k dx dy : Int, (0 ≤ k ∧ k < 9) → k ≠ 4 → x + k % 3 - 1 = x + dx → y + k / 3 - 1 = y + dy → Run sc 113 10 [some (Rf 1), some (I x), some (I y), some (I c), some (I k)] [] (hq cs iv) = if 0 < c ∧ nT g x y c dx dy = 1 then some (some (I 0), hq cs iv) else Run sc 113 10 [some (Rf 1), some (I x), some (I y), some (I c), some (I (k + 1))] [] (hq cs iv) := fun k dx dy hk h4 e1 e2 => by
    rw [B_L_lone_10, if_pos (by omega), if_neg h4]
    by_cases h0 : 0 < c
    · rw [if_pos h0, bck_pos (by omega), bck_pos (by omega), chk_pos (by omega), chk_pos (by omega), bck_pos (by omega), bck_pos (by omega), chk_pos (by omega), chk_pos (by omega), e1, e2, cell_L C, aBind_some, pushR_some, B_L_lone_47]
      by_cases q : nT g x y c dx dy = 1
      · rw [if_pos ((key dx dy h0).mpr q), if_pos ⟨h0, q⟩]
      · rw [if_neg (fun z => q ((key dx dy h0).mp z)), if_neg (fun z => q z.2), B_L_lone_53, chk_pos (by omega)]
    · rw [if_neg h0, if_neg (fun z => h0 z.1), B_L_lone_53, chk_pos (by omega)]
  have s4 : Run sc 113 10 [some (Rf 1), some (I x), some (I y), some (I c), some (I 4)] [] (hq cs iv) = Run sc 113 10 [some (Rf 1), some (I x), some (I y), some (I c), some (I 5)] [] (hq cs iv) := by
    rw [B_L_lone_10, if_pos (by omega), if_pos rfl, B_L_lone_53, chk_pos (by omega)]
    rfl
  have fin : Run sc 113 10 [some (Rf 1), some (I x), some (I y), some (I c), some (I 9)] [] (hq cs iv) = some (some (I (if 0 < c then 1 else 0)), hq cs iv) := by
    rw [B_L_lone_10, if_neg (by omega), B_L_lone_59]
    by_cases h0 : 0 < c
    · rw [if_pos h0, if_pos h0, B_L_lone_68]
    · rw [if_neg h0, if_neg h0, B_L_lone_67, B_L_lone_68]
  rw [st 0 (-1) (-1) (by omega) (by omega) (by omega) (by omega), show (0 : Int) + 1 = 1 from rfl, st 1 0 (-1) (by omega) (by omega) (by omega) (by omega), show (1 : Int) + 1 = 2 from rfl, st 2 1 (-1) (by omega) (by omega) (by omega) (by omega), show (2 : Int) + 1 = 3 from rfl, st 3 (-1) 0 (by omega) (by omega) (by omega) (by omega), show (3 : Int) + 1 = 4 from rfl, s4, st 5 1 0 (by omega) (by omega) (by omega) (by omega), show (5 : Int) + 1 = 6 from rfl, st 6 (-1) 1 (by omega) (by omega) (by omega) (by omega), show (6 : Int) + 1 = 7 from rfl, st 7 0 1 (by omega) (by omega) (by omega) (by omega), show (7 : Int) + 1 = 8 from rfl, st 8 1 1 (by omega) (by omega) (by omega) (by omega), show (8 : Int) + 1 = 9 from rfl, fin]
  have b1 := nT_b (iv := g) (x := x) (y := y) (c := c) (dx := -1) (dy := -1)
  have b2 := nT_b (iv := g) (x := x) (y := y) (c := c) (dx := 0) (dy := -1)
  have b3 := nT_b (iv := g) (x := x) (y := y) (c := c) (dx := 1) (dy := -1)
  have b4 := nT_b (iv := g) (x := x) (y := y) (c := c) (dx := -1) (dy := 0)
  have b5 := nT_b (iv := g) (x := x) (y := y) (c := c) (dx := 1) (dy := 0)
  have b6 := nT_b (iv := g) (x := x) (y := y) (c := c) (dx := -1) (dy := 1)
  have b7 := nT_b (iv := g) (x := x) (y := y) (c := c) (dx := 0) (dy := 1)
  have b8 := nT_b (iv := g) (x := x) (y := y) (c := c) (dx := 1) (dy := 1)
  generalize nT g x y c (-1) (-1) = t1 at *
  generalize nT g x y c 0 (-1) = t2 at *
  generalize nT g x y c 1 (-1) = t3 at *
  generalize nT g x y c (-1) 0 = t4 at *
  generalize nT g x y c 1 0 = t5 at *
  generalize nT g x y c (-1) 1 = t6 at *
  generalize nT g x y c 0 1 = t7 at *
  generalize nT g x y c 1 1 = t8 at *
  by_cases h0 : c = 0
  · rw [if_pos h0, if_neg (by omega), if_neg (by omega), if_neg (by omega), if_neg (by omega), if_neg (by omega), if_neg (by omega), if_neg (by omega), if_neg (by omega), if_neg (by omega)]
  · rw [if_neg h0]
    by_cases q1 : t1 = 1
    · rw [if_pos ⟨by omega, q1⟩, if_neg (by omega)]
    rw [if_neg (fun z => q1 z.2)]
    by_cases q2 : t2 = 1
    · rw [if_pos ⟨by omega, q2⟩, if_neg (by omega)]
    rw [if_neg (fun z => q2 z.2)]
    by_cases q3 : t3 = 1
    · rw [if_pos ⟨by omega, q3⟩, if_neg (by omega)]
    rw [if_neg (fun z => q3 z.2)]
    by_cases q4 : t4 = 1
    · rw [if_pos ⟨by omega, q4⟩, if_neg (by omega)]
    rw [if_neg (fun z => q4 z.2)]
    by_cases q5 : t5 = 1
    · rw [if_pos ⟨by omega, q5⟩, if_neg (by omega)]
    rw [if_neg (fun z => q5 z.2)]
    by_cases q6 : t6 = 1
    · rw [if_pos ⟨by omega, q6⟩, if_neg (by omega)]
    rw [if_neg (fun z => q6 z.2)]
    by_cases q7 : t7 = 1
    · rw [if_pos ⟨by omega, q7⟩, if_neg (by omega)]
    rw [if_neg (fun z => q7 z.2)]
    by_cases q8 : t8 = 1
    · rw [if_pos ⟨by omega, q8⟩, if_neg (by omega)]
    rw [if_neg (fun z => q8 z.2), if_pos (by omega), if_pos (by omega)]
theorem bk_e (C : InvC g O w h n) (x y : Int) : (bkU g w h x y = 1 ↔ eU w h (g 45) x y = 1) ∧ (bkF g w h x y = 1 ↔ eF w h (g 46) x y = 1) ∧ (0 ≤ eU w h (g 45) x y ∧ eU w h (g 45) x y ≤ 1) ∧ 0 ≤ eF w h (g 46) x y ∧ eF w h (g 46) x y ≤ 1 := by
  obtain ⟨⟨⟨d1, d2, d3, d4, d5, d6⟩, -⟩, -, -, ⟨hU, hF, -⟩, -⟩ := id C
  refine ⟨?_, ?_, eU_b hU (by omega) (by omega), eF_b hF (by omega) (by omega)⟩
  · unfold bkU eU
    by_cases z : inU w h x y
    · rw [if_pos z]
    · rw [if_neg z, if_neg z]; exact ⟨fun k => by omega, fun k => by omega⟩
  · unfold bkF eF
    by_cases z : inF w h x y
    · rw [if_pos z]
    · rw [if_neg z, if_neg z]; exact ⟨fun k => by omega, fun k => by omega⟩
theorem at_L {x y : Int} (C : Cur g O w h n cs iv) (hx : -100 ≤ x ∧ x ≤ 100) (hy : -100 ≤ y ∧ y ≤ 100) : Run sc 116 0 [some (Rf 1), some (I x), some (I y), none] [] (hq cs iv) = some (some (I (ptF w h (g 45) (g 46) x y)), hq cs iv) := by
  obtain ⟨a1, a2, a3, a4⟩ := bk_e C.1 x y
  obtain ⟨b1, -, b3, -⟩ := bk_e C.1 x (y - 1)
  obtain ⟨-, c2, -, c4⟩ := bk_e C.1 (x - 1) y
  have e1 : ∀ d3 : Option AV, (if bkU g w h x y = 1 then Run sc 116 16 [some (Rf 1), some (I x), some (I y), d3] [(I 1)] (hq cs iv) else Run sc 116 15 [some (Rf 1), some (I x), some (I y), d3] [] (hq cs iv)) = Run sc 116 16 [some (Rf 1), some (I x), some (I y), d3] [(I (eU w h (g 45) x y))] (hq cs iv) := fun d3 => by
    by_cases z : bkU g w h x y = 1
    · rw [if_pos z, a1.mp z]
    · rw [if_neg z, B_L_at_15, show eU w h (g 45) x y = 0 by have := fun q => z (a1.mpr q); omega]
  have e2 : ∀ s d3, (if bkF g w h x y = 1 then Run sc 116 34 [some (Rf 1), some (I x), some (I y), some (I d3)] [(I 1), (I s)] (hq cs iv) else Run sc 116 33 [some (Rf 1), some (I x), some (I y), some (I d3)] [(I s)] (hq cs iv)) = Run sc 116 34 [some (Rf 1), some (I x), some (I y), some (I d3)] [(I (eF w h (g 46) x y)), (I s)] (hq cs iv) := fun s d3 => by
    by_cases z : bkF g w h x y = 1
    · rw [if_pos z, a2.mp z]
    · rw [if_neg z, B_L_at_33, show eF w h (g 46) x y = 0 by have := fun q => z (a2.mpr q); omega]
  have e3 : ∀ s d3, (if bkU g w h x (y - 1) = 1 then Run sc 116 55 [some (Rf 1), some (I x), some (I y), some (I d3)] [(I 1), (I s)] (hq cs iv) else Run sc 116 54 [some (Rf 1), some (I x), some (I y), some (I d3)] [(I s)] (hq cs iv)) = Run sc 116 55 [some (Rf 1), some (I x), some (I y), some (I d3)] [(I (eU w h (g 45) x (y - 1))), (I s)] (hq cs iv) := fun s d3 => by
    by_cases z : bkU g w h x (y - 1) = 1
    · rw [if_pos z, b1.mp z]
    · rw [if_neg z, B_L_at_54, show eU w h (g 45) x (y - 1) = 0 by have := fun q => z (b1.mpr q); omega]
  have e4 : ∀ s d3, (if bkF g w h (x - 1) y = 1 then Run sc 116 76 [some (Rf 1), some (I x), some (I y), some (I d3)] [(I 1), (I s)] (hq cs iv) else Run sc 116 75 [some (Rf 1), some (I x), some (I y), some (I d3)] [(I s)] (hq cs iv)) = Run sc 116 76 [some (Rf 1), some (I x), some (I y), some (I d3)] [(I (eF w h (g 46) (x - 1) y)), (I s)] (hq cs iv) := fun s d3 => by
    by_cases z : bkF g w h (x - 1) y = 1
    · rw [if_pos z, c2.mp z]
    · rw [if_neg z, B_L_at_75, show eF w h (g 46) (x - 1) y = 0 by have := fun q => z (c2.mpr q); omega]
  rw [B_L_at_0, backU_L C, aBind_some, pushR_some, B_L_at_7, e1, B_L_at_16, backF_L C, aBind_some, pushR_some, B_L_at_25, e2, B_L_at_34, chk_pos (by omega), chk_pos (by omega), backU_L C, aBind_some, pushR_some, B_L_at_46, e3, B_L_at_55, chk_pos (by omega), chk_pos (by omega), backF_L C, aBind_some, pushR_some, B_L_at_67, e4, B_L_at_76, chk_pos (by omega)]
  unfold ptF
  congr 4
  omega
end LSMALL
