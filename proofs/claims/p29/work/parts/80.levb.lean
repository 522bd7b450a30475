/-! the law: the other events */ -/
section LEVB
variable {sc : Nat × (Nat → Int)} {g iv iv2 : Nat → Nat → Int} {O : Nat → Nat → Int} {w h n : Nat} {cs : List (Nat × Nat)} {A B D r t c X Y : Int} {e : Nat} {d13 d14 d15 d16 d17 : Option AV}
variable {x14 x15 x16 x17 : Option AV}
/-- what an event leaves -/
def EvE (A : Int) (w h n : Nat) (cs : List (Nat × Nat)) (x : Option AR) (G : Int → Int → Option AV → Option AV → Option AV → Option AV → List (Nat × Nat) → (Nat → Nat → Int) → Option AR) : Prop := ∃ (cs2 : List (Nat × Nat)) (iv2 : Nat → Nat → Int) (O2 : Nat → Nat → Int) (x14 x15 x16 x17 : Option AV) (r2 t2 : Int), x = G r2 t2 x14 x15 x16 x17 cs2 iv2 ∧ InvC iv2 O2 w h n ∧ Zr cs2 iv2 ∧ (iv2 6 0 = r2 ∧ iv2 6 1 = t2) ∧ cs2.length ≤ cs.length + 2 ∧ aSl cs2 ≤ aSl cs + 128
theorem EvE.same {x : Option AR} {G : Int → Int → Option AV → Option AV → Option AV → Option AV → List (Nat × Nat) → (Nat → Nat → Int) → Option AR} (e : x = G r t x14 x15 x16 x17 cs iv2) (H : InvC iv2 O w h n) (Z : Zr cs iv2) (e6 : iv2 6 = iv 6) (h6 : iv 6 0 = r ∧ iv 6 1 = t) : EvE A w h n cs x G := ⟨cs, iv2, O, x14, x15, x16, x17, r, t, e, H, Z, by rw [e6]; exact h6, by omega, by omega⟩
set_option maxHeartbeats 4000000 in
theorem evMerges_L (H : InvC iv O w h n) (hZ : Zr cs iv) (h6 : iv 6 0 = r ∧ iv 6 1 = t) : EvE A w h n cs (Run sc 0 145 [some (Rf 0), some (Rf 1), some (I A), some (I ((w : Int))), some (I ((h : Int))), some (I r), some (I t), some (I ((e : Int))), some (I B), some (I D), some (I 2), some (I X), some (I Y), d13, d14, d15, d16, d17] [(I c)] (hq cs iv)) (fun r t x14 x15 x16 x17 cs iv => Run sc 0 694 [some (Rf 0), some (Rf 1), some (I A), some (I ((w : Int))), some (I ((h : Int))), some (I r), some (I t), some (I ((e : Int))), some (I B), some (I D), some (I 2), some (I X), some (I Y), some (I c), x14, x15, x16, x17] [] (hq cs iv)) := by
  obtain ⟨iv2, O2, e1, H2, Z2, e6⟩ := merges_L (sc := sc) H hZ
  refine ⟨_, iv2, O2, d14, d15, d16, d17, r, t, ?_, H2, Z2, by rw [e6]; exact h6, by simp, by rw [aSl_app, aSl_app]; show aSl cs + 64 + 64 ≤ _; omega⟩
  rw [B_L_law_145, if_neg (by omega), B_L_law_237, if_neg (by omega), B_L_law_373, if_pos rfl, e1, aBind_some, pushR_some, B_L_law_386, if_neg (by omega)]
set_option maxHeartbeats 4000000 in
theorem evMerge_L (H : InvC iv O w h n) (hZ : Zr cs iv) (h6 : iv 6 0 = r ∧ iv 6 1 = t) : EvE A w h n cs (Run sc 0 145 [some (Rf 0), some (Rf 1), some (I A), some (I ((w : Int))), some (I ((h : Int))), some (I r), some (I t), some (I ((e : Int))), some (I B), some (I D), some (I 3), some (I X), some (I Y), d13, d14, d15, d16, d17] [(I c)] (hq cs iv)) (fun r t x14 x15 x16 x17 cs iv => Run sc 0 694 [some (Rf 0), some (Rf 1), some (I A), some (I ((w : Int))), some (I ((h : Int))), some (I r), some (I t), some (I ((e : Int))), some (I B), some (I D), some (I 3), some (I X), some (I Y), some (I c), x14, x15, x16, x17] [] (hq cs iv)) := by
  have b := lowF_b (v := D) (m := 20) (by omega)
  obtain ⟨N, hN⟩ : ∃ N : Nat, 1 + lowF D 20 = N := ⟨(1 + lowF D 20).toNat, by omega⟩
  obtain ⟨s, K, e1, q, -⟩ := merge_S (sc := sc) (N := N) H (by omega)
  have p0 : 0 ≤ sumN (mgR iv w h) K := sumN_nonneg fun j _ => (mgR_b).1
  refine EvE.same (iv2 := s) (iv := iv) (x14 := some (I (N : Int))) (x15 := some (I (sumN (mgR iv w h) K))) (x16 := d16) (x17 := d17) ?_ (q.inv H) (fun k hk j => by rw [q.1 k (by omega) (by omega) (by omega)]; exact hZ k hk j) (q.1 6 (by omega) (by omega) (by omega)) h6
  rw [B_L_law_145, if_neg (by omega), B_L_law_237, if_neg (by omega), B_L_law_373, if_neg (by omega), B_L_law_391, if_pos rfl, low_L (by omega), aBind_some, pushR_some, B_L_law_405, chk_pos (by omega), hN, Run_ex e1, aBind_some, pushR_some, B_L_law_414, if_neg (by omega), B_L_law_423]
set_option maxHeartbeats 4000000 in
theorem evThread_L (H : InvC iv O w h n) (hZ : Zr cs iv) (h6 : iv 6 0 = r ∧ iv 6 1 = t) : EvE A w h n cs (Run sc 0 145 [some (Rf 0), some (Rf 1), some (I A), some (I ((w : Int))), some (I ((h : Int))), some (I r), some (I t), some (I ((e : Int))), some (I B), some (I D), some (I 4), some (I X), some (I Y), d13, d14, d15, d16, d17] [(I c)] (hq cs iv)) (fun r t x14 x15 x16 x17 cs iv => Run sc 0 694 [some (Rf 0), some (Rf 1), some (I A), some (I ((w : Int))), some (I ((h : Int))), some (I r), some (I t), some (I ((e : Int))), some (I B), some (I D), some (I 4), some (I X), some (I Y), some (I c), x14, x15, x16, x17] [] (hq cs iv)) := by
  have b1 := lowF_b (v := D) (m := 120) (by omega)
  have b2 := lowF_b (v := D / 256) (m := 60) (by omega)
  obtain ⟨-, -, ⟨y1, y2⟩, -⟩ := id H
  obtain ⟨s, e1, H1, f, s0, s1⟩ := setThread_S (sc := sc) (a := lowF D 120) (b := lowF (D / 256) 60) H (by omega) (by omega)
  rw [h6.1, h6.2] at e1
  rw [h6.1] at y1
  rw [h6.2] at y2
  refine ⟨cs, s, O, some (I (1000 * t + r)), d15, d16, d17, _, _, ?_, H1, fun k hk j => by rw [f k (by omega)]; exact hZ k hk j, ⟨s0, s1⟩, by omega, by omega⟩
  rw [B_L_law_145, if_neg (by omega), B_L_law_237, if_neg (by omega), B_L_law_373, if_neg (by omega), B_L_law_391, if_neg (by omega), B_L_law_426, if_pos rfl, chk_pos (by omega), chk_pos (by omega), low_L (by omega), aBind_some, pushR_some, B_L_law_450, low_L (by omega), aBind_some, pushR_some, B_L_law_462, Run_ex e1, aBind_some, pushR_some, B_L_law_472, if_pos rfl, B_L_law_479]
set_option maxHeartbeats 4000000 in
theorem evOrders_L (H : InvC iv O w h n) (hZ : Zr cs iv) (h6 : iv 6 0 = r ∧ iv 6 1 = t) : EvE A w h n cs (Run sc 0 145 [some (Rf 0), some (Rf 1), some (I A), some (I ((w : Int))), some (I ((h : Int))), some (I r), some (I t), some (I ((e : Int))), some (I B), some (I D), some (I 5), some (I X), some (I Y), d13, d14, d15, d16, d17] [(I c)] (hq cs iv)) (fun r t x14 x15 x16 x17 cs iv => Run sc 0 694 [some (Rf 0), some (Rf 1), some (I A), some (I ((w : Int))), some (I ((h : Int))), some (I r), some (I t), some (I ((e : Int))), some (I B), some (I D), some (I 5), some (I X), some (I Y), some (I c), x14, x15, x16, x17] [] (hq cs iv)) := by
  have b := lowF_b (v := D) (m := 6) (by omega)
  obtain ⟨iv2, O2, e1, H2, Z2, e6⟩ := lorders_L (sc := sc) (k := (lowF D 6).toNat) (c := 1 + lowF D 6) (G := B / 16) H hZ (by omega) (by omega)
  refine EvE.same (iv2 := iv2) (iv := iv) (x14 := d14) (x15 := d15) (x16 := d16) (x17 := d17) ?_ H2 Z2 e6 h6
  rw [B_L_law_145, if_neg (by omega), B_L_law_237, if_neg (by omega), B_L_law_373, if_neg (by omega), B_L_law_391, if_neg (by omega), B_L_law_426, if_neg (by omega), B_L_law_482, if_pos rfl, low_L (by omega), aBind_some, pushR_some, B_L_law_497, chk_pos (by omega), e1, aBind_some, pushR_some, B_L_law_505, if_neg (by omega)]
set_option maxHeartbeats 4000000 in
theorem evOutlines_L (H : InvC iv O w h n) (hZ : Zr cs iv) (h6 : iv 6 0 = r ∧ iv 6 1 = t) : EvE A w h n cs (Run sc 0 145 [some (Rf 0), some (Rf 1), some (I A), some (I ((w : Int))), some (I ((h : Int))), some (I r), some (I t), some (I ((e : Int))), some (I B), some (I D), some (I 6), some (I X), some (I Y), d13, d14, d15, d16, d17] [(I c)] (hq cs iv)) (fun r t x14 x15 x16 x17 cs iv => Run sc 0 694 [some (Rf 0), some (Rf 1), some (I A), some (I ((w : Int))), some (I ((h : Int))), some (I r), some (I t), some (I ((e : Int))), some (I B), some (I D), some (I 6), some (I X), some (I Y), some (I c), x14, x15, x16, x17] [] (hq cs iv)) := by
  have b := lowF_b (v := D) (m := 6) (by omega)
  obtain ⟨iv2, e1, H2, Z2, e6⟩ := loutlines_L (sc := sc) (c := 1 + lowF D 6) H hZ (by omega)
  refine EvE.same (iv2 := iv2) (iv := iv) (x14 := d14) (x15 := d15) (x16 := d16) (x17 := d17) ?_ H2 Z2 e6 h6
  rw [B_L_law_145, if_neg (by omega), B_L_law_237, if_neg (by omega), B_L_law_373, if_neg (by omega), B_L_law_391, if_neg (by omega), B_L_law_426, if_neg (by omega), B_L_law_482, if_neg (by omega), B_L_law_510, if_pos rfl, low_L (by omega), aBind_some, pushR_some, B_L_law_529, chk_pos (by omega), e1, aBind_some, pushR_some, B_L_law_533, if_neg (by omega)]
/-- what is on a side, by its sort -/
theorem evBack_T {u on was ans now : Int} {iv2 : Nat → Nat → Int} (hon : 0 ≤ on ∧ on ≤ 1) (f1 : Run sc 93 0 [some (Rf 1), some (I X), some (I Y), some (I u), some (I on)] [] (hq cs iv) = some (some (I ans), hq cs iv2)) (f2 : Run sc 94 0 [some (Rf 1), some (I X), some (I Y), some (I u)] [] (hq cs iv2) = some (some (I now), hq cs iv2)) (ea : ans = if was = on then 0 else 1) (en : now = on) : Run sc 0 587 [some (Rf 0), some (Rf 1), some (I A), some (I ((w : Int))), some (I ((h : Int))), some (I r), some (I t), some (I ((e : Int))), some (I B), some (I D), some (I 7), some (I X), some (I Y), some (I c), some (I u), some (I was), d16, d17] [(I on)] (hq cs iv) = Run sc 0 694 [some (Rf 0), some (Rf 1), some (I A), some (I ((w : Int))), some (I ((h : Int))), some (I r), some (I t), some (I ((e : Int))), some (I B), some (I D), some (I 7), some (I X), some (I Y), some (I c), some (I u), some (I was), some (I on), d17] [] (hq cs iv2) := by
  subst en
  rw [B_L_law_587, f1, aBind_some, pushR_some, B_L_law_601]
  by_cases z : now = 0
  · subst z
    rw [if_pos rfl, B_L_law_612, B_L_law_613]
    by_cases y : was = 0
    · rw [if_pos y] at ea
      subst ea
      rw [if_pos y, B_L_law_621, if_pos rfl, f2, aBind_some, pushR_some, B_L_law_634, if_pos rfl, B_L_law_643, B_L_law_644, if_pos rfl, B_L_law_649]
    · rw [if_neg y] at ea
      subst ea
      rw [if_neg y, B_L_law_620, B_L_law_621, if_pos rfl, f2, aBind_some, pushR_some, B_L_law_634, if_pos rfl, B_L_law_643, B_L_law_644, if_pos rfl, B_L_law_649]
  · have z1 : now = 1 := by omega
    subst z1
    rw [if_neg z, B_L_law_613]
    by_cases y : was = 1
    · rw [if_pos y] at ea
      subst ea
      rw [if_pos y, B_L_law_621, if_pos rfl, f2, aBind_some, pushR_some, B_L_law_634, if_neg (by omega), B_L_law_644, if_pos rfl, B_L_law_649]
    · rw [if_neg y] at ea
      subst ea
      rw [if_neg y, B_L_law_620, B_L_law_621, if_pos rfl, f2, aBind_some, pushR_some, B_L_law_634, if_neg (by omega), B_L_law_644, if_pos rfl, B_L_law_649]
set_option maxHeartbeats 4000000 in
theorem evBack_L (H : InvC iv O w h n) (hZ : Zr cs iv) (h6 : iv 6 0 = r ∧ iv 6 1 = t) (hx : 0 ≤ X ∧ X < w) (hy : 0 ≤ Y ∧ Y < h) : EvE A w h n cs (Run sc 0 145 [some (Rf 0), some (Rf 1), some (I A), some (I ((w : Int))), some (I ((h : Int))), some (I r), some (I t), some (I ((e : Int))), some (I B), some (I D), some (I 7), some (I X), some (I Y), d13, d14, d15, d16, d17] [(I c)] (hq cs iv)) (fun r t x14 x15 x16 x17 cs iv => Run sc 0 694 [some (Rf 0), some (Rf 1), some (I A), some (I ((w : Int))), some (I ((h : Int))), some (I r), some (I t), some (I ((e : Int))), some (I B), some (I D), some (I 7), some (I X), some (I Y), some (I c), x14, x15, x16, x17] [] (hq cs iv)) := by
  have C0 : Cur iv O w h n cs iv := Cur.rf H hZ
  have onb : ∃ on : Int, (0 ≤ on ∧ on ≤ 1) ∧ ∀ (u was : Int), Run sc 0 571 [some (Rf 0), some (Rf 1), some (I A), some (I ((w : Int))), some (I ((h : Int))), some (I r), some (I t), some (I ((e : Int))), some (I B), some (I D), some (I 7), some (I X), some (I Y), some (I c), some (I u), d15, d16, d17] [(I was)] (hq cs iv) = Run sc 0 587 [some (Rf 0), some (Rf 1), some (I A), some (I ((w : Int))), some (I ((h : Int))), some (I r), some (I t), some (I ((e : Int))), some (I B), some (I D), some (I 7), some (I X), some (I Y), some (I c), some (I u), some (I was), d16, d17] [(I on)] (hq cs iv) := by
    by_cases z : 0 < D / 32 % (3 + 1)
    · exact ⟨1, by omega, fun u was => by rw [B_L_law_571, if_pos z]⟩
    · exact ⟨0, by omega, fun u was => by rw [B_L_law_571, if_neg z, B_L_law_586]⟩
  obtain ⟨on, hon, fon⟩ := onb
  have cU : inU w h X Y := by unfold inU; omega
  have cF : inF w h X Y := by unfold inF; omega
  have pre : Run sc 0 145 [some (Rf 0), some (Rf 1), some (I A), some (I ((w : Int))), some (I ((h : Int))), some (I r), some (I t), some (I ((e : Int))), some (I B), some (I D), some (I 7), some (I X), some (I Y), d13, d14, d15, d16, d17] [(I c)] (hq cs iv) = if D / 16 % (1 + 1) = 0 then Run sc 0 559 [some (Rf 0), some (Rf 1), some (I A), some (I ((w : Int))), some (I ((h : Int))), some (I r), some (I t), some (I ((e : Int))), some (I B), some (I D), some (I 7), some (I X), some (I Y), some (I c), d14, d15, d16, d17] [(I 1)] (hq cs iv) else Run sc 0 558 [some (Rf 0), some (Rf 1), some (I A), some (I ((w : Int))), some (I ((h : Int))), some (I r), some (I t), some (I ((e : Int))), some (I B), some (I D), some (I 7), some (I X), some (I Y), some (I c), d14, d15, d16, d17] [] (hq cs iv) := by
    rw [B_L_law_145, if_neg (by omega), B_L_law_237, if_neg (by omega), B_L_law_373, if_neg (by omega), B_L_law_391, if_neg (by omega), B_L_law_426, if_neg (by omega), B_L_law_482, if_neg (by omega), B_L_law_510, if_neg (by omega), B_L_law_538, if_pos rfl]
  rw [pre]
  by_cases z : D / 16 % (1 + 1) = 0
  · obtain ⟨s, e1, H1, kk, v⟩ := setBackU_S (sc := sc) (on := on) H hon cU
    have Z1 : Zr cs s := fun k hk j => by rw [kk k (by omega)]; exact hZ k hk j
    have C1 : Cur s O w h n cs s := Cur.rf H1 Z1
    have b0 : bkU iv w h X Y = iv 45 (Y * 25 + X).toNat := by unfold bkU eU; rw [if_pos cU, if_pos cU]
    have b1 : bkU s w h X Y = on := by unfold bkU eU; rw [if_pos cU, if_pos cU, v, if_pos rfl]
    have f2 := backU_L (sc := sc) (x := X) (y := Y) C1
    rw [b1] at f2
    refine EvE.same (iv2 := s) (iv := iv) (x14 := some (I 1)) (x15 := some (I (iv 45 (Y * 25 + X).toNat))) (x16 := some (I on)) (x17 := d17) ?_ H1 Z1 (kk 6 (by omega)) h6
    rw [if_pos z, B_L_law_559, backU_L C0, b0, aBind_some, pushR_some, fon]
    exact evBack_T hon (Run_ex e1) f2 rfl rfl
  · obtain ⟨s, e1, H1, kk, v⟩ := setBackF_S (sc := sc) (on := on) H hon cF
    have Z1 : Zr cs s := fun k hk j => by rw [kk k (by omega)]; exact hZ k hk j
    have C1 : Cur s O w h n cs s := Cur.rf H1 Z1
    have b0 : bkF iv w h X Y = iv 46 (Y * 25 + X).toNat := by unfold bkF eF; rw [if_pos cF, if_pos cF]
    have b1 : bkF s w h X Y = on := by unfold bkF eF; rw [if_pos cF, if_pos cF, v, if_pos rfl]
    have f2 := backF_L (sc := sc) (x := X) (y := Y) C1
    rw [b1] at f2
    refine EvE.same (iv2 := s) (iv := iv) (x14 := some (I 0)) (x15 := some (I (iv 46 (Y * 25 + X).toNat))) (x16 := some (I on)) (x17 := d17) ?_ H1 Z1 (kk 6 (by omega)) h6
    rw [if_neg z, B_L_law_558, B_L_law_559, backF_L C0, b0, aBind_some, pushR_some, fon]
    exact evBack_T hon (Run_ex e1) f2 rfl rfl
set_option maxHeartbeats 4000000 in
theorem evPages_L (H : InvC iv O w h n) (hZ : Zr cs iv) (h6 : iv 6 0 = r ∧ iv 6 1 = t) : EvE A w h n cs (Run sc 0 145 [some (Rf 0), some (Rf 1), some (I A), some (I ((w : Int))), some (I ((h : Int))), some (I r), some (I t), some (I ((e : Int))), some (I B), some (I D), some (I 8), some (I X), some (I Y), d13, d14, d15, d16, d17] [(I c)] (hq cs iv)) (fun r t x14 x15 x16 x17 cs iv => Run sc 0 694 [some (Rf 0), some (Rf 1), some (I A), some (I ((w : Int))), some (I ((h : Int))), some (I r), some (I t), some (I ((e : Int))), some (I B), some (I D), some (I 8), some (I X), some (I Y), some (I c), x14, x15, x16, x17] [] (hq cs iv)) := by
  have b1 := lowF_b (v := D) (m := 9) (by omega)
  have b2 := lowF_b (v := D / 32) (m := 6) (by omega)
  have b3 := lowF_b (v := D / 512) (m := 4) (by omega)
  obtain ⟨s, e1, H1, kk⟩ := setPages_S (sc := sc) (a := 4 + lowF D 9) (b := 4 + lowF (D / 32) 6) (c := lowF (D / 512) 4) H (by omega) (by omega) (by omega)
  have Z1 : Zr cs s := fun k hk j => by rw [kk k (by omega)]; exact hZ k hk j
  have C1 : Cur s O w h n cs s := Cur.rf H1 Z1
  refine EvE.same (iv2 := s) (iv := iv) (x14 := d14) (x15 := d15) (x16 := d16) (x17 := d17) ?_ H1 Z1 (kk 6 (by omega)) h6
  rw [B_L_law_145, if_neg (by omega), B_L_law_237, if_neg (by omega), B_L_law_373, if_neg (by omega), B_L_law_391, if_neg (by omega), B_L_law_426, if_neg (by omega), B_L_law_482, if_neg (by omega), B_L_law_510, if_neg (by omega), B_L_law_538, if_neg (by omega), B_L_law_652, low_L (by omega), aBind_some, pushR_some, B_L_law_661, chk_pos (by omega), low_L (by omega), aBind_some, pushR_some, B_L_law_672, chk_pos (by omega), low_L (by omega), aBind_some, pushR_some, B_L_law_682, Run_ex e1, aBind_some, pushR_some, B_L_law_685, pages_L C1, aBind_some, pushR_some, B_L_law_689, if_pos rfl]
end LEVB
