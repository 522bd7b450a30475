/-! the law: runs -/
section LRUNS
variable {sc : Nat × (Nat → Int)} {g iv iv2 : Nat → Nat → Int} {O : Nat → Nat → Int} {w h n : Nat} {cs : List (Nat × Nat)} {x5 x6 x7 x8 r t c : Int} {N : Nat}
theorem cel_in (C : InvC g O w h n) {x y : Nat} (hx : x < w) (hy : y < h) : celF g (x : Int) (y : Int) = gN g x y := by
  obtain ⟨⟨⟨d1, d2, d3, d4, d5, d6⟩, -⟩, -⟩ := id C
  unfold celF
  rw [if_pos (by unfold inC; omega), gC_in d1 d2 hx hy]
theorem cel_out (C : InvC g O w h n) {x y : Int} (hx : x < 0 ∨ (w : Int) ≤ x ∨ y < 0 ∨ (h : Int) ≤ y) : celF g x y = -1 := by
  obtain ⟨⟨⟨d1, d2, d3, d4, d5, d6⟩, -⟩, -⟩ := id C
  exact if_neg (by unfold inC; omega)
/-- is the cell of the color -/
def isC (g : Nat → Nat → Int) (c : Int) (y i : Nat) : Int := if gN g i y = c then 1 else 0
theorem isC_b {y i : Nat} : 0 ≤ isC g c y i ∧ isC g c y i ≤ 1 := by unfold isC; split <;> omega
set_option maxHeartbeats 4000000 in
/-- one line of the chart -/
theorem scanRow {k y : Nat} {own : Int} (C : Cur g O w h n cs iv) (hk : k < 6) (hc : c = (k : Int) + 1) (ht : iv 3 (k + 1) = 0) (hy : y < h) (hN : N = nK (gN g) w h k) (ho : 0 ≤ own ∧ own ≤ 576) (d15 d16 d17 d18 : Option AV) : ∃ e15 e16 e17 e18, Run sc 111 49 [some (Rf 1), some (I ((w : Int))), some (I ((h : Int))), some (I r), some (I t), some (I x5), some (I x6), some (I x7), some (I x8), some (I c), some (I ((N : Int))), some (I ((nR (gN g) c w y 0 : Int))), some (I own), some (I ((y : Int))), some (I 0), d15, d16, d17, d18] [] (hq cs iv) = Run sc 111 40 [some (Rf 1), some (I ((w : Int))), some (I ((h : Int))), some (I r), some (I t), some (I x5), some (I x6), some (I x7), some (I x8), some (I c), some (I ((N : Int))), some (I ((nR (gN g) c w (y + 1) 0 : Int))), some (I (own + sumN (isC g c y) w)), some (I ((y : Int) + 1)), some (I ((w : Int))), e15, e16, e17, e18] [] (hq cs iv) := by
  obtain ⟨⟨⟨d1, d2, d3, d4, d5, d6⟩, -⟩, -⟩ := id C.1
  obtain ⟨⟨b1, b2⟩, -, -⟩ := C.1.bnd hk
  have hcp : 0 < c := by omega
  have kok := kOK (g := gN g) (w := w) (h := h) (k := k)
  rw [← hc] at kok
  have hall : allS (gN g) c w h = N := by rw [hN, hc]; rfl
  obtain ⟨s, e, q, -, qm⟩ := loop_ex (fun x (s : (Int × Int) × Option AV × Option AV × Option AV × Option AV) => Run sc 111 49 [some (Rf 1), some (I ((w : Int))), some (I ((h : Int))), some (I r), some (I t), some (I x5), some (I x6), some (I x7), some (I x8), some (I c), some (I ((N : Int))), some (I s.1.2), some (I s.1.1), some (I ((y : Int))), some (I x), s.2.1, s.2.2.1, s.2.2.2.1, s.2.2.2.2] [] (hq cs iv)) (fun x s => s.1.1 = own + sumN (isC g c y) x ∧ (0 ≤ s.1.1 ∧ s.1.1 ≤ own + x) ∧ s.1.2 = nR (gN g) c w y x) w 0 ((own, nR (gN g) c w y 0), d15, d16, d17, d18) (Nat.zero_le _) ⟨by show own = own + 0; omega, by show 0 ≤ own ∧ own ≤ own + 0; omega, rfl⟩ (fun x s _ hx hP => by
    obtain ⟨⟨o, m⟩, s15, s16, s17, s18⟩ := s
    obtain ⟨p1, ⟨p2, p3⟩, pm⟩ := hP
    dsimp only at p1 p2 p3 pm
    subst pm
    have ec := cel_in C.1 hx hy
    have en : sumN (isC g c y) (x + 1) = sumN (isC g c y) x + isC g c y x := rfl
    have ib := isC_b (g := g) (c := c) (y := y) (i := x)
    by_cases q : gN g x y = c
    · have i1 : isC g c y x = 1 := if_pos q
      by_cases f : x = 0 ∨ gN g (x - 1) y ≠ c
      · -- a run begins
        have hs : stR (gN g) c x y := ⟨q, f⟩
        have ecl : celF g ((x : Int) - 1) (y : Int) ≠ c := by
          rcases f with f | f
          · rw [cel_out C.1 (by omega)]; omega
          · by_cases z : x = 0
            · rw [cel_out C.1 (by omega)]; omega
            · rw [show (x : Int) - 1 = ((x - 1 : Nat) : Int) by omega, cel_in C.1 (by omega) hy]; exact f
        obtain ⟨l1, l2, l3⟩ := lenR_is (g := gN g) (c := c) (w := w) (y := y) (x := x) (Nat.le_of_lt hx)
        obtain ⟨v1, v2, v3⟩ := kok.2 x y hx hy hs
        have hlt := nR_lt_all hx hy hs
        rw [hall] at hlt
        generalize hL : lenR (gN g) c w x y = L at *
        have hR := nR_T (w := w) hs
        generalize hM : nR (gN g) c w y x = M at *
        obtain ⟨u, eu, -⟩ := loop_ex (fun l (_ : Unit) => Run sc 111 113 [some (Rf 1), some (I ((w : Int))), some (I ((h : Int))), some (I r), some (I t), some (I x5), some (I x6), some (I x7), some (I x8), some (I c), some (I ((N : Int))), some (I ((M : Int))), some (I (o + 1)), some (I ((y : Int))), some (I ((x : Int))), some (I 1), some (I l), s17, s18] [] (hq cs iv)) (fun _ _ => True) L 0 () (Nat.zero_le _) trivial (fun l _ _ hl _ => ⟨(), by
          rw [B_L_runs_113, chk_pos (by omega), show (x : Int) + l = ((x + l : Nat) : Int) by omega, cell_L C, cel_in C.1 (by omega) hy, aBind_some, pushR_some, B_L_runs_124, if_pos (l1 l hl), chk_pos (by omega)], trivial⟩)
        have el : celF g ((x : Int) + L) (y : Int) ≠ c := by
          by_cases z : x + L < w
          · rw [show (x : Int) + L = ((x + L : Nat) : Int) by omega, cel_in C.1 z hy]; exact l3 z
          · rw [cel_out C.1 (by omega)]; omega
        have hpl := C.pl hk ht (r := (M : Int)) (by omega)
        refine ⟨((o + 1, ((M + 1 : Nat) : Int)), some (I 1), some (I (L : Int)), s17, s18), ?_, by show o + 1 = _; rw [en, i1]; omega, by show 0 ≤ o + 1 ∧ o + 1 ≤ _; omega, by show ((M + 1 : Nat) : Int) = _; rw [hR]⟩
        dsimp only
        rw [show (((0 : Nat) : Int)) = 0 from rfl] at eu
        have hMr : ∀ what : Int, Run sc 87 0 [some (Rf 1), some (I c), some (I (M : Int)), some (I what), none] [] (hq cs iv) = some (some (I (runF g w h k (plC iv k (M : Int)) (M : Int) what)), hq cs iv) := fun what => run_L C hk hc ht
        rw [B_L_runs_49, if_pos (by omega), cell_L C, ec, aBind_some, pushR_some, B_L_runs_63, if_pos q, B_L_runs_73, if_neg (by omega), B_L_runs_87, chk_pos (by omega), if_neg (by omega), chk_pos (by omega), cell_L C, aBind_some, pushR_some, B_L_runs_105, if_neg ecl, eu, B_L_runs_113, chk_pos (by omega), cell_L C, aBind_some, pushR_some, B_L_runs_124, if_neg el, B_L_runs_135, if_pos (by omega), hMr, runF_0 (by omega), Int.toNat_natCast, v1, aBind_some, pushR_some, B_L_runs_151, if_pos rfl, hMr, runF_1 (by omega), Int.toNat_natCast, v2, aBind_some, pushR_some, B_L_runs_165, if_pos rfl, hMr, runF_2 (by omega), Int.toNat_natCast, v3, aBind_some, pushR_some, B_L_runs_179, if_pos rfl, hMr, runF_3 (by omega), aBind_some, pushR_some, B_L_runs_196, runAt_L C hk hc ht, ratF_in hpl.1 (by omega), hpl.2.2, aBind_some, pushR_some, B_L_runs_199, if_pos rfl, B_L_runs_206, chk_pos (by omega), B_L_runs_209, chk_pos (by omega)]
        rfl
      · -- a run goes on
        have f1 : x ≠ 0 := fun z => f (Or.inl z)
        have f2 : gN g (x - 1) y = c := Classical.byContradiction fun z => f (Or.inr z)
        have hs : ¬ stR (gN g) c x y := fun z => f z.2
        have hR := nR_F (w := w) hs
        refine ⟨((o + 1, (nR (gN g) c w y x : Int)), some (I 1), s16, s17, s18), ?_, by show o + 1 = _; rw [en, i1]; omega, by show 0 ≤ o + 1 ∧ o + 1 ≤ _; omega, by show (nR (gN g) c w y x : Int) = _; rw [hR]⟩
        dsimp only
        rw [B_L_runs_49, if_pos (by omega), cell_L C, ec, aBind_some, pushR_some, B_L_runs_63, if_pos q, B_L_runs_73, if_neg (by omega), B_L_runs_87, chk_pos (by omega), if_neg (by omega), chk_pos (by omega), show (x : Int) - 1 = ((x - 1 : Nat) : Int) by omega, cell_L C, cel_in C.1 (by omega) hy, aBind_some, pushR_some, B_L_runs_105, if_pos f2, B_L_runs_209, chk_pos (by omega)]
    · have i0 : isC g c y x = 0 := if_neg q
      have hs : ¬ stR (gN g) c x y := fun z => q z.1
      have hR := nR_F (w := w) hs
      refine ⟨((o + 0, (nR (gN g) c w y x : Int)), some (I 0), s16, s17, s18), ?_, by show o + 0 = _; rw [en, i0]; omega, by show 0 ≤ o + 0 ∧ o + 0 ≤ _; omega, by show (nR (gN g) c w y x : Int) = _; rw [hR]⟩
      dsimp only
      rw [B_L_runs_49, if_pos (by omega), cell_L C, ec, aBind_some, pushR_some, B_L_runs_63, if_neg q, B_L_runs_72, B_L_runs_73, if_pos rfl, B_L_runs_86, B_L_runs_87, chk_pos (by omega), if_pos rfl, B_L_runs_209, chk_pos (by omega)])
  obtain ⟨⟨o, m⟩, s15, s16, s17, s18⟩ := s
  dsimp only at q qm e
  subst qm
  refine ⟨s15, s16, s17, s18, ?_⟩
  rw [show (((0 : Nat) : Int)) = 0 from rfl] at e
  rw [e, B_L_runs_49, if_neg (by omega), B_L_runs_215, chk_pos (by omega), q]
  rfl
end LRUNS
