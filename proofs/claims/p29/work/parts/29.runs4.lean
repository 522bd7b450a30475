/-! StitchChart$ColorRuns: runs found -/
section RUNS4
variable {sc : Nat × (Nat → Int)} {iv : Nat → Nat → Int}
theorem lenR_is {g : Nat → Nat → Int} {c : Int} {w x y : Nat} (hx : x ≤ w) : IsLenTo g c x y (lenR g c w x y) w := by
  unfold lenR
  have key : ∀ f x, x + f = w → IsLenTo g c x y (lfR g c y f x) w := by
    intro f
    induction f with
    | zero => intro x hx; exact ⟨fun i hi => absurd hi (Nat.not_lt_zero _), by show x + 0 ≤ w; omega, fun q => by have : x + 0 < w := q; omega⟩
    | succ f ih =>
      intro x hx
      show IsLenTo g c x y (if g x y = c then 1 + lfR g c y f (x + 1) else 0) w
      by_cases q : g x y = c
      · rw [if_pos q]
        obtain ⟨a1, a2, a3⟩ := ih (x + 1) (by omega)
        refine ⟨fun i hi => ?_, by omega, fun z => ?_⟩
        · by_cases e : i = 0
          · rw [e]; exact q
          · have := a1 (i - 1) (by omega)
            rwa [show x + 1 + (i - 1) = x + i by omega] at this
        · have := a3 (by omega)
          rwa [show x + 1 + lfR g c y f (x + 1) = x + (1 + lfR g c y f (x + 1)) by omega] at this
      · rw [if_neg q]; exact ⟨fun i hi => absurd hi (Nat.not_lt_zero _), by omega, fun _ => q⟩
  exact key (w - x) x (by omega)
def OnlyR (iv iv2 : Nat → Nat → Int) (k : Nat) : Prop := (∀ j, j ≠ 8 + 6 * k → j ≠ 9 + 6 * k → j ≠ 10 + 6 * k → j ≠ 11 + 6 * k → iv2 j = iv j) ∧ ∀ f, f ≠ 3 → iv2 (8 + 6 * k) f = iv (8 + 6 * k) f
theorem OnlyR.rf {k : Nat} : OnlyR iv iv k := ⟨fun _ _ _ _ _ => rfl, fun _ _ => rfl⟩
theorem OnlyR.tr {iv iv2 iv3 : Nat → Nat → Int} {k : Nat} (h : OnlyR iv iv2 k) (h2 : OnlyR iv2 iv3 k) : OnlyR iv iv3 k := ⟨fun j a b c d => (h2.1 j a b c d).trans (h.1 j a b c d), fun f a => (h2.2 f a).trans (h.2 f a)⟩
/-- the colors of the cells, as plain numbers -/
def gN (iv : Nat → Nat → Int) (x y : Nat) : Int := iv 4 (y * 24 + x)
theorem gC_in {w h x y : Nat} (hw : iv 2 0 = w) (hh : iv 2 1 = h) (hx : x < w) (hy : y < h) : gC iv x y = gN iv x y := by
  unfold gC gN
  rw [if_pos (by unfold inC; omega), show ((y : Int) * 24 + x).toNat = y * 24 + x by omega]
theorem gC_out {x y : Int} (h : ¬ inC iv x y) : gC iv x y = 0 := by unfold gC; rw [if_neg h]
theorem gC_left {w h x y : Nat} {c : Int} (hw : iv 2 0 = w) (hh : iv 2 1 = h) (hx : x < w) (hy : y < h) (hc : 0 < c) : gC iv ((x : Int) - 1) y ≠ c ↔ (x = 0 ∨ gN iv (x - 1) y ≠ c) := by
  by_cases e : x = 0
  · rw [gC_out (by unfold inC; omega)]
    exact ⟨fun _ => Or.inl e, fun _ => by omega⟩
  · rw [show (x : Int) - 1 = ((x - 1 : Nat) : Int) by omega, gC_in hw hh (by omega) hy]
    exact ⟨fun q => Or.inr q, fun q => by rcases q with q | q; exact absurd q e; exact q⟩
set_option maxHeartbeats 1000000 in
theorem addRun_S {k n w h x y : Nat} (hk : k < 6) (hw : iv 2 0 = w) (hh : iv 2 1 = h) (hw2 : w ≤ 24) (hh2 : h ≤ 24) (hc : iv (8 + 6 * k) 2 = (k : Int) + 1) (hn : iv (8 + 6 * k) 3 = n) (hn2 : n < 288) (hx : x < w) (hy : y < h) (hg : gN iv x y = (k : Int) + 1) :
    ∃ iv2, Run sc 32 0 [some (Rf (8 + 6 * k)), some (I x), some (I y), none] [] (hp iv) = some (none, hp iv2) ∧ OnlyR iv iv2 k ∧ iv2 (8 + 6 * k) 3 = ((n + 1 : Nat) : Int) ∧ iv2 (9 + 6 * k) = upI (iv (9 + 6 * k)) n x ∧ iv2 (10 + 6 * k) = upI (iv (10 + 6 * k)) n y ∧ iv2 (11 + 6 * k) = upI (iv (11 + 6 * k)) n (lenR (gN iv) ((k : Int) + 1) w x y) := by
  have hi := lenR_is (g := gN iv) (c := (k : Int) + 1) (w := w) (x := x) (y := y) (by omega)
  have hl1 := lenR_in (g := gN iv) (y := y) hx hg
  generalize lenR (gN iv) ((k : Int) + 1) w x y = l at *
  obtain ⟨a1, a2, a3⟩ := hi
  rw [B_X2_addRun_0 _ _ _ hk, ite_F (by omega), ite_T (by omega), B_X2_addRun_18 _ _ _ hk]
  have lp : Run sc 32 20 [some (Rf (8 + 6 * k)), some (I x), some (I y), some (I 1)] [] (hp iv) = Run sc 32 50 [some (Rf (8 + 6 * k)), some (I x), some (I y), some (I l)] [] (hp iv) := by
    obtain ⟨s, e, -⟩ := loop_ex (fun i (_ : Unit) => Run sc 32 20 [some (Rf (8 + 6 * k)), some (I x), some (I y), some (I i)] [] (hp iv)) (fun _ _ => True) l 1 () (by omega) trivial (fun i _ hi1 hi _ => by
      refine ⟨(), ?_, trivial⟩
      show Run sc 32 20 [some (Rf (8 + 6 * k)), some (I x), some (I y), some (I i)] [] (hp iv) = _
      rw [B_X2_addRun_20 _ _ _ hk, ite_T (by omega), chk_pos (by omega), colorAt_S (by omega) (by omega), aBind_some, pushR_some, B_X2_addRun_37 _ _ _ hk, show ((x : Int) + i) = ((x + i : Nat) : Int) by omega, gC_in hw hh (by omega) hy, ite_T (by rw [a1 i hi, hc]), chk_pos (by omega)])
    refine (show _ = _ from e).trans ?_
    show Run sc 32 20 [some (Rf (8 + 6 * k)), some (I x), some (I y), some (I l)] [] (hp iv) = _
    rw [B_X2_addRun_20 _ _ _ hk]
    by_cases q : l < 24
    · rw [ite_T (by omega), chk_pos (by omega), colorAt_S (by omega) (by omega), aBind_some, pushR_some, B_X2_addRun_37 _ _ _ hk, ite_F]
      rw [hc]
      by_cases q2 : x + l < w
      · rw [show ((x : Int) + l) = ((x + l : Nat) : Int) by omega, gC_in hw hh (by omega) hy]
        exact a3 q2
      · rw [gC_out (by unfold inC; omega)]; omega
    · rw [ite_F (by omega)]
  rw [lp, B_X2_addRun_50 _ _ _ hk, bck_pos (by omega), bck_pos (by omega), B_X2_addRun_60 _ _ _ hk]
  rw [setO_ne (show 8 + 6 * k ≠ 9 + 6 * k by omega), bck_pos (by omega), bck_pos (by omega), B_X2_addRun_70 _ _ _ hk, setO_ne (show 8 + 6 * k ≠ 10 + 6 * k by omega), setO_ne (show 8 + 6 * k ≠ 9 + 6 * k by omega), bck_pos (by omega), bck_pos (by omega), B_X2_addRun_80 _ _ _ hk, setO_ne (show 8 + 6 * k ≠ 11 + 6 * k by omega), setO_ne (show 8 + 6 * k ≠ 10 + 6 * k by omega), setO_ne (show 8 + 6 * k ≠ 9 + 6 * k by omega), chk_pos (by omega), bck_pos (by omega), B_X2_addRun_90 _ _ _ hk, hn, Int.toNat_natCast]
  refine ⟨_, rfl, ⟨fun j b1 b2 b3 b4 => ?_, fun f b => ?_⟩, ?_, ?_, ?_, ?_⟩
  · rw [setO_ne b1, setO_ne b4, setO_ne b3, setO_ne b2]
  · rw [setO_same, upI_ne b]
  · rw [setO_same, upI_same]; omega
  · rw [setO_ne (by omega), setO_ne (by omega), setO_ne (by omega), setO_same]
  · rw [setO_ne (by omega), setO_ne (by omega), setO_same, setO_ne (by omega)]
  · rw [setO_ne (by omega), setO_same, setO_ne (by omega), setO_ne (by omega)]
/-- the runs of a color before a cell stand in the rows -/
def RunsTo (g : Nat → Nat → Int) (c : Int) (w y x : Nat) (X Y L : Nat → Int) : Prop := ∀ x2 y2, x2 < w → (y2 < y ∨ (y2 = y ∧ x2 < x)) → stR g c x2 y2 → X (nR g c w y2 x2) = x2 ∧ Y (nR g c w y2 x2) = y2 ∧ L (nR g c w y2 x2) = lenR g c w x2 y2
theorem RunsTo.skip {g : Nat → Nat → Int} {c : Int} {w y x : Nat} {X Y L : Nat → Int} (H : RunsTo g c w y x X Y L) (hs : ¬ stR g c x y) : RunsTo g c w y (x + 1) X Y L := by
  intro x2 y2 h1 h2 h3
  by_cases q : x2 = x ∧ y2 = y
  · rw [q.1, q.2] at h3; exact absurd h3 hs
  · exact H x2 y2 h1 (by omega) h3
theorem RunsTo.add {g : Nat → Nat → Int} {c : Int} {w y x : Nat} {X Y L : Nat → Int} (H : RunsTo g c w y x X Y L) (hx : x < w) (hs : stR g c x y) : RunsTo g c w y (x + 1) (upI X (nR g c w y x) x) (upI Y (nR g c w y x) y) (upI L (nR g c w y x) (lenR g c w x y)) := by
  intro x2 y2 h1 h2 h3
  by_cases q : x2 = x ∧ y2 = y
  · rw [q.1, q.2, upI_same, upI_same, upI_same]; exact ⟨rfl, rfl, rfl⟩
  · have ne : nR g c w y2 x2 ≠ nR g c w y x := fun e => by
      obtain ⟨z1, z2⟩ := nR_inj (w := w) h1 hx h3 hs e
      exact q ⟨z1, z2⟩
    rw [upI_ne ne, upI_ne ne, upI_ne ne]
    exact H x2 y2 h1 (by omega) h3
theorem RunsTo.row {g : Nat → Nat → Int} {c : Int} {w y : Nat} {X Y L : Nat → Int} (H : RunsTo g c w y w X Y L) : RunsTo g c w (y + 1) 0 X Y L := fun x2 y2 h1 h2 h3 => H x2 y2 h1 (by omega) h3
set_option maxHeartbeats 2000000 in
theorem findRuns_S {k w h : Nat} {d1 d2 : Option AV} (hk : k < 6) (hw : iv 2 0 = w) (hh : iv 2 1 = h) (hw2 : w ≤ 24) (hh2 : h ≤ 24) (hc : iv (8 + 6 * k) 2 = (k : Int) + 1) :
    ∃ iv2 n, Run sc 31 0 [some (Rf (8 + 6 * k)), none, none] [] (hp iv) = some (none, hp iv2) ∧ OnlyR iv iv2 k ∧ iv2 (8 + 6 * k) 3 = ((n : Nat) : Int) ∧ RunsOK (gN iv) ((k : Int) + 1) w h n (iv2 (9 + 6 * k)) (iv2 (10 + 6 * k)) (iv2 (11 + 6 * k)) := by
  rw [B_X2_findRuns_0 _ _ _ hk, bck_pos (by omega), B_X2_findRuns_5 _ _ _ hk]
  let c : Int := (k : Int) + 1
  let In : Nat → Nat → (Nat → Nat → Int) → Prop := fun y x s => OnlyR iv s k ∧ s (8 + 6 * k) 3 = ((nR (gN iv) c w y x : Nat) : Int) ∧ RunsTo (gN iv) c w y x (s (9 + 6 * k)) (s (10 + 6 * k)) (s (11 + 6 * k))
  have In0 : In 0 0 (setO iv (8 + 6 * k) (upI (iv (8 + 6 * k)) 3 0)) := by
    refine ⟨⟨fun j b1 b2 b3 b4 => by rw [setO_ne b1], fun f b => by rw [setO_same, upI_ne b]⟩, by rw [setO_same, upI_same]; rfl, fun x2 y2 h1 h2 h3 => by omega⟩
  have hgn : ∀ s, OnlyR iv s k → gN s = gN iv := fun s a => by funext x y; unfold gN; rw [a.1 4 (by omega) (by omega) (by omega) (by omega)]
  obtain ⟨s, e, g1⟩ := loop_ex (fun y (s : (Option AV) × (Nat → Nat → Int)) => Run sc 31 7 [some (Rf (8 + 6 * k)), some (I y), s.1] [] (hp s.2)) (fun y s => In y 0 s.2) h 0 (none, setO iv (8 + 6 * k) (upI (iv (8 + 6 * k)) 3 0)) (Nat.zero_le _) In0 (fun y s _ hy hP => by
    obtain ⟨d, s0⟩ := s
    have hP : In y 0 s0 := hP
    have d1 : s0 2 1 = h := by rw [hP.1.1 2 (by omega) (by omega) (by omega) (by omega)]; exact hh
    obtain ⟨t, e2, g2⟩ := loop_ex (fun x (s : Nat → Nat → Int) => Run sc 31 20 [some (Rf (8 + 6 * k)), some (I y), some (I x)] [] (hp s)) (fun x s => In y x s) w 0 s0 (Nat.zero_le _) hP (fun x s _ hx hP => by
      obtain ⟨b1, b2, b3⟩ := hP
      have f2 := b1.1 2 (by omega) (by omega) (by omega) (by omega)
      have q1 : s 2 0 = w := by rw [f2]; exact hw
      have q2 : s 2 1 = h := by rw [f2]; exact hh
      have q3 : s (8 + 6 * k) 2 = (k : Int) + 1 := by rw [b1.2 2 (by omega)]; exact hc
      have hgs := hgn s b1
      have hln : (nR (gN iv) c w y x : Nat) < 288 ∨ ¬ stR (gN iv) c x y := by
        by_cases z : stR (gN iv) c x y
        · left
          have := nR_lt_all (w := w) (h := h) hx hy z
          have := allS_b (g := gN iv) (c := c) hw2 h
          omega
        · exact Or.inr z
      have ec : gC s x y = gN iv x y := by rw [gC_in q1 q2 hx hy, hgs]
      have el := gC_left (c := c) q1 q2 hx hy (by show 0 < (k : Int) + 1; omega)
      rw [hgs] at el
      have e20 : Run sc 31 20 [some (Rf (8 + 6 * k)), some (I y), some (I x)] [] (hp s) = Run sc 31 40 [some (Rf (8 + 6 * k)), some (I y), some (I x)] [I (gN iv x y)] (hp s) := by
        rw [B_X2_findRuns_20 _ _ _ hk, ite_T (by omega), colorAt_S (by omega) (by omega), aBind_some, pushR_some, ec]
      show ∃ s', Run sc 31 20 [some (Rf (8 + 6 * k)), some (I y), some (I x)] [] (hp s) = Run sc 31 20 [some (Rf (8 + 6 * k)), some (I y), some (I ((x + 1 : Nat) : Int))] [] (hp s') ∧ _
      by_cases z : gN iv x y = c
      · by_cases z2 : gC s ((x : Int) - 1) y = c
        · have ns : ¬ stR (gN iv) c x y := fun q => (el.mpr q.2) z2
          refine ⟨s, ?_, b1, by rw [nR_F ns]; exact b2, b3.skip ns⟩
          rw [e20, B_X2_findRuns_40 _ _ _ hk, ite_T (by rw [q3]; exact z), chk_pos (by omega), colorAt_S (by omega) (by omega), aBind_some, pushR_some, B_X2_findRuns_58 _ _ _ hk, ite_T (by rw [q3]; exact z2), B_X2_findRuns_71 _ _ _ hk, chk_pos (by omega)]
          rfl
        · have hs : stR (gN iv) c x y := ⟨z, el.mp z2⟩
          obtain ⟨s2, e3, c1, c2, c3, c4, c5⟩ := addRun_S (sc := sc) (iv := s) (x := x) (y := y) hk q1 q2 hw2 hh2 q3 b2 (by rcases hln with p | p; exact p; exact absurd hs p) hx hy (by rw [hgs]; exact z)
          refine ⟨s2, ?_, b1.tr c1, by rw [c2, nR_T hs], ?_⟩
          · rw [e20, B_X2_findRuns_40 _ _ _ hk, ite_T (by rw [q3]; exact z), chk_pos (by omega), colorAt_S (by omega) (by omega), aBind_some, pushR_some, B_X2_findRuns_58 _ _ _ hk, ite_F (by rw [q3]; exact z2), e3, aBind_some, pushR_none, B_X2_findRuns_71 _ _ _ hk, chk_pos (by omega)]
            rfl
          · rw [c3, c4, c5, hgs]; exact b3.add hx hs
      · have ns : ¬ stR (gN iv) c x y := fun q => z q.1
        refine ⟨s, ?_, b1, by rw [nR_F ns]; exact b2, b3.skip ns⟩
        rw [e20, B_X2_findRuns_40 _ _ _ hk, ite_F (by rw [q3]; exact z), B_X2_findRuns_71 _ _ _ hk, chk_pos (by omega)]
        rfl)
    refine ⟨(some (I w), t), ?_, g2.1, by rw [nR_row]; exact g2.2.1, g2.2.2.row⟩
    show Run sc 31 7 [some (Rf (8 + 6 * k)), some (I y), d] [] (hp s0) = Run sc 31 7 [some (Rf (8 + 6 * k)), some (I ((y + 1 : Nat) : Int)), some (I w)] [] (hp t)
    rw [B_X2_findRuns_7 _ _ _ hk, ite_T (by omega)]
    refine (show _ = _ from e2).trans ?_
    show Run sc 31 20 [some (Rf (8 + 6 * k)), some (I y), some (I w)] [] (hp t) = _
    rw [B_X2_findRuns_20 _ _ _ hk, ite_F (by rw [g2.1.1 2 (by omega) (by omega) (by omega) (by omega)]; omega), B_X2_findRuns_77 _ _ _ hk, chk_pos (by omega)]
    rfl)
  obtain ⟨d, s0⟩ := s
  have g1 : In h 0 s0 := g1
  refine ⟨s0, allS (gN iv) c w h, (show _ = _ from e).trans ?_, g1.1, g1.2.1, rfl, fun x y hx hy hs => g1.2.2 x y hx (Or.inl hy) hs⟩
  show Run sc 31 7 [some (Rf (8 + 6 * k)), some (I h), d] [] (hp s0) = _
  rw [B_X2_findRuns_7 _ _ _ hk, ite_F (by rw [g1.1.1 2 (by omega) (by omega) (by omega) (by omega)]; omega), B_X2_findRuns_83 _ _ _ hk]
end RUNS4
