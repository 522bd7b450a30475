/-! the law: alone; arrays of the law behind the class's cells -/
section LALONE
variable {sc : Nat × (Nat → Int)} {g iv iv2 : Nat → Nat → Int} {O : Nat → Nat → Int} {w h n : Nat} {cs cs2 : List (Nat × Nat)}
theorem kOf_new {q : Nat × Nat} : kOf (hq (cs ++ [q]) iv).1 (52 + cs.length) = some q := by
  have e : 52 + cs.length = (51 + cs.length) + 1 := by omega
  rw [e]
  show (CSL ++ (cs ++ [q]))[51 + cs.length]? = some q
  rw [List.getElem?_append_right (by rw [show CSL.length = 51 from rfl]; omega), show CSL.length = 51 from rfl, List.getElem?_append_right (by omega), show 51 + cs.length - 51 - cs.length = 0 by omega]
  rfl
theorem kOf_more {q : Nat × Nat} {a : Nat} {r : Nat × Nat} (h : kOf (hq cs iv).1 a = some r) : kOf (hq (cs ++ [q]) iv2).1 a = some r := by
  cases a with
  | zero => cases h
  | succ b =>
    have h' : (CSL ++ cs)[b]? = some r := h
    show (CSL ++ (cs ++ [q]))[b]? = some r
    rw [← List.append_assoc, List.getElem?_append_left (List.getElem?_eq_some_iff.mp h').1]
    exact h'
theorem kOf_iv {a : Nat} : kOf (hq cs iv).1 a = kOf (hq cs iv2).1 a := rfl
theorem InvC.hi (H : InvC iv O w h n) (e : ∀ k, k < 52 → iv2 k = iv k) : InvC iv2 O w h n := by
  obtain ⟨h1, h2, h3, h4, h5, h6⟩ := id H
  refine H.ch (fun k a _ => e k (by omega)) ?_ ?_ ?_ ?_
  · unfold LayB at h2 ⊢; rw [e 49 (by omega)]; exact h2
  · unfold YarnB at h3 ⊢; rw [e 6 (by omega)]; exact h3
  · unfold BkOut at h4 ⊢; rw [e 45 (by omega), e 46 (by omega)]; exact h4
  · unfold TxtB at h5 ⊢; rw [e 50 (by omega), e 51 (by omega)]; exact h5
theorem Cur.arr (C : Cur g O w h n cs iv) {a : Nat} {f : Nat → Int} (ha : 52 ≤ a) (ha2 : a ≤ 51 + cs.length) : Cur g O w h n cs (setO iv a f) := by
  have e : ∀ k, k < 52 → setO iv a f k = iv k := fun k hk => setO_ne (by omega)
  exact ⟨C.1, C.2.1.hi e, fun j a b c d q r => by rw [e j (by omega)]; exact C.2.2.1 j a b c d q r, fun k hk j => by rw [setO_ne (by omega)]; exact C.2.2.2 k hk j⟩
theorem Cur.more (C : Cur g O w h n cs iv) {q : Nat × Nat} : Cur g O w h n (cs ++ [q]) iv := ⟨C.1, C.2.1, C.2.2.1, fun k hk j => C.2.2.2 k (by rw [List.length_append] at hk; omega) j⟩
/-- a lone stitch of the color c at a place -/
def lnT (g : Nat → Nat → Int) (c : Nat) (j i : Nat) : Int := if gC g i j = (c : Int) then lonI g i j else 0
theorem lnT_b {c j i : Nat} : 0 ≤ lnT g c j i ∧ lnT g c j i ≤ 1 := by
  unfold lnT
  have := lonI_b (iv := g) (x := i) (y := j)
  split <;> omega
theorem lnT_row {c j : Nat} (hw : w ≤ 24) : ∀ x, x ≤ w → 0 ≤ sumN (lnT g c j) x ∧ sumN (lnT g c j) x ≤ x := fun x hx => by
  have h1 := sumN_le (f := lnT g c j) (n := x) (c := 1) (fun i _ => lnT_b.2)
  have h2 := sumN_nonneg (f := lnT g c j) (n := x) (fun i _ => lnT_b.1)
  omega
set_option maxHeartbeats 4000000 in
theorem alone_L (C0 : Cur g O w h n cs iv) : ∃ iv2, Run sc 114 0 [some (Rf 1), some (I (w : Int)), some (I (h : Int)), none, none, none, none] [] (hq cs iv) = some (some (I 1), hq (cs ++ [(8, 7)]) iv2) ∧ Cur g O w h n (cs ++ [(8, 7)]) iv2 := by
  obtain ⟨⟨⟨d1, d2, d3, d4, d5, d6⟩, a3⟩, -⟩ := id C0.1
  obtain ⟨a, ha⟩ : ∃ a, a = 52 + cs.length := ⟨_, rfl⟩
  have hz : ∀ j, iv a j = 0 := fun j => C0.2.2.2 a (by omega) j
  have C := C0.more (q := (8, 7))
  have hk : ∀ u : Nat → Nat → Int, kOf (hq (cs ++ [(8, 7)]) u).1 a = some (8, 7) := fun u => by rw [ha]; exact kOf_new
  have hl : a ≤ 51 + (cs ++ [(8, 7)]).length := by rw [List.length_append, ha]; show 52 + cs.length ≤ 51 + (cs.length + 1); omega
  generalize hcs : cs ++ [(8, 7)] = cs2 at *
  rw [B_L_alone_0, hcs, ← ha, B_L_alone_4]
  obtain ⟨s, e, q1, q2⟩ := loop_ex (fun y (s : (Nat → Nat → Int) × Option AV × Option AV) => Run sc 114 8 [some (Rf 1), some (I (w : Int)), some (I (h : Int)), some (Rf a), some (I y), s.2.1, s.2.2] [] (hq cs2 s.1)) (fun y s => (∀ c, c < 7 → s.1 a c = sumN (fun j => sumN (lnT g c j) w) y) ∧ Cur g O w h n cs2 s.1) h 0 (iv, none, none) (Nat.zero_le _) ⟨fun c _ => hz c, C⟩ (fun y s _ hy hP => by
    obtain ⟨u, s5, s6⟩ := s
    obtain ⟨p1, p2⟩ := hP
    dsimp only at p1 p2
    obtain ⟨t, e, q1, q2⟩ := loop_ex (fun x (s : (Nat → Nat → Int) × Option AV) => Run sc 114 17 [some (Rf 1), some (I (w : Int)), some (I (h : Int)), some (Rf a), some (I (y : Int)), some (I x), s.2] [] (hq cs2 s.1)) (fun x s => (∀ c, c < 7 → s.1 a c = sumN (fun j => sumN (lnT g c j) w) y + sumN (lnT g c y) x) ∧ Cur g O w h n cs2 s.1) w 0 (u, s6) (Nat.zero_le _) ⟨fun c hc => by dsimp only; rw [p1 c hc]; show _ = _ + (0 : Int); omega, p2⟩ (fun x s _ hx hP => by
      obtain ⟨v, s6⟩ := s
      obtain ⟨r1, r2⟩ := hP
      dsimp only at r1 r2
      have hin : inC g (x : Int) (y : Int) := by unfold inC; omega
      have gb := gC_bd C.1 (x : Int) (y : Int)
      have lb := lonI_b (iv := g) (x := x) (y := y)
      have eL : lonF g (x : Int) (y : Int) = lonI g x y := if_pos hin
      have eC : celF g (x : Int) (y : Int) = gC g x y := if_pos hin
      obtain ⟨cc, hcc⟩ : ∃ cc : Nat, gC g (x : Int) (y : Int) = cc := ⟨(gC g (x : Int) (y : Int)).toNat, by omega⟩
      have rc := r1 cc (by omega)
      have lo := lnT_row (g := g) (c := cc) (j := y) d4 x (by omega)
      have lo2 : 0 ≤ sumN (fun j => sumN (lnT g cc j) w) y ∧ sumN (fun j => sumN (lnT g cc j) w) y ≤ 576 := sum2_b (f := fun j i => lnT g cc j i) d4 (show y ≤ 24 by omega) (fun j i => lnT_b)
      rw [hcc] at eC
      refine ⟨(setO v a (upI (v a) cc (v a cc + lonI g x y)), some (I (lonI g x y))), ?_, fun c hc => ?_, r2.arr (by omega) hl⟩
      · dsimp only
        rw [B_L_alone_17, if_pos (by omega), lone_L r2 hin, aBind_some, pushR_some, B_L_alone_31, isLone_L r2, eL, aBind_some, pushR_some, B_L_alone_41, if_pos rfl, B_L_alone_48, cell_L r2, eC, aBind_some, pushR_some, B_L_alone_57 _ _ _ _ _ _ _ _ _ _ (hk v), bck_pos (by omega), Int.toNat_natCast, chk_pos (by omega), bck_pos (by omega), bck_pos (by omega), B_L_alone_63, chk_pos (by omega)]
      · dsimp only
        rw [setO_same]
        have en : sumN (lnT g c y) (x + 1) = sumN (lnT g c y) x + lnT g c y x := rfl
        rw [en]
        have et : lnT g c y x = if gC g x y = (c : Int) then lonI g x y else 0 := rfl
        rw [et, hcc]
        by_cases z : c = cc
        · subst z
          rw [upI_same, if_pos rfl, rc]; omega
        · rw [upI_ne z, if_neg (by omega), r1 c hc]; omega)
    obtain ⟨v, s6⟩ := t
    dsimp only at q1 q2 e
    refine ⟨(v, some (I (w : Int)), s6), ?_, fun c hc => by dsimp only; rw [q1 c hc]; rfl, q2⟩
    dsimp only
    rw [B_L_alone_8, if_pos (by omega)]
    rw [show (((0 : Nat) : Int)) = 0 from rfl] at e
    rw [e, B_L_alone_17, if_neg (by omega), B_L_alone_69, chk_pos (by omega)])
  obtain ⟨u, s5, s6⟩ := s
  dsimp only at q1 q2 e
  rw [show (((0 : Nat) : Int)) = 0 from rfl] at e
  rw [e, B_L_alone_8, if_neg (by omega), B_L_alone_75]
  have lc : ∀ c, c < 7 → u a c = loneC g w h c := fun c hc => q1 c hc
  have lcb : ∀ c : Nat, 0 ≤ loneC g w h c ∧ loneC g w h c ≤ 576 := fun c => by
    unfold loneC
    exact sum2_b (f := fun j i => if gC g i j = (c : Int) then lonI g i j else 0) d4 d6 (fun j i => lnT_b (g := g) (c := c))
  obtain ⟨t, e2, r1, r2, r3, -⟩ := loop_ex (fun i (s : Int × (Nat → Nat → Int)) => Run sc 114 81 [some (Rf 1), some (I (w : Int)), some (I (h : Int)), some (Rf a), some (I s.1), some (I (i + 1)), s6] [] (hq cs2 s.2)) (fun i s => s.1 = sumN (cvC g O w h 1) i ∧ Cur g O w h n cs2 s.2 ∧ (∀ c, c < 7 → s.2 a c = loneC g w h c) ∧ 0 ≤ s.1 ∧ s.1 ≤ 576 * i) 6 0 (0, u) (Nat.zero_le _) ⟨rfl, q2, lc, by show (0 : Int) ≤ 0 ∧ (0 : Int) ≤ 576 * (0 : Nat); omega⟩ (fun i s _ hi hP => by
    obtain ⟨m, v⟩ := s
    obtain ⟨p1, p2, p3, p4⟩ := hP
    dsimp only at p1 p2 p3 p4
    obtain ⟨v2, e3, C3, h3⟩ := count_L (sc := sc) (c := (i : Int) + 1) (what := 1) p2 (by omega) (by omega)
    have ev : cvC g O w h 1 i = loneC g w h ((i + 1 : Nat) : Int) := by
      unfold cvC
      rw [if_neg (by omega), if_pos rfl]
      rfl
    have lb := lcb (i + 1)
    have pv := p3 (i + 1) (by omega)
    have tn : ((i : Int) + 1).toNat = i + 1 := by omega
    rw [selT_1 hi, ev] at e3
    refine ⟨(m + loneC g w h ((i + 1 : Nat) : Int), v2), ?_, by show m + _ = sumN _ i + _; rw [p1, ev], C3, fun c hc => by dsimp only; rw [h3 a (by omega)]; exact p3 c hc, by show 0 ≤ m + _ ∧ m + _ ≤ 576 * ((i + 1 : Nat) : Int); omega⟩
    dsimp only
    rw [B_L_alone_81 _ _ _ _ _ _ _ _ _ (hk v), if_pos (by omega), bck_pos (by omega), tn, pv, chk_pos (by omega), e3, aBind_some, pushR_some, B_L_alone_104 _ _ _ _ _ _ _ _ _ _ (hk v2), bck_pos (by omega), tn, h3 a (by omega), pv, if_pos rfl, B_L_alone_113, chk_pos (by omega)])
  obtain ⟨m, v⟩ := t
  dsimp only at r1 r2 r3 e2
  obtain ⟨v2, e3, C3, h3⟩ := count_L (sc := sc) (c := 0) (what := 1) r2 (by omega) (by omega)
  rw [selT_0] at e3
  have n1 : lonF g (w : Int) 0 = -1 := if_neg (by unfold inC; omega)
  have n2 : celF g 0 (h : Int) = -1 := if_neg (by unfold inC; omega)
  refine ⟨v2, ?_, C3⟩
  refine (show _ = _ from e2).trans ?_
  show Run sc 114 81 [some (Rf 1), some (I (w : Int)), some (I (h : Int)), some (Rf a), some (I m), some (I (6 + 1)), s6] [] (hq cs2 v) = _
  rw [B_L_alone_81 _ _ _ _ _ _ _ _ _ (hk v), if_neg (by omega), B_L_alone_119, e3, aBind_some, pushR_some, B_L_alone_125, if_pos r1.symm, isLone_L C3, n1, aBind_some, pushR_some, B_L_alone_136, if_pos rfl, cell_L C3, n2, aBind_some, pushR_some, B_L_alone_146, if_pos rfl, B_L_alone_155, bck_pos (by omega)]
end LALONE
