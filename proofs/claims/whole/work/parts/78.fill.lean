/-! fill */ -/
section FILL
variable {sc : Nat × (Nat → Int)} {iv s t : Nat → Nat → Int}
/-- a cell of the first lines of a rectangle -/
abbrev rcP (x y wd i j : Nat) : Prop := x ≤ j % 24 ∧ j % 24 < x + wd ∧ y ≤ j / 24 ∧ j / 24 < y + i
/-- the class's lines -/
theorem fillC_S {w h x y wd ht : Nat} {c : Int} (hM : MGr iv iv w h) (hc : 0 ≤ c ∧ c ≤ 6) (hx : x + wd ≤ w) (hy : y + ht ≤ h) : ∃ r s1, Run sc 82 69 [some (Rf 1), some (I x), some (I y), some (I wd), some (I ht), some (I c), some (I 0), some (I 0)] [] (hp iv) = some (some (I r), hp s1) ∧ ChG iv s1 r ∧ ∀ j, s1 4 j = if rcP x y wd ht j then c else iv 4 j := by
  obtain ⟨⟨d1, d2, d3, d4, d5, d6⟩, a1, a2, a3⟩ := id hM
  obtain ⟨s, e, g1, g2⟩ := loop_ex (fun i (s : Int × (Nat → Nat → Int)) => Run sc 82 69 [some (Rf 1), some (I x), some (I y), some (I wd), some (I ht), some (I c), some (I s.1), some (I i)] [] (hp s.2)) (fun i s => ChG iv s.2 s.1 ∧ ∀ j, s.2 4 j = if rcP x y wd i j then c else iv 4 j) ht 0 (0, iv) (Nat.zero_le _) ⟨ChG.rf (fun j hj => (a3 j hj).2), fun j => by rw [if_neg (by omega)]⟩ (fun i s _ hi hP => by
    obtain ⟨a, s⟩ := s
    obtain ⟨p1, p2⟩ := hP
    dsimp only at p1 p2
    have k2 : s 2 = iv 2 := p1.1 2 (by omega) (by omega)
    obtain ⟨r, s2, e2, q1, q2, q3, q4⟩ := putRow_S (sc := sc) (iv0 := iv) (iv := s) (x := (x : Int)) (y := (y : Int) + i) (c := c) (n0 := a) (w := w) (hh := h) (len := wd) (by rw [k2]; exact d1) d4 (by rw [k2]; exact d2) d6 (by omega) (by omega) (by omega) hc p1 (fun j j1 j2 => by rw [p2 j, if_neg (by omega)])
    have nb := p1.n_b
    refine ⟨(a + r, s2), ?_, q1, fun j => ?_⟩
    · dsimp only
      rw [B_X6_fill_69, ite_T (by omega), chk_pos (by omega), e2, aBind_some, pushR_some, B_X6_fill_93, chk_pos (by omega), chk_pos (by omega)]
    · dsimp only
      rw [q4 j, p2 j]
      by_cases z : (y : Int) + i ≤ (j / 24 : Nat) ∧ ((j / 24 : Nat) : Int) ≤ y + i ∧ x ≤ j % 24 ∧ j % 24 < x + wd
      · rw [if_pos (by omega), if_pos (by omega)]
      · by_cases z2 : rcP x y wd i j
        · rw [if_neg (by omega), if_pos z2, if_pos (by omega)]
        · rw [if_neg (by omega), if_neg z2, if_neg (by omega)])
  obtain ⟨a, s⟩ := s
  dsimp only at g1 g2
  refine ⟨a, s, (show _ = _ from e).trans ?_, g1, g2⟩
  dsimp only
  rw [B_X6_fill_69, ite_F (by omega), B_X6_fill_102]
/-- the model's lines -/
theorem fillM_M {w h x y wd ht : Nat} {c : Int} (hw : w ≤ 24) (hh : h ≤ 24) (hc : 0 ≤ c ∧ c ≤ 6) (hx : x + wd ≤ w) (hy : y + ht ≤ h) (d7 : Option AV) : ∃ t2 e7, Run sc 131 61 [some (Rf 52), some (I x), some (I y), some (I wd), some (I ht), some (I c), some (I y), d7] [] (hp t) = Run sc 131 108 [some (Rf 52), some (I x), some (I y), some (I wd), some (I ht), some (I c), some (I ((y : Int) + ht)), e7] [] (hp t2) ∧ (∀ k, k ≠ 54 → t2 k = t k) ∧ ∀ j, t2 54 j = if rcP x y wd ht j then c else t 54 j := by
  obtain ⟨s, e, g1, g2⟩ := loop_ex (fun i (s : Option AV × (Nat → Nat → Int)) => Run sc 131 61 [some (Rf 52), some (I x), some (I y), some (I wd), some (I ht), some (I c), some (I ((y : Int) + i)), s.1] [] (hp s.2)) (fun i s => (∀ k, k ≠ 54 → s.2 k = t k) ∧ ∀ j, s.2 54 j = if rcP x y wd i j then c else t 54 j) ht 0 (d7, t) (Nat.zero_le _) ⟨fun _ _ => rfl, fun j => by rw [if_neg (by omega)]⟩ (fun i s _ hi hP => by
    obtain ⟨a, s⟩ := s
    obtain ⟨p1, p2⟩ := hP
    dsimp only at p1 p2
    obtain ⟨s2, e2, q1, q2⟩ := loop_ex (fun i2 (u : Nat → Nat → Int) => Run sc 131 73 [some (Rf 52), some (I x), some (I y), some (I wd), some (I ht), some (I c), some (I ((y : Int) + i)), some (I ((x : Int) + i2))] [] (hp u)) (fun i2 u => (∀ k, k ≠ 54 → u k = s k) ∧ ∀ j, u 54 j = if (y + i) * 24 + x ≤ j ∧ j < (y + i) * 24 + x + i2 then c else s 54 j) wd 0 s (Nat.zero_le _) ⟨fun _ _ => rfl, fun j => by rw [if_neg (by omega)]⟩ (fun i2 u _ hi2 hQ => by
      have ej : (24 * ((y : Int) + i) + ((x : Int) + i2)).toNat = (y + i) * 24 + x + i2 := by omega
      refine ⟨setO u 54 (upI (u 54) ((y + i) * 24 + x + i2) c), ?_, fun k hk => by rw [setO_ne hk]; exact hQ.1 k hk, fun j => ?_⟩
      · rw [B_X7_fill_73, chk_pos (by omega), ite_T (by omega), chk_pos (by omega), chk_pos (by omega), bck_pos (by omega), bck_pos (by omega), ej, B_X7_fill_96, chk_pos (by omega), Int.add_assoc (x : Int) i2 1]
      · rw [setO_same]
        by_cases z : j = (y + i) * 24 + x + i2
        · rw [z, upI_same, if_pos (by omega)]
        · rw [upI_ne z, hQ.2 j]
          by_cases z2 : (y + i) * 24 + x ≤ j ∧ j < (y + i) * 24 + x + i2
          · rw [if_pos z2, if_pos (by omega)]
          · rw [if_neg z2, if_neg (by omega)])
    refine ⟨(some (I ((x : Int) + wd)), s2), ?_, fun k hk => by dsimp only; rw [q1 k hk, p1 k hk], fun j => ?_⟩
    · dsimp only
      have e0 : Run sc 131 61 [some (Rf 52), some (I x), some (I y), some (I wd), some (I ht), some (I c), some (I ((y : Int) + i)), a] [] (hp s) = Run sc 131 73 [some (Rf 52), some (I x), some (I y), some (I wd), some (I ht), some (I c), some (I ((y : Int) + i)), some (I ((x : Int) + (0 : Nat)))] [] (hp s) := by
        rw [B_X7_fill_61, chk_pos (by omega), ite_T (by omega), show (x : Int) + (0 : Nat) = x by omega]
      rw [e0]
      refine (show _ = _ from e2).trans ?_
      rw [B_X7_fill_73, chk_pos (by omega), ite_F (by omega), B_X7_fill_102, chk_pos (by omega), Int.add_assoc (y : Int) i 1]
    · dsimp only
      rw [q2 j, p2 j]
      by_cases z : y + i ≤ j / 24 ∧ j / 24 ≤ y + i ∧ x ≤ j % 24 ∧ j % 24 < x + wd
      · rw [if_pos (by omega), if_pos (by omega)]
      · by_cases z2 : rcP x y wd i j
        · rw [if_neg (by omega), if_pos z2, if_pos (by omega)]
        · rw [if_neg (by omega), if_neg z2, if_neg (by omega)])
  obtain ⟨a, s⟩ := s
  dsimp only at g1 g2 e
  refine ⟨s, a, ?_, g1, g2⟩
  have e0 : (y : Int) + ((0 : Nat) : Int) = y := by omega
  rw [e0] at e
  rw [e, B_X7_fill_61, chk_pos (by omega), ite_F (by omega)]
theorem fill_B {w h n : Nat} {x y a b c : Int} (H : InvW iv w h n) : Both sc 82 131 [some (Rf 1), some (I x), some (I y), some (I a), some (I b), some (I c), none, none] [some (Rf 52), some (I x), some (I y), some (I a), some (I b), some (I c), none, none] iv := by
  obtain ⟨hM, -⟩ := id H
  obtain ⟨⟨d1, d2, d3, d4, d5, d6⟩, a1, a2, a3⟩ := id hM
  by_cases hin : inC iv x y
  · have hin2 := hin
    unfold inC at hin2
    have n0 : iv 52 0 = iv 2 0 := a1.trans d1.symm
    have n1 : iv 52 1 = iv 2 1 := a2.trans d2.symm
    by_cases ha : 1 ≤ a ∧ a ≤ iv 2 0 - x
    · by_cases hb : 1 ≤ b ∧ b ≤ iv 2 1 - y
      · by_cases hc : 0 ≤ c ∧ c ≤ 6
        · obtain ⟨x, rfl⟩ : ∃ j : Nat, x = j := ⟨x.toNat, by omega⟩
          obtain ⟨y, rfl⟩ : ∃ j : Nat, y = j := ⟨y.toNat, by omega⟩
          obtain ⟨a, rfl⟩ : ∃ j : Nat, a = j := ⟨a.toNat, by omega⟩
          obtain ⟨b, rfl⟩ : ∃ j : Nat, b = j := ⟨b.toNat, by omega⟩
          obtain ⟨r, s1, e1, hch, p4⟩ := fillC_S (sc := sc) (x := x) (y := y) (wd := a) (ht := b) hM hc (by omega) (by omega)
          have k1 : ∀ k, k ≠ 3 → k ≠ 4 → s1 k = iv k := hch.1
          have hM1 : MGr iv s1 w h := ⟨hM.1, by rw [k1 52 (by omega) (by omega)]; exact a1, by rw [k1 52 (by omega) (by omega)]; exact a2, fun j hj => by rw [k1 53 (by omega) (by omega)]; exact a3 j hj⟩
          have m0 : s1 52 0 = iv 2 0 := by rw [k1 52 (by omega) (by omega)]; exact n0
          have m1 : s1 52 1 = iv 2 1 := by rw [k1 52 (by omega) (by omega)]; exact n1
          obtain ⟨t1, q1, q2, q3⟩ := tak_M (sc := sc) hM1
          obtain ⟨t2, e7, q4, q5, q6⟩ := fillM_M (sc := sc) (t := t1) (x := x) (y := y) (wd := a) (ht := b) d4 d6 hc (by omega) (by omega) none
          obtain ⟨t, ht⟩ : ∃ t, setO t2 52 (upI (t2 52) 24 0) = t := ⟨_, rfl⟩
          have t54 : ∀ j, j < 576 → t 54 j = s1 4 j := fun j hj => by rw [← ht, setO_ne (by omega), q6 j, p4 j, q3 j hj]
          have tk : ∀ k, k ≠ 52 → k ≠ 54 → t k = s1 k := fun k u v => by rw [← ht, setO_ne u, q5 k v, q2 k v]
          have t52 : ∀ f, f ≠ 24 → t 52 f = s1 52 f := fun f hf => by rw [← ht, setO_same, upI_ne hf, q5 52 (by omega), q2 52 (by omega)]
          have t24 : t 52 24 = 0 := by rw [← ht, setO_same, upI_same]
          obtain ⟨s2, s3, z1, z2, z3⟩ := tail_M (sc := sc) H (fun _ _ => rfl) rfl hch tk (fun f hf => t52 f (by omega)) t24 t54
          refine ⟨r, s1, s3, w, h, n, ?_, ?_, z3⟩
          · rw [B_X6_fill_0, has_T hin, aBind_some, pushR_some, B_X6_fill_9, ite_F (by omega), B_X6_fill_14, chk_pos (by omega), within_T ha, aBind_some, pushR_some, B_X6_fill_28, ite_F (by omega), chk_pos (by omega), within_T hb, aBind_some, pushR_some, B_X6_fill_46, ite_F (by omega), within_T hc, aBind_some, pushR_some, B_X6_fill_57, ite_F (by omega), B_X6_fill_63, e1]
          · rw [B_X7_fill_0, cell_T hM1 hin, aBind_some, pushR_some, B_X7_fill_6, ite_F (by omega), B_X7_fill_11, m0, chk_pos (by omega), in_T ha, aBind_some, pushR_some, B_X7_fill_22, ite_F (by omega), m1, chk_pos (by omega), in_T hb, aBind_some, pushR_some, B_X7_fill_37, ite_F (by omega), in_T hc, aBind_some, pushR_some, B_X7_fill_48, ite_F (by omega), B_X7_fill_54, q1, aBind_some, pushR_none, B_X7_fill_58, q4, B_X7_fill_108, bck_pos (by omega), ht, B_X7_fill_113, z1, aBind_some, pushR_some, B_X7_fill_117, z2, aBind_some, pushR_none, B_X7_fill_127]
        · refine Both.same (a := -2) H ?_ ?_
          · rw [B_X6_fill_0, has_T hin, aBind_some, pushR_some, B_X6_fill_9, ite_F (by omega), B_X6_fill_14, chk_pos (by omega), within_T ha, aBind_some, pushR_some, B_X6_fill_28, ite_F (by omega), chk_pos (by omega), within_T hb, aBind_some, pushR_some, B_X6_fill_46, ite_F (by omega), within_F hc, aBind_some, pushR_some, B_X6_fill_57, ite_T rfl, B_X6_fill_60]
          · rw [B_X7_fill_0, cell_T hM hin, aBind_some, pushR_some, B_X7_fill_6, ite_F (by omega), B_X7_fill_11, n0, chk_pos (by omega), in_T ha, aBind_some, pushR_some, B_X7_fill_22, ite_F (by omega), n1, chk_pos (by omega), in_T hb, aBind_some, pushR_some, B_X7_fill_37, ite_F (by omega), in_F hc, aBind_some, pushR_some, B_X7_fill_48, ite_T rfl, B_X7_fill_51]
      · refine Both.same (a := -2) H ?_ ?_
        · rw [B_X6_fill_0, has_T hin, aBind_some, pushR_some, B_X6_fill_9, ite_F (by omega), B_X6_fill_14, chk_pos (by omega), within_T ha, aBind_some, pushR_some, B_X6_fill_28, ite_F (by omega), chk_pos (by omega), within_F hb, aBind_some, pushR_some, B_X6_fill_46, ite_T rfl, B_X6_fill_60]
        · rw [B_X7_fill_0, cell_T hM hin, aBind_some, pushR_some, B_X7_fill_6, ite_F (by omega), B_X7_fill_11, n0, chk_pos (by omega), in_T ha, aBind_some, pushR_some, B_X7_fill_22, ite_F (by omega), n1, chk_pos (by omega), in_F hb, aBind_some, pushR_some, B_X7_fill_37, ite_T rfl, B_X7_fill_51]
    · refine Both.same (a := -2) H ?_ ?_
      · rw [B_X6_fill_0, has_T hin, aBind_some, pushR_some, B_X6_fill_9, ite_F (by omega), B_X6_fill_14, chk_pos (by omega), within_F ha, aBind_some, pushR_some, B_X6_fill_28, ite_T rfl, B_X6_fill_60]
      · rw [B_X7_fill_0, cell_T hM hin, aBind_some, pushR_some, B_X7_fill_6, ite_F (by omega), B_X7_fill_11, n0, chk_pos (by omega), in_F ha, aBind_some, pushR_some, B_X7_fill_22, ite_T rfl, B_X7_fill_51]
  · refine Both.same (a := -1) H ?_ ?_
    · rw [B_X6_fill_0, has_F hin, aBind_some, pushR_some, B_X6_fill_9, ite_T rfl]
    · rw [B_X7_fill_0, cell_F hM hin, aBind_some, pushR_some, B_X7_fill_6, ite_T rfl]
end FILL
