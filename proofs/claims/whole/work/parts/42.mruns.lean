/-! StitchChartModel: runs read -/
section MRUNS
variable {sc : Nat × (Nat → Int)} {iv : Nat → Nat → Int}
/-- the rows of a color -/
def mX (iv : Nat → Nat → Int) (c r : Nat) : Int := iv 58 (288 * c + r)
def mY (iv : Nat → Nat → Int) (c r : Nat) : Int := iv 59 (288 * c + r)
def mL (iv : Nat → Nat → Int) (c r : Nat) : Int := iv 60 (288 * c + r)
def mO (iv : Nat → Nat → Int) (c r : Nat) : Int := iv 61 (288 * c + r)
def MRunB (iv : Nat → Nat → Int) (c n : Nat) : Prop := (1 ≤ c ∧ c ≤ 6) ∧ iv 57 c = n ∧ n ≤ 288 ∧ ∀ r, r < n → (0 ≤ mX iv c r ∧ mX iv c r ≤ 23) ∧ (0 ≤ mY iv c r ∧ mY iv c r ≤ 23) ∧ 0 ≤ mL iv c r ∧ mL iv c r ≤ 24
def MYarn (iv : Nat → Nat → Int) : Prop := (0 ≤ iv 52 2 ∧ iv 52 2 ≤ 1000) ∧ 0 ≤ iv 52 3 ∧ iv 52 3 ≤ 200
theorem absI_neg {z : Int} (h : z < 0) : absI z = -z := by unfold absI; rw [if_neg (by omega)]; omega
theorem absI_pos {z : Int} (h : ¬ z < 0) : absI z = z := by unfold absI; rw [if_pos (by omega)]
theorem way_M {c n a b : Nat} (hR : MRunB iv c n) (ha : a < n) (hb : b < n) : Run sc 115 0 [some (Rf 52), some (I c), some (I a), some (I b), none, none] [] (hp iv) = some (some (I (wayF (mX iv c) (mY iv c) a b)), hp iv) := by
  obtain ⟨h0, h1, h2, h3⟩ := hR
  have ea := h3 a ha
  have eb := h3 b hb
  have na : (288 * (c : Int) + a).toNat = 288 * c + a := by omega
  have nb : (288 * (c : Int) + b).toNat = 288 * c + b := by omega
  rw [B_X7_way_0, na, nb]
  have f1 : iv 58 (288 * c + a) = mX iv c a := rfl
  have f2 : iv 58 (288 * c + b) = mX iv c b := rfl
  have f3 : iv 59 (288 * c + a) = mY iv c a := rfl
  have f4 : iv 59 (288 * c + b) = mY iv c b := rfl
  rw [f1, f2, f3, f4]
  unfold wayF
  generalize hdx : mX iv c a - mX iv c b = dx
  generalize hdy : mY iv c a - mY iv c b = dy
  simp (disch := omega) only [chk_pos, bck_pos]
  have e1 : (if dx < 0 then Run sc 115 69 [some (Rf 52), some (I c), some (I a), some (I b), some (I dx), some (I dy)] [I (-dx), I 10] (hp iv) else Run sc 115 67 [some (Rf 52), some (I c), some (I a), some (I b), some (I dx), some (I dy)] [I 10] (hp iv)) = Run sc 115 69 [some (Rf 52), some (I c), some (I a), some (I b), some (I dx), some (I dy)] [I (absI dx), I 10] (hp iv) := by
    by_cases q : dx < 0
    · rw [if_pos q, absI_neg q]
    · rw [if_neg q, absI_pos q, B_X7_way_67]
  have bx := absI_b (z := dx) (m := 23) (by omega)
  have by2 := absI_b (z := dy) (m := 23) (by omega)
  rw [e1, B_X7_way_69]
  by_cases q : dy < 0
  · rw [if_pos q, chk_pos (by omega), ← absI_neg q, B_X7_way_82, chk_pos (by omega), chk_pos (by omega)]
  · rw [if_neg q, B_X7_way_80, show I dy = I (absI dy) by rw [absI_pos q], B_X7_way_82, absI_pos q, chk_pos (by rw [← absI_pos q]; omega), chk_pos (by rw [← absI_pos q]; omega)]
theorem mway_b {c n a b : Nat} (hR : MRunB iv c n) (ha : a < n) (hb : b < n) : 0 ≤ wayF (mX iv c) (mY iv c) a b ∧ wayF (mX iv c) (mY iv c) a b ≤ 460 := by
  obtain ⟨h0, h1, h2, h3⟩ := hR
  have ea := h3 a ha
  have eb := h3 b hb
  exact wayF_b ea.1 eb.1 ea.2.1 eb.2.1
theorem cost_M {c n a b : Nat} (hR : MRunB iv c n) (hy : MYarn iv) (ha : a < n) (hb : b < n) : Run sc 116 0 [some (Rf 52), some (I c), some (I a), some (I b)] [] (hp iv) = some (some (I (cstF (iv 52 2) (iv 52 3) (wayF (mX iv c) (mY iv c) a b))), hp iv) := by
  obtain ⟨y1, y2⟩ := hy
  have hw := mway_b hR ha hb
  rw [B_X7_costs_0, way_M hR ha hb, aBind_some, pushR_some, B_X7_costs_7]
  unfold cstF
  by_cases q : iv 52 2 < wayF (mX iv c) (mY iv c) a b
  · rw [if_pos q, if_pos q, B_X7_costs_24, chk_pos (by omega), B_X7_costs_30]
  · rw [if_neg q, if_neg q, way_M hR ha hb, aBind_some, pushR_some, B_X7_costs_21, B_X7_costs_30]
theorem mcost_b {c n a b : Nat} (hR : MRunB iv c n) (hy : MYarn iv) (ha : a < n) (hb : b < n) : 0 ≤ cstF (iv 52 2) (iv 52 3) (wayF (mX iv c) (mY iv c) a b) ∧ cstF (iv 52 2) (iv 52 3) (wayF (mX iv c) (mY iv c) a b) ≤ 1000 := cstF_b hy.1 hy.2 (mway_b hR ha hb).1
theorem pla_M {c p : Nat} (hc : 1 ≤ c ∧ c ≤ 6) (hpp : p < 288) : Run sc 118 0 [some (Rf 52), some (I c), some (I p)] [] (hp iv) = some (some (I (mO iv c p)), hp iv) := by
  rw [B_X7_placed_0, chk_pos (by omega), chk_pos (by omega), bck_pos (by omega), show (288 * (c : Int) + p).toNat = 288 * c + p by omega]
  rfl
def MOrdB (iv : Nat → Nat → Int) (c n : Nat) : Prop := ∀ p, p < n → 0 ≤ mO iv c p ∧ mO iv c p < n
theorem mcp_b {c n p : Nat} (hR : MRunB iv c n) (hy : MYarn iv) (hO : MOrdB iv c n) (hpn : p < n) : 0 ≤ cpF (mX iv c) (mY iv c) (iv 52 2) (iv 52 3) (mO iv c) p ∧ cpF (mX iv c) (mY iv c) (iv 52 2) (iv 52 3) (mO iv c) p ≤ 1000 := by
  unfold cpF
  by_cases q : p = 0
  · rw [if_pos q]; omega
  · have o1 := hO p hpn
    have o2 := hO (p - 1) (by omega)
    rw [if_neg q]; exact mcost_b hR hy (by omega) (by omega)
set_option maxHeartbeats 1000000 in
theorem thr_M {c n : Nat} (hR : MRunB iv c n) (hy : MYarn iv) (hO : MOrdB iv c n) : Run sc 119 0 [some (Rf 52), some (I c), none, none, none] [] (hp iv) = some (some (I (thrF n (mX iv c) (mY iv c) (mL iv c) (iv 52 2) (iv 52 3) (mO iv c))), hp iv) := by
  obtain ⟨h0, h1, h2, h3⟩ := id hR
  obtain ⟨y1, y2⟩ := id hy
  rw [B_X7_threadOf_0, bck_pos (by omega), Int.toNat_natCast, h1]
  unfold thrF
  have e0 : (if (n : Int) = 0 then Run sc 119 21 [some (Rf 52), some (I c), some (I n), none, none] [I 0] (hp iv) else Run sc 119 15 [some (Rf 52), some (I c), some (I n), none, none] [] (hp iv)) = Run sc 119 25 [some (Rf 52), some (I c), some (I n), some (I (if n = 0 then 0 else 2 * iv 52 3)), some (I 0)] [] (hp iv) := by
    by_cases q : n = 0
    · rw [if_pos (by omega), if_pos q, B_X7_threadOf_21]
    · rw [if_neg (by omega), if_neg q, B_X7_threadOf_15, chk_pos (by omega), B_X7_threadOf_21]
  rw [e0]
  have eb : 0 ≤ (if n = 0 then 0 else 2 * iv 52 3) ∧ (if n = 0 then 0 else 2 * iv 52 3) ≤ 400 := by split <;> omega
  generalize (if n = 0 then 0 else 2 * iv 52 3) = t0 at *
  obtain ⟨s, e, g, -⟩ := loop_ex (fun i (s : Int) => Run sc 119 25 [some (Rf 52), some (I c), some (I n), some (I s), some (I i)] [] (hp iv)) (fun i s => s = t0 + sumN (fun p => 48 * mL iv c p + cpF (mX iv c) (mY iv c) (iv 52 2) (iv 52 3) (mO iv c) p) i ∧ 0 ≤ s ∧ s ≤ 400 + 3000 * i) n 0 t0 (Nat.zero_le _) ⟨by show t0 = t0 + 0; omega, by omega, by omega⟩ (fun i s _ hi hP => by
    obtain ⟨p1, p2, p3⟩ := hP
    have hl := h3 i hi
    have hcp := mcp_b hR hy hO hi
    refine ⟨s + (48 * mL iv c i + cpF (mX iv c) (mY iv c) (iv 52 2) (iv 52 3) (mO iv c) i), ?_, ?_, by omega, by omega⟩
    · have fl : iv 60 (288 * (c : Int) + i).toNat = mL iv c i := by rw [show (288 * (c : Int) + i).toNat = 288 * c + i by omega]; rfl
      rw [B_X7_threadOf_25, ite_T (by omega), chk_pos (by omega), chk_pos (by omega), bck_pos (by omega), fl, chk_pos (by omega)]
      unfold cpF at hcp ⊢
      by_cases q : i = 0
      · rw [if_neg (by omega), if_pos q, B_X7_threadOf_77, B_X7_threadOf_78, chk_pos (by omega), chk_pos (by omega), chk_pos (by omega)]
      · have o1 := hO i hi
        have o2 := hO (i - 1) (by omega)
        rw [if_neg q] at hcp
        have hcm := cost_M (sc := sc) hR hy (a := (mO iv c (i - 1)).toNat) (b := (mO iv c i).toNat) (by omega) (by omega)
        rw [show ((mO iv c (i - 1)).toNat : Int) = mO iv c (i - 1) by omega, show ((mO iv c i).toNat : Int) = mO iv c i by omega] at hcm
        rw [if_pos (by omega), chk_pos (by omega), show (i : Int) - 1 = ((i - 1 : Nat) : Int) by omega, pla_M h0 (by omega), aBind_some, pushR_some, B_X7_threadOf_64, pla_M h0 (by omega), aBind_some, pushR_some, B_X7_threadOf_71, hcm, aBind_some, pushR_some, B_X7_threadOf_74, B_X7_threadOf_78, if_neg q, chk_pos (by omega), chk_pos (by omega), chk_pos (by omega)]
    · rw [p1, Int.add_assoc]
      rfl)
  refine (show _ = _ from e).trans ?_
  show Run sc 119 25 [some (Rf 52), some (I c), some (I n), some (I s), some (I n)] [] (hp iv) = _
  rw [B_X7_threadOf_25, ite_F (by omega), B_X7_threadOf_87, g]
theorem sta_R {c n : Nat} (hR : MRunB iv c n) (hO : MOrdB iv c n) : Run sc 120 0 [some (Rf 52), some (I c), none, none] [] (hp iv) = some (some (I (staF n (mX iv c) (mY iv c) (iv 52 2) (mO iv c))), hp iv) := by
  obtain ⟨h0, h1, h2, h3⟩ := id hR
  rw [B_X7_startsOf_0, bck_pos (by omega), Int.toNat_natCast, h1]
  unfold staF
  have e0 : (if (n : Int) = 0 then Run sc 120 14 [some (Rf 52), some (I c), none, none] [I 0] (hp iv) else Run sc 120 13 [some (Rf 52), some (I c), none, none] [] (hp iv)) = Run sc 120 17 [some (Rf 52), some (I c), some (I (if n = 0 then 0 else 1)), some (I 1)] [] (hp iv) := by
    by_cases q : n = 0
    · rw [if_pos (by omega), if_pos q, B_X7_startsOf_14]
    · rw [if_neg (by omega), if_neg q, B_X7_startsOf_13, B_X7_startsOf_14]
  rw [e0]
  by_cases hn : n = 0
  · rw [if_pos hn, if_pos hn, B_X7_startsOf_17, bck_pos (by omega), Int.toNat_natCast, h1, ite_F (by omega), B_X7_startsOf_67]
  · rw [if_neg hn, if_neg hn]
    obtain ⟨s, e, g, -⟩ := loop_ex (fun i (s : Int) => Run sc 120 17 [some (Rf 52), some (I c), some (I s), some (I i)] [] (hp iv)) (fun i s => s = 1 + sumN (fun p => if p = 0 then 0 else if iv 52 2 < wayF (mX iv c) (mY iv c) (mO iv c (p - 1)).toNat (mO iv c p).toNat then 1 else 0) i ∧ 0 ≤ s ∧ s ≤ i) n 1 1 (by omega) ⟨rfl, by omega, by omega⟩ (fun i s hi1 hi hP => by
      obtain ⟨p1, p2, p3⟩ := hP
      have o1 := hO i hi
      have o2 := hO (i - 1) (by omega)
      have hcm := way_M (sc := sc) hR (a := (mO iv c (i - 1)).toNat) (b := (mO iv c i).toNat) (by omega) (by omega)
      rw [show ((mO iv c (i - 1)).toNat : Int) = mO iv c (i - 1) by omega, show ((mO iv c i).toNat : Int) = mO iv c i by omega] at hcm
      refine ⟨s + (if iv 52 2 < wayF (mX iv c) (mY iv c) (mO iv c (i - 1)).toNat (mO iv c i).toNat then 1 else 0), ?_, ?_, by split <;> omega, by split <;> omega⟩
      · rw [B_X7_startsOf_17, bck_pos (by omega), Int.toNat_natCast, h1, ite_T (by omega), chk_pos (by omega), show (i : Int) - 1 = ((i - 1 : Nat) : Int) by omega, pla_M h0 (by omega), aBind_some, pushR_some, B_X7_startsOf_38, pla_M h0 (by omega), aBind_some, pushR_some, B_X7_startsOf_44, hcm, aBind_some, pushR_some, B_X7_startsOf_47]
        by_cases q : iv 52 2 < wayF (mX iv c) (mY iv c) (mO iv c (i - 1)).toNat (mO iv c i).toNat
        · rw [if_pos q, if_pos q, B_X7_startsOf_59, chk_pos (by omega), chk_pos (by omega)]
        · rw [if_neg q, if_neg q, B_X7_startsOf_58, B_X7_startsOf_59, chk_pos (by omega), chk_pos (by omega)]
      · rw [p1]
        show _ = 1 + (_ + if i = 0 then 0 else _)
        rw [if_neg (show ¬ i = 0 by omega)]
        omega)
    refine (show _ = _ from e).trans ?_
    show Run sc 120 17 [some (Rf 52), some (I c), some (I s), some (I n)] [] (hp iv) = _
    rw [B_X7_startsOf_17, bck_pos (by omega), Int.toNat_natCast, h1, ite_F (by omega), B_X7_startsOf_67, g]
theorem whe_M {c n k r : Nat} (hc : 1 ≤ c ∧ c ≤ 6) (hn : n ≤ 288) (hk : k < n) (hr : mO iv c k = r) (hne : ∀ j, j < k → mO iv c j ≠ r) : Run sc 139 0 [some (Rf 52), some (I c), some (I r), none] [] (hp iv) = some (some (I k), hp iv) := by
  rw [B_X7_whereIs_0]
  obtain ⟨s, e, -⟩ := loop_ex (fun i (_ : Unit) => Run sc 139 2 [some (Rf 52), some (I c), some (I r), some (I i)] [] (hp iv)) (fun _ _ => True) k 0 () (Nat.zero_le _) trivial (fun i _ _ hi _ => by
    refine ⟨(), ?_, trivial⟩
    rw [B_X7_whereIs_2, pla_M hc (by omega), aBind_some, pushR_some, B_X7_whereIs_8, if_neg (hne i hi), chk_pos (by omega)])
  refine (show _ = _ from e).trans ?_
  show Run sc 139 2 [some (Rf 52), some (I c), some (I r), some (I k)] [] (hp iv) = _
  rw [B_X7_whereIs_2, pla_M hc (by omega), aBind_some, pushR_some, B_X7_whereIs_8, if_pos hr, B_X7_whereIs_18]
end MRUNS
