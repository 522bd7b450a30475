/-! StitchChartModel: runs and thread on a page; cells of a page -/
section MPAGE3
variable {sc : Nat × (Nat → Int)} {iv g : Nat → Nat → Int}
theorem beg_M {w h c n r : Nat} {p : Int} (hM : MGr g iv w h) (hL : MLy g iv) (hR : MRunB iv c n) (hr : r < n) : Run sc 171 0 [some (Rf 52), some (I p), some (I c), some (I r)] [] (hp iv) = some (some (I (if ownC g (mX iv c r) (mY iv c r) = p then 1 else 0)), hp iv) := by
  obtain ⟨h0, h1, h2, h3⟩ := hR
  have hx := h3 r hr
  have ti : (288 * (c : Int) + r).toNat = 288 * c + r := by omega
  have fx : iv 58 (288 * c + r) = mX iv c r := rfl
  have fy : iv 59 (288 * c + r) = mY iv c r := rfl
  rw [B_X7_begins_0, ti, fx, fy]
  simp (disch := omega) only [chk_pos, bck_pos]
  rw [own_M hM hL (by omega) (by omega), aBind_some, pushR_some, B_X7_begins_28]
  by_cases z : ownC g (mX iv c r) (mY iv c r) = p
  · rw [if_pos z, if_pos z, B_X7_begins_37, bck_pos (by omega)]
  · rw [if_neg z, if_neg z, B_X7_begins_36, B_X7_begins_37, bck_pos (by omega)]
theorem ron_M {w h c n : Nat} {p : Int} (hM : MGr g iv w h) (hL : MLy g iv) (hR : MRunB iv c n) : Run sc 172 0 [some (Rf 52), some (I p), some (I c), none, none] [] (hp iv) = some (some (I (rpF (ownC g) p n (mX iv c) (mY iv c))), hp iv) := by
  obtain ⟨h0, h1, h2, h3⟩ := id hR
  rw [B_X7_runsOn_0]
  obtain ⟨s, e, q, -⟩ := loop_ex (fun i (s : Int) => Run sc 172 5 [some (Rf 52), some (I p), some (I c), some (I s), some (I i)] [] (hp iv)) (fun i s => s = sumN (fun r => if ownC g (mX iv c r) (mY iv c r) = p then 1 else 0) i ∧ 0 ≤ s ∧ s ≤ i) n 0 0 (Nat.zero_le _) ⟨rfl, by simp, by simp⟩ (fun i s _ hi hP => by
    obtain ⟨p1, p2, p3⟩ := hP
    refine ⟨s + (if ownC g (mX iv c i) (mY iv c i) = p then 1 else 0), ?_, by rw [p1]; rfl, by split <;> omega, by split <;> omega⟩
    rw [B_X7_runsOn_5, bck_pos (by omega), Int.toNat_natCast, h1, ite_T (by omega), beg_M hM hL hR hi, aBind_some, pushR_some, B_X7_runsOn_25]
    by_cases z : ownC g (mX iv c i) (mY iv c i) = p
    · rw [if_pos z, if_neg (by omega), B_X7_runsOn_33, chk_pos (by omega), chk_pos (by omega)]
    · rw [if_neg z, if_pos rfl, B_X7_runsOn_32, B_X7_runsOn_33, chk_pos (by omega), chk_pos (by omega)])
  refine (show _ = _ from e).trans ?_
  show Run sc 172 5 [some (Rf 52), some (I p), some (I c), some (I s), some (I n)] [] (hp iv) = _
  rw [B_X7_runsOn_5, bck_pos (by omega), Int.toNat_natCast, h1, ite_F (by omega), B_X7_runsOn_41, q]
  rfl
theorem spT_b {own : Int → Int → Int} {p : Int} {n q : Nat} {X Y O : Nat → Int} {r t : Int} (ht : 0 ≤ t ∧ t ≤ 200) (hc : 0 ≤ cpF X Y r t O q ∧ cpF X Y r t O q ≤ 1000) : 0 ≤ spT own p n X Y r t O q ∧ spT own p n X Y r t O q ≤ 2000 := by
  unfold spT
  split
  · split <;> split <;> omega
  · omega
set_option maxHeartbeats 2000000 in
theorem ton_M {w h c n : Nat} {p : Int} (hM : MGr g iv w h) (hL : MLy g iv) (hR : MRunB iv c n) (hy : MYarn iv) (hO : MOrdB iv c n) : Run sc 173 0 [some (Rf 52), some (I p), some (I c), none, none] [] (hp iv) = some (some (I (48 * onpF g w h p c + spF (ownC g) p n (mX iv c) (mY iv c) (iv 52 2) (iv 52 3) (mO iv c))), hp iv) := by
  obtain ⟨h0, h1, h2, h3⟩ := id hR
  obtain ⟨y1, y2⟩ := id hy
  obtain ⟨⟨d1, d2, d3, d4, d5, d6⟩, e1, e2, e3⟩ := id hM
  have hon := onpF_b (g := g) (w := w) (h := h) (p := p) (c := c) d4 d6
  rw [B_X7_threadOn_0, son_M hM hL (by omega), aBind_some, pushR_some, B_X7_threadOn_8, chk_pos (by omega)]
  obtain ⟨s, e, q, -⟩ := loop_ex (fun i (s : Int) => Run sc 173 13 [some (Rf 52), some (I p), some (I c), some (I s), some (I i)] [] (hp iv)) (fun i s => s = 48 * onpF g w h p c + sumN (spT (ownC g) p n (mX iv c) (mY iv c) (iv 52 2) (iv 52 3) (mO iv c)) i ∧ 0 ≤ s ∧ s ≤ 48 * 576 + 2000 * i) n 0 (48 * onpF g w h p c) (Nat.zero_le _) ⟨by show _ = _ + (0 : Int); omega, by omega, by omega⟩ (fun i s _ hi hP => by
    obtain ⟨p1, p2, p3⟩ := hP
    have o1 := hO i hi
    have hcp := mcp_b hR hy hO hi
    have hb := spT_b (own := ownC g) (p := p) (n := n) (q := i) y2 hcp
    refine ⟨s + spT (ownC g) p n (mX iv c) (mY iv c) (iv 52 2) (iv 52 3) (mO iv c) i, ?_, ?_, by omega, by omega⟩
    · have hbeg := beg_M (sc := sc) (p := p) hM hL hR (r := (mO iv c i).toNat) (by omega)
      rw [show (((mO iv c i).toNat : Nat) : Int) = mO iv c i by omega] at hbeg
      rw [B_X7_threadOn_13, bck_pos (by omega), Int.toNat_natCast, h1, ite_T (by omega), pla_M h0 (by omega), aBind_some, pushR_some, B_X7_threadOn_34, hbeg, aBind_some, pushR_some, B_X7_threadOn_37]
      unfold spT at hb ⊢
      by_cases z : ownC g (mX iv c (mO iv c i).toNat) (mY iv c (mO iv c i).toNat) = p
      · rw [if_pos z] at hb
        rw [if_pos z, if_neg (by omega), if_pos z]
        have mid : (if (i : Int) = 0 then Run sc 173 74 [some (Rf 52), some (I p), some (I c), some (I s), some (I i)] [I (iv 52 3), I s] (hp iv) else Run sc 173 53 [some (Rf 52), some (I p), some (I c), some (I s), some (I i)] [I s] (hp iv)) = Run sc 173 74 [some (Rf 52), some (I p), some (I c), some (I s), some (I i)] [I (if i = 0 then iv 52 3 else cpF (mX iv c) (mY iv c) (iv 52 2) (iv 52 3) (mO iv c) i), I s] (hp iv) := by
          by_cases c0 : i = 0
          · rw [if_pos c0, if_pos (by omega)]
          · have o2 := hO (i - 1) (by omega)
            have hcm := cost_M (sc := sc) hR hy (a := (mO iv c (i - 1)).toNat) (b := (mO iv c i).toNat) (by omega) (by omega)
            rw [show ((mO iv c (i - 1)).toNat : Int) = mO iv c (i - 1) by omega, show ((mO iv c i).toNat : Int) = mO iv c i by omega] at hcm
            rw [if_neg c0, if_neg (by omega), B_X7_threadOn_53, chk_pos (by omega), show (i : Int) - 1 = ((i - 1 : Nat) : Int) by omega, pla_M h0 (by omega), aBind_some, pushR_some, B_X7_threadOn_64, pla_M h0 (by omega), aBind_some, pushR_some, B_X7_threadOn_71, hcm, aBind_some, pushR_some]
            unfold cpF
            rw [if_neg c0]
        rw [mid]
        have hm : 0 ≤ (if i = 0 then iv 52 3 else cpF (mX iv c) (mY iv c) (iv 52 2) (iv 52 3) (mO iv c) i) ∧ (if i = 0 then iv 52 3 else cpF (mX iv c) (mY iv c) (iv 52 2) (iv 52 3) (mO iv c) i) ≤ 1000 := by
          split
          · omega
          · exact hcp
        generalize (if i = 0 then iv 52 3 else cpF (mX iv c) (mY iv c) (iv 52 2) (iv 52 3) (mO iv c) i) = m at *
        rw [B_X7_threadOn_74, chk_pos (by omega), bck_pos (by omega), Int.toNat_natCast, h1, chk_pos (by omega)]
        by_cases cl : i + 1 = n
        · rw [if_pos cl, if_pos (by omega), B_X7_threadOn_98, chk_pos (by omega), B_X7_threadOn_100, chk_pos (by omega), Int.add_assoc]
        · rw [if_neg cl, if_neg (by omega), B_X7_threadOn_97, B_X7_threadOn_98, chk_pos (by omega), B_X7_threadOn_100, chk_pos (by omega), Int.add_assoc]
      · rw [if_neg z, if_pos rfl, if_neg z, B_X7_threadOn_100, chk_pos (by omega), Int.add_zero]
    · rw [p1, Int.add_assoc]
      rfl)
  refine (show _ = _ from e).trans ?_
  show Run sc 173 13 [some (Rf 52), some (I p), some (I c), some (I s), some (I n)] [] (hp iv) = _
  rw [B_X7_threadOn_13, bck_pos (by omega), Int.toNat_natCast, h1, ite_F (by omega), B_X7_threadOn_106, q]
  rfl
/-- a sum over a window of places, all else 0 -/
theorem sumN_win {f : Nat → Int} {a m : Nat} : ∀ {n : Nat}, (m = 0 ∨ a + m ≤ n) → (∀ j, j < n → (j < a ∨ a + m ≤ j) → f j = 0) → sumN f n = sumN (fun i => f (a + i)) m := by
  intro n
  induction n generalizing m with
  | zero =>
    intro h1 h2
    have : m = 0 := by omega
    subst this
    rfl
  | succ n ih =>
    intro h1 h2
    show sumN f n + f n = _
    by_cases q : m ≠ 0 ∧ a + m = n + 1
    · obtain ⟨m2, rfl⟩ : ∃ m2, m = m2 + 1 := ⟨m - 1, by omega⟩
      rw [ih (m := m2) (by omega) (fun j hj hc => h2 j (by omega) (by omega))]
      show _ = sumN (fun i => f (a + i)) m2 + f (a + m2)
      rw [show a + m2 = n by omega]
    · rw [ih (m := m) (by omega) (fun j hj hc => h2 j (by omega) hc), h2 n (by omega) (by omega)]
      omega
/-- the class's tally is the sum over all cells -/
theorem tal_onp {w h : Nat} {p : Int} {c : Int} (hL : LayB g) (hD : DimB g w h) (hp0 : 0 ≤ p) : talC g p 1 c c = onpF g w h p c := by
  have ht := tot_b hL hD
  obtain ⟨d1, d2, d3, d4, d5, d6⟩ := id hD
  obtain ⟨l1, l2, l3⟩ := id hL
  have bl := lef_b (p := p) hL hD
  have h1 : ∀ x y : Int, 0 ≤ x → x < w → 0 ≤ y → y < h → ownC g x y = p → (lefC g p ≤ x ∧ x < rigC g p) ∧ topC g p ≤ y ∧ y < botC g p := by
    intro x y hx hx2 hy hy2 ho
    have a1 := fsF_at (a := x) l1.1 l3 hx
    have a2 := fsF_at (a := y) l2.1 l3 hy
    have a3 := fsF_lt (a := x) (side := g 2 0) l1.1 l3 (by omega)
    have a4 := fsF_b (a := x) l1 l3 (by omega)
    have a5 := fsF_b (a := y) l2 l3 (by omega)
    unfold ownC ownF at ho
    have e0 : pgF (g 49 3) (g 2 0) (g 49 1) = acr g := rfl
    rw [e0] at ho a3
    have em : p % acr g = fsF (g 49 3) x (g 49 1) := by
      rw [← ho, Int.add_comm, Int.add_mul_emod_self_right]
      exact Int.emod_eq_of_lt a4.1 a3
    have ed : p / acr g = fsF (g 49 3) y (g 49 2) := by
      rw [← ho, Int.add_comm, Int.add_mul_ediv_right _ _ (by omega), Int.ediv_eq_zero_of_lt a4.1 a3]
      omega
    have el : lefC g p = fsF (g 49 3) x (g 49 1) * (g 49 1 - g 49 3) := by unfold lefC; rw [em]
    have et : topC g p = fsF (g 49 3) y (g 49 2) * (g 49 2 - g 49 3) := by unfold topC; rw [ed]
    refine ⟨⟨by omega, ?_⟩, by omega, ?_⟩
    · unfold rigC; split <;> omega
    · unfold botC; split <;> omega
  unfold talC onpF
  have bt : 0 ≤ topC g p := by
    unfold topC
    exact Int.mul_nonneg (divB (a := p) (d := acr g) hp0 (by omega)).1 (by omega)
  have br : rigC g p ≤ w := by unfold rigC; split <;> omega
  have bb : botC g p ≤ h := by unfold botC; split <;> omega
  rw [sumN_swap (f := fun i j => onpT g p c i j) (n := w) (m := h)]
  rw [sumN_win (f := fun j => sumN (fun i => onpT g p c i j) w) (a := (topC g p).toNat) (m := (botC g p - topC g p).toNat) (by omega) (fun j hj hc => sumN_zero fun i hi => by
    unfold onpT
    by_cases z : gC g i j = c
    · rw [if_pos z, if_neg (fun y => by have := h1 i j (by omega) (by omega) (by omega) (by omega) y; omega)]
    · rw [if_neg z])]
  apply sumN_congr
  intro j hj
  rw [sumN_win (f := fun i => onpT g p c i ((topC g p).toNat + j)) (a := (lefC g p).toNat) (m := (rigC g p - lefC g p).toNat) (by omega) (fun i hi hc => by
    unfold onpT
    by_cases z : gC g i (((topC g p).toNat + j : Nat) : Int) = c
    · rw [if_pos z, if_neg (fun y => by have := h1 i _ (by omega) (by omega) (by omega) (by omega) y; omega)]
    · rw [if_neg z])]
  apply sumN_congr
  intro i hi
  unfold talT onpT
  rw [show lefC g p + (i : Int) = (((lefC g p).toNat + i : Nat) : Int) by omega, show topC g p + (j : Int) = (((topC g p).toNat + j : Nat) : Int) by omega]
  generalize ((((lefC g p).toNat + i : Nat)) : Int) = x
  generalize ((((topC g p).toNat + j : Nat)) : Int) = y
  by_cases z : gC g x y = c
  · rw [if_pos z]
    by_cases z2 : ownC g x y = p
    · rw [if_pos z2, if_pos ⟨rfl, by omega⟩]
    · rw [if_neg z2, if_neg (fun k => by have := k.1; omega)]
  · rw [if_neg z]
    by_cases z2 : ownC g x y = p
    · rw [if_pos z2, if_neg (fun k => z (by omega))]
    · rw [if_neg z2, if_neg (fun k => by have := k.1; omega)]
end MPAGE3
