/-! StitchChart$ColorRuns: runs and thread on a page -/
section PAGES3
variable {sc : Nat × (Nat → Int)} {iv : Nat → Nat → Int}
/-- how many runs a page owns -/
def rpF (own : Int → Int → Int) (p : Int) (n : Nat) (X Y : Nat → Int) : Int := sumN (fun r => if own (X r) (Y r) = p then 1 else 0) n
/-- what the runs of a page cost to start, and the last end -/
def spT (own : Int → Int → Int) (p : Int) (n : Nat) (X Y : Nat → Int) (r t : Int) (O : Nat → Int) (q : Nat) : Int := if own (X (O q).toNat) (Y (O q).toNat) = p then (if q = 0 then t else cpF X Y r t O q) + (if q + 1 = n then t else 0) else 0
def spF (own : Int → Int → Int) (p : Int) (n : Nat) (X Y : Nat → Int) (r t : Int) (O : Nat → Int) : Int := sumN (spT own p n X Y r t O) n
theorem rop_S {k n w h : Nat} {p : Int} (hk : k < 6) (hL : LayB iv) (hD : DimB iv w h) (hR : RunsB iv k n) : Run sc 46 0 [some (Rf (8 + 6 * k)), some (Rf 49), some (I p), none, none] [] (hp iv) = some (some (I (rpF (ownC iv) p n (iv (9 + 6 * k)) (iv (10 + 6 * k)))), hp iv) := by
  obtain ⟨h1, h2, h3⟩ := id hR
  rw [B_X2_runsOnPage_0 _ _ _ hk]
  obtain ⟨s, e, g, -⟩ := loop_ex (fun i (s : Int) => Run sc 46 5 [some (Rf (8 + 6 * k)), some (Rf 49), some (I p), some (I s), some (I i)] [] (hp iv)) (fun i s => s = sumN (fun r => if ownC iv (iv (9 + 6 * k) r) (iv (10 + 6 * k) r) = p then 1 else 0) i ∧ 0 ≤ s ∧ s ≤ i) n 0 0 (Nat.zero_le _) ⟨rfl, by simp, by simp⟩ (fun i s _ hi hP => by
    obtain ⟨p1, p2, p3⟩ := hP
    have hx := h3 i hi
    refine ⟨s + (if ownC iv (iv (9 + 6 * k) i) (iv (10 + 6 * k) i) = p then 1 else 0), ?_, ?_, ?_, ?_⟩
    · rw [B_X2_runsOnPage_5 _ _ _ hk, ite_T (by omega), bck_pos (by omega), bck_pos (by omega), Int.toNat_natCast, own_S hL hD (by omega) (by omega), aBind_some, pushR_some, B_X2_runsOnPage_32 _ _ _ hk]
      by_cases c : ownC iv (iv (9 + 6 * k) i) (iv (10 + 6 * k) i) = p
      · rw [if_pos c, if_pos c, chk_pos (by omega), B_X2_runsOnPage_39 _ _ _ hk, chk_pos (by omega)]
      · rw [if_neg c, if_neg c, B_X2_runsOnPage_39 _ _ _ hk, chk_pos (by omega), Int.add_zero]
    · rw [p1]; rfl
    · split <;> omega
    · split <;> omega)
  refine (show _ = _ from e).trans ?_
  show Run sc 46 5 [some (Rf (8 + 6 * k)), some (Rf 49), some (I p), some (I s), some (I n)] [] (hp iv) = _
  rw [B_X2_runsOnPage_5 _ _ _ hk, ite_F (by omega), B_X2_runsOnPage_45 _ _ _ hk, g]
  rfl
set_option maxHeartbeats 2000000 in
theorem sop_S {k n w h : Nat} {p : Int} (hk : k < 6) (hL : LayB iv) (hD : DimB iv w h) (hR : RunsB iv k n) (hy : YarnB iv) (hO : OrdB iv k n) : Run sc 47 0 [some (Rf (8 + 6 * k)), some (Rf 49), some (I p), none, none, none] [] (hp iv) = some (some (I (spF (ownC iv) p n (iv (9 + 6 * k)) (iv (10 + 6 * k)) (iv 6 0) (iv 6 1) (iv (12 + 6 * k)))), hp iv) := by
  obtain ⟨h1, h2, h3⟩ := id hR
  obtain ⟨y1, y2⟩ := id hy
  rw [B_X2_startsOnPage_0 _ _ _ hk]
  obtain ⟨s, e, g1, g2, g3⟩ := loop_ex (fun i (s : Int × Option AV) => Run sc 47 5 [some (Rf (8 + 6 * k)), some (Rf 49), some (I p), some (I s.1), some (I i), s.2] [] (hp iv)) (fun i s => s.1 = sumN (spT (ownC iv) p n (iv (9 + 6 * k)) (iv (10 + 6 * k)) (iv 6 0) (iv 6 1) (iv (12 + 6 * k))) i ∧ 0 ≤ s.1 ∧ s.1 ≤ 2000 * i) n 0 (0, none) (Nat.zero_le _) ⟨rfl, by simp, by simp⟩ (fun i s _ hi hP => by
    obtain ⟨a, d⟩ := s
    obtain ⟨p1, p2, p3⟩ := hP
    dsimp only at p1 p2 p3
    have o1 := hO i hi
    have hcp := cpF_b hR hy hO hi
    have hx := h3 (iv (12 + 6 * k) i).toNat (by omega)
    have hb : 0 ≤ spT (ownC iv) p n (iv (9 + 6 * k)) (iv (10 + 6 * k)) (iv 6 0) (iv 6 1) (iv (12 + 6 * k)) i ∧ spT (ownC iv) p n (iv (9 + 6 * k)) (iv (10 + 6 * k)) (iv 6 0) (iv 6 1) (iv (12 + 6 * k)) i ≤ 2000 := by
      unfold spT
      split
      · split <;> split <;> omega
      · omega
    refine ⟨(a + spT (ownC iv) p n (iv (9 + 6 * k)) (iv (10 + 6 * k)) (iv 6 0) (iv 6 1) (iv (12 + 6 * k)) i, some (I (iv (12 + 6 * k) i))), ?_, ?_, ?_, ?_⟩
    · show Run sc 47 5 [some (Rf (8 + 6 * k)), some (Rf 49), some (I p), some (I a), some (I i), d] [] (hp iv) = Run sc 47 5 [some (Rf (8 + 6 * k)), some (Rf 49), some (I p), some (I (a + spT (ownC iv) p n (iv (9 + 6 * k)) (iv (10 + 6 * k)) (iv 6 0) (iv 6 1) (iv (12 + 6 * k)) i)), some (I ((i : Int) + 1)), some (I (iv (12 + 6 * k) i))] [] (hp iv)
      rw [B_X2_startsOnPage_5 _ _ _ hk, ite_T (by omega), runAtP_S hk hR, aBind_some, pushR_some, rP_in hi, B_X2_startsOnPage_20 _ _ _ hk, hasR_T hk hR o1, aBind_some, pushR_some, B_X2_startsOnPage_28 _ _ _ hk, ite_F (by omega), bck_pos (by omega), bck_pos (by omega), own_S hL hD (by omega) (by omega), aBind_some, pushR_some, B_X2_startsOnPage_49 _ _ _ hk]
      unfold spT at hb ⊢
      by_cases c : ownC iv (iv (9 + 6 * k) (iv (12 + 6 * k) i).toNat) (iv (10 + 6 * k) (iv (12 + 6 * k) i).toNat) = p
      · rw [if_pos c] at hb
        rw [if_pos c, if_pos c]
        have mid : (if (i : Int) = 0 then Run sc 47 83 [some (Rf (8 + 6 * k)), some (Rf 49), some (I p), some (I a), some (I i), some (I (iv (12 + 6 * k) i))] [I (iv 6 1), I a] (hp iv) else Run sc 47 69 [some (Rf (8 + 6 * k)), some (Rf 49), some (I p), some (I a), some (I i), some (I (iv (12 + 6 * k) i))] [I a] (hp iv)) = Run sc 47 83 [some (Rf (8 + 6 * k)), some (Rf 49), some (I p), some (I a), some (I i), some (I (iv (12 + 6 * k) i))] [I (if i = 0 then iv 6 1 else cpF (iv (9 + 6 * k)) (iv (10 + 6 * k)) (iv 6 0) (iv 6 1) (iv (12 + 6 * k)) i), I a] (hp iv) := by
          by_cases c0 : i = 0
          · rw [if_pos c0, if_pos (by omega)]
          · have hcc := cpF_cB hO c0 hi
            rw [rP_in hi] at hcc
            rw [if_neg c0, if_neg (by omega), B_X2_startsOnPage_69 _ _ _ hk, chk_pos (by omega), runAtP_S hk hR, aBind_some, pushR_some, B_X2_startsOnPage_78 _ _ _ hk, costB_S hk hR hy, aBind_some, pushR_some, hcc]
        rw [mid]
        have hm : 0 ≤ (if i = 0 then iv 6 1 else cpF (iv (9 + 6 * k)) (iv (10 + 6 * k)) (iv 6 0) (iv 6 1) (iv (12 + 6 * k)) i) ∧ (if i = 0 then iv 6 1 else cpF (iv (9 + 6 * k)) (iv (10 + 6 * k)) (iv 6 0) (iv 6 1) (iv (12 + 6 * k)) i) ≤ 1000 := by
          split
          · omega
          · exact hcp
        generalize (if i = 0 then iv 6 1 else cpF (iv (9 + 6 * k)) (iv (10 + 6 * k)) (iv 6 0) (iv 6 1) (iv (12 + 6 * k)) i) = m at *
        rw [B_X2_startsOnPage_83 _ _ _ hk, chk_pos (by omega), chk_pos (by omega)]
        by_cases cl : i + 1 = n
        · rw [if_pos cl, if_pos (by omega), B_X2_startsOnPage_108 _ _ _ hk, chk_pos (by omega), B_X2_startsOnPage_110 _ _ _ hk, chk_pos (by omega), Int.add_assoc]
        · rw [if_neg cl, if_neg (by omega), B_X2_startsOnPage_107 _ _ _ hk, B_X2_startsOnPage_108 _ _ _ hk, chk_pos (by omega), B_X2_startsOnPage_110 _ _ _ hk, chk_pos (by omega), Int.add_assoc]
      · rw [if_neg c, if_neg c, B_X2_startsOnPage_110 _ _ _ hk, chk_pos (by omega), Int.add_zero]
    · rw [p1]; rfl
    · show 0 ≤ a + _; omega
    · show a + _ ≤ 2000 * ((i + 1 : Nat) : Int); omega)
  obtain ⟨a, d⟩ := s
  dsimp only at g1
  refine (show _ = _ from e).trans ?_
  show Run sc 47 5 [some (Rf (8 + 6 * k)), some (Rf 49), some (I p), some (I a), some (I n), d] [] (hp iv) = _
  rw [B_X2_startsOnPage_5 _ _ _ hk, ite_F (by omega), B_X2_startsOnPage_116 _ _ _ hk, g1]
  rfl
end PAGES3
