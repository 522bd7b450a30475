/-! two loops, one in the other, that add up; StitchChart$PageLayout: what pages show -/
theorem loop2 {E : Type} (Gy : Int → Int → E → Option AR) (Gx : Int → Int → Int → E → Option AR) (f : Nat → Nat → Int) (W H : Nat) (hW : W ≤ 25) (hH : H ≤ 25) (hf : ∀ j i, j < H → i < W → 0 ≤ f j i ∧ f j i ≤ 4)
    (h1 : ∀ (j : Nat) (a : Int) (d : E), j < H → (0 ≤ a ∧ a ≤ 2500) → ∃ d2, Gy j a d = Gx j 0 a d2)
    (h2 : ∀ (j i : Nat) (a : Int) (d : E), j < H → i < W → (0 ≤ a ∧ a ≤ 2500) → ∃ d2, Gx j i a d = Gx j (i + 1) (a + f j i) d2)
    (h3 : ∀ (j : Nat) (a : Int) (d : E), j < H → (0 ≤ a ∧ a ≤ 2500) → ∃ d2, Gx j W a d = Gy (j + 1) a d2) (d : E) :
    ∃ d2, Gy 0 0 d = Gy H (sumN (fun j => sumN (f j) W) H) d2 := by
  obtain ⟨s, e, g1, -⟩ := loop_ex (fun j (s : Int × E) => Gy j s.1 s.2) (fun j s => s.1 = sumN (fun j => sumN (f j) W) j ∧ 0 ≤ s.1 ∧ s.1 ≤ 100 * j) H 0 (0, d) (Nat.zero_le _) ⟨rfl, by simp, by simp⟩ (fun j s _ hj hP => by
    obtain ⟨a, d⟩ := s
    obtain ⟨p1, p2, p3⟩ := hP
    dsimp only at p1 p2 p3
    obtain ⟨d2, e1⟩ := h1 j a d hj (by omega)
    obtain ⟨t, e2, q1, q2, q3⟩ := loop_ex (fun i (s : Int × E) => Gx j i s.1 s.2) (fun i s => s.1 = a + sumN (f j) i ∧ a ≤ s.1 ∧ s.1 ≤ a + 4 * i) W 0 (a, d2) (Nat.zero_le _) ⟨by show a = a + 0; omega, by simp, by simp⟩ (fun i s _ hi hP => by
      obtain ⟨b, d⟩ := s
      obtain ⟨q1, q2, q3⟩ := hP
      dsimp only at q1 q2 q3
      obtain ⟨d3, e3⟩ := h2 j i b d hj hi (by omega)
      have := hf j i hj hi
      refine ⟨(b + f j i, d3), e3, ?_, ?_, ?_⟩
      · show b + f j i = a + (sumN (f j) i + f j i); omega
      · show a ≤ b + f j i; omega
      · show b + f j i ≤ a + 4 * ((i + 1 : Nat) : Int); omega)
    obtain ⟨b, d4⟩ := t
    dsimp only at q1 q2 q3
    obtain ⟨d5, e4⟩ := h3 j b d4 hj (by omega)
    refine ⟨(b, d5), e1.trans ((show _ = _ from e2).trans e4), ?_, ?_, ?_⟩
    · show b = sumN (fun j => sumN (f j) W) j + sumN (f j) W; omega
    · show 0 ≤ b; omega
    · show b ≤ 100 * ((j + 1 : Nat) : Int); omega)
  obtain ⟨a, d2⟩ := s
  dsimp only at g1
  exact ⟨d2, by rw [← g1]; exact e⟩
section PAGES2
variable {sc : Nat × (Nat → Int)} {iv : Nat → Nat → Int}
def talT (iv : Nat → Nat → Int) (p b lo hi x y : Int) : Int := if (if ownC iv x y = p then 1 else 0) = b ∧ lo ≤ gC iv x y ∧ gC iv x y ≤ hi then 1 else 0
def rigC (iv : Nat → Nat → Int) (p : Int) : Int := if iv 2 0 < lefC iv p + iv 49 1 then iv 2 0 else lefC iv p + iv 49 1
def botC (iv : Nat → Nat → Int) (p : Int) : Int := if iv 2 1 < topC iv p + iv 49 2 then iv 2 1 else topC iv p + iv 49 2
def talC (iv : Nat → Nat → Int) (p b lo hi : Int) : Int := sumN (fun j => sumN (fun i => talT iv p b lo hi (lefC iv p + i) (topC iv p + j)) (rigC iv p - lefC iv p).toNat) (botC iv p - topC iv p).toNat
theorem talT_b {p b lo hi x y : Int} : 0 ≤ talT iv p b lo hi x y ∧ talT iv p b lo hi x y ≤ 1 := by unfold talT; split <;> omega
set_option maxHeartbeats 2000000 in
theorem tal_S {w h : Nat} {p b lo hi : Int} (hL : LayB iv) (hD : DimB iv w h) (hp0 : 0 ≤ p ∧ p ≤ 2500) (hb : 0 ≤ b ∧ b ≤ 1) : Run sc 72 0 [some (Rf 49), some (I p), some (I b), some (I lo), some (I hi), none, none, none, none, none, none, none, none] [] (hp iv) = some (some (I (talC iv p b lo hi)), hp iv) := by
  obtain ⟨d1, d2, d3, d4, d5, d6⟩ := id hD
  obtain ⟨l1, l2, l3⟩ := id hL
  have bl := lef_b (p := p) hL hD
  have bt := top_b hL hD hp0
  rw [B_X4_tally_0, lef_S hL hD hp0, aBind_some, pushR_some, B_X4_tally_5, top_S hL hD hp0, aBind_some, pushR_some, B_X4_tally_12, chk_pos (by omega), chk_pos (by omega)]
  have e1 : (if iv 2 0 < lefC iv p + iv 49 1 then iv 2 0 else lefC iv p + iv 49 1) = rigC iv p := rfl
  have e2 : (if iv 2 1 < topC iv p + iv 49 2 then iv 2 1 else topC iv p + iv 49 2) = botC iv p := rfl
  rw [e1, e2]
  have br : rigC iv p ≤ 24 := by unfold rigC; split <;> omega
  have bb : botC iv p ≤ 24 := by unfold botC; split <;> omega
  have br0 : lefC iv p ≤ 1200 ∧ 0 ≤ rigC iv p := by unfold rigC; constructor; omega; split <;> omega
  have bb0 : 0 ≤ botC iv p := by unfold botC; split <;> omega
  unfold talC
  generalize hl : lefC iv p = l at *
  generalize ht : topC iv p = t at *
  generalize hr : rigC iv p = r at *
  generalize hbo : botC iv p = bo at *
  obtain ⟨e, q⟩ := loop2 (fun j a (d : Option AV × Option AV) => Run sc 72 59 [some (Rf 49), some (I p), some (I b), some (I lo), some (I hi), some (I l), some (I t), some (I r), some (I bo), some (I a), some (I (t + j)), d.1, d.2] [] (hp iv)) (fun j i a d => Run sc 72 70 [some (Rf 49), some (I p), some (I b), some (I lo), some (I hi), some (I l), some (I t), some (I r), some (I bo), some (I a), some (I (t + j)), some (I (l + i)), d.2] [] (hp iv)) (fun j i => talT iv p b lo hi (l + i) (t + j)) (r - l).toNat (bo - t).toNat (by omega) (by omega) (fun j i _ _ => by have := talT_b (iv := iv) (p := p) (b := b) (lo := lo) (hi := hi) (x := l + i) (y := t + j); omega)
    (fun j a d hj ha => ⟨d, by rw [B_X4_tally_59, ite_T (by omega), Int.add_zero]⟩)
    (fun j i a d hj hi2 ha => by
      refine ⟨(none, some (I (if ownC iv (l + i) (t + j) = p then 1 else 0))), ?_⟩
      dsimp only
      rw [B_X4_tally_70, ite_T (by omega), own_S hL hD (by omega) (by omega), aBind_some, pushR_some, B_X4_tally_85]
      have e3 : (if ownC iv (l + i) (t + j) = p then Run sc 72 94 [some (Rf 49), some (I p), some (I b), some (I lo), some (I hi), some (I l), some (I t), some (I r), some (I bo), some (I a), some (I (t + j)), some (I (l + i)), d.2] [I 1] (hp iv) else Run sc 72 93 [some (Rf 49), some (I p), some (I b), some (I lo), some (I hi), some (I l), some (I t), some (I r), some (I bo), some (I a), some (I (t + j)), some (I (l + i)), d.2] [] (hp iv)) = Run sc 72 94 [some (Rf 49), some (I p), some (I b), some (I lo), some (I hi), some (I l), some (I t), some (I r), some (I bo), some (I a), some (I (t + j)), some (I (l + i)), d.2] [I (if ownC iv (l + i) (t + j) = p then 1 else 0)] (hp iv) := by
        by_cases c : ownC iv (l + i) (t + j) = p
        · rw [if_pos c, if_pos c]
        · rw [if_neg c, if_neg c, B_X4_tally_93]
      rw [e3, B_X4_tally_94]
      unfold talT
      generalize (if ownC iv (l + i) (t + j) = p then (1 : Int) else 0) = o
      by_cases c : o = b
      · rw [if_pos c, colorAt_S (by omega) (by omega), aBind_some, pushR_some, B_X4_tally_113]
        by_cases c2 : lo ≤ gC iv (l + i) (t + j) ∧ gC iv (l + i) (t + j) ≤ hi
        · rw [within_T c2, aBind_some, pushR_some, B_X4_tally_119, ite_F (by omega), chk_pos (by omega), B_X4_tally_125, chk_pos (by omega), if_pos ⟨c, c2⟩, Int.add_assoc]
        · rw [within_F c2, aBind_some, pushR_some, B_X4_tally_119, ite_T (by omega), B_X4_tally_125, chk_pos (by omega), if_neg (fun z => c2 z.2), Int.add_zero, Int.add_assoc]
      · rw [if_neg c, B_X4_tally_125, chk_pos (by omega), if_neg (fun z => c z.1), Int.add_zero, Int.add_assoc])
    (fun j a d hj ha => ⟨(some (I (l + (r - l).toNat)), d.2), by dsimp only; rw [B_X4_tally_70, ite_F (by omega), B_X4_tally_131, chk_pos (by omega), Int.add_assoc]⟩) (none, none)
  rw [Int.add_zero] at q
  rw [q, B_X4_tally_59, ite_F (by omega), B_X4_tally_137]
end PAGES2
