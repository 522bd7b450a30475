/-! two adding loops with two sums; StitchChartModel: page, onPage -/
theorem loop22 {E : Type} (Gy : Int → Int → Int → E → Option AR) (Gx : Int → Int → Int → Int → E → Option AR) (f f2 : Nat → Nat → Int) (W H : Nat) (hW : W ≤ 25) (hH : H ≤ 25) (hf : ∀ j i, j < H → i < W → (0 ≤ f j i ∧ f j i ≤ 4) ∧ 0 ≤ f2 j i ∧ f2 j i ≤ 4)
    (h1 : ∀ (j : Nat) (a b : Int) (d : E), j < H → (0 ≤ a ∧ a ≤ 2500) → (0 ≤ b ∧ b ≤ 2500) → ∃ d2, Gy j a b d = Gx j 0 a b d2)
    (h2 : ∀ (j i : Nat) (a b : Int) (d : E), j < H → i < W → (0 ≤ a ∧ a ≤ 2500) → (0 ≤ b ∧ b ≤ 2500) → ∃ d2, Gx j i a b d = Gx j (i + 1) (a + f j i) (b + f2 j i) d2)
    (h3 : ∀ (j : Nat) (a b : Int) (d : E), j < H → (0 ≤ a ∧ a ≤ 2500) → (0 ≤ b ∧ b ≤ 2500) → ∃ d2, Gx j W a b d = Gy (j + 1) a b d2) (d : E) :
    ∃ d2, Gy 0 0 0 d = Gy H (sumN (fun j => sumN (f j) W) H) (sumN (fun j => sumN (f2 j) W) H) d2 := by
  obtain ⟨s, e, g1, -, g2, -⟩ := loop_ex (fun j (s : (Int × Int) × E) => Gy j s.1.1 s.1.2 s.2) (fun j s => s.1.1 = sumN (fun j => sumN (f j) W) j ∧ (0 ≤ s.1.1 ∧ s.1.1 ≤ 100 * j) ∧ s.1.2 = sumN (fun j => sumN (f2 j) W) j ∧ (0 ≤ s.1.2 ∧ s.1.2 ≤ 100 * j)) H 0 ((0, 0), d) (Nat.zero_le _) ⟨rfl, by simp, rfl, by simp⟩ (fun j s _ hj hP => by
    obtain ⟨⟨a, b⟩, d⟩ := s
    obtain ⟨p1, p2, p3, p4⟩ := hP
    dsimp only at p1 p2 p3 p4
    obtain ⟨d2, e1⟩ := h1 j a b d hj (by omega) (by omega)
    obtain ⟨t, e2, q1, q2, q3, q4⟩ := loop_ex (fun i (s : (Int × Int) × E) => Gx j i s.1.1 s.1.2 s.2) (fun i s => s.1.1 = a + sumN (f j) i ∧ (a ≤ s.1.1 ∧ s.1.1 ≤ a + 4 * i) ∧ s.1.2 = b + sumN (f2 j) i ∧ (b ≤ s.1.2 ∧ s.1.2 ≤ b + 4 * i)) W 0 ((a, b), d2) (Nat.zero_le _) ⟨by show a = a + 0; omega, by simp, by show b = b + 0; omega, by simp⟩ (fun i s _ hi hP => by
      obtain ⟨⟨u, v⟩, d⟩ := s
      obtain ⟨q1, q2, q3, q4⟩ := hP
      dsimp only at q1 q2 q3 q4
      obtain ⟨d3, e3⟩ := h2 j i u v d hj hi (by omega) (by omega)
      have := hf j i hj hi
      refine ⟨((u + f j i, v + f2 j i), d3), e3, ?_, ?_, ?_, ?_⟩
      · show u + f j i = a + (sumN (f j) i + f j i); omega
      · show a ≤ u + f j i ∧ u + f j i ≤ a + 4 * ((i + 1 : Nat) : Int); omega
      · show v + f2 j i = b + (sumN (f2 j) i + f2 j i); omega
      · show b ≤ v + f2 j i ∧ v + f2 j i ≤ b + 4 * ((i + 1 : Nat) : Int); omega)
    obtain ⟨⟨u, v⟩, d4⟩ := t
    dsimp only at q1 q2 q3 q4
    obtain ⟨d5, e4⟩ := h3 j u v d4 hj (by omega) (by omega)
    refine ⟨((u, v), d5), e1.trans ((show _ = _ from e2).trans e4), ?_, ?_, ?_, ?_⟩
    · show u = sumN (fun j => sumN (f j) W) j + sumN (f j) W; omega
    · show 0 ≤ u ∧ u ≤ 100 * ((j + 1 : Nat) : Int); omega
    · show v = sumN (fun j => sumN (f2 j) W) j + sumN (f2 j) W; omega
    · show 0 ≤ v ∧ v ≤ 100 * ((j + 1 : Nat) : Int); omega)
  obtain ⟨⟨a, b⟩, d2⟩ := s
  dsimp only at g1 g2
  exact ⟨d2, by rw [← g1, ← g2]; exact e⟩
section MPAGE2
variable {sc : Nat × (Nat → Int)} {iv g : Nat → Nat → Int}
/-- what is told of a page -/
def pagF (g : Nat → Nat → Int) (p what : Int) : Int := if 0 ≤ p ∧ p < acr g * dwn g then
    (if what = 0 then lefC g p else if what = 1 then topC g p else if what = 2 then rigC g p - lefC g p else if what = 3 then botC g p - topC g p else if what = 4 then talC g p 1 0 6 else if what = 5 then talC g p 0 1 6 else -2) else -1
set_option maxHeartbeats 4000000 in
theorem pag_M {w h : Nat} {p what : Int} (hM : MGr g iv w h) (hL : MLy g iv) : Run sc 169 0 [some (Rf 52), some (I p), some (I what), none, none, none, none, none, none, none, none, none] [] (hp iv) = some (some (I (pagF g p what)), hp iv) := by
  have hD := hM.1
  have ht := tot_b hL.1 hD
  obtain ⟨⟨d1, d2, d3, d4, d5, d6⟩, e1, e2, e3⟩ := id hM
  obtain ⟨⟨l1, l2, l3⟩, m1, m2, m3⟩ := id hL
  unfold pagF
  rw [B_X7_page_0, pgs_M hM hL, aBind_some, pushR_some, B_X7_page_6, chk_pos (by omega)]
  by_cases c : 0 ≤ p ∧ p < acr g * dwn g
  · have bl := lef_b (p := p) hL.1 hD
    have bt := top_b (p := p) hL.1 hD (by omega)
    have el : p % acr g * (g 49 1 - g 49 3) = lefC g p := rfl
    have et : p / acr g * (g 49 2 - g 49 3) = topC g p := rfl
    rw [in_T (by omega), aBind_some, pushR_some, B_X7_page_11, ite_F (by omega), B_X7_page_16, besA_M hM hL, aBind_some, pushR_some, B_X7_page_29, bck_pos (by omega), bck_pos (by omega), m1, m3, el, chk_pos (by omega), chk_pos (by omega)]
    have eb := besA_M (sc := sc) hM hL
    rw [m1] at eb
    rw [eb, aBind_some, pushR_some, B_X7_page_54, bck_pos (by omega), bck_pos (by omega), m2, m3, et, chk_pos (by omega), chk_pos (by omega), e1, chk_pos (by omega)]
    rw [m1]
    have s1 : (if g 49 1 < (w : Int) - lefC g p then Run sc 169 93 [some (Rf 52), some (I p), some (I what), some (I (lefC g p)), some (I (topC g p)), none, none, none, none, none, none, none] [I (g 49 1)] (hp iv) else Run sc 169 87 [some (Rf 52), some (I p), some (I what), some (I (lefC g p)), some (I (topC g p)), none, none, none, none, none, none, none] [] (hp iv)) = Run sc 169 93 [some (Rf 52), some (I p), some (I what), some (I (lefC g p)), some (I (topC g p)), none, none, none, none, none, none, none] [I (rigC g p - lefC g p)] (hp iv) := by
      unfold rigC
      by_cases q : g 49 1 < (w : Int) - lefC g p
      · rw [if_pos q, if_neg (by omega), show lefC g p + g 49 1 - lefC g p = g 49 1 by omega]
      · rw [if_neg q, B_X7_page_87, e1, chk_pos (by omega)]
        by_cases q2 : g 2 0 < lefC g p + g 49 1
        · rw [if_pos q2, d1]
        · rw [if_neg q2, show (w : Int) - lefC g p = lefC g p + g 49 1 - lefC g p by omega]
    have s2 : Run sc 169 93 [some (Rf 52), some (I p), some (I what), some (I (lefC g p)), some (I (topC g p)), none, none, none, none, none, none, none] [I (rigC g p - lefC g p)] (hp iv) = Run sc 169 123 [some (Rf 52), some (I p), some (I what), some (I (lefC g p)), some (I (topC g p)), some (I (rigC g p - lefC g p)), none, none, none, none, none, none] [I (botC g p - topC g p)] (hp iv) := by
      unfold botC
      rw [B_X7_page_93, e2, m2, chk_pos (by omega)]
      by_cases q : g 49 2 < (h : Int) - topC g p
      · rw [if_pos q, if_neg (by omega), show topC g p + g 49 2 - topC g p = g 49 2 by omega]
      · rw [if_neg q, B_X7_page_116, e2, chk_pos (by omega)]
        by_cases q2 : g 2 1 < topC g p + g 49 2
        · rw [if_pos q2, d2]
        · rw [if_neg q2, show (h : Int) - topC g p = topC g p + g 49 2 - topC g p by omega]
    rw [s1, s2, B_X7_page_123]
    have br : rigC g p ≤ 24 ∧ rigC g p ≤ w ∧ 0 ≤ rigC g p := by unfold rigC; split <;> omega
    have bb : botC g p ≤ 24 ∧ botC g p ≤ h ∧ 0 ≤ botC g p := by unfold botC; split <;> omega
    have hta1 : talC g p 1 0 6 = sumN (fun j => sumN (fun i => talT g p 1 0 6 (lefC g p + i) (topC g p + j)) (rigC g p - lefC g p).toNat) (botC g p - topC g p).toNat := rfl
    have hta2 : talC g p 0 1 6 = sumN (fun j => sumN (fun i => talT g p 0 1 6 (lefC g p + i) (topC g p + j)) (rigC g p - lefC g p).toNat) (botC g p - topC g p).toNat := rfl
    rw [if_pos c, hta1, hta2]
    generalize hl : lefC g p = l at *
    generalize htp : topC g p = t at *
    generalize hr : rigC g p = r at *
    generalize hbo : botC g p = bo at *
    obtain ⟨e, q⟩ := loop22 (fun j a b (d : Option AV × Option AV) => Run sc 169 135 [some (Rf 52), some (I p), some (I what), some (I l), some (I t), some (I (r - l)), some (I (bo - t)), some (I a), some (I b), some (I (t + j)), d.1, d.2] [] (hp iv)) (fun j i a b d => Run sc 169 148 [some (Rf 52), some (I p), some (I what), some (I l), some (I t), some (I (r - l)), some (I (bo - t)), some (I a), some (I b), some (I (t + j)), some (I (l + i)), d.2] [] (hp iv)) (fun j i => talT g p 1 0 6 (l + i) (t + j)) (fun j i => talT g p 0 1 6 (l + i) (t + j)) (r - l).toNat (bo - t).toNat (by omega) (by omega) (fun j i _ _ => by have := talT_b (iv := g) (p := p) (b := 1) (lo := 0) (hi := 6) (x := l + i) (y := t + j); have := talT_b (iv := g) (p := p) (b := 0) (lo := 1) (hi := 6) (x := l + i) (y := t + j); omega)
      (fun j a b d hj ha hb => ⟨d, by rw [B_X7_page_135, chk_pos (by omega), if_pos (by omega), Int.add_zero]⟩)
      (fun j i a b d hj hi2 ha hb => by
        have hin : inC g (l + i) (t + j) := by unfold inC; omega
        have hcb := gC_b (iv := g) (x := l + i) (y := t + j) d1 d4 d2 d6 (fun j hj => (e3 j hj).2)
        refine ⟨(none, some (I (if ownC g (l + i) (t + j) = p then 1 else 0))), ?_⟩
        dsimp only
        rw [B_X7_page_148, chk_pos (by omega), if_pos (by omega), own_M hM hL (by omega) (by omega), aBind_some, pushR_some, B_X7_page_165]
        unfold talT
        by_cases z : ownC g (l + i) (t + j) = p
        · rw [if_pos z, if_pos z, if_pos ⟨rfl, hcb⟩, if_neg (by omega), B_X7_page_174, if_neg (by omega), B_X7_page_188, chk_pos (by omega), if_neg (by omega), B_X7_page_213, B_X7_page_214, chk_pos (by omega), chk_pos (by omega), Int.add_assoc]
        · rw [if_neg z, if_neg z, if_neg (show ¬ ((0 : Int) = 1 ∧ 0 ≤ gC g (l + i) (t + j) ∧ gC g (l + i) (t + j) ≤ 6) by omega), B_X7_page_173, B_X7_page_174, if_pos rfl, B_X7_page_187, B_X7_page_188, chk_pos (by omega), if_pos rfl, at_M hM, aBind_some, pushR_some, B_X7_page_206, aM_in hin]
          by_cases z2 : 0 < gC g (l + i) (t + j)
          · rw [if_pos z2, if_pos (by omega), B_X7_page_214, chk_pos (by omega), chk_pos (by omega), Int.add_assoc l]
          · rw [if_neg z2, if_neg (by omega), B_X7_page_213, B_X7_page_214, chk_pos (by omega), chk_pos (by omega), Int.add_assoc l])
      (fun j a b d hj ha hb => ⟨(some (I (l + (r - l).toNat)), d.2), by dsimp only; rw [B_X7_page_148, chk_pos (by omega), if_neg (by omega), B_X7_page_223, chk_pos (by omega), Int.add_assoc]⟩) (none, none)
    rw [Int.add_zero] at q
    rw [q, B_X7_page_135, chk_pos (by omega), if_neg (by omega), B_X7_page_229]
    by_cases c0 : what = 0
    · rw [if_pos c0, if_pos c0, B_X7_page_268]
    rw [if_neg c0, if_neg c0]
    by_cases c1 : what = 1
    · rw [if_pos c1, if_pos c1, B_X7_page_270]
    rw [if_neg c1, if_neg c1]
    by_cases c2 : what = 2
    · rw [if_pos c2, if_pos c2, B_X7_page_273]
    rw [if_neg c2, if_neg c2]
    by_cases c3 : what = 3
    · rw [if_pos c3, if_pos c3, B_X7_page_276]
    rw [if_neg c3, if_neg c3]
    by_cases c4 : what = 4
    · rw [if_pos c4, if_pos c4, B_X7_page_279]
    rw [if_neg c4, if_neg c4]
    by_cases c5 : what = 5
    · rw [if_pos c5, if_pos c5, B_X7_page_282]
    rw [if_neg c5, if_neg c5, B_X7_page_285]
  · rw [in_F (by omega), aBind_some, pushR_some, B_X7_page_11, ite_T (by omega), if_neg c]
/-- how many cells of a color a page owns -/
def onpT (g : Nat → Nat → Int) (p c : Int) (i j : Nat) : Int := if gC g i j = c then (if ownC g i j = p then 1 else 0) else 0
def onpF (g : Nat → Nat → Int) (w h : Nat) (p c : Int) : Int := sumN (fun i => sumN (fun j => onpT g p c i j) h) w
theorem onpT_b {p c : Int} {i j : Nat} : 0 ≤ onpT g p c i j ∧ onpT g p c i j ≤ 1 := by unfold onpT; split; split <;> omega; omega
theorem onpF_b {w h : Nat} {p c : Int} (hw : w ≤ 24) (hh : h ≤ 24) : 0 ≤ onpF g w h p c ∧ onpF g w h p c ≤ 576 := by
  unfold onpF
  have h1 : ∀ i, 0 ≤ sumN (fun j => onpT g p c i j) h ∧ sumN (fun j => onpT g p c i j) h ≤ 24 := fun i => by
    have := sumN_le (f := fun j => onpT g p c i j) (n := h) (c := 1) (fun j _ => onpT_b.2)
    have := sumN_nonneg (f := fun j => onpT g p c i j) (n := h) (fun j _ => onpT_b.1)
    omega
  have := sumN_le (f := fun i => sumN (fun j => onpT g p c i j) h) (n := w) (c := 24) (fun i _ => (h1 i).2)
  have := sumN_nonneg (f := fun i => sumN (fun j => onpT g p c i j) h) (n := w) (fun i _ => (h1 i).1)
  omega
theorem son_M {w h : Nat} {p c : Int} (hM : MGr g iv w h) (hL : MLy g iv) (hc : 1 ≤ c) : Run sc 170 0 [some (Rf 52), some (I p), some (I c), none, none, none] [] (hp iv) = some (some (I (onpF g w h p c)), hp iv) := by
  obtain ⟨⟨d1, d2, d3, d4, d5, d6⟩, e1, e2, e3⟩ := id hM
  rw [B_X7_stitchesOn_0]
  obtain ⟨e, q⟩ := loop2 (fun i a (d : Option AV) => Run sc 170 5 [some (Rf 52), some (I p), some (I c), some (I a), some (I i), d] [] (hp iv)) (fun i j a d => Run sc 170 17 [some (Rf 52), some (I p), some (I c), some (I a), some (I i), some (I j)] [] (hp iv)) (fun i j => onpT g p c i j) h w (by omega) (by omega) (fun j i _ _ => by have := onpT_b (g := g) (p := p) (c := c) (i := j) (j := i); omega)
    (fun i a d hi ha => ⟨d, by rw [B_X7_stitchesOn_5, ite_T (by omega)]⟩)
    (fun i j a d hi hj ha => by
      refine ⟨d, ?_⟩
      rw [B_X7_stitchesOn_17, ite_T (by omega), at_M hM, aBind_some, pushR_some, B_X7_stitchesOn_35]
      unfold onpT
      by_cases z : gC g i j = c
      · rw [if_pos ((aM_eq hc).mpr z), if_pos z, own_M hM hL (by omega) (by omega), aBind_some, pushR_some, B_X7_stitchesOn_47]
        by_cases z2 : ownC g i j = p
        · rw [if_pos z2, if_pos z2, B_X7_stitchesOn_56, chk_pos (by omega), chk_pos (by omega)]
        · rw [if_neg z2, if_neg z2, B_X7_stitchesOn_55, B_X7_stitchesOn_56, chk_pos (by omega), chk_pos (by omega)]
      · rw [if_neg (fun y => z ((aM_eq hc).mp y)), if_neg z, B_X7_stitchesOn_55, B_X7_stitchesOn_56, chk_pos (by omega), chk_pos (by omega)])
    (fun i a d hi ha => ⟨some (I h), by rw [B_X7_stitchesOn_17, ite_F (by omega), B_X7_stitchesOn_64, chk_pos (by omega)]⟩) none
  rw [q, B_X7_stitchesOn_5, ite_F (by omega), B_X7_stitchesOn_70]
  rfl
end MPAGE2
