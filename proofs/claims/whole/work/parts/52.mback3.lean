/-! StitchChartModel: backs -/
section MBACK3
variable {sc : Nat × (Nat → Int)} {iv g : Nat → Nat → Int}
/-- what is told of back stitches -/
noncomputable def bacF (w h : Nat) (U F : Nat → Int) (t what : Int) : Int := if what = 0 then edgC w h U F else if what = 1 then (grS (adjP w h U F) (ptN w h U F) 625).2.1 else if what = 2 then (grS (adjP w h U F) (ptN w h U F) 625).2.2.1 else if what = 3 then 20 * edgC w h U F + 2 * t * (grS (adjP w h U F) (ptN w h U F) 625).2.2.1 else if what = 4 then oddC w h U F else -2
theorem grS_oddC {w h : Nat} {U F : Nat → Int} (hw : w ≤ 24) (hh : h ≤ 24) (hU : bitB U) (hF : bitB F) : (grS (adjP w h U F) (ptN w h U F) 625).2.2.2 = oddC w h U F := by
  obtain ⟨h1, h2⟩ := grS_odd (A := adjP w h U F) (pt := ptN w h U F) 625 (Nat.le_refl _)
  rw [h1, sumN_congr (g := fun j => ptN w h U F j % 2) (fun j hj => by
    by_cases z : (grS (adjP w h U F) (ptN w h U F) 625).1 j = 1
    · rw [if_pos z]
    · rw [if_neg z]
      have hb := ptF_b (w := w) (h := h) (x := pX j) (y := pY j) hU hF (by omega) (by omega)
      have : ¬ 0 < ptN w h U F j := fun y => z (h2 j hj y)
      have e : ptN w h U F j = ptF w h U F (pX j) (pY j) := rfl
      omega), sumN_pts hw hh (fun x y hx hy hc => by
        rw [ptN_0 (by omega)]; rfl)]
  unfold oddC
  apply sumN_congr
  intro y hy
  apply sumN_congr
  intro x hx
  unfold ptN pX pY
  rw [show (y * 25 + x) % 25 = x by omega, show (y * 25 + x) / 25 = y by omega]
theorem edgC_b {w h : Nat} {U F : Nat → Int} (hw : w ≤ 24) (hh : h ≤ 24) (hU : bitB U) (hF : bitB F) : 0 ≤ edgC w h U F ∧ edgC w h U F ≤ 1250 := by
  unfold edgC
  have h1 : ∀ j : Nat, 0 ≤ sumN (fun i => eU w h U i j + eF w h F i j) (w + 1) ∧ sumN (fun i => eU w h U i j + eF w h F i j) (w + 1) ≤ 50 := fun j => by
    have hb : ∀ i : Nat, 0 ≤ eU w h U i j + eF w h F i j ∧ eU w h U i j + eF w h F i j ≤ 2 := fun i => by
      have := eU_b (w := w) (h := h) (x := i) (y := j) hU (by omega) (by omega)
      have := eF_b (w := w) (h := h) (x := i) (y := j) hF (by omega) (by omega)
      omega
    have := sumN_le (f := fun i => eU w h U i j + eF w h F i j) (n := w + 1) (c := 2) (fun i _ => (hb i).2)
    have := sumN_nonneg (f := fun i => eU w h U i j + eF w h F i j) (n := w + 1) (fun i _ => (hb i).1)
    omega
  have := sumN_le (f := fun j => sumN (fun i => eU w h U i j + eF w h F i j) (w + 1)) (n := h + 1) (c := 50) (fun j _ => (h1 j).2)
  have := sumN_nonneg (f := fun j => sumN (fun i => eU w h U i j + eF w h F i j) (w + 1)) (n := h + 1) (fun j _ => (h1 j).1)
  omega
set_option maxHeartbeats 4000000 in
theorem bac_M {w h : Nat} {what : Int} (hB : MBk g iv w h) (hO : BkOut g w h) (hy : 0 ≤ iv 52 3 ∧ iv 52 3 ≤ 200) : ∃ iv2, Run sc 163 0 [some (Rf 52), some (I what), none, none, none, none, none, none] [] (hp iv) = some (some (I (bacF w h (g 45) (g 46) (iv 52 3) what)), hp iv2) ∧ OnlyQ iv iv2 := by
  obtain ⟨⟨d1, d2, d3, d4, d5, d6⟩, e1, e2, hU, hF, e5⟩ := id hB
  generalize hA : adjP w h (g 45) (g 46) = A at *
  generalize hpt : ptN w h (g 45) (g 46) = pt at *
  rw [B_X7_backs_0]
  obtain ⟨s, e, g1, g2⟩ := loop_ex (fun i (s : Nat → Nat → Int) => Run sc 163 2 [some (Rf 52), some (I what), some (I i), none, none, none, none, none] [] (hp s)) (fun i s => OnlyQ iv s ∧ ∀ j, j < i → s 64 j = 0) 625 0 iv (Nat.zero_le _) ⟨OnlyQ.rf, fun j hj => absurd hj (Nat.not_lt_zero _)⟩ (fun i s _ hi hP => by
    obtain ⟨a1, a2⟩ := hP
    refine ⟨setO s 64 (upI (s 64) i 0), ?_, a1.tr ⟨fun k b1 b2 b3 => by rw [setO_ne b1], fun f _ => by rw [setO_ne (by omega)]⟩, fun j hj => ?_⟩
    · rw [B_X7_backs_2, ite_T (by omega), bck_pos (by omega), bck_pos (by omega), B_X7_backs_16, chk_pos (by omega), Int.toNat_natCast]
    · rw [setO_same]
      by_cases q : j = i
      · rw [q, upI_same]
      · rw [upI_ne q]; exact a2 j (by omega))
  have e0 : Run sc 163 2 [some (Rf 52), some (I what), some (I 0), none, none, none, none, none] [] (hp iv) = Run sc 163 32 [some (Rf 52), some (I what), some (I 0), some (I 0), some (I 0), some (I 0), none, none] [] (hp s) := by
    refine (show _ = _ from e).trans ?_
    show Run sc 163 2 [some (Rf 52), some (I what), some (I ((625 : Nat) : Int)), none, none, none, none, none] [] (hp s) = _
    rw [B_X7_backs_2, ite_F (by omega), B_X7_backs_22]
  rw [e0]
  have vb := fun (t : Nat) (ht : t ≤ 625) => grS_b (A := A) (pt := pt) t ht
  let In : Nat → (Nat → Nat → Int) → Prop := fun t s => OnlyQ iv s ∧ ∀ j, j < 625 → s 64 j = (grS A pt t).1 j
  let V : Nat → Int × Int × Int := fun t => (grS A pt t).2
  obtain ⟨q, e3, f1, f2⟩ := loop_ex (fun y (s : ((Int × Int × Int) × Option AV × Option AV) × (Nat → Nat → Int)) => Run sc 163 32 [some (Rf 52), some (I what), some (I s.1.1.1), some (I s.1.1.2.1), some (I s.1.1.2.2), some (I y), s.1.2.1, s.1.2.2] [] (hp s.2)) (fun y s => s.1.1 = (grS A pt (y * 25)).2 ∧ In (y * 25) s.2) (h + 1) 0 (((0, 0, 0), none, none), s) (Nat.zero_le _) ⟨rfl, g1, fun j hj => g2 j hj⟩ (fun y s _ hy2 hP => by
    obtain ⟨⟨a, e4, e5'⟩, iv1⟩ := s
    obtain ⟨p1, p2⟩ := hP
    dsimp only at p1 p2
    obtain ⟨t, e, q1, q2⟩ := loop_ex (fun x (s : ((Int × Int × Int) × Option AV) × (Nat → Nat → Int)) => Run sc 163 44 [some (Rf 52), some (I what), some (I s.1.1.1), some (I s.1.1.2.1), some (I s.1.1.2.2), some (I y), some (I x), s.1.2] [] (hp s.2)) (fun x s => s.1.1 = (grS A pt (y * 25 + x)).2 ∧ In (y * 25 + x) s.2) (w + 1) 0 ((a, e5'), iv1) (Nat.zero_le _) ⟨p1, p2⟩ (fun x s _ hx hP => by
      obtain ⟨⟨⟨b1, b2, b3⟩, e7⟩, iv2⟩ := s
      obtain ⟨r1, r2, r3⟩ := hP
      dsimp only at r1 r2 r3
      have hB2 := hB.only r2
      obtain ⟨-, m1, m2, -, -, -⟩ := id hB2
      have ht : y * 25 + x < 625 := by omega
      have hv := vb (y * 25 + x) (by omega)
      have hv1 := vb (y * 25 + x + 1) (by omega)
      rw [← r1] at hv
      dsimp only at hv
      have hq : ptF w h (g 45) (g 46) x y = pt (y * 25 + x) := by
        rw [← hpt]
        unfold ptN pX pY
        rw [show (y * 25 + x) % 25 = x by omega, show (y * 25 + x) / 25 = y by omega]
      have ti : (25 * (y : Int) + x).toNat = y * 25 + x := by omega
      have head : Run sc 163 44 [some (Rf 52), some (I what), some (I b1), some (I b2), some (I b3), some (I y), some (I x), e7] [] (hp iv2) = if iv2 64 (y * 25 + x) = 0 then Run sc 163 76 [some (Rf 52), some (I what), some (I b1), some (I b2), some (I b3), some (I y), some (I x), e7] [I (pt (y * 25 + x))] (hp iv2) else Run sc 163 116 [some (Rf 52), some (I what), some (I b1), some (I b2), some (I b3), some (I y), some (I x), e7] [] (hp iv2) := by
        rw [B_X7_backs_44, ite_F (by omega), edg_M (by omega) (by omega), aBind_some, pushR_some, B_X7_backs_64, bck_pos (by omega), ti, bat_M hB2 (by omega) (by omega), aBind_some, pushR_some, hq]
      show ∃ s2 : ((Int × Int × Int) × Option AV) × (Nat → Nat → Int), Run sc 163 44 [some (Rf 52), some (I what), some (I b1), some (I b2), some (I b3), some (I y), some (I x), e7] [] (hp iv2) = Run sc 163 44 [some (Rf 52), some (I what), some (I s2.1.1.1), some (I s2.1.1.2.1), some (I s2.1.1.2.2), some (I y), some (I ((x : Int) + 1)), s2.1.2] [] (hp s2.2) ∧ s2.1.1 = (grS A pt (y * 25 + x + 1)).2 ∧ In (y * 25 + x + 1) s2.2
      rw [head]
      by_cases z2 : iv2 64 (y * 25 + x) = 0
      · rw [if_pos z2, B_X7_backs_76]
        by_cases z : 0 < pt (y * 25 + x)
        · rw [if_pos z]
          generalize hivz : setO iv2 52 (upI (iv2 52) 27 0) = ivz
          have oz : OnlyQ iv2 ivz := ⟨fun k a1 a2 a3 => by rw [← hivz, setO_ne a3], fun f a1 => by rw [← hivz, setO_same, upI_ne a1]⟩
          have z64 : ivz 64 = iv2 64 := by rw [← hivz, setO_ne (by omega)]
          have z27 : ivz 52 27 = ((0 : Nat) : Int) := by rw [← hivz, setO_same, upI_same]; rfl
          have hnew := rp_new (sc := sc) (iv := ivz) (x := x) (y := y) (b := y * 25 + x) (n := 0) (by omega) (by omega) (by omega) z27 (by omega) (by rw [z64]; exact z2)
          generalize hiv3 : setO (setO (setO ivz 64 (upI (ivz 64) (y * 25 + x) 1)) 65 (upI (ivz 65) 0 ((y * 25 + x : Nat) : Int))) 52 (upI (ivz 52) 27 (((0 : Nat) : Int) + 1)) = iv3 at hnew
          have o3 : OnlyQ ivz iv3 := ⟨fun k b1 b2 b3 => by rw [← hiv3, setO_ne b3, setO_ne b2, setO_ne b1], fun f b1 => by rw [← hiv3, setO_same, upI_ne b1]⟩
          have v64 : iv3 64 = upI (iv2 64) (y * 25 + x) 1 := by rw [← hiv3, setO_ne (by omega), setO_ne (by omega), setO_same, z64]
          have v65 : iv3 65 = upI (ivz 65) 0 ((y * 25 + x : Nat) : Int) := by rw [← hiv3, setO_ne (by omega), setO_same]
          have v27 : iv3 52 27 = ((1 : Nat) : Int) := by rw [← hiv3, setO_same, upI_same]; rfl
          have bit0 : ∀ j, j < 625 → 0 ≤ iv2 64 j ∧ iv2 64 j ≤ 1 := fun j hj => by
            rw [r3 j hj]
            rcases grS_bit (A := A) (pt := pt) (y * 25 + x) j with w | w <;> rw [w] <;> omega
          have hbf : BF (adjP w h (g 45) (g 46)) (iv2 64) (y * 25 + x) (iv3 64) (iv3 65) 1 0 := by
            rw [v64, v65]; exact BF.init bit0 ht (by omega)
          obtain ⟨iv4, n2, k1, k2, k3⟩ := grpQ (sc := sc) (X := x) (Y := y) 625 0 iv3 1 none none rfl ((hB2.only oz).only o3) v27 hbf
          rw [hA] at k3
          rw [hpt] at k1
          subst hA
          obtain ⟨m1', m2', m3'⟩ := grp_fin (by omega) (by omega) ht r3 k3 z (by omega)
          rw [m2'] at k1
          have hgo := grO_b (A := adjP w h (g 45) (g 46)) (pt := pt) (t := y * 25 + x)
          refine ⟨(((grS (adjP w h (g 45) (g 46)) pt (y * 25 + x + 1)).2, some (I (grO (adjP w h (g 45) (g 46)) pt (y * 25 + x)))), iv4), ?_, rfl, r2.tr (oz.tr (o3.tr k2)), m1'⟩
          have k1' : Run sc 162 17 [some (Rf 52), some (I x), some (I y), some (I 0), some (I 0), none, none] [] (hp iv3) = _ := k1
          rw [B_X7_goThrough_0, bck_pos (by omega), hivz, B_X7_goThrough_5, hnew, aBind_some, pushR_none, B_X7_goThrough_12, k1', aBind_some, pushR_some, B_X7_backs_87]
          rw [m3'] at hv1 ⊢
          rw [← r1] at hv1 ⊢
          dsimp only at hv1 ⊢
          rw [chk_pos (by omega), chk_pos (by omega)]
          by_cases z3 : 2 < grO (adjP w h (g 45) (g 46)) pt (y * 25 + x)
          · rw [if_pos z3] at hv1
            rw [if_pos z3, if_pos z3, bck_pos (by omega), bck_pos (by omega), B_X7_backs_114, chk_pos (by omega), B_X7_backs_116, chk_pos (by omega)]
          · rw [if_neg z3] at hv1
            rw [if_neg z3, if_neg z3, B_X7_backs_113, B_X7_backs_114, chk_pos (by omega), B_X7_backs_116, chk_pos (by omega)]
        · have hf : ¬ (0 < pt (y * 25 + x) ∧ (grS A pt (y * 25 + x)).1 (y * 25 + x) ≠ 1) := fun y2 => z y2.1
          refine ⟨(((b1, b2, b3), e7), iv2), ?_, by rw [grS_F hf]; exact r1, r2, by rw [grS_F hf]; exact r3⟩
          rw [if_neg z, B_X7_backs_116, chk_pos (by omega)]
      · have hf : ¬ (0 < pt (y * 25 + x) ∧ (grS A pt (y * 25 + x)).1 (y * 25 + x) ≠ 1) := fun y2 => by
          have := r3 _ ht
          rcases grS_bit (A := A) (pt := pt) (y * 25 + x) (y * 25 + x) with w | w
          · exact z2 (this.trans w)
          · exact y2.2 w
        refine ⟨(((b1, b2, b3), e7), iv2), ?_, by rw [grS_F hf]; exact r1, r2, by rw [grS_F hf]; exact r3⟩
        rw [if_neg z2, B_X7_backs_116, chk_pos (by omega)])
    obtain ⟨⟨b, e6⟩, iv2⟩ := t
    dsimp only at q1 q2
    obtain ⟨-, m1, m2, -, -, -⟩ := hB.only q2.1
    obtain ⟨-, n1, n2, -, -, -⟩ := hB.only p2.1
    have sk : grS A pt ((y + 1) * 25) = grS A pt (y * 25 + (w + 1)) := by
      have := grS_skip (A := A) (pt := pt) (t := y * 25 + (w + 1)) (m := 24 - w) (fun j h1 h2 => by rw [← hpt]; exact ptN_0 (Or.inl (by omega)))
      rwa [show y * 25 + (w + 1) + (24 - w) = (y + 1) * 25 by omega] at this
    refine ⟨((b, some (I ((w + 1 : Nat) : Int)), e6), iv2), ?_, ?_, q2.1, ?_⟩
    · show Run sc 163 32 [some (Rf 52), some (I what), some (I a.1), some (I a.2.1), some (I a.2.2), some (I y), e4, e5'] [] (hp iv1) = Run sc 163 32 [some (Rf 52), some (I what), some (I b.1), some (I b.2.1), some (I b.2.2), some (I ((y : Int) + 1)), some (I ((w + 1 : Nat) : Int)), e6] [] (hp iv2)
      rw [B_X7_backs_32, ite_F (by omega)]
      refine (show _ = _ from e).trans ?_
      show Run sc 163 44 [some (Rf 52), some (I what), some (I b.1), some (I b.2.1), some (I b.2.2), some (I y), some (I ((w + 1 : Nat) : Int)), e6] [] (hp iv2) = _
      rw [B_X7_backs_44, ite_T (by omega), B_X7_backs_122, chk_pos (by omega)]
    · show b = (grS A pt ((y + 1) * 25)).2; rw [sk]; exact q1
    · show ∀ j, j < 625 → iv2 64 j = (grS A pt ((y + 1) * 25)).1 j; rw [sk]; exact q2.2)
  obtain ⟨⟨⟨a1, a2, a3⟩, e4, e5'⟩, iv1⟩ := q
  dsimp only at f1 f2
  have hB1 := hB.only f2.1
  obtain ⟨-, m1, m2, -, -, -⟩ := id hB1
  have sk : grS A pt 625 = grS A pt ((h + 1) * 25) := by
    have := grS_skip (A := A) (pt := pt) (t := (h + 1) * 25) (m := 625 - (h + 1) * 25) (fun j h1 h2 => by rw [← hpt]; exact ptN_0 (Or.inr (by omega)))
    rwa [show (h + 1) * 25 + (625 - (h + 1) * 25) = 625 by omega] at this
  rw [← sk] at f1
  have hodd := grS_oddC (U := g 45) (F := g 46) d4 d6 hU hF
  rw [hA, hpt, ← f1] at hodd
  have hed := edgC_b (U := g 45) (F := g 46) d4 d6 hU hF
  have hv := vb 625 (Nat.le_refl _)
  rw [← f1] at hv
  dsimp only at hodd hv
  refine ⟨iv1, (show _ = _ from e3).trans ?_, f2.1⟩
  show Run sc 163 32 [some (Rf 52), some (I what), some (I a1), some (I a2), some (I a3), some (I ((h + 1 : Nat) : Int)), e4, e5'] [] (hp iv1) = _
  rw [B_X7_backs_32, ite_T (by omega), B_X7_backs_128]
  unfold bacF
  rw [hA, hpt, ← f1]
  dsimp only
  by_cases c0 : what = 0
  · rw [if_pos c0, if_pos c0, B_X7_backs_164, all_M hB1 hO, aBind_some, pushR_some, B_X7_backs_168]
  rw [if_neg c0, if_neg c0]
  by_cases c1 : what = 1
  · rw [if_pos c1, if_pos c1, B_X7_backs_169]
  rw [if_neg c1, if_neg c1]
  by_cases c2 : what = 2
  · rw [if_pos c2, if_pos c2, B_X7_backs_171]
  rw [if_neg c2, if_neg c2]
  by_cases c3 : what = 3
  · have h3 := f2.1.2 3 (by omega)
    have hm := mulB (a := 2 * iv 52 3) (b := a2) (m := 400) (n := 200000) (by omega) (by omega)
    rw [if_pos c3, if_pos c3, B_X7_backs_173, all_M hB1 hO, aBind_some, pushR_some, B_X7_backs_179, h3, chk_pos (by omega), chk_pos (by omega), chk_pos (by omega), chk_pos (by omega)]
  rw [if_neg c3, if_neg c3]
  by_cases c4 : what = 4
  · rw [if_pos c4, if_pos c4, B_X7_backs_190, hodd]
  rw [if_neg c4, if_neg c4, B_X7_backs_193]
end MBACK3
