/-! StitchChart$BackStitches: sums over groups -/
section BACKS4
variable {sc : Nat × (Nat → Int)} {iv : Nat → Nat → Int}
theorem clo_congr {A : Nat → Nat → Prop} {R0 R1 : Nat → Int} {p j : Nat} (h : ∀ a, a < 625 → R0 a = R1 a) (H : clo A R0 p j) : clo A R1 p j := fun Q h1 h2 h3 => H Q h1 (fun a ha hr => h2 a ha (by rw [← h a ha]; exact hr)) h3
theorem cloI_congr {A : Nat → Nat → Prop} {R0 R1 : Nat → Int} {p j : Nat} (h : ∀ a, a < 625 → R0 a = R1 a) : cloI A R0 p j = cloI A R1 p j := by
  by_cases q : clo A R0 p j
  · rw [cloI_T q, cloI_T (clo_congr h q)]
  · rw [cloI_F q, cloI_F (fun z => q (clo_congr (fun a ha => (h a ha).symm) z))]
theorem ptN_0 {w h : Nat} {U F : Nat → Int} {j : Nat} (hx : w < j % 25 ∨ h < j / 25) : ptN w h U F j = 0 := by
  unfold ptN ptF eU eF
  rw [if_neg (by unfold pX pY; omega), if_neg (by unfold pX pY; omega), if_neg (by unfold pX pY; omega), if_neg (by unfold pX pY; omega)]
  rfl
/-- the search that goes through one group: reached ones as in the sum -/
theorem grp_fin {w h : Nat} {U F R0 R q : Nat → Int} {t n : Nat} {pt : Nat → Int} (hw : w ≤ 24) (hh : h ≤ 24) (ht : t < 625) (hR : ∀ j, j < 625 → R0 j = (grS (adjP w h U F) pt t).1 j) (H : BF (adjP w h U F) R0 t R q n n) (hp0 : 0 < pt t) (hr : R0 t ≠ 1) :
    (∀ j, j < 625 → R j = (grS (adjP w h U F) pt (t + 1)).1 j) ∧ sumN (fun i => pt (q i).toNat % 2) n = grO (adjP w h U F) pt t ∧ (grS (adjP w h U F) pt (t + 1)).2 = ((grS (adjP w h U F) pt t).2.1 + 1, (grS (adjP w h U F) pt t).2.2.1 + (if 2 < grO (adjP w h U F) pt t then grO (adjP w h U F) pt t / 2 else 1), (grS (adjP w h U F) pt t).2.2.2 + grO (adjP w h U F) pt t) := by
  have hlt : ∀ a b, a < 625 → adjP w h U F a b → b < 625 := fun a b ha hab => adjP_lt (by omega) (by omega) ha hab
  have hd := H.done hlt (fun a b ha h1 hab => by rw [hR b (hlt a b ha hab)]; rw [hR a ha] at h1; exact grS_clo t a b h1 hab) ht
  have hc : 0 < pt t ∧ (grS (adjP w h U F) pt t).1 t ≠ 1 := ⟨hp0, by rw [← hR t ht]; exact hr⟩
  rw [grS_T hc]
  refine ⟨fun j hj => ?_, ?_, rfl⟩
  · rw [hd j hj]; exact cloI_congr hR
  · rw [H.2.2.2.2.1 (fun j => pt j % 2)]
    unfold grO
    apply sumN_congr
    intro j hj
    rw [hd j hj, cloI_congr hR, hR j hj]
def grV (S : (Nat → Int) × (Int × Int × Int)) (os : Int) : Int := if os = 0 then S.2.1 else S.2.2.1
set_option maxHeartbeats 4000000 in
theorem sgr_S {w h : Nat} {os : Int} (hD : DimB iv w h) (hU : bitB (iv 45)) (hF : bitB (iv 46)) (hos : os = 0 ∨ os = 1) : ∃ iv2, Run sc 12 0 [some (Rf 44), some (I os), none, none, none, none] [] (hp iv) = some (some (I (grV (grS (adjP w h (iv 45) (iv 46)) (ptN w h (iv 45) (iv 46)) 625) os)), hp iv2) ∧ OnlyB iv iv2 := by
  obtain ⟨d1, d2, d3, d4, d5, d6⟩ := id hD
  generalize hA : adjP w h (iv 45) (iv 46) = A at *
  generalize hpt : ptN w h (iv 45) (iv 46) = pt at *
  rw [B_X0_sumOverGroups_0]
  obtain ⟨s, e, g1, g2⟩ := loop_ex (fun i (s : Nat → Nat → Int) => Run sc 12 2 [some (Rf 44), some (I os), some (I i), none, none, none] [] (hp s)) (fun i s => OnlyB iv s ∧ ∀ j, j < i → s 47 j = 0) 625 0 iv (Nat.zero_le _) ⟨OnlyB.rf, fun j hj => absurd hj (Nat.not_lt_zero _)⟩ (fun i s _ hi hP => by
    obtain ⟨a1, a2⟩ := hP
    refine ⟨setO s 47 (upI (s 47) i 0), ?_, a1.tr ⟨fun k b1 b2 b3 => by rw [setO_ne b1], fun f _ => by rw [setO_ne (by omega)]⟩, fun j hj => ?_⟩
    · rw [B_X0_sumOverGroups_2, ite_T (by omega), bck_pos (by omega), bck_pos (by omega), B_X0_sumOverGroups_16, chk_pos (by omega), Int.toNat_natCast]
    · rw [setO_same]
      by_cases q : j = i
      · rw [q, upI_same]
      · rw [upI_ne q]; exact a2 j (by omega))
  have e0 : Run sc 12 2 [some (Rf 44), some (I os), some (I 0), none, none, none] [] (hp iv) = Run sc 12 26 [some (Rf 44), some (I os), some (I 0), some (I 0), none, none] [] (hp s) := by
    refine (show _ = _ from e).trans ?_
    show Run sc 12 2 [some (Rf 44), some (I os), some (I ((625 : Nat) : Int)), none, none, none] [] (hp s) = _
    rw [B_X0_sumOverGroups_2, ite_F (by omega), B_X0_sumOverGroups_22]
  rw [e0]
  have vb : ∀ t, t ≤ 625 → 0 ≤ grV (grS A pt t) os ∧ grV (grS A pt t) os ≤ 320 * t := fun t ht => by
    obtain ⟨b1, b2, -⟩ := grS_b (A := A) (pt := pt) t ht
    unfold grV
    split <;> omega
  let In : Nat → (Nat → Nat → Int) → Prop := fun t s => OnlyB iv s ∧ ∀ j, j < 625 → s 47 j = (grS A pt t).1 j
  obtain ⟨q, e2, f1, f2⟩ := loop_ex (fun y (s : (Int × Option AV × Option AV) × (Nat → Nat → Int)) => Run sc 12 26 [some (Rf 44), some (I os), some (I s.1.1), some (I y), s.1.2.1, s.1.2.2] [] (hp s.2)) (fun y s => s.1.1 = grV (grS A pt (y * 25)) os ∧ In (y * 25) s.2) (h + 1) 0 ((0, none, none), s) (Nat.zero_le _) ⟨by show (0 : Int) = grV (grS A pt 0) os; unfold grV; split <;> rfl, g1, fun j hj => g2 j hj⟩ (fun y s _ hy hP => by
    obtain ⟨⟨a, e4, e5⟩, iv1⟩ := s
    obtain ⟨p1, p2⟩ := hP
    dsimp only at p1 p2
    obtain ⟨t, e, q1, q2⟩ := loop_ex (fun x (s : (Int × Option AV) × (Nat → Nat → Int)) => Run sc 12 40 [some (Rf 44), some (I os), some (I s.1.1), some (I y), some (I x), s.1.2] [] (hp s.2)) (fun x s => s.1.1 = grV (grS A pt (y * 25 + x)) os ∧ In (y * 25 + x) s.2) (w + 1) 0 ((a, e5), iv1) (Nat.zero_le _) ⟨p1, p2⟩ (fun x s _ hx hP => by
      obtain ⟨⟨b, e5⟩, iv2⟩ := s
      obtain ⟨r1, r2, r3⟩ := hP
      dsimp only at r1 r2 r3
      have c2 := r2.1 2 (by omega) (by omega) (by omega)
      have c45 := r2.1 45 (by omega) (by omega) (by omega)
      have c46 := r2.1 46 (by omega) (by omega) (by omega)
      have dm : DimB iv2 w h := by unfold DimB; rw [c2]; exact hD
      have bu : bitB (iv2 45) := by rw [c45]; exact hU
      have bf : bitB (iv2 46) := by rw [c46]; exact hF
      have ht : y * 25 + x < 625 := by omega
      have hv := vb (y * 25 + x) (by omega)
      have hv1 := vb (y * 25 + x + 1) (by omega)
      have hq : ptF w h (iv 45) (iv 46) x y = pt (y * 25 + x) := by
        rw [← hpt]
        unfold ptN pX pY
        rw [show (y * 25 + x) % 25 = x by omega, show (y * 25 + x) / 25 = y by omega]
      have head : Run sc 12 40 [some (Rf 44), some (I os), some (I b), some (I y), some (I x), e5] [] (hp iv2) = Run sc 12 59 [some (Rf 44), some (I os), some (I b), some (I y), some (I x), e5] [I (pt (y * 25 + x))] (hp iv2) := by
        rw [B_X0_sumOverGroups_40, ite_F (by rw [c2]; omega), pt_S dm bu bf (by omega) (by omega), aBind_some, pushR_some, c45, c46, hq]
      show ∃ s2 : (Int × Option AV) × (Nat → Nat → Int), Run sc 12 40 [some (Rf 44), some (I os), some (I b), some (I y), some (I x), e5] [] (hp iv2) = Run sc 12 40 [some (Rf 44), some (I os), some (I s2.1.1), some (I y), some (I ((x : Int) + 1)), s2.1.2] [] (hp s2.2) ∧ s2.1.1 = grV (grS A pt (y * 25 + x + 1)) os ∧ In (y * 25 + x + 1) s2.2
      by_cases z : 0 < pt (y * 25 + x)
      · by_cases z2 : iv2 47 (y * 25 + x) = 0
        · have hnew := reach_new (sc := sc) (iv := iv2) (x := x) (y := y) (b := y * 25 + x) (n := 0) (bg := 1) (by omega) (by omega) (by omega) (Or.inr ⟨rfl, rfl⟩) (by omega) z2
          generalize hiv3 : setO (setO (setO iv2 47 (upI (iv2 47) (y * 25 + x) 1)) 48 (upI (iv2 48) 0 ((y * 25 + x : Nat) : Int))) 44 (upI (iv2 44) 5 (((0 : Nat) : Int) + 1)) = iv3 at hnew
          have o3 : OnlyB iv2 iv3 := ⟨fun k b1 b2 b3 => by rw [← hiv3, setO_ne b3, setO_ne b2, setO_ne b1], fun f b1 => by rw [← hiv3, setO_same, upI_ne b1]⟩
          have v47 : iv3 47 = upI (iv2 47) (y * 25 + x) 1 := by rw [← hiv3, setO_ne (by omega), setO_ne (by omega), setO_same]
          have v48 : iv3 48 = upI (iv2 48) 0 ((y * 25 + x : Nat) : Int) := by rw [← hiv3, setO_ne (by omega), setO_same]
          have v44 : iv3 44 5 = ((1 : Nat) : Int) := by rw [← hiv3, setO_same, upI_same]; rfl
          have h2 := o3.1 2 (by omega) (by omega) (by omega)
          have h45 := o3.1 45 (by omega) (by omega) (by omega)
          have h46 := o3.1 46 (by omega) (by omega) (by omega)
          have bit0 : ∀ j, j < 625 → 0 ≤ iv2 47 j ∧ iv2 47 j ≤ 1 := fun j hj => by
            rw [r3 j hj]
            rcases grS_bit (A := A) (pt := pt) (y * 25 + x) j with w | w <;> rw [w] <;> omega
          have hbf : BF (adjP w h (iv3 45) (iv3 46)) (iv2 47) (y * 25 + x) (iv3 47) (iv3 48) 1 0 := by
            rw [v47, v48]; exact BF.init bit0 ht (by omega)
          obtain ⟨iv4, n2, k1, k2, k3⟩ := grp_S (sc := sc) 625 0 iv3 1 none none rfl (by unfold DimB; rw [h2, c2]; exact hD) (by rw [h45]; exact bu) (by rw [h46]; exact bf) v44 hbf
          rw [h45, h46, c45, c46, hA] at k3
          rw [h45, h46, c45, c46, hpt] at k1
          subst hA
          obtain ⟨m1, m2, m3⟩ := grp_fin (by omega) (by omega) ht r3 k3 z (by omega)
          rw [m2] at k1
          have hgo := grO_b (A := adjP w h (iv 45) (iv 46)) (pt := pt) (t := y * 25 + x)
          refine ⟨((grV (grS (adjP w h (iv 45) (iv 46)) pt (y * 25 + x + 1)) os, some (I (grO (adjP w h (iv 45) (iv 46)) pt (y * 25 + x)))), iv4), ?_, rfl, r2.tr (o3.tr k2), m1⟩
          rw [head, B_X0_sumOverGroups_59, ite_T z, hnew, aBind_some, pushR_some, B_X0_sumOverGroups_70, ite_F (by omega), B_X0_oddPointsOfGroup_0]
          have k1' : Run sc 14 4 [some (Rf 44), some (I 0), some (I 0), none, none] [] (hp iv3) = _ := k1
          rw [k1', aBind_some, pushR_some, B_X0_sumOverGroups_77]
          unfold grV at hv1 r1 ⊢
          rw [m3] at hv1 ⊢
          dsimp only at hv1 ⊢
          rcases hos with q | q
          · rw [if_pos q] at hv1 r1
            rw [if_pos q, if_pos q, B_X0_sumOverGroups_95, B_X0_sumOverGroups_96, chk_pos (by omega), B_X0_sumOverGroups_98, chk_pos (by omega), r1]
          · rw [if_neg (by omega)] at hv1 r1
            have e9 : (if 1 < grO (adjP w h (iv 45) (iv 46)) pt (y * 25 + x) / 2 then grO (adjP w h (iv 45) (iv 46)) pt (y * 25 + x) / 2 else 1) = if 2 < grO (adjP w h (iv 45) (iv 46)) pt (y * 25 + x) then grO (adjP w h (iv 45) (iv 46)) pt (y * 25 + x) / 2 else 1 := by
              split <;> split <;> omega
            rw [if_neg (show ¬ os = 0 by omega), if_neg (show ¬ os = 0 by omega), bck_pos (by omega), bck_pos (by omega), e9, B_X0_sumOverGroups_96, chk_pos (by omega), B_X0_sumOverGroups_98, chk_pos (by omega), r1]
        · have hf : ¬ (0 < pt (y * 25 + x) ∧ (grS A pt (y * 25 + x)).1 (y * 25 + x) ≠ 1) := fun y2 => by
            have := r3 _ ht
            rcases grS_bit (A := A) (pt := pt) (y * 25 + x) (y * 25 + x) with w | w
            · exact z2 (this.trans w)
            · exact y2.2 w
          refine ⟨((b, e5), iv2), ?_, by rw [grS_F hf]; exact r1, r2, by rw [grS_F hf]; exact r3⟩
          rw [head, B_X0_sumOverGroups_59, ite_T z, reach_old (b := y * 25 + x) (by omega) (by omega) (by omega) z2, aBind_some, pushR_some, B_X0_sumOverGroups_70, ite_T (by omega), B_X0_sumOverGroups_98, chk_pos (by omega)]
      · have hf : ¬ (0 < pt (y * 25 + x) ∧ (grS A pt (y * 25 + x)).1 (y * 25 + x) ≠ 1) := fun y2 => z y2.1
        refine ⟨((b, e5), iv2), ?_, by rw [grS_F hf]; exact r1, r2, by rw [grS_F hf]; exact r3⟩
        rw [head, B_X0_sumOverGroups_59, ite_F z, B_X0_sumOverGroups_98, chk_pos (by omega)])
    obtain ⟨⟨b, e6⟩, iv2⟩ := t
    dsimp only at q1 q2
    have c2 := q2.1.1 2 (by omega) (by omega) (by omega)
    have c2' := p2.1.1 2 (by omega) (by omega) (by omega)
    have sk : grS A pt ((y + 1) * 25) = grS A pt (y * 25 + (w + 1)) := by
      have := grS_skip (A := A) (pt := pt) (t := y * 25 + (w + 1)) (m := 24 - w) (fun j h1 h2 => by rw [← hpt]; exact ptN_0 (Or.inl (by omega)))
      rwa [show y * 25 + (w + 1) + (24 - w) = (y + 1) * 25 by omega] at this
    refine ⟨((b, some (I ((w + 1 : Nat) : Int)), e6), iv2), ?_, ?_, q2.1, ?_⟩
    · show Run sc 12 26 [some (Rf 44), some (I os), some (I a), some (I y), e4, e5] [] (hp iv1) = Run sc 12 26 [some (Rf 44), some (I os), some (I b), some (I ((y : Int) + 1)), some (I ((w + 1 : Nat) : Int)), e6] [] (hp iv2)
      rw [B_X0_sumOverGroups_26, ite_F (by rw [c2']; omega)]
      refine (show _ = _ from e).trans ?_
      show Run sc 12 40 [some (Rf 44), some (I os), some (I b), some (I y), some (I ((w + 1 : Nat) : Int)), e6] [] (hp iv2) = _
      rw [B_X0_sumOverGroups_40, ite_T (by rw [c2]; omega), B_X0_sumOverGroups_104, chk_pos (by omega)]
    · show b = grV (grS A pt ((y + 1) * 25)) os; rw [sk]; exact q1
    · show ∀ j, j < 625 → iv2 47 j = (grS A pt ((y + 1) * 25)).1 j; rw [sk]; exact q2.2)
  obtain ⟨⟨a, e4, e5⟩, iv1⟩ := q
  dsimp only at f1 f2
  have c2 := f2.1.1 2 (by omega) (by omega) (by omega)
  have sk : grS A pt 625 = grS A pt ((h + 1) * 25) := by
    have := grS_skip (A := A) (pt := pt) (t := (h + 1) * 25) (m := 625 - (h + 1) * 25) (fun j h1 h2 => by rw [← hpt]; exact ptN_0 (Or.inr (by omega)))
    rwa [show (h + 1) * 25 + (625 - (h + 1) * 25) = 625 by omega] at this
  refine ⟨iv1, (show _ = _ from e2).trans ?_, f2.1⟩
  show Run sc 12 26 [some (Rf 44), some (I os), some (I a), some (I ((h + 1 : Nat) : Int)), e4, e5] [] (hp iv1) = _
  rw [B_X0_sumOverGroups_26, ite_T (by rw [c2]; omega), B_X0_sumOverGroups_110, sk, f1]
end BACKS4
