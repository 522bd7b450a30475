/-! onPage */ -/
section ONPAGE
variable {sc : Nat × (Nat → Int)} {iv iv2 : Nat → Nat → Int}
/-- what onPage tells of one color -/
def opM (iv : Nat → Nat → Int) (w h : Nat) (p : Int) (what : Int) (c : Nat) : Int := if what = 0 then onpF iv w h p c else if what = 1 then rpF (ownC iv) p (iv 57 c).toNat (mX iv c) (mY iv c) else 48 * onpF iv w h p c + spF (ownC iv) p (iv 57 c).toNat (mX iv c) (mY iv c) (iv 52 2) (iv 52 3) (mO iv c)
theorem ownC_fr (f : FrA iv iv2) : ownC iv2 = ownC iv := by
  funext x y
  unfold ownC
  rw [f 2 (by omega) (by omega), f 49 (by omega) (by omega)]
theorem onpF_fr {w h : Nat} {p c : Int} (f : FrA iv iv2) : onpF iv2 w h p c = onpF iv w h p c := by
  unfold onpF
  apply sumN_congr
  intro i _
  apply sumN_congr
  intro j _
  unfold onpT
  rw [gC_congr (f 2 (by omega) (by omega)) (f 4 (by omega) (by omega)), ownC_fr f]
theorem opM_fr {w h c : Nat} {p what : Int} (f : FrA iv iv2) : opM iv2 w h p what c = opM iv w h p what c := by
  have eX : mX iv2 = mX iv := by funext c r; unfold mX; rw [f 58 (by omega) (by omega)]
  have eY : mY iv2 = mY iv := by funext c r; unfold mY; rw [f 59 (by omega) (by omega)]
  have eO : mO iv2 = mO iv := by funext c r; unfold mO; rw [f 61 (by omega) (by omega)]
  unfold opM
  rw [eX, eY, eO, ownC_fr f, onpF_fr f, f 57 (by omega) (by omega), f 52 (by omega) (by omega)]
theorem rpF_b {own : Int → Int → Int} {p : Int} {n : Nat} {X Y : Nat → Int} : 0 ≤ rpF own p n X Y ∧ rpF own p n X Y ≤ n := by
  unfold rpF
  have h1 := sumN_le (f := fun r => if own (X r) (Y r) = p then (1 : Int) else 0) (n := n) (c := 1) (fun i _ => by split <;> omega)
  have h2 := sumN_nonneg (f := fun r => if own (X r) (Y r) = p then (1 : Int) else 0) (n := n) (fun i _ => by split <;> omega)
  omega
theorem spF_b {own : Int → Int → Int} {p : Int} {n : Nat} {X Y O : Nat → Int} {r t : Int} (hn : n ≤ 288) (ht : 0 ≤ t ∧ t ≤ 200) (hc : ∀ q, q < n → 0 ≤ cpF X Y r t O q ∧ cpF X Y r t O q ≤ 1000) : 0 ≤ spF own p n X Y r t O ∧ spF own p n X Y r t O ≤ 576000 := by
  unfold spF
  have h1 := sumN_le (f := spT own p n X Y r t O) (n := n) (c := 2000) (fun i hi => (spT_b ht (hc i hi)).2)
  have h2 := sumN_nonneg (f := spT own p n X Y r t O) (n := n) (fun i hi => (spT_b ht (hc i hi)).1)
  omega
theorem opM_b {w h n k : Nat} {p what : Int} (H : InvW iv w h n) (hk : k < 6) : 0 ≤ opM iv w h p what (k + 1) ∧ opM iv w h p what (k + 1) ≤ 1000000 := by
  obtain ⟨⟨⟨d1, d2, d3, d4, d5, d6⟩, -⟩, -⟩ := id H
  obtain ⟨m, hR, hO⟩ := (H.2.2.2.2.2 k hk).mod hk d4 d6
  obtain ⟨hy, y1, y2⟩ := H.2.2.1
  have hy2 : MYarn iv := by unfold MYarn; rw [y1, y2]; exact hy
  have tn : (iv 57 (k + 1)).toNat = m := by rw [hR.2.1]; omega
  have q3 := hR.2.2.1
  have b1 := onpF_b (g := iv) (p := p) (c := ((k + 1 : Nat) : Int)) d4 d6
  have b2 := rpF_b (own := ownC iv) (p := p) (n := m) (X := mX iv (k + 1)) (Y := mY iv (k + 1))
  have b3 := spF_b (own := ownC iv) (p := p) q3 hy2.2 (fun q hq => mcp_b hR hy2 hO hq)
  unfold opM
  rw [tn]
  split
  · omega
  · split <;> omega
set_option maxHeartbeats 1000000 in
theorem op1_S {w h n k : Nat} {p what : Int} (H : InvW iv w h n) (hk : k < 6) (hp0 : 0 ≤ p ∧ p ≤ 2500) (hw : 0 ≤ what ∧ what ≤ 2) : ∃ iv2, Run sc 107 0 [some (Rf 1), some (I p), some (I ((k : Int) + 1)), some (I what), none] [] (hp iv) = some (some (I (opM iv w h p what (k + 1))), hp iv2) ∧ InvW iv2 w h n ∧ FrA iv iv2 := by
  obtain ⟨hM, hL, ⟨hy, y1, y2⟩, -⟩ := id H
  have hD := hM.1
  obtain ⟨d1, d2, d3, d4, d5, d6⟩ := id hD
  have et := tal_onp (p := p) (c := (k : Int) + 1) hL.1 hD hp0.1
  have b1 := onpF_b (g := iv) (p := p) (c := (k : Int) + 1) d4 d6
  rw [B_X6_countOfColorOnPage_0, tal_S hL.1 hD hp0 (by omega), aBind_some, pushR_some, et, B_X6_countOfColorOnPage_11]
  by_cases c0 : what = 0
  · refine ⟨iv, ?_, H, FrA.rf⟩
    unfold opM
    rw [if_pos c0, if_pos c0, B_X6_countOfColorOnPage_40]
    rfl
  · rw [if_neg c0]
    obtain ⟨iv1, e1, H1, ht, fr⟩ := runsOf_S (sc := sc) H hk rfl
    have fa := fr.all hk
    have hs := H1.2.2.2.2.2 k hk
    obtain ⟨hM1, hL1, ⟨hy1, z1, z2⟩, -⟩ := id H1
    obtain ⟨m, V⟩ := hs.view ht hk d4 d6
    obtain ⟨hR, hMR, ag, al, ao, pm0⟩ := id V
    have tn : (iv1 57 (k + 1)).toNat = m := by rw [hMR.2.1]; omega
    have ev := opM_fr (w := w) (h := h) (c := k + 1) (p := p) (what := what) fa
    refine ⟨iv1, ?_, H1, fa⟩
    rw [← ev]
    unfold opM
    rw [if_neg c0, tn]
    by_cases c1 : what = 1
    · rw [if_pos c1, if_pos c1, B_X6_countOfColorOnPage_43, e1, aBind_some, pushR_some, B_X6_countOfColorOnPage_48 _ _ _ hk, rop_S hk hL1.1 hM1.1 hR, aBind_some, pushR_some, B_X6_countOfColorOnPage_56, rpF_cg ag]
    · have b3 := spF_b (own := ownC iv1) (p := p) (n := m) (X := iv1 (9 + 6 * k)) (Y := iv1 (10 + 6 * k)) (r := iv1 6 0) (t := iv1 6 1) (O := iv1 (12 + 6 * k)) hR.2.1 hy1.2 (fun q hq => cpF_b hR hy1 pm0.ord hq)
      have eo := onpF_fr (w := w) (h := h) (p := p) (c := (k : Int) + 1) fa
      have es := spF_cg (own := ownC iv1) (p := p) (r := iv1 6 0) (t := iv1 6 1) ag pm0.ord (fun q hq => (ao q hq).symm)
      rw [if_neg c1, if_neg c1, if_pos (by omega), B_X6_countOfColorOnPage_57, chk_pos (by omega), e1, aBind_some, pushR_some, B_X6_countOfColorOnPage_67 _ _ _ hk, sop_S hk hL1.1 hM1.1 hR hy1 pm0.ord, aBind_some, pushR_some, B_X6_countOfColorOnPage_75, chk_pos (by omega), es, z1, z2, ← eo]
      rfl
theorem opC_S {w h n : Nat} {p c what : Int} (H : InvW iv w h n) (hpp : 0 ≤ p ∧ p < acr iv * dwn iv) (hc : 0 ≤ c ∧ c ≤ 6) (hw : 0 ≤ what ∧ what ≤ 2) : ∃ iv2, Run sc 100 0 [some (Rf 1), some (I p), some (I c), some (I what), none, none] [] (hp iv) = some (some (I (sumN (selS (opM iv w h p what) c) 6)), hp iv2) ∧ InvW iv2 w h n ∧ FrA iv iv2 := by
  obtain ⟨hM, hL, -⟩ := id H
  have hD := hM.1
  have tb := tot_b hL.1 hD
  have hp0 : 0 ≤ p ∧ p ≤ 2500 := by omega
  rw [B_X6_onPage_0, hasP_T hL.1 hD hpp, aBind_some, pushR_some, B_X6_onPage_8, ite_F (by omega), B_X6_onPage_13, within_T hc, aBind_some, pushR_some, B_X6_onPage_20, ite_F (by omega), within_T hw, aBind_some, pushR_some, B_X6_onPage_29, ite_F (by omega), B_X6_onPage_35]
  obtain ⟨s, e, g1, g2, g3, g4⟩ := loop_ex (fun i (s : Int × (Nat → Nat → Int)) => Run sc 100 41 [some (Rf 1), some (I p), some (I c), some (I what), some (I s.1), some (I (i + 1))] [] (hp s.2)) (fun i s => s.1 = sumN (selS (opM iv w h p what) c) i ∧ (0 ≤ s.1 ∧ s.1 ≤ 1000000 * i) ∧ InvW s.2 w h n ∧ FrA iv s.2) 6 0 (0, iv) (Nat.zero_le _) ⟨rfl, by simp, H, FrA.rf⟩ (fun i s _ hi hP => by
    obtain ⟨a, s⟩ := s
    obtain ⟨p1, p2, p3, p4⟩ := hP
    dsimp only at p1 p2 p3 p4
    have hv := opM_b (p := p) (what := what) H hi
    have es : sumN (selS (opM iv w h p what) c) (i + 1) = sumN (selS (opM iv w h p what) c) i + selS (opM iv w h p what) c i := rfl
    by_cases q : c = 0 ∨ c = ((i + 1 : Nat) : Int)
    · obtain ⟨s2, e2, h2, f2⟩ := op1_S (sc := sc) (what := what) p3 hi hp0 hw
      rw [opM_fr p4] at e2
      have sel : selS (opM iv w h p what) c i = opM iv w h p what (i + 1) := if_pos q
      refine ⟨(a + opM iv w h p what (i + 1), s2), ?_, by rw [es, sel, ← p1], by show 0 ≤ a + _ ∧ a + _ ≤ 1000000 * ((i + 1 : Nat) : Int); omega, h2, p4.tr f2⟩
      dsimp only
      have hd : Run sc 100 41 [some (Rf 1), some (I p), some (I c), some (I what), some (I a), some (I ((i : Int) + 1))] [] (hp s) = Run sc 100 58 [some (Rf 1), some (I p), some (I c), some (I what), some (I a), some (I ((i : Int) + 1))] [] (hp s) := by
        rw [B_X6_onPage_41, ite_F (by omega)]
        by_cases z : c = 0
        · rw [if_pos z]
        · rw [if_neg z, if_pos (by omega)]
      rw [hd, B_X6_onPage_58, e2, aBind_some, pushR_some, B_X6_onPage_68, chk_pos (by omega), B_X6_onPage_71, chk_pos (by omega)]
    · have sel : selS (opM iv w h p what) c i = 0 := if_neg q
      refine ⟨(a, s), ?_, by rw [es, sel, ← p1, Int.add_zero], by show 0 ≤ a ∧ a ≤ 1000000 * ((i + 1 : Nat) : Int); omega, p3, p4⟩
      dsimp only
      rw [B_X6_onPage_41, ite_F (by omega), if_neg (by omega), if_neg (by omega), B_X6_onPage_71, chk_pos (by omega)])
  obtain ⟨a, s⟩ := s
  dsimp only at g1 g3 g4
  refine ⟨s, (show _ = _ from e).trans ?_, g3, g4⟩
  show Run sc 100 41 [some (Rf 1), some (I p), some (I c), some (I what), some (I a), some (I (6 + 1))] [] (hp s) = _
  rw [B_X6_onPage_41, ite_T (by omega), B_X6_onPage_77, g1]
theorem onp_M {w h n : Nat} {p c what : Int} (H : InvW iv w h n) (hpp : 0 ≤ p ∧ p < acr iv * dwn iv) (hc : 0 ≤ c ∧ c ≤ 6) (hw : 0 ≤ what ∧ what ≤ 2) : Run sc 174 0 [some (Rf 52), some (I p), some (I c), some (I what), none, none] [] (hp iv) = some (some (I (sumN (selS (opM iv w h p what) c) 6)), hp iv) := by
  obtain ⟨hM, hL, ⟨hy, y1, y2⟩, -, -, h6⟩ := id H
  obtain ⟨⟨d1, d2, d3, d4, d5, d6⟩, -⟩ := id hM
  have hy2 : MYarn iv := by unfold MYarn; rw [y1, y2]; exact hy
  have tb := tot_b hL.1 hM.1
  rw [B_X7_onPage_0, pgs_M hM hL, aBind_some, pushR_some, B_X7_onPage_6, chk_pos (by omega), in_T (by omega), aBind_some, pushR_some, B_X7_onPage_11, ite_F (by omega), B_X7_onPage_16, in_T hc, aBind_some, pushR_some, B_X7_onPage_23, ite_F (by omega), in_T hw, aBind_some, pushR_some, B_X7_onPage_32, ite_F (by omega), B_X7_onPage_38]
  obtain ⟨s, e, g1, g2⟩ := loop_ex (fun i (s : Int) => Run sc 174 44 [some (Rf 52), some (I p), some (I c), some (I what), some (I s), some (I (i + 1))] [] (hp iv)) (fun i s => s = sumN (selS (opM iv w h p what) c) i ∧ 0 ≤ s ∧ s ≤ 1000000 * i) 6 0 0 (Nat.zero_le _) ⟨rfl, by simp⟩ (fun i s _ hi hP => by
    obtain ⟨p1, p2⟩ := hP
    have hv := opM_b (p := p) (what := what) H hi
    obtain ⟨m, hR, hO⟩ := (h6 i hi).mod hi d4 d6
    have tn : (iv 57 (i + 1)).toNat = m := by rw [hR.2.1]; omega
    have cst : (i : Int) + 1 = ((i + 1 : Nat) : Int) := rfl
    have es : sumN (selS (opM iv w h p what) c) (i + 1) = sumN (selS (opM iv w h p what) c) i + selS (opM iv w h p what) c i := rfl
    by_cases z : c = 0 ∨ c = ((i + 1 : Nat) : Int)
    · have sel : selS (opM iv w h p what) c i = opM iv w h p what (i + 1) := if_pos z
      refine ⟨s + opM iv w h p what (i + 1), ?_, by rw [es, sel, ← p1], by omega⟩
      have hd : Run sc 174 44 [some (Rf 52), some (I p), some (I c), some (I what), some (I s), some (I ((i : Int) + 1))] [] (hp iv) = Run sc 174 61 [some (Rf 52), some (I p), some (I c), some (I what), some (I s), some (I ((i : Int) + 1))] [] (hp iv) := by
        rw [B_X7_onPage_44, ite_F (by omega)]
        by_cases t : c = 0
        · rw [if_pos t]
        · rw [if_neg t, if_pos (by omega)]
      have hv2 : Run sc 174 61 [some (Rf 52), some (I p), some (I c), some (I what), some (I s), some (I ((i : Int) + 1))] [] (hp iv) = Run sc 174 99 [some (Rf 52), some (I p), some (I c), some (I what), some (I s), some (I ((i : Int) + 1))] [I (opM iv w h p what (i + 1)), I s] (hp iv) := by
        unfold opM
        rw [B_X7_onPage_61, tn]
        by_cases t0 : what = 0
        · rw [if_pos t0, if_pos t0, cst, son_M hM hL (by omega), aBind_some, pushR_some, B_X7_onPage_74]
        · rw [if_neg t0, if_neg t0, B_X7_onPage_77]
          by_cases t1 : what = 1
          · rw [if_pos t1, if_pos t1, cst, ron_M hM hL hR, aBind_some, pushR_some, B_X7_onPage_89]
          · rw [if_neg t1, if_neg t1, B_X7_onPage_92, cst, ton_M hM hL hR hy2 hO, aBind_some, pushR_some]
      rw [hd, hv2, B_X7_onPage_99, chk_pos (by omega), B_X7_onPage_102, chk_pos (by omega)]
    · have sel : selS (opM iv w h p what) c i = 0 := if_neg z
      refine ⟨s, ?_, by rw [es, sel, ← p1, Int.add_zero], by omega⟩
      rw [B_X7_onPage_44, ite_F (by omega), if_neg (by omega), if_neg (by omega), B_X7_onPage_102, chk_pos (by omega)])
  refine (show _ = _ from e).trans ?_
  show Run sc 174 44 [some (Rf 52), some (I p), some (I c), some (I what), some (I s), some (I (6 + 1))] [] (hp iv) = _
  rw [B_X7_onPage_44, ite_T (by omega), B_X7_onPage_108, g1]
theorem onPage_B {w h n : Nat} {p c what : Int} (H : InvW iv w h n) : Both sc 100 174 [some (Rf 1), some (I p), some (I c), some (I what), none, none] [some (Rf 52), some (I p), some (I c), some (I what), none, none] iv := by
  obtain ⟨hM, hL, -⟩ := id H
  have tb := tot_b hL.1 hM.1
  by_cases hpp : 0 ≤ p ∧ p < acr iv * dwn iv
  · by_cases hc : 0 ≤ c ∧ c ≤ 6
    · by_cases hw : 0 ≤ what ∧ what ≤ 2
      · obtain ⟨iv2, e1, H2, f⟩ := opC_S (sc := sc) H hpp hc hw
        refine ⟨_, iv2, iv2, w, h, n, e1, ?_, H2⟩
        have ea : acr iv2 * dwn iv2 = acr iv * dwn iv := by unfold acr dwn; rw [f 2 (by omega) (by omega), f 49 (by omega) (by omega)]
        rw [onp_M H2 (by rw [ea]; exact hpp) hc hw, show opM iv2 w h p what = opM iv w h p what from funext fun e => opM_fr f]
      · refine Both.same (a := -2) H ?_ ?_
        · rw [B_X6_onPage_0, hasP_T hL.1 hM.1 hpp, aBind_some, pushR_some, B_X6_onPage_8, ite_F (by omega), B_X6_onPage_13, within_T hc, aBind_some, pushR_some, B_X6_onPage_20, ite_F (by omega), within_F hw, aBind_some, pushR_some, B_X6_onPage_29, ite_T rfl, B_X6_onPage_32]
        · rw [B_X7_onPage_0, pgs_M hM hL, aBind_some, pushR_some, B_X7_onPage_6, chk_pos (by omega), in_T (by omega), aBind_some, pushR_some, B_X7_onPage_11, ite_F (by omega), B_X7_onPage_16, in_T hc, aBind_some, pushR_some, B_X7_onPage_23, ite_F (by omega), in_F hw, aBind_some, pushR_some, B_X7_onPage_32, ite_T rfl, B_X7_onPage_35]
    · refine Both.same (a := -2) H ?_ ?_
      · rw [B_X6_onPage_0, hasP_T hL.1 hM.1 hpp, aBind_some, pushR_some, B_X6_onPage_8, ite_F (by omega), B_X6_onPage_13, within_F hc, aBind_some, pushR_some, B_X6_onPage_20, ite_T rfl, B_X6_onPage_32]
      · rw [B_X7_onPage_0, pgs_M hM hL, aBind_some, pushR_some, B_X7_onPage_6, chk_pos (by omega), in_T (by omega), aBind_some, pushR_some, B_X7_onPage_11, ite_F (by omega), B_X7_onPage_16, in_F hc, aBind_some, pushR_some, B_X7_onPage_23, ite_T rfl, B_X7_onPage_35]
  · refine Both.same (a := -1) H ?_ ?_
    · rw [B_X6_onPage_0, hasP_F hL.1 hM.1 hpp, aBind_some, pushR_some, B_X6_onPage_8, ite_T rfl]
    · rw [B_X7_onPage_0, pgs_M hM hL, aBind_some, pushR_some, B_X7_onPage_6, chk_pos (by omega), in_F (by omega), aBind_some, pushR_some, B_X7_onPage_11, ite_T rfl]
end ONPAGE
