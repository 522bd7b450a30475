/-! count, both */ -/
section COUNT4
variable {sc : Nat × (Nat → Int)} {iv : Nat → Nat → Int}
theorem cnt_M {w h n : Nat} {c what : Int} (H : InvW iv w h n) (hc : 0 ≤ c ∧ c ≤ 6) (hw : 0 ≤ what ∧ what ≤ 4) : Run sc 136 0 [some (Rf 52), some (I c), some (I what), none, none, none, none] [] (hp iv) = some (some (I (sumN (selS (fun e => cvM iv w h e what) c) 6)), hp iv) := by
  obtain ⟨hM, -, ⟨hy, y1, y2⟩, -, -, h6⟩ := id H
  obtain ⟨⟨d1, d2, d3, d4, d5, d6⟩, e1, e2, e3⟩ := id hM
  have hy2 : MYarn iv := by unfold MYarn; rw [y1, y2]; exact hy
  rw [B_X7_count_0, in_T hc, aBind_some, pushR_some, B_X7_count_7, ite_F (by omega), in_T hw, aBind_some, pushR_some, B_X7_count_16, ite_F (by omega), B_X7_count_22]
  by_cases q : what ≤ 1
  · obtain ⟨x4, x5, x6, e⟩ := cntA_M (sc := sc) (c := c) (what := what) hM hc ⟨hw.1, q⟩
    rw [e, B_X7_count_127, B_X7_count_130, ite_F (by omega), ite_F (by omega), B_X7_count_196, mcT_sum hM hc ⟨hw.1, q⟩]
  · rw [B_X7_count_27, ite_T (by omega), ite_F (by omega), B_X7_count_127]
    obtain ⟨s, e, g1, g2⟩ := loop_ex (fun i (s : Int) => Run sc 136 130 [some (Rf 52), some (I c), some (I what), some (I s), some (I (i + 1)), none, none] [] (hp iv)) (fun i s => s = sumN (selS (fun e => cvM iv w h e what) c) i ∧ 0 ≤ s ∧ s ≤ 1000000 * i) 6 0 0 (Nat.zero_le _) ⟨rfl, by simp⟩ (fun i s _ hi hP => by
      obtain ⟨p1, p2⟩ := hP
      have hv := cvM_b (what := what) H hi
      obtain ⟨m, hR, hO⟩ := (h6 i hi).mod hi d4 d6
      have ek : ((i : Int) + 1).toNat = i + 1 := by omega
      have tn : (iv 57 (i + 1)).toNat = m := by rw [hR.2.1]; omega
      have cst : (i : Int) + 1 = ((i + 1 : Nat) : Int) := rfl
      have es : sumN (selS (fun e => cvM iv w h e what) c) (i + 1) = sumN (selS (fun e => cvM iv w h e what) c) i + selS (fun e => cvM iv w h e what) c i := rfl
      by_cases z : c = 0 ∨ c = ((i + 1 : Nat) : Int)
      · have sel : selS (fun e => cvM iv w h e what) c i = cvM iv w h (i + 1) what := if_pos z
        refine ⟨s + cvM iv w h (i + 1) what, ?_, by rw [es, sel, ← p1], by omega⟩
        have hd : Run sc 136 130 [some (Rf 52), some (I c), some (I what), some (I s), some (I ((i : Int) + 1)), none, none] [] (hp iv) = Run sc 136 152 [some (Rf 52), some (I c), some (I what), some (I s), some (I ((i : Int) + 1)), none, none] [] (hp iv) := by
          rw [B_X7_count_130, ite_F (by omega), ite_T (by omega)]
          by_cases t : c = 0
          · rw [if_pos t]
          · rw [if_neg t, if_pos (by omega)]
        have hv2 : Run sc 136 152 [some (Rf 52), some (I c), some (I what), some (I s), some (I ((i : Int) + 1)), none, none] [] (hp iv) = Run sc 136 188 [some (Rf 52), some (I c), some (I what), some (I s), some (I ((i : Int) + 1)), none, none] [I (cvM iv w h (i + 1) what), I s] (hp iv) := by
          unfold cvM
          rw [if_neg (by omega), if_neg (by omega), B_X7_count_152]
          by_cases t2 : what = 2
          · rw [if_pos t2, if_pos t2, bck_pos (by omega), ek]
          · rw [if_neg t2, if_neg t2, B_X7_count_168, tn]
            by_cases t3 : what = 3
            · rw [if_pos t3, if_pos t3, cst, thr_M hR hy2 hO, aBind_some, pushR_some, B_X7_count_179]
            · rw [if_neg t3, if_neg t3, B_X7_count_182, cst, sta_R hR hO, aBind_some, pushR_some]
        rw [hd, hv2, B_X7_count_188, chk_pos (by omega), B_X7_count_190, chk_pos (by omega)]
      · have sel : selS (fun e => cvM iv w h e what) c i = 0 := if_neg z
        refine ⟨s, ?_, by rw [es, sel, ← p1, Int.add_zero], by omega⟩
        rw [B_X7_count_130, ite_F (by omega), ite_T (by omega), if_neg (by omega), if_neg (by omega), B_X7_count_190, chk_pos (by omega)])
    refine (show _ = _ from e).trans ?_
    show Run sc 136 130 [some (Rf 52), some (I c), some (I what), some (I s), some (I (6 + 1)), none, none] [] (hp iv) = _
    rw [B_X7_count_130, ite_T (by omega), B_X7_count_196, g1]
theorem count_B {w h n : Nat} {c what : Int} (H : InvW iv w h n) : Both sc 84 136 [some (Rf 1), some (I c), some (I what), none, none] [some (Rf 52), some (I c), some (I what), none, none, none, none] iv := by
  by_cases hc : 0 ≤ c ∧ c ≤ 6
  · by_cases hw : 0 ≤ what ∧ what ≤ 4
    · obtain ⟨iv2, e1, H2, f⟩ := cntC_S (sc := sc) H hc hw
      refine ⟨_, iv2, iv2, w, h, n, e1, ?_, H2⟩
      rw [cnt_M H2 hc hw, show (fun e => cvM iv2 w h e what) = (fun e => cvM iv w h e what) from funext fun e => cvM_fr f]
    · refine Both.same (a := -2) H ?_ ?_
      · rw [B_X6_count_0, within_T hc, aBind_some, pushR_some, B_X6_count_7, ite_F (by omega), within_F hw, aBind_some, pushR_some, B_X6_count_16, ite_T rfl, B_X6_count_19]
      · rw [B_X7_count_0, in_T hc, aBind_some, pushR_some, B_X7_count_7, ite_F (by omega), in_F hw, aBind_some, pushR_some, B_X7_count_16, ite_T rfl, B_X7_count_19]
  · refine Both.same (a := -2) H ?_ ?_
    · rw [B_X6_count_0, within_F hc, aBind_some, pushR_some, B_X6_count_7, ite_T rfl, B_X6_count_19]
    · rw [B_X7_count_0, in_F hc, aBind_some, pushR_some, B_X7_count_7, ite_T rfl, B_X7_count_19]
end COUNT4
