/-! moveRun, firstOrder, shorten -/
section CALLS4
variable {sc : Nat × (Nat → Int)} {iv iv1 iv2 iv3 : Nat → Nat → Int}
theorem MRunB.keep {c m : Nat} (h : MRunB iv1 c m) (e57 : iv2 57 = iv1 57) (e58 : iv2 58 = iv1 58) (e59 : iv2 59 = iv1 59) (e60 : iv2 60 = iv1 60) : MRunB iv2 c m := by
  unfold MRunB mX mY mL at h ⊢
  rw [e57, e58, e59, e60]; exact h
theorem thr_both {w h n k m : Nat} (H : InvW iv1 w h n) (hk : k < 6) (V : ViewC iv1 k m) (o : OnlyO iv1 iv2 k) (o2 : OnlyM iv2 iv3 (k + 1)) (eq : ∀ p, p < m → mO iv3 (k + 1) p = iv2 (12 + 6 * k) p) (pm : PermN m (iv2 (12 + 6 * k)) (iv2 (13 + 6 * k))) :
    ∃ T, Run sc 39 0 [some (Rf (8 + 6 * k)), none, none] [] (hp iv2) = some (some (I T), hp iv2) ∧ Run sc 119 0 [some (Rf 52), some (I ((k + 1 : Nat) : Int)), none, none, none] [] (hp iv3) = some (some (I T), hp iv3) := by
  obtain ⟨hR, hMR, ag, al, ao, pm0⟩ := V
  obtain ⟨hy, y1, y2⟩ := H.2.2.1
  have hO : OrdN m (iv2 (12 + 6 * k)) := pm.ord
  have hR2 := hR.only o
  have hy2 := hy.only o
  have hM2 : MRunB iv2 (k + 1) m := hMR.keep (o 57 (by omega) (by omega)) (o 58 (by omega) (by omega)) (o 59 (by omega) (by omega)) (o 60 (by omega) (by omega))
  have hM3 := hM2.only o2
  have e52 : iv3 52 = iv1 52 := (o2.1 52 (by omega) (by omega)).trans (o 52 (by omega) (by omega))
  have hy3 : MYarn iv3 := by unfold MYarn YarnB at *; rw [e52, y1, y2]; exact hy
  have hO3 : MOrdB iv3 (k + 1) m := fun p hpp => by rw [eq p hpp]; exact hO p hpp
  have eX : mX iv3 = mX iv1 := by funext c r; unfold mX; rw [o2.1 58 (by omega) (by omega), o 58 (by omega) (by omega)]
  have eY : mY iv3 = mY iv1 := by funext c r; unfold mY; rw [o2.1 59 (by omega) (by omega), o 59 (by omega) (by omega)]
  have eL : mL iv3 = mL iv1 := by funext c r; unfold mL; rw [o2.1 60 (by omega) (by omega), o 60 (by omega) (by omega)]
  refine ⟨_, thread_S hk hR2 hy2 hO, ?_⟩
  rw [thr_M hM3 hy3 hO3, eX, eY, eL, e52, y1, y2, o 6 (by omega) (by omega), o (9 + 6 * k) (by omega) (by omega), o (10 + 6 * k) (by omega) (by omega), o (11 + 6 * k) (by omega) (by omega), thrF_cg ag al hO eq]
set_option maxHeartbeats 1000000 in
theorem moveRun_B {w h n : Nat} {c a b : Int} (H : InvW iv w h n) : Both sc 89 143 [some (Rf 1), some (I c), some (I a), some (I b), none] [some (Rf 52), some (I c), some (I a), some (I b)] iv := by
  by_cases hc : 1 ≤ c ∧ c ≤ 6
  · obtain ⟨k, hk, rfl⟩ : ∃ k : Nat, k < 6 ∧ c = (k : Int) + 1 := ⟨(c - 1).toNat, by omega, by omega⟩
    obtain ⟨iv1, e1, H1, ht, -⟩ := runsOf_S (sc := sc) H hk rfl
    obtain ⟨⟨⟨-, -, -, d4, -, d6⟩, -⟩, -⟩ := id H1
    obtain ⟨m, V⟩ := (H1.2.2.2.2.2 k hk).view ht hk d4 d6
    obtain ⟨hR, hMR, ag, al, ao, pm0⟩ := id V
    obtain ⟨q1, q2, q3, q4⟩ := id hMR
    have ek : ((k : Int) + 1).toNat = k + 1 := by omega
    have cst : (k : Int) + 1 = ((k + 1 : Nat) : Int) := rfl
    by_cases ha : 0 ≤ a ∧ a < m
    · by_cases hb : 0 ≤ b ∧ b < m
      · obtain ⟨a', rfl⟩ : ∃ j : Nat, a = j := ⟨a.toNat, by omega⟩
        obtain ⟨b', rfl⟩ : ∃ j : Nat, b = j := ⟨b.toNat, by omega⟩
        obtain ⟨iv2, e2, o, p2, p3⟩ := relocate_S (sc := sc) hk hR pm0 (a := a') (b := b') (by omega) (by omega)
        have hM2 : MRunB iv2 (k + 1) m := hMR.keep (o 57 (by omega) (by omega)) (o 58 (by omega) (by omega)) (o 59 (by omega) (by omega)) (o 60 (by omega) (by omega))
        have eO2 : mO iv2 = mO iv1 := by funext c r; unfold mO; rw [o 61 (by omega) (by omega)]
        have hO2 : MOrdB iv2 (k + 1) m := fun p hpp => by rw [eO2, ← ao p hpp]; exact pm0.ord p hpp
        obtain ⟨iv3, e3, o2, p4⟩ := shi_M (sc := sc) hM2 hO2 (a := a') (b := b') (by omega) (by omega)
        have eq : ∀ p, p < m → mO iv3 (k + 1) p = iv2 (12 + 6 * k) p := fun p hpp => by
          rw [p4 p hpp, p2 p hpp, eO2]
          exact mvO_congr (fun i hi => (ao i hi).symm) (by omega) (by omega) hpp
        have pm := (pm0.mv (a := a') (b := b') (by omega) (by omega)).congr p2 p3
        obtain ⟨T, t1, t2⟩ := thr_both (sc := sc) H1 hk V o o2 eq pm
        refine ⟨T, iv2, iv3, w, h, n, ?_, ?_, H1.ord hk ht q2 o o2 eq pm⟩
        · rw [B_X6_moveRun_0, isColC_T hc, aBind_some, pushR_some, B_X6_moveRun_4, ite_F (by omega), B_X6_moveRun_10, e1, aBind_some, pushR_some, B_X6_moveRun_15 _ _ _ hk, hasR_T hk hR ha, aBind_some, pushR_some, B_X6_moveRun_23 _ _ _ hk, ite_F (by omega), hasR_T hk hR hb, aBind_some, pushR_some, B_X6_moveRun_32 _ _ _ hk, ite_F (by omega), B_X6_moveRun_38 _ _ _ hk, e2, aBind_some, pushR_none, B_X6_moveRun_45 _ _ _ hk, t1, aBind_some, pushR_some, B_X6_moveRun_50 _ _ _ hk]
        · rw [B_X7_moveRun_0, isCol_T hc, aBind_some, pushR_some, B_X7_moveRun_4, ite_F (by omega), bck_pos (by omega), ek, hM2.2.1, chk_pos (by omega), in_T (by omega), aBind_some, pushR_some, B_X7_moveRun_20, ite_F (by omega), bck_pos (by omega), ek, hM2.2.1, chk_pos (by omega), in_T (by omega), aBind_some, pushR_some, B_X7_moveRun_36, ite_F (by omega), B_X7_moveRun_42, cst, e3, aBind_some, pushR_none, B_X7_moveRun_49, t2, aBind_some, pushR_some, B_X7_moveRun_54]
      · refine ⟨-2, iv1, iv1, w, h, n, ?_, ?_, H1⟩
        · rw [B_X6_moveRun_0, isColC_T hc, aBind_some, pushR_some, B_X6_moveRun_4, ite_F (by omega), B_X6_moveRun_10, e1, aBind_some, pushR_some, B_X6_moveRun_15 _ _ _ hk, hasR_T hk hR ha, aBind_some, pushR_some, B_X6_moveRun_23 _ _ _ hk, ite_F (by omega), hasR_F hk hR hb, aBind_some, pushR_some, B_X6_moveRun_32 _ _ _ hk, ite_T rfl, B_X6_moveRun_35 _ _ _ hk]
        · rw [B_X7_moveRun_0, isCol_T hc, aBind_some, pushR_some, B_X7_moveRun_4, ite_F (by omega), bck_pos (by omega), ek, q2, chk_pos (by omega), in_T (by omega), aBind_some, pushR_some, B_X7_moveRun_20, ite_F (by omega), bck_pos (by omega), ek, q2, chk_pos (by omega), in_F (by omega), aBind_some, pushR_some, B_X7_moveRun_36, ite_T rfl, B_X7_moveRun_39]
    · refine ⟨-2, iv1, iv1, w, h, n, ?_, ?_, H1⟩
      · rw [B_X6_moveRun_0, isColC_T hc, aBind_some, pushR_some, B_X6_moveRun_4, ite_F (by omega), B_X6_moveRun_10, e1, aBind_some, pushR_some, B_X6_moveRun_15 _ _ _ hk, hasR_F hk hR ha, aBind_some, pushR_some, B_X6_moveRun_23 _ _ _ hk, ite_T rfl, B_X6_moveRun_35 _ _ _ hk]
      · rw [B_X7_moveRun_0, isCol_T hc, aBind_some, pushR_some, B_X7_moveRun_4, ite_F (by omega), bck_pos (by omega), ek, q2, chk_pos (by omega), in_F (by omega), aBind_some, pushR_some, B_X7_moveRun_20, ite_T rfl, B_X7_moveRun_39]
  · refine Both.same (a := -2) H ?_ ?_
    · rw [B_X6_moveRun_0, isColC_F hc, aBind_some, pushR_some, B_X6_moveRun_4, ite_T rfl]
    · rw [B_X7_moveRun_0, isCol_F hc, aBind_some, pushR_some, B_X7_moveRun_4, ite_T rfl, B_X7_moveRun_39]
theorem firstOrder_B {w h n : Nat} {c : Int} (H : InvW iv w h n) : Both sc 90 144 [some (Rf 1), some (I c), none] [some (Rf 52), some (I c)] iv := by
  by_cases hc : 1 ≤ c ∧ c ≤ 6
  · obtain ⟨k, hk, rfl⟩ : ∃ k : Nat, k < 6 ∧ c = (k : Int) + 1 := ⟨(c - 1).toNat, by omega, by omega⟩
    obtain ⟨iv1, e1, H1, ht, -⟩ := runsOf_S (sc := sc) H hk rfl
    obtain ⟨⟨⟨-, -, -, d4, -, d6⟩, -⟩, -⟩ := id H1
    obtain ⟨m, V⟩ := (H1.2.2.2.2.2 k hk).view ht hk d4 d6
    obtain ⟨hR, hMR, ag, al, ao, pm0⟩ := id V
    have cst : (k : Int) + 1 = ((k + 1 : Nat) : Int) := rfl
    obtain ⟨iv2, e2, o, p2, p3⟩ := firstOrd_S (sc := sc) hk hR
    have hM2 : MRunB iv2 (k + 1) m := hMR.keep (o 57 (by omega) (by omega)) (o 58 (by omega) (by omega)) (o 59 (by omega) (by omega)) (o 60 (by omega) (by omega))
    have eX : mX iv2 = mX iv1 := by funext c r; unfold mX; rw [o 58 (by omega) (by omega)]
    have eY : mY iv2 = mY iv1 := by funext c r; unfold mY; rw [o 59 (by omega) (by omega)]
    obtain ⟨iv3, e3, o2, p4⟩ := lord_M (sc := sc) hM2
    have eq : ∀ p, p < m → mO iv3 (k + 1) p = iv2 (12 + 6 * k) p := fun p hpp => by rw [p4 p hpp, p2 p hpp, eX, eY, foO_cg ag hpp]
    have pm : PermN m (iv2 (12 + 6 * k)) (iv2 (13 + 6 * k)) := foO_perm.congr p2 p3
    obtain ⟨T, t1, t2⟩ := thr_both (sc := sc) H1 hk V o o2 eq pm
    refine ⟨T, iv2, iv3, w, h, n, ?_, ?_, H1.ord hk ht hMR.2.1 o o2 eq pm⟩
    · rw [B_X6_firstOrder_0, isColC_T hc, aBind_some, pushR_some, B_X6_firstOrder_4, ite_F (by omega), B_X6_firstOrder_10, e1, aBind_some, pushR_some, B_X6_firstOrder_15 _ _ _ hk, e2, aBind_some, pushR_none, B_X6_firstOrder_20 _ _ _ hk, t1, aBind_some, pushR_some, B_X6_firstOrder_24 _ _ _ hk]
    · rw [B_X7_firstOrder_0, isCol_T hc, aBind_some, pushR_some, B_X7_firstOrder_4, ite_F (by omega), B_X7_firstOrder_10, cst, e3, aBind_some, pushR_none, B_X7_firstOrder_15, t2, aBind_some, pushR_some, B_X7_firstOrder_20]
  · refine Both.same (a := -2) H ?_ ?_
    · rw [B_X6_firstOrder_0, isColC_F hc, aBind_some, pushR_some, B_X6_firstOrder_4, ite_T rfl]
    · rw [B_X7_firstOrder_0, isCol_F hc, aBind_some, pushR_some, B_X7_firstOrder_4, ite_T rfl]
set_option maxHeartbeats 1000000 in
theorem shorten_B {w h n : Nat} {c : Int} (H : InvW iv w h n) : Both sc 91 149 [some (Rf 1), some (I c)] [some (Rf 52), some (I c), none, none, none, none] iv := by
  by_cases hc : 1 ≤ c ∧ c ≤ 6
  · obtain ⟨k, hk, rfl⟩ : ∃ k : Nat, k < 6 ∧ c = (k : Int) + 1 := ⟨(c - 1).toNat, by omega, by omega⟩
    obtain ⟨iv1, e1, H1, ht, -⟩ := runsOf_S (sc := sc) H hk rfl
    obtain ⟨⟨⟨-, -, -, d4, -, d6⟩, -⟩, -⟩ := id H1
    obtain ⟨m, V⟩ := (H1.2.2.2.2.2 k hk).view ht hk d4 d6
    obtain ⟨hR, hMR, ag, al, ao, pm0⟩ := id V
    obtain ⟨hy, y1, y2⟩ := H1.2.2.1
    have cst : (k : Int) + 1 = ((k + 1 : Nat) : Int) := rfl
    obtain ⟨K, hK, hK0, hK1⟩ := itM_end (X := iv1 (9 + 6 * k)) (Y := iv1 (10 + 6 * k)) (r := iv1 6 0) (t := iv1 6 1) pm0.ord (cost_all hR hy)
    obtain ⟨iv2, e2, o, p2, p3⟩ := shortenOrder_S (sc := sc) hk hR hy pm0 (O0 := iv1 (12 + 6 * k)) (fun _ _ => rfl) hK hK0 hK1
    have hM2 : MRunB iv2 (k + 1) m := hMR.keep (o 57 (by omega) (by omega)) (o 58 (by omega) (by omega)) (o 59 (by omega) (by omega)) (o 60 (by omega) (by omega))
    have eX : mX iv2 = mX iv1 := by funext c r; unfold mX; rw [o 58 (by omega) (by omega)]
    have eY : mY iv2 = mY iv1 := by funext c r; unfold mY; rw [o 59 (by omega) (by omega)]
    have eO2 : mO iv2 = mO iv1 := by funext c r; unfold mO; rw [o 61 (by omega) (by omega)]
    have e52 : iv2 52 = iv1 52 := o 52 (by omega) (by omega)
    have hy2 : MYarn iv2 := by unfold MYarn YarnB at *; rw [e52, y1, y2]; exact hy
    obtain ⟨iv3, e3, o2, p4⟩ := sho_M (sc := sc) (K := K) (O0 := iv1 (12 + 6 * k)) hM2 hy2 (fun p hpp => by rw [eO2, ao p hpp]) pm0.ord (by rw [eX, eY, e52, y1, y2, ← mvN_cg ag]; exact hK0) (fun j hj => by rw [eX, eY, e52, y1, y2, ← mvN_cg ag]; exact hK1 j hj)
    rw [eX, eY, e52, y1, y2, ← itM_cg ag] at e3
    have eq : ∀ p, p < m → mO iv3 (k + 1) p = iv2 (12 + 6 * k) p := fun p hpp => by rw [p4 p hpp, p2 p hpp, eX, eY, e52, y1, y2, ← itM_cg ag]
    refine ⟨_, iv2, iv3, w, h, n, ?_, e3, H1.ord hk ht hMR.2.1 o o2 eq p3⟩
    rw [B_X6_shorten_0, isColC_T hc, aBind_some, pushR_some, B_X6_shorten_4, ite_F (by omega), e1, aBind_some, pushR_some, B_X6_shorten_12 _ _ _ hk, e2, aBind_some, pushR_some, B_X6_shorten_15, B_X6_shorten_20]
  · refine Both.same (a := -2) H ?_ ?_
    · rw [B_X6_shorten_0, isColC_F hc, aBind_some, pushR_some, B_X6_shorten_4, ite_T rfl, B_X6_shorten_18, B_X6_shorten_20]
    · rw [B_X7_shorten_0, isCol_F hc, aBind_some, pushR_some, B_X7_shorten_4, ite_T rfl]
end CALLS4
