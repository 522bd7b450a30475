/-! type, clearText */ -/
section CALLS6
variable {sc : Nat × (Nat → Int)} {iv iv2 : Nat → Nat → Int}
theorem type_B {w h n : Nat} {c : Int} (H : InvW iv w h n) (hc : 0 ≤ c ∧ c ≤ 65535) : Both sc 78 121 [some (Rf 1), some (I c)] [some (Rf 52), some (I c)] iv := by
  obtain ⟨h1, h2, h3, ⟨⟨h4, b1, b2, b3, b4, b5⟩, h4'⟩, ⟨hT, hX⟩, h6⟩ := id H
  by_cases hn : n = 120
  · refine Both.same (a := -3) H ?_ (typeF_M hX hn)
    rw [B_X6_type_0, app_F hT hn, aBind_some, pushR_some, B_X6_type_8, ite_T rfl, B_X6_type_21, B_X6_type_23]
  · have hn2 : n < 120 := by have := hT.2.1; omega
    obtain ⟨t1, t2, t3⟩ := id hT
    obtain ⟨x1, x2, x3⟩ := id hX
    generalize hs1 : setO (setO iv 51 (upI (iv 51) n c)) 50 (upI (iv 50) 1 ((n : Int) + 1)) = s1
    have k50 : s1 50 = upI (iv 50) 1 ((n : Int) + 1) := by rw [← hs1, setO_same]
    have k51 : s1 51 = upI (iv 51) n c := by rw [← hs1, setO_ne (by omega), setO_same]
    have kk : ∀ k, k ≠ 50 → k ≠ 51 → s1 k = iv k := fun k u v => by rw [← hs1, setO_ne u, setO_ne v]
    have hX1 : MTx (iv 51) s1 n := by unfold MTx; rw [kk 52 (by omega) (by omega), kk 63 (by omega) (by omega)]; exact hX
    have hm := type_M (sc := sc) hX1 hc hn2
    generalize hs2 : setO (setO s1 63 (upI (s1 63) n c)) 52 (upI (s1 52) 17 ((n : Int) + 1)) = s2 at hm
    have j63 : s2 63 = upI (iv 63) n c := by rw [← hs2, setO_ne (by omega), setO_same, kk 63 (by omega) (by omega)]
    have j52 : s2 52 = upI (iv 52) 17 ((n : Int) + 1) := by rw [← hs2, setO_same, kk 52 (by omega) (by omega)]
    have jk : ∀ k, k ≠ 52 → k ≠ 63 → s2 k = s1 k := fun k u v => by rw [← hs2, setO_ne u, setO_ne v]
    have kj : ∀ k, k ≠ 50 → k ≠ 51 → k ≠ 52 → k ≠ 63 → s2 k = iv k := fun k a b u v => by rw [jk k u v, kk k a b]
    have p52 : ∀ f, f ≠ 17 → s2 52 f = iv 52 f := fun f u => by rw [j52, upI_ne u]
    refine ⟨(n : Int) + 1, s1, s2, w, h, n + 1, ?_, hm, ?_⟩
    · rw [B_X6_type_0, app_T hT hn2 hc, aBind_some, pushR_some, B_X6_type_8, ite_F (by omega), hs1, k50, upI_same, B_X6_type_23]
    · refine H.ch (fun k _ _ _ _ _ _ _ a b u _ _ v _ _ => kj k a b u v) ⟨p52 0 (by omega), p52 1 (by omega)⟩ ?_ ?_ ?_ ?_ ⟨⟨?_, ?_, fun i hi => ?_⟩, ?_, ?_, fun i hi => ?_⟩
      · unfold MLy LayB at h2 ⊢
        rw [kj 49 (by omega) (by omega) (by omega) (by omega), p52 4 (by omega), p52 5 (by omega), p52 6 (by omega)]; exact h2
      · unfold YarnB at h3 ⊢
        rw [kj 6 (by omega) (by omega) (by omega) (by omega), p52 2 (by omega), p52 3 (by omega)]; exact h3
      · rw [kj 45 (by omega) (by omega) (by omega) (by omega), kj 46 (by omega) (by omega) (by omega) (by omega), kj 55 (by omega) (by omega) (by omega) (by omega), kj 56 (by omega) (by omega) (by omega) (by omega)]; exact ⟨b3, b4, b5⟩
      · unfold BkOut at h4' ⊢; rw [kj 45 (by omega) (by omega) (by omega) (by omega), kj 46 (by omega) (by omega) (by omega) (by omega)]; exact h4'
      · rw [jk 50 (by omega) (by omega), k50, upI_same]; omega
      · omega
      · rw [jk 51 (by omega) (by omega), k51]
        by_cases e : i = n
        · rw [e, upI_same]; exact hc
        · rw [upI_ne e]; exact t3 i (by omega)
      · rw [j52, upI_same]; omega
      · omega
      · rw [j63, jk 51 (by omega) (by omega), k51]
        by_cases e : i = n
        · rw [e, upI_same, upI_same]; exact ⟨rfl, hc⟩
        · rw [upI_ne e, upI_ne e]; exact x3 i (by omega)
theorem clearText_B {w h n : Nat} (H : InvW iv w h n) : Both sc 79 122 [some (Rf 1), none] [some (Rf 52), none] iv := by
  obtain ⟨h1, h2, h3, ⟨⟨h4, b1, b2, b3, b4, b5⟩, h4'⟩, ⟨hT, hX⟩, h6⟩ := id H
  obtain ⟨t1, t2, t3⟩ := id hT
  generalize hs1 : setO iv 50 (upI (iv 50) 1 0) = s1
  have k50 : s1 50 = upI (iv 50) 1 0 := by rw [← hs1, setO_same]
  have kk : ∀ k, k ≠ 50 → s1 k = iv k := fun k u => by rw [← hs1, setO_ne u]
  have hX1 : MTx (iv 51) s1 n := by unfold MTx; rw [kk 52 (by omega), kk 63 (by omega)]; exact hX
  have hm := clrT_M (sc := sc) hX1
  generalize hs2 : setO s1 52 (upI (s1 52) 17 0) = s2 at hm
  have j52 : s2 52 = upI (iv 52) 17 0 := by rw [← hs2, setO_same, kk 52 (by omega)]
  have kj : ∀ k, k ≠ 50 → k ≠ 52 → s2 k = iv k := fun k a u => by rw [← hs2, setO_ne u, kk k a]
  have p52 : ∀ f, f ≠ 17 → s2 52 f = iv 52 f := fun f u => by rw [j52, upI_ne u]
  refine ⟨n, s1, s2, w, h, 0, ?_, hm, ?_⟩
  · rw [B_X6_clearText_0, bck_pos (by omega), t1, hs1, B_X6_clearText_16]
  · refine H.ch (fun k _ _ _ _ _ _ _ a _ u _ _ _ _ _ => kj k a u) ⟨p52 0 (by omega), p52 1 (by omega)⟩ ?_ ?_ ?_ ?_ ⟨⟨?_, by omega, fun i hi => absurd hi (Nat.not_lt_zero _)⟩, ?_, by omega, fun i hi => absurd hi (Nat.not_lt_zero _)⟩
    · unfold MLy LayB at h2 ⊢
      rw [kj 49 (by omega) (by omega), p52 4 (by omega), p52 5 (by omega), p52 6 (by omega)]; exact h2
    · unfold YarnB at h3 ⊢
      rw [kj 6 (by omega) (by omega), p52 2 (by omega), p52 3 (by omega)]; exact h3
    · rw [kj 45 (by omega) (by omega), kj 46 (by omega) (by omega), kj 55 (by omega) (by omega), kj 56 (by omega) (by omega)]; exact ⟨b3, b4, b5⟩
    · unfold BkOut at h4' ⊢; rw [kj 45 (by omega) (by omega), kj 46 (by omega) (by omega)]; exact h4'
    · rw [← hs2, setO_ne (by omega), k50, upI_same]; rfl
    · rw [j52, upI_same]; rfl
end CALLS6
