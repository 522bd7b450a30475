/-! StitchChart$ColorRuns: orders changed -/
section RUNS2
variable {sc : Nat × (Nat → Int)} {iv : Nat → Nat → Int}
/-- only the order and the places of a color differ -/
def OnlyO (iv iv2 : Nat → Nat → Int) (k : Nat) : Prop := ∀ j, j ≠ 12 + 6 * k → j ≠ 13 + 6 * k → iv2 j = iv j
theorem OnlyO.rf {k : Nat} : OnlyO iv iv k := fun _ _ _ => rfl
theorem OnlyO.tr {iv iv2 iv3 : Nat → Nat → Int} {k : Nat} (h : OnlyO iv iv2 k) (h2 : OnlyO iv2 iv3 k) : OnlyO iv iv3 k := fun j a b => (h2 j a b).trans (h j a b)
theorem RunsB.only {iv iv2 : Nat → Nat → Int} {k n : Nat} (h : RunsB iv k n) (ho : OnlyO iv iv2 k) : RunsB iv2 k n := by
  unfold RunsB at h ⊢
  rw [ho (8 + 6 * k) (by omega) (by omega), ho (9 + 6 * k) (by omega) (by omega), ho (10 + 6 * k) (by omega) (by omega), ho (11 + 6 * k) (by omega) (by omega)]
  exact h
theorem YarnB.only {iv iv2 : Nat → Nat → Int} {k : Nat} (h : YarnB iv) (ho : OnlyO iv iv2 k) : YarnB iv2 := by
  unfold YarnB at h ⊢
  rw [ho 6 (by omega) (by omega)]; exact h
theorem rP_congr {n : Nat} {O O' : Nat → Int} (h : ∀ p, p < n → O' p = O p) (p : Int) : rP n O' p = rP n O p := by
  unfold rP
  by_cases c : 0 ≤ p ∧ p < n
  · rw [if_pos c, if_pos c]; exact h _ (by omega)
  · rw [if_neg c, if_neg c]
theorem svF_congr {n : Nat} {X Y O O' : Nat → Int} {r t a b : Int} (h : ∀ p, p < n → O' p = O p) : svF n X Y r t O' a b = svF n X Y r t O a b := by
  unfold svF; simp only [rP_congr h]
theorem mvO_congr {n a b : Nat} {O O' : Nat → Int} (h : ∀ p, p < n → O' p = O p) (ha : a < n) (hb : b < n) {p : Nat} (hp : p < n) : mvO O' a b p = mvO O a b p := by
  unfold mvO
  split
  · exact h a ha
  · split
    · exact h _ (by omega)
    · split
      · exact h _ (by omega)
      · exact h p hp
theorem PermN.congr {n : Nat} {O P O' P' : Nat → Int} (h : PermN n O P) (h1 : ∀ p, p < n → O' p = O p) (h2 : ∀ r, r < n → P' r = P r) : PermN n O' P' := by
  constructor
  · intro p hp
    obtain ⟨a, b, c⟩ := h.1 p hp
    rw [h1 p hp, h2 _ (by omega)]; exact ⟨a, b, c⟩
  · intro r hr
    obtain ⟨a, b, c⟩ := h.2 r hr
    rw [h2 r hr, h1 _ (by omega)]; exact ⟨a, b, c⟩
theorem PermN.ord {n : Nat} {O P : Nat → Int} (h : PermN n O P) : OrdN n O := fun p hp => ⟨(h.1 p hp).1, (h.1 p hp).2.1⟩
theorem layR_S {k n u p : Nat} (hk : k < 6) (hR : RunsB iv k n) (hu : u < n) (hpn : p < n) : Run sc 42 0 [some (Rf (8 + 6 * k)), some (I u), some (I p)] [] (hp iv) = some (none, hp (setO (setO iv (12 + 6 * k) (upI (iv (12 + 6 * k)) p u)) (13 + 6 * k) (upI (iv (13 + 6 * k)) u p))) := by
  have h2 := hR.2.1
  rw [B_X2_lay_0 _ _ _ hk, hasR_T hk hR (by omega), aBind_some, pushR_some, B_X2_lay_5 _ _ _ hk, ite_F (by omega), hasR_T hk hR (by omega), aBind_some, pushR_some, B_X2_lay_13 _ _ _ hk, ite_F (by omega), bck_pos (by omega), bck_pos (by omega), B_X2_lay_23 _ _ _ hk, bck_pos (by omega), bck_pos (by omega), B_X2_lay_30 _ _ _ hk, setO_ne (show 13 + 6 * k ≠ 12 + 6 * k by omega)]
  rfl
set_option maxHeartbeats 4000000 in
theorem relocate_S {k n a b : Nat} (hk : k < 6) (hR : RunsB iv k n) (hPm : PermN n (iv (12 + 6 * k)) (iv (13 + 6 * k))) (ha : a < n) (hb : b < n) :
    ∃ iv2, Run sc 41 0 [some (Rf (8 + 6 * k)), some (I a), some (I b), none, none] [] (hp iv) = some (none, hp iv2) ∧ OnlyO iv iv2 k ∧ (∀ p, p < n → iv2 (12 + 6 * k) p = mvO (iv (12 + 6 * k)) a b p) ∧ ∀ r, r < n → iv2 (13 + 6 * k) r = mvP (iv (13 + 6 * k)) a b r := by
  have h2 := hR.2.1
  rw [B_X2_relocate_0 _ _ _ hk, hasR_T hk hR (by omega), aBind_some, pushR_some, B_X2_relocate_5 _ _ _ hk, ite_F (by omega), hasR_T hk hR (by omega), aBind_some, pushR_some, B_X2_relocate_13 _ _ _ hk, ite_F (by omega), B_X2_relocate_17 _ _ _ hk, bck_pos (by omega), Int.toNat_natCast]
  generalize hO : iv (12 + 6 * k) = O at *
  generalize hPp : iv (13 + 6 * k) = P at *
  -- upwards
  have up : ∃ iv1, Run sc 41 27 [some (Rf (8 + 6 * k)), some (I a), some (I b), some (I (O a)), some (I a)] [] (hp iv) = Run sc 41 56 [some (Rf (8 + 6 * k)), some (I a), some (I b), some (I (O a)), some (I a)] [] (hp iv1) ∧ OnlyO iv iv1 k ∧ (∀ p, p < n → iv1 (12 + 6 * k) p = if a ≤ p ∧ p < b then O (p + 1) else O p) ∧ ∀ r, r < n → iv1 (13 + 6 * k) r = if (a : Int) < P r ∧ P r ≤ b then P r - 1 else P r := by
    by_cases hab : a ≤ b
    · obtain ⟨s, e, g1, g2, g3⟩ := loop_ex (fun i (s : Nat → Nat → Int) => Run sc 41 27 [some (Rf (8 + 6 * k)), some (I a), some (I b), some (I (O a)), some (I i)] [] (hp s)) (fun i s => OnlyO iv s k ∧ (∀ p, p < n → s (12 + 6 * k) p = if a ≤ p ∧ p < i then O (p + 1) else O p) ∧ ∀ r, r < n → s (13 + 6 * k) r = if (a : Int) < P r ∧ P r ≤ i then P r - 1 else P r) b a iv hab ⟨OnlyO.rf, fun p _ => by rw [if_neg (by omega), hO], fun r _ => by rw [if_neg (by omega), hPp]⟩ (fun i s hi1 hi hP => by
        obtain ⟨a1, a2, a3⟩ := hP
        have hR1 := hR.only a1
        obtain ⟨o1, o2, o3⟩ := hPm.1 (i + 1) (by omega)
        have ho : O (i + 1) = ((O (i + 1)).toNat : Int) := by omega
        refine ⟨setO (setO s (12 + 6 * k) (upI (s (12 + 6 * k)) i ((O (i + 1)).toNat : Int))) (13 + 6 * k) (upI (s (13 + 6 * k)) (O (i + 1)).toNat i), ?_, fun j q1 q2 => by rw [setO_ne q2, setO_ne q1]; exact a1 j q1 q2, fun p hp => ?_, fun r hr => ?_⟩
        · rw [B_X2_relocate_27 _ _ _ hk, ite_T (by omega), chk_pos (by omega), runAtP_S hk hR1, aBind_some, pushR_some, show ((i : Int) + 1) = ((i + 1 : Nat) : Int) from rfl, rP_in (by omega), a2 _ (by omega), if_neg (by omega), B_X2_relocate_42 _ _ _ hk]
          rw [show (I (O (i + 1))) = (I ((O (i + 1)).toNat : Int)) from by rw [← ho], layR_S hk hR1 (by omega) (by omega), aBind_some, pushR_none, B_X2_relocate_47 _ _ _ hk, chk_pos (by omega)]
          rfl
        · rw [setO_ne (by omega), setO_same]
          by_cases e1 : p = i
          · rw [e1, upI_same, if_pos (by omega), ← ho]
          · rw [upI_ne e1, a2 p hp]
            by_cases c : a ≤ p ∧ p < i
            · rw [if_pos c, if_pos (by omega)]
            · rw [if_neg c, if_neg (by omega)]
        · rw [setO_same]
          by_cases e1 : r = (O (i + 1)).toNat
          · rw [e1, upI_same, if_pos (by omega)]; omega
          · rw [upI_ne e1, a3 r hr]
            have hne : P r ≠ ((i + 1 : Nat) : Int) := fun z => by
              have := (hPm.2 r hr).2.2
              rw [z, Int.toNat_natCast] at this
              omega
            by_cases c : (a : Int) < P r ∧ P r ≤ i
            · rw [if_pos c, if_pos (by omega)]
            · rw [if_neg c, if_neg (by omega)])
      refine ⟨s, (show _ = _ from e).trans ?_, g1, g2, g3⟩
      show Run sc 41 27 [some (Rf (8 + 6 * k)), some (I a), some (I b), some (I (O a)), some (I b)] [] (hp s) = _
      rw [B_X2_relocate_27 _ _ _ hk, ite_F (by omega), B_X2_relocate_53 _ _ _ hk]
    · refine ⟨iv, ?_, OnlyO.rf, fun p _ => by rw [if_neg (by omega), hO], fun r _ => by rw [if_neg (by omega), hPp]⟩
      rw [B_X2_relocate_27 _ _ _ hk, ite_F (by omega), B_X2_relocate_53 _ _ _ hk]
  obtain ⟨iv1, e1, f1, f2, f3⟩ := up
  rw [e1]
  -- downwards
  have dn : ∃ iv2 z, Run sc 41 56 [some (Rf (8 + 6 * k)), some (I a), some (I b), some (I (O a)), some (I a)] [] (hp iv1) = Run sc 41 82 [some (Rf (8 + 6 * k)), some (I a), some (I b), some (I (O a)), some (I z)] [] (hp iv2) ∧ OnlyO iv iv2 k ∧ (∀ p, p < n → iv2 (12 + 6 * k) p = if a ≤ p ∧ p < b then O (p + 1) else if b < p ∧ p ≤ a then O (p - 1) else O p) ∧ ∀ r, r < n → iv2 (13 + 6 * k) r = if (a : Int) < P r ∧ P r ≤ b then P r - 1 else if (b : Int) ≤ P r ∧ P r < a then P r + 1 else P r := by
    by_cases hab : b < a
    · obtain ⟨s, e, g1, g2, g3⟩ := loop_ex (fun i (s : Nat → Nat → Int) => Run sc 41 56 [some (Rf (8 + 6 * k)), some (I a), some (I b), some (I (O a)), some (I (a - i))] [] (hp s)) (fun i s => OnlyO iv s k ∧ (∀ p, p < n → s (12 + 6 * k) p = if a < p + i ∧ p ≤ a then O (p - 1) else O p) ∧ ∀ r, r < n → s (13 + 6 * k) r = if (a : Int) ≤ P r + i ∧ P r < a then P r + 1 else P r) (a - b) 0 iv1 (Nat.zero_le _) ⟨f1, fun p hp => by rw [f2 p hp, if_neg (by omega), if_neg (by omega)], fun r hr => by rw [f3 r hr, if_neg (by omega), if_neg (by omega)]⟩ (fun i s hi1 hi hP => by
        obtain ⟨a1, a2, a3⟩ := hP
        have hR1 := hR.only a1
        obtain ⟨o1, o2, o3⟩ := hPm.1 (a - i - 1) (by omega)
        have ho : O (a - i - 1) = ((O (a - i - 1)).toNat : Int) := by omega
        refine ⟨setO (setO s (12 + 6 * k) (upI (s (12 + 6 * k)) (a - i) ((O (a - i - 1)).toNat : Int))) (13 + 6 * k) (upI (s (13 + 6 * k)) (O (a - i - 1)).toNat ((a - i : Nat) : Int)), ?_, fun j q1 q2 => by rw [setO_ne q2, setO_ne q1]; exact a1 j q1 q2, fun p hp => ?_, fun r hr => ?_⟩
        · rw [B_X2_relocate_56 _ _ _ hk, ite_T (by omega), chk_pos (by omega), runAtP_S hk hR1, aBind_some, pushR_some, show ((a : Int) - i - 1) = ((a - i - 1 : Nat) : Int) by omega, rP_in (by omega), a2 _ (by omega), if_neg (by omega), B_X2_relocate_71 _ _ _ hk]
          rw [show (I (O (a - i - 1))) = (I ((O (a - i - 1)).toNat : Int)) from by rw [← ho], show ((a : Int) - i) = ((a - i : Nat) : Int) by omega, layR_S hk hR1 (by omega) (by omega), aBind_some, pushR_none, B_X2_relocate_76 _ _ _ hk, chk_pos (by omega), show (((a - i : Nat) : Int) + -1) = (a : Int) - (i + 1) by omega]
        · rw [setO_ne (by omega), setO_same]
          by_cases e1 : p = a - i
          · rw [e1, upI_same, if_pos (by omega), ← ho]
          · rw [upI_ne e1, a2 p hp]
            by_cases c : a < p + i ∧ p ≤ a
            · rw [if_pos c, if_pos (by omega)]
            · rw [if_neg c, if_neg (by omega)]
        · rw [setO_same]
          by_cases e1 : r = (O (a - i - 1)).toNat
          · rw [e1, upI_same, if_pos (by omega)]; omega
          · rw [upI_ne e1, a3 r hr]
            have hne : P r ≠ ((a - i - 1 : Nat) : Int) := fun z => by
              have := (hPm.2 r hr).2.2
              rw [z, Int.toNat_natCast] at this
              omega
            by_cases c : (a : Int) ≤ P r + i ∧ P r < a
            · rw [if_pos c, if_pos (by omega)]
            · rw [if_neg c, if_neg (by omega)])
      refine ⟨s, (a : Int) - ((a - b : Nat) : Int), ?_, g1, fun p hp => ?_, fun r hr => ?_⟩
      · have e0 : (a : Int) = (a : Int) - ((0 : Nat) : Int) := by omega
        have e : Run sc 41 56 [some (Rf (8 + 6 * k)), some (I a), some (I b), some (I (O a)), some (I ((a : Int) - ((0 : Nat) : Int)))] [] (hp iv1) = Run sc 41 56 [some (Rf (8 + 6 * k)), some (I a), some (I b), some (I (O a)), some (I ((a : Int) - ((a - b : Nat) : Int)))] [] (hp s) := e
        rw [← e0] at e
        rw [e, B_X2_relocate_56 _ _ _ hk, ite_F (by omega)]
      · rw [g2 p hp, if_neg (show ¬ (a ≤ p ∧ p < b) by omega)]
        by_cases c : b < p ∧ p ≤ a
        · rw [if_pos c, if_pos (by omega)]
        · rw [if_neg c, if_neg (by omega)]
      · rw [g3 r hr, if_neg (show ¬ ((a : Int) < P r ∧ P r ≤ b) by omega)]
        by_cases c : (b : Int) ≤ P r ∧ P r < a
        · rw [if_pos c, if_pos (by omega)]
        · rw [if_neg c, if_neg (by omega)]
    · refine ⟨iv1, a, ?_, f1, fun p hp => ?_, fun r hr => ?_⟩
      · rw [B_X2_relocate_56 _ _ _ hk, ite_F (by omega)]
      · rw [f2 p hp]
        by_cases c : a ≤ p ∧ p < b
        · rw [if_pos c, if_pos c]
        · rw [if_neg c, if_neg c, if_neg (by omega)]
      · rw [f3 r hr]
        by_cases c : (a : Int) < P r ∧ P r ≤ b
        · rw [if_pos c, if_pos c]
        · rw [if_neg c, if_neg c, if_neg (by omega)]
  obtain ⟨iv2, z, e2, g1, g2, g3⟩ := dn
  obtain ⟨o1, o2, o3⟩ := hPm.1 a ha
  have ho : O a = ((O a).toNat : Int) := by omega
  refine ⟨setO (setO iv2 (12 + 6 * k) (upI (iv2 (12 + 6 * k)) b ((O a).toNat : Int))) (13 + 6 * k) (upI (iv2 (13 + 6 * k)) (O a).toNat b), ?_, fun j q1 q2 => by rw [setO_ne q2, setO_ne q1]; exact g1 j q1 q2, fun p hp => ?_, fun r hr => ?_⟩
  · rw [e2, B_X2_relocate_82 _ _ _ hk, show (I (O a)) = (I ((O a).toNat : Int)) from by rw [← ho], layR_S hk (hR.only g1) (by omega) hb, aBind_some, pushR_none, B_X2_relocate_88 _ _ _ hk]
  · rw [setO_ne (by omega), setO_same]
    unfold mvO
    by_cases e1 : p = b
    · rw [e1, upI_same, if_pos rfl, ← ho]
    · rw [upI_ne e1, if_neg e1]; exact g2 p hp
  · rw [setO_same]
    unfold mvP
    by_cases e1 : r = (O a).toNat
    · rw [e1, upI_same, if_pos o3]
    · rw [upI_ne e1, g3 r hr]
      have hne : P r ≠ (a : Int) := fun z => by
        have := (hPm.2 r hr).2.2
        rw [z, Int.toNat_natCast] at this
        omega
      rw [if_neg hne]
theorem cost_all {k n : Nat} (hR : RunsB iv k n) (hy : YarnB iv) : ∀ O', OrdN n O' → 0 ≤ sumN (cpF (iv (9 + 6 * k)) (iv (10 + 6 * k)) (iv 6 0) (iv 6 1) O') n ∧ sumN (cpF (iv (9 + 6 * k)) (iv (10 + 6 * k)) (iv 6 0) (iv 6 1) O') n ≤ 576000 := by
  intro O' hO
  refine sum288 (c := 1000) hR.2.1 (by omega) (fun i hi => ?_)
  unfold cpF
  split
  · omega
  · have h1 := hO i hi
    have h2 := hO (i - 1) (by omega)
    have ea := hR.2.2 (O' (i - 1)).toNat (by omega)
    have eb := hR.2.2 (O' i).toNat (by omega)
    have hw := wayF_b (X := iv (9 + 6 * k)) (Y := iv (10 + 6 * k)) (a := (O' (i - 1)).toNat) (b := (O' i).toNat) ea.1 eb.1 ea.2.1 eb.2.1
    exact cstF_b hy.1 hy.2 hw.1
set_option maxHeartbeats 4000000 in
theorem shortenOnce_S {k n : Nat} (hk : k < 6) (hR : RunsB iv k n) (hy : YarnB iv) (hPm : PermN n (iv (12 + 6 * k)) (iv (13 + 6 * k))) {O0 : Nat → Int} (hO0 : ∀ p, p < n → iv (12 + 6 * k) p = O0 p) :
    ∃ iv2, Run sc 44 0 [some (Rf (8 + 6 * k)), none, none, none] [] (hp iv) = some (some (I (pasM n (iv (9 + 6 * k)) (iv (10 + 6 * k)) (iv 6 0) (iv 6 1) (O0, 0) n).2), hp iv2) ∧ OnlyO iv iv2 k ∧ (∀ p, p < n → iv2 (12 + 6 * k) p = (pasM n (iv (9 + 6 * k)) (iv (10 + 6 * k)) (iv 6 0) (iv 6 1) (O0, 0) n).1 p) ∧ PermN n (iv2 (12 + 6 * k)) (iv2 (13 + 6 * k)) := by
  have h2 := hR.2.1
  generalize hX : iv (9 + 6 * k) = X at *
  generalize hY : iv (10 + 6 * k) = Y at *
  generalize hr : iv 6 0 = r at *
  generalize ht : iv 6 1 = t at *
  have hord0 : OrdN n O0 := fun p hp => by have := hPm.ord p hp; rw [hO0 p hp] at this; exact this
  have hcost : ∀ O', OrdN n O' → 0 ≤ sumN (cpF X Y r t O') n ∧ sumN (cpF X Y r t O') n ≤ 576000 := by
    have := cost_all hR hy
    rw [hX, hY, hr, ht] at this; exact this
  have mb : ∀ s, SavM n X Y r t (O0, 0) s → 0 ≤ s.2 ∧ s.2 ≤ 576000 := fun s hs => by
    have h1 := hcost _ hs.1
    have h3 := hcost _ hord0
    have h4 := hs.2.1
    have h5 := hs.2.2
    dsimp only at h4 h5
    omega
  rw [B_X2_shortenOnce_0 _ _ _ hk]
  obtain ⟨s, e, g1, g2, g3, g4⟩ := loop_ex (fun i (s : (Int × Option AV) × (Nat → Nat → Int)) => Run sc 44 4 [some (Rf (8 + 6 * k)), some (I s.1.1), some (I i), s.1.2] [] (hp s.2)) (fun i s => OnlyO iv s.2 k ∧ s.1.1 = (pasM n X Y r t (O0, 0) i).2 ∧ (∀ p, p < n → s.2 (12 + 6 * k) p = (pasM n X Y r t (O0, 0) i).1 p) ∧ PermN n (s.2 (12 + 6 * k)) (s.2 (13 + 6 * k))) n 0 ((0, none), iv) (Nat.zero_le _) ⟨OnlyO.rf, rfl, hO0, hPm⟩ (fun a s _ ha hP => by
    obtain ⟨⟨m, d⟩, ivx⟩ := s
    obtain ⟨a1, a2, a3, a4⟩ := hP
    dsimp only at a1 a2 a3 a4 ⊢
    have hpas := pasM_sav (X := X) (Y := Y) (r := r) (t := t) (s := (O0, 0)) hord0 a (by omega)
    have hn1 := (hR.only a1).1
    obtain ⟨q, e1, b1, b2, b3, b4⟩ := loop_ex (fun i (s : Int × (Nat → Nat → Int)) => Run sc 44 14 [some (Rf (8 + 6 * k)), some (I s.1), some (I a), some (I i)] [] (hp s.2)) (fun i s => OnlyO iv s.2 k ∧ s.1 = (rowM n X Y r t a (pasM n X Y r t (O0, 0) a) i).2 ∧ (∀ p, p < n → s.2 (12 + 6 * k) p = (rowM n X Y r t a (pasM n X Y r t (O0, 0) a) i).1 p) ∧ PermN n (s.2 (12 + 6 * k)) (s.2 (13 + 6 * k))) n 0 (m, ivx) (Nat.zero_le _) ⟨a1, a2, a3, a4⟩ (fun b s _ hb hP => by
      obtain ⟨m, ivy⟩ := s
      obtain ⟨c1, c2, c3, c4⟩ := hP
      dsimp only at c1 c2 c3 c4 ⊢
      have hR1 := hR.only c1
      have hy1 := hy.only c1
      have hrow := rowM_sav ha hpas b (by omega)
      have hmb := mb _ hrow
      have hsv := saved_S (sc := sc) hk hR1 hy1 ha hb
      rw [c1 (9 + 6 * k) (by omega) (by omega), c1 (10 + 6 * k) (by omega) (by omega), c1 6 (by omega) (by omega), hX, hY, hr, ht, svF_congr c3] at hsv
      have erow : rowM n X Y r t a (pasM n X Y r t (O0, 0) a) (b + 1) = tryM n X Y r t a b (rowM n X Y r t a (pasM n X Y r t (O0, 0) a) b) := rfl
      rw [erow]
      generalize rowM n X Y r t a (pasM n X Y r t (O0, 0) a) b = S at *
      by_cases eab : b = a
      · refine ⟨(m, ivy), ?_, c1, ?_, ?_, c4⟩
        · show Run sc 44 14 [some (Rf (8 + 6 * k)), some (I m), some (I a), some (I b)] [] (hp ivy) = Run sc 44 14 [some (Rf (8 + 6 * k)), some (I m), some (I a), some (I (b + 1))] [] (hp ivy)
          rw [B_X2_shortenOnce_14 _ _ _ hk, ite_T (by rw [hR1.1]; omega), ite_T (by omega), B_X2_shortenOnce_45 _ _ _ hk, chk_pos (by omega)]
        · unfold tryM; rw [if_pos eab]; exact c2
        · unfold tryM; rw [if_pos eab]; exact c3
      · by_cases csv : 0 < svF n X Y r t S.1 a b
        · obtain ⟨iv3, e3, d1, d2, d3⟩ := relocate_S (sc := sc) hk hR1 c4 ha hb
          refine ⟨(m + 1, iv3), ?_, c1.tr d1, ?_, fun p hp => ?_, (c4.mv ha hb).congr d2 d3⟩
          · show Run sc 44 14 [some (Rf (8 + 6 * k)), some (I m), some (I a), some (I b)] [] (hp ivy) = Run sc 44 14 [some (Rf (8 + 6 * k)), some (I (m + 1)), some (I a), some (I (b + 1))] [] (hp iv3)
            rw [B_X2_shortenOnce_14 _ _ _ hk, ite_T (by rw [hR1.1]; omega), ite_F (by omega), hsv, aBind_some, pushR_some, B_X2_shortenOnce_33 _ _ _ hk, if_pos csv, e3, aBind_some, pushR_none, B_X2_shortenOnce_42 _ _ _ hk, chk_pos (by omega), B_X2_shortenOnce_45 _ _ _ hk, chk_pos (by omega)]
          · unfold tryM; rw [if_neg eab, if_pos csv]; show m + 1 = S.2 + 1; omega
          · unfold tryM; rw [if_neg eab, if_pos csv]
            show iv3 (12 + 6 * k) p = mvO S.1 a b p
            rw [d2 p hp]; exact mvO_congr c3 ha hb hp
        · refine ⟨(m, ivy), ?_, c1, ?_, ?_, c4⟩
          · show Run sc 44 14 [some (Rf (8 + 6 * k)), some (I m), some (I a), some (I b)] [] (hp ivy) = Run sc 44 14 [some (Rf (8 + 6 * k)), some (I m), some (I a), some (I (b + 1))] [] (hp ivy)
            rw [B_X2_shortenOnce_14 _ _ _ hk, ite_T (by rw [hR1.1]; omega), ite_F (by omega), hsv, aBind_some, pushR_some, B_X2_shortenOnce_33 _ _ _ hk, if_neg csv, B_X2_shortenOnce_45 _ _ _ hk, chk_pos (by omega)]
          · unfold tryM; rw [if_neg eab, if_neg csv]; exact c2
          · unfold tryM; rw [if_neg eab, if_neg csv]; exact c3)
    obtain ⟨m2, iv4⟩ := q
    dsimp only at b1 b2 b3 b4
    refine ⟨((m2, some (I n)), iv4), ?_, b1, b2, b3, b4⟩
    show Run sc 44 4 [some (Rf (8 + 6 * k)), some (I m), some (I a), d] [] (hp ivx) = Run sc 44 4 [some (Rf (8 + 6 * k)), some (I m2), some (I (a + 1)), some (I n)] [] (hp iv4)
    rw [B_X2_shortenOnce_4 _ _ _ hk, ite_T (by omega)]
    refine (show _ = _ from e1).trans ?_
    show Run sc 44 14 [some (Rf (8 + 6 * k)), some (I m2), some (I a), some (I n)] [] (hp iv4) = _
    rw [B_X2_shortenOnce_14 _ _ _ hk, ite_F (by rw [(hR.only b1).1]; omega), B_X2_shortenOnce_51 _ _ _ hk, chk_pos (by omega)])
  obtain ⟨⟨m, d⟩, ivx⟩ := s
  dsimp only at g1 g2 g3 g4
  refine ⟨ivx, (show _ = _ from e).trans ?_, g1, g3, g4⟩
  show Run sc 44 4 [some (Rf (8 + 6 * k)), some (I m), some (I n), d] [] (hp ivx) = _
  rw [B_X2_shortenOnce_4 _ _ _ hk, ite_F (by rw [(hR.only g1).1]; omega), B_X2_shortenOnce_57 _ _ _ hk, g2]
set_option maxHeartbeats 4000000 in
theorem shortenOrder_S {k n K : Nat} (hk : k < 6) (hR : RunsB iv k n) (hy : YarnB iv) (hPm : PermN n (iv (12 + 6 * k)) (iv (13 + 6 * k))) {O0 : Nat → Int} (hO0 : ∀ p, p < n → iv (12 + 6 * k) p = O0 p) (hK : K ≤ 576000) (hK0 : mvN n (iv (9 + 6 * k)) (iv (10 + 6 * k)) (iv 6 0) (iv 6 1) O0 K = 0) (hK1 : ∀ j, j < K → mvN n (iv (9 + 6 * k)) (iv (10 + 6 * k)) (iv 6 0) (iv 6 1) O0 j ≠ 0) :
    ∃ iv2, Run sc 43 0 [some (Rf (8 + 6 * k)), none, none, none] [] (hp iv) = some (some (I (itM n (iv (9 + 6 * k)) (iv (10 + 6 * k)) (iv 6 0) (iv 6 1) O0 K).2), hp iv2) ∧ OnlyO iv iv2 k ∧ (∀ p, p < n → iv2 (12 + 6 * k) p = (itM n (iv (9 + 6 * k)) (iv (10 + 6 * k)) (iv 6 0) (iv 6 1) O0 (K + 1)).1 p) ∧ PermN n (iv2 (12 + 6 * k)) (iv2 (13 + 6 * k)) := by
  have h2 := hR.2.1
  generalize hX : iv (9 + 6 * k) = X at *
  generalize hY : iv (10 + 6 * k) = Y at *
  generalize hr : iv 6 0 = r at *
  generalize ht : iv 6 1 = t at *
  have hord0 : OrdN n O0 := fun p hp => by have := hPm.ord p hp; rw [hO0 p hp] at this; exact this
  have hcost : ∀ O', OrdN n O' → 0 ≤ sumN (cpF X Y r t O') n ∧ sumN (cpF X Y r t O') n ≤ 576000 := by
    have := cost_all hR hy
    rw [hX, hY, hr, ht] at this; exact this
  have mb : ∀ i, 0 ≤ (itM n X Y r t O0 i).2 ∧ (itM n X Y r t O0 i).2 ≤ 576000 := fun i => by
    obtain ⟨h1, h3, h4⟩ := itM_ok (X := X) (Y := Y) (r := r) (t := t) hord0 i
    have := hcost _ h1
    have := hcost _ hord0
    omega
  have one : ∀ (ivx : Nat → Nat → Int) (i : Nat), OnlyO iv ivx k → (∀ p, p < n → ivx (12 + 6 * k) p = (itM n X Y r t O0 i).1 p) → PermN n (ivx (12 + 6 * k)) (ivx (13 + 6 * k)) → ∃ iv2, Run sc 44 0 [some (Rf (8 + 6 * k)), none, none, none] [] (hp ivx) = some (some (I (mvN n X Y r t O0 i)), hp iv2) ∧ OnlyO iv iv2 k ∧ (∀ p, p < n → iv2 (12 + 6 * k) p = (itM n X Y r t O0 (i + 1)).1 p) ∧ PermN n (iv2 (12 + 6 * k)) (iv2 (13 + 6 * k)) := by
    intro ivx i a1 a2 a3
    obtain ⟨iv2, e, b1, b2, b3⟩ := shortenOnce_S (sc := sc) hk (hR.only a1) (hy.only a1) a3 a2
    rw [a1 (9 + 6 * k) (by omega) (by omega), a1 (10 + 6 * k) (by omega) (by omega), a1 6 (by omega) (by omega), hX, hY, hr, ht] at e b2
    exact ⟨iv2, e, a1.tr b1, b2, b3⟩
  rw [B_X2_shortenOrder_0 _ _ _ hk]
  obtain ⟨s, e, g1, g2, g3, g4⟩ := loop_ex (fun i (s : (Int × Option AV) × (Nat → Nat → Int)) => Run sc 43 4 [some (Rf (8 + 6 * k)), some (I s.1.1), some (I i), s.1.2] [] (hp s.2)) (fun i s => OnlyO iv s.2 k ∧ s.1.1 = (itM n X Y r t O0 i).2 ∧ (∀ p, p < n → s.2 (12 + 6 * k) p = (itM n X Y r t O0 i).1 p) ∧ PermN n (s.2 (12 + 6 * k)) (s.2 (13 + 6 * k))) K 0 ((0, none), iv) (Nat.zero_le _) ⟨OnlyO.rf, rfl, hO0, hPm⟩ (fun i s _ hi hP => by
    obtain ⟨⟨m, d⟩, ivx⟩ := s
    obtain ⟨a1, a2, a3, a4⟩ := hP
    dsimp only at a1 a2 a3 a4 ⊢
    obtain ⟨iv2, e, b1, b2, b3⟩ := one ivx i a1 a3 a4
    have hm := mb i
    have hm1 := mb (i + 1)
    have em : (itM n X Y r t O0 (i + 1)).2 = (itM n X Y r t O0 i).2 + mvN n X Y r t O0 i := rfl
    have hne := hK1 i hi
    refine ⟨((m + mvN n X Y r t O0 i, some (I (mvN n X Y r t O0 i))), iv2), ?_, b1, by rw [em, a2], b2, b3⟩
    show Run sc 43 4 [some (Rf (8 + 6 * k)), some (I m), some (I i), d] [] (hp ivx) = Run sc 43 4 [some (Rf (8 + 6 * k)), some (I (m + mvN n X Y r t O0 i)), some (I (i + 1)), some (I (mvN n X Y r t O0 i))] [] (hp iv2)
    rw [B_X2_shortenOrder_4 _ _ _ hk, ite_T (by omega), e, aBind_some, pushR_some, B_X2_shortenOrder_14 _ _ _ hk, if_neg hne, B_X2_shortenOrder_22 _ _ _ hk, chk_pos (by omega), chk_pos (by omega)])
  obtain ⟨⟨m, d⟩, ivx⟩ := s
  dsimp only at g1 g2 g3 g4
  obtain ⟨iv2, e2, b1, b2, b3⟩ := one ivx K g1 g3 g4
  refine ⟨iv2, (show _ = _ from e).trans ?_, b1, b2, b3⟩
  show Run sc 43 4 [some (Rf (8 + 6 * k)), some (I m), some (I K), d] [] (hp ivx) = _
  rw [B_X2_shortenOrder_4 _ _ _ hk, ite_T (by omega), e2, aBind_some, pushR_some, B_X2_shortenOrder_14 _ _ _ hk, if_pos hK0, B_X2_shortenOrder_32 _ _ _ hk, g2]
end RUNS2
