/-! StitchChartModel: readNumber, readEntry -/
section MTEXT2
variable {sc : Nat × (Nat → Int)} {iv iv0 g s : Nat → Nat → Int}
theorem cf_bad {T : Nat → Int} {n f i : Nat} {a b : Int} (hif : i + f = n) (h1 : ¬ (i < n ∧ digI (T i))) (h2 : ¬ (1 ≤ ncI a b ∧ ncI a b ≤ 24)) : cfF T n f i a b = i - b := by
  cases f with
  | zero =>
    show (if 1 ≤ ncI a b ∧ ncI a b ≤ 24 then (if b = 0 then -1 else (n : Int)) else n - b) = _
    rw [if_neg h2]; omega
  | succ f => rw [cfF_s, if_neg (fun z => h1 ⟨by omega, z⟩), if_neg h2]
/-- after the digits of an entry -/
def NumOk (T : Nat → Int) (n f i i2 f2 : Nat) (a b : Int) : Prop := i2 + f2 = n ∧ (b = (i2 : Int) - i) ∧ digB a b ∧ ¬ (i2 < n ∧ digI (T i2)) ∧ (1 ≤ ncI a b ∧ ncI a b ≤ 24) ∧ cfF T n f i 0 0 = cfF T n f2 i2 a b ∧
  (∀ w h x y : Int, ¬ (w < x ∨ h ≤ y) → fiF T w h f i x y 0 0 = fiF T w h f2 i2 x y a b) ∧ ∀ x y G, drF T f i x y 0 0 G = drF T f2 i2 x y a b G
theorem num_M {T : Nat → Int} {n f i : Nat} {x y wd : Int} (hT : MTx T iv0 n) (H : RSt iv0 s i 1 x y wd) (hif : i + (f + 1) = n) : ∃ v s2, Run sc 124 0 [some (Rf 52), none, none] [] (hp s) = some (some (I v), hp s2) ∧ s2 54 = s 54 ∧
    ((∃ q : Nat, q ≤ n ∧ cfF T n (f + 1) i 0 0 = q ∧ RSt iv0 s2 q 0 x y wd) ∨ ∃ i2 f2 a b, v = ncI a b ∧ NumOk T n (f + 1) i i2 f2 a b ∧ RSt iv0 s2 i2 1 x y wd) := by
  have hn120 : n ≤ 120 := hT.2.1
  have hp19 := H.2.2.1
  rw [B_X7_readNumber_0, hp19]
  by_cases h1 : digI (T i)
  · rw [rdDig (a := 0) hT H (by omega) h1 (by omega) (by omega) (by omega)]
    have H1 : RSt iv0 (setO s 52 (upI (s 52) 19 ((i : Int) + 1))) ((i + 1 : Nat) : Int) 1 x y wd := H.p
    generalize hs1 : setO s 52 (upI (s 52) 19 ((i : Int) + 1)) = s1 at *
    have f54 : s1 54 = s 54 := by rw [← hs1, setO_ne (by omega)]
    have c1 : cfF T n (f + 1) i 0 0 = cfF T n f (i + 1) (10 * 0 + (T i - 48)) (0 + 1) := by rw [cfF_s, if_pos h1, if_neg (by omega)]
    have d1 : digB (10 * 0 + (T i - 48)) (0 + 1) := digB.z.add h1 (by omega)
    have fi1 : ∀ w h x y : Int, ¬ (w < x ∨ h ≤ y) → fiF T w h (f + 1) i x y 0 0 = fiF T w h f (i + 1) x y (10 * 0 + (T i - 48)) (0 + 1) := fun w h x y hc => by rw [fiF_s, if_pos h1, if_neg hc]
    have dr1 : ∀ x y G, drF T (f + 1) i x y 0 0 G = drF T f (i + 1) x y (10 * 0 + (T i - 48)) (0 + 1) G := fun x y G => by rw [drF_s, if_pos h1]
    have n1 : ncI (10 * 0 + (T i - 48)) (0 + 1) = 10 * 0 + (T i - 48) := by unfold ncI; rw [if_neg (by omega)]
    by_cases h2 : i + 1 < n ∧ digI (T (i + 1))
    · obtain ⟨f', rfl⟩ : ∃ f', f = f' + 1 := ⟨f - 1, by omega⟩
      rw [rdDig hT H1 h2.1 h2.2 (by omega) (by omega) (by omega)]
      have H2 : RSt iv0 (setO s1 52 (upI (s1 52) 19 (((i + 1 : Nat) : Int) + 1))) ((i + 1 + 1 : Nat) : Int) 1 x y wd := H1.p
      generalize hs2 : setO s1 52 (upI (s1 52) 19 (((i + 1 : Nat) : Int) + 1)) = s2 at *
      have f54' : s2 54 = s 54 := by rw [← hs2, setO_ne (by omega), f54]
      have c2 : cfF T n (f' + 1 + 1) i 0 0 = cfF T n f' (i + 1 + 1) (10 * (10 * 0 + (T i - 48)) + (T (i + 1) - 48)) (0 + 1 + 1) := by rw [c1, cfF_s, if_pos h2.2, if_neg (by omega)]
      have d2 : digB (10 * (10 * 0 + (T i - 48)) + (T (i + 1) - 48)) (0 + 1 + 1) := d1.add h2.2 (by omega)
      have n2 : ncI (10 * (10 * 0 + (T i - 48)) + (T (i + 1) - 48)) (0 + 1 + 1) = 10 * (10 * 0 + (T i - 48)) + (T (i + 1) - 48) := by unfold ncI; rw [if_neg (by omega)]
      rw [rdEnd hT H2 (Or.inr rfl) (by omega)]
      obtain ⟨s3, e, k54, k⟩ := rdFin (sc := sc) (fr := i) (a := 10 * (10 * 0 + (T i - 48)) + (T (i + 1) - 48)) hT H2 (by omega) (by omega)
      refine ⟨_, s3, e, k54.trans f54', ?_⟩
      rcases k with ⟨k1, k2, k3⟩ | ⟨k1, k2, k3⟩ | ⟨k1, k2, k3⟩
      · refine Or.inl ⟨i + 1 + 1, by omega, ?_, k3⟩
        obtain ⟨f'', rfl⟩ : ∃ f'', f' = f'' + 1 := ⟨f' - 1, by omega⟩
        rw [c2, cfF_s, if_pos k2, if_pos (by omega)]
      · refine Or.inl ⟨i, by omega, ?_, k3⟩
        rw [c2, cf_bad (by omega) k1 (by rw [n2]; exact k2)]; omega
      · refine Or.inr ⟨i + 1 + 1, f', _, _, n2.symm, ⟨by omega, by omega, d2, k1, by rw [n2]; exact k2, c2, fun w h x y hc => ?_, fun x y G => ?_⟩, k3⟩
        · rw [fi1 w h x y hc, fiF_s, if_pos h2.2, if_neg hc]
        · rw [dr1, drF_s, if_pos h2.2]
    · rw [rdEnd hT H1 (Or.inl h2) (by omega)]
      obtain ⟨s3, e, k54, k⟩ := rdFin (sc := sc) (fr := i) (a := 10 * 0 + (T i - 48)) hT H1 (by omega) (by omega)
      refine ⟨_, s3, e, k54.trans f54, ?_⟩
      rcases k with ⟨k1, k2, k3⟩ | ⟨k1, k2, k3⟩ | ⟨k1, k2, k3⟩
      · exact absurd ⟨k1, k2⟩ h2
      · refine Or.inl ⟨i, by omega, ?_, k3⟩
        rw [c1, cf_bad (by omega) k1 (by rw [n1]; exact k2)]; omega
      · exact Or.inr ⟨i + 1, f, _, _, n1.symm, ⟨by omega, by omega, d1, k1, by rw [n1]; exact k2, c1, fi1, dr1⟩, k3⟩
  · rw [rdEnd hT H (Or.inl (fun z => h1 z.2)) (by omega), B_X7_readNumber_55, hp19, ite_T rfl]
    exact ⟨1, s, rfl, rfl, Or.inr ⟨i, f + 1, 0, 0, rfl, ⟨hif, by omega, digB.z, fun z => h1 z.2, by unfold ncI; rw [if_pos rfl]; omega, rfl, fun _ _ _ _ _ => rfl, fun _ _ _ => rfl⟩, H⟩⟩
theorem RSt.mg {w h : Nat} {p gd x y wd : Int} (H : RSt iv0 s p gd x y wd) (hM : MGr g iv0 w h) : MGr g s w h := by
  obtain ⟨h1, h2, h3, h4, h5, h6, h7⟩ := H
  unfold MGr
  rw [h2 0 (by omega) (by omega) (by omega) (by omega) (by omega), h2 1 (by omega) (by omega) (by omega) (by omega) (by omega), h1 53 (by omega) (by omega)]
  exact hM
set_option maxHeartbeats 1000000 in
/-- the cells of an entry -/
theorem cells_M {w h : Nat} {p x y wd v c is : Int} (hM : MGr g iv0 w h) (H : RSt iv0 s p 1 x y wd) (hv : 1 ≤ v ∧ v ≤ 24) (hx : 0 ≤ x ∧ x ≤ 3000) (hy : 0 ≤ y ∧ y ≤ 200) (hc : 0 ≤ c ∧ c ≤ 6) : ∃ s2 wd2, Run sc 125 128 [some (Rf 52), some (I v), some (I is), some (I c), some (I 0)] [] (hp s) = some (none, hp s2) ∧ RSt iv0 s2 p 1 (x + v) y wd2 ∧
    ((x + v ≤ w ∧ y < h) → wd2 = wd ∧ s2 54 = rowP (s 54) x y v c) ∧ (¬ (x + v ≤ w ∧ y < h) → wd2 = 1) := by
  obtain ⟨⟨d1, d2, d3, d4, d5, d6⟩, -⟩ := id hM
  obtain ⟨q, e, wd2, k1, k2, k3⟩ := loop_ex (fun i (t : Nat → Nat → Int) => Run sc 125 128 [some (Rf 52), some (I v), some (I is), some (I c), some (I i)] [] (hp t)) (fun i t => ∃ wd2, RSt iv0 t p 1 (x + i) y wd2 ∧ ((x + i ≤ w ∧ y < h) → wd2 = wd ∧ t 54 = rowP (s 54) x y i c) ∧ (¬ (x + i ≤ w ∧ y < h) → i ≠ 0 → wd2 = 1)) v.toNat 0 s (Nat.zero_le _) ⟨wd, by rw [show x + ((0 : Nat) : Int) = x by omega]; exact H, fun _ => ⟨rfl, by funext j; unfold rowP; rw [if_neg (by omega)]⟩, fun _ z => absurd rfl z⟩ (fun i t _ hi hP => by
    obtain ⟨wd2, k1, k2, k3⟩ := hP
    have hx21 := k1.2.2.2.2.1
    have hy22 := k1.2.2.2.2.2.1
    have mg := k1.mg hM
    have hd : Run sc 125 128 [some (Rf 52), some (I v), some (I is), some (I c), some (I i)] [] (hp t) = aBind (Run sc 112 0 [some (Rf 52), some (I (x + i)), some (I y)] [] (hp t)) (fun v2 h2 => Run sc 125 146 [some (Rf 52), some (I v), some (I is), some (I c), some (I i)] (pushR v2 []) h2) := by
      rw [B_X7_readEntry_128, ite_T (by omega), hx21, hy22]
    have tail : ∀ (u : Nat → Nat → Int) (wd3 : Int), RSt iv0 u p 1 (x + i) y wd3 → Run sc 125 175 [some (Rf 52), some (I v), some (I is), some (I c), some (I i)] [] (hp u) = Run sc 125 128 [some (Rf 52), some (I v), some (I is), some (I c), some (I ((i : Int) + 1))] [] (hp (setO u 52 (upI (u 52) 21 (x + i + 1)))) := fun u wd3 hu => by
      have hx2 := hu.2.2.2.2.1
      rw [B_X7_readEntry_175, hx2, chk_pos (by omega), bck_pos (by omega), B_X7_readEntry_185, chk_pos (by omega)]
    by_cases z : inC g (x + i) y
    · have zz : x + ((i + 1 : Nat) : Int) ≤ w ∧ y < h := by unfold inC at z; omega
      obtain ⟨a1, a2⟩ := k2 (by omega)
      have k1' : RSt iv0 (setO t 54 (upI (t 54) (24 * y + (x + i)).toNat c)) p 1 (x + i) y wd2 := k1.n
      refine ⟨setO (setO t 54 (upI (t 54) (24 * y + (x + i)).toNat c)) 52 (upI ((setO t 54 (upI (t 54) (24 * y + (x + i)).toNat c)) 52) 21 (x + i + 1)), ?_, wd2, ?_, fun _ => ⟨a1, ?_⟩, fun y2 => absurd zz y2⟩
      · rw [hd, cell_T mg z, aBind_some, pushR_some, B_X7_readEntry_146, ite_F (by omega), hy22, hx21, chk_pos (by omega), chk_pos (by omega), bck_pos (by omega), bck_pos (by omega), B_X7_readEntry_167, tail _ _ k1']
      · rw [show x + ((i + 1 : Nat) : Int) = x + i + 1 by omega]; exact k1'.x
      · rw [setO_ne (by omega), setO_same, a2]
        funext j
        unfold rowP
        by_cases ej : j = (24 * y + (x + i)).toNat
        · rw [ej, upI_same, if_pos (by omega)]
        · rw [upI_ne ej]
          by_cases q : y * 24 + x ≤ j ∧ (j : Int) < y * 24 + x + i
          · rw [if_pos q, if_pos (by omega)]
          · rw [if_neg q, if_neg (by omega)]
    · have zz : ¬ (x + ((i + 1 : Nat) : Int) ≤ w ∧ y < h) := by unfold inC at z; omega
      have k1' : RSt iv0 (setO t 52 (upI (t 52) 23 1)) p 1 (x + i) y 1 := k1.w
      refine ⟨setO (setO t 52 (upI (t 52) 23 1)) 52 (upI ((setO t 52 (upI (t 52) 23 1)) 52) 21 (x + i + 1)), ?_, 1, ?_, fun y2 => absurd y2 zz, fun _ _ => rfl⟩
      · rw [hd, cell_F mg z, aBind_some, pushR_some, B_X7_readEntry_146, ite_T (by omega), B_X7_readEntry_170, bck_pos (by omega), tail _ _ k1']
      · rw [show x + ((i + 1 : Nat) : Int) = x + i + 1 by omega]; exact k1'.x)
  rw [show ((v.toNat : Nat) : Int) = v by omega] at e k1 k2 k3
  refine ⟨q, wd2, (show _ = _ from e).trans ?_, k1, k2, fun z => k3 z (by omega)⟩
  show Run sc 125 128 [some (Rf 52), some (I v), some (I is), some (I c), some (I v)] [] (hp q) = _
  rw [B_X7_readEntry_128, ite_F (by omega), B_X7_readEntry_191]
end MTEXT2
