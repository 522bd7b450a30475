/-! StitchChartModel: text -/
section MTEXT
variable {sc : Nat × (Nat → Int)} {iv iv0 s : Nat → Nat → Int}
/-- the model's text is T, n long -/
def MTx (T : Nat → Int) (iv : Nat → Nat → Int) (n : Nat) : Prop := iv 52 17 = n ∧ n ≤ 120 ∧ ∀ i, i < n → iv 63 i = T i ∧ 0 ≤ T i ∧ T i ≤ 65535
/-- a reading: at p, good, at a cell, too wide -/
def RSt (iv0 s : Nat → Nat → Int) (p gd x y wd : Int) : Prop := (∀ k, k ≠ 52 → k ≠ 54 → s k = iv0 k) ∧ (∀ f, f ≠ 19 → f ≠ 20 → f ≠ 21 → f ≠ 22 → f ≠ 23 → s 52 f = iv0 52 f) ∧ s 52 19 = p ∧ s 52 20 = gd ∧ s 52 21 = x ∧ s 52 22 = y ∧ s 52 23 = wd
abbrev set52 (s : Nat → Nat → Int) (f : Nat) (v : Int) : Nat → Nat → Int := setO s 52 (upI (s 52) f v)
theorem RSt.p {p gd x y wd v : Int} (H : RSt iv0 s p gd x y wd) : RSt iv0 (setO s 52 (upI (s 52) 19 v)) v gd x y wd := by
  obtain ⟨h1, h2, h3, h4, h5, h6, h7⟩ := H
  refine ⟨fun k a b => by rw [setO_ne a]; exact h1 k a b, fun f a b c d e => by rw [setO_same, upI_ne a]; exact h2 f a b c d e, ?_, ?_, ?_, ?_, ?_⟩
  · rw [setO_same, upI_same]
  · rw [setO_same, upI_ne (by omega)]; exact h4
  · rw [setO_same, upI_ne (by omega)]; exact h5
  · rw [setO_same, upI_ne (by omega)]; exact h6
  · rw [setO_same, upI_ne (by omega)]; exact h7
theorem RSt.g {p gd x y wd v : Int} (H : RSt iv0 s p gd x y wd) : RSt iv0 (setO s 52 (upI (s 52) 20 v)) p v x y wd := by
  obtain ⟨h1, h2, h3, h4, h5, h6, h7⟩ := H
  refine ⟨fun k a b => by rw [setO_ne a]; exact h1 k a b, fun f a b c d e => by rw [setO_same, upI_ne b]; exact h2 f a b c d e, ?_, ?_, ?_, ?_, ?_⟩
  · rw [setO_same, upI_ne (by omega)]; exact h3
  · rw [setO_same, upI_same]
  · rw [setO_same, upI_ne (by omega)]; exact h5
  · rw [setO_same, upI_ne (by omega)]; exact h6
  · rw [setO_same, upI_ne (by omega)]; exact h7
theorem RSt.x {p gd x y wd v : Int} (H : RSt iv0 s p gd x y wd) : RSt iv0 (setO s 52 (upI (s 52) 21 v)) p gd v y wd := by
  obtain ⟨h1, h2, h3, h4, h5, h6, h7⟩ := H
  refine ⟨fun k a b => by rw [setO_ne a]; exact h1 k a b, fun f a b c d e => by rw [setO_same, upI_ne c]; exact h2 f a b c d e, ?_, ?_, ?_, ?_, ?_⟩
  · rw [setO_same, upI_ne (by omega)]; exact h3
  · rw [setO_same, upI_ne (by omega)]; exact h4
  · rw [setO_same, upI_same]
  · rw [setO_same, upI_ne (by omega)]; exact h6
  · rw [setO_same, upI_ne (by omega)]; exact h7
theorem RSt.y {p gd x y wd v : Int} (H : RSt iv0 s p gd x y wd) : RSt iv0 (setO s 52 (upI (s 52) 22 v)) p gd x v wd := by
  obtain ⟨h1, h2, h3, h4, h5, h6, h7⟩ := H
  refine ⟨fun k a b => by rw [setO_ne a]; exact h1 k a b, fun f a b c d e => by rw [setO_same, upI_ne d]; exact h2 f a b c d e, ?_, ?_, ?_, ?_, ?_⟩
  · rw [setO_same, upI_ne (by omega)]; exact h3
  · rw [setO_same, upI_ne (by omega)]; exact h4
  · rw [setO_same, upI_ne (by omega)]; exact h5
  · rw [setO_same, upI_same]
  · rw [setO_same, upI_ne (by omega)]; exact h7
theorem RSt.w {p gd x y wd v : Int} (H : RSt iv0 s p gd x y wd) : RSt iv0 (setO s 52 (upI (s 52) 23 v)) p gd x y v := by
  obtain ⟨h1, h2, h3, h4, h5, h6, h7⟩ := H
  refine ⟨fun k a b => by rw [setO_ne a]; exact h1 k a b, fun f a b c d e => by rw [setO_same, upI_ne e]; exact h2 f a b c d e, ?_, ?_, ?_, ?_, ?_⟩
  · rw [setO_same, upI_ne (by omega)]; exact h3
  · rw [setO_same, upI_ne (by omega)]; exact h4
  · rw [setO_same, upI_ne (by omega)]; exact h5
  · rw [setO_same, upI_ne (by omega)]; exact h6
  · rw [setO_same, upI_same]
theorem RSt.n {p gd x y wd : Int} {f : Nat → Int} (H : RSt iv0 s p gd x y wd) : RSt iv0 (setO s 54 f) p gd x y wd := by
  obtain ⟨h1, h2, h3, h4, h5, h6, h7⟩ := H
  refine ⟨fun k a b => by rw [setO_ne b]; exact h1 k a b, ?_⟩
  rw [setO_ne (by omega)]
  exact ⟨h2, h3, h4, h5, h6, h7⟩
theorem RSt.tx {T : Nat → Int} {n : Nat} {p gd x y wd : Int} (H : RSt iv0 s p gd x y wd) (hT : MTx T iv0 n) : MTx T s n := by
  obtain ⟨h1, h2, h3⟩ := hT
  exact ⟨by rw [H.2.1 17 (by omega) (by omega) (by omega) (by omega) (by omega)]; exact h1, h2, by rw [H.1 63 (by omega) (by omega)]; exact h3⟩
theorem isDg_T {T : Nat → Int} {n i : Nat} {gd x y wd : Int} (hT : MTx T iv0 n) (H : RSt iv0 s i gd x y wd) (hi : i < n) (hd : digI (T i)) : Run sc 123 0 [some (Rf 52)] [] (hp s) = some (some (I 1), hp s) := by
  obtain ⟨t1, t2, t3⟩ := H.tx hT
  obtain ⟨c1, c2⟩ := t3 i hi
  have hp19 := H.2.2.1
  rw [B_X7_isDigit_0, hp19, Int.toNat_natCast, c1, ite_T (by omega), bck_pos (by omega), ite_F (by omega), bck_pos (by omega), ite_F (by omega), B_X7_isDigit_44, bck_pos (by omega)]
theorem isDg_F {T : Nat → Int} {n i : Nat} {gd x y wd : Int} (hT : MTx T iv0 n) (H : RSt iv0 s i gd x y wd) (hd : ¬ (i < n ∧ digI (T i))) : Run sc 123 0 [some (Rf 52)] [] (hp s) = some (some (I 0), hp s) := by
  obtain ⟨t1, t2, t3⟩ := H.tx hT
  have hp19 := H.2.2.1
  by_cases hi : i < n
  · obtain ⟨c1, c2⟩ := t3 i hi
    rw [B_X7_isDigit_0, hp19, Int.toNat_natCast, c1, ite_T (by omega), bck_pos (by omega)]
    by_cases q : T i < 48
    · rw [if_pos q, B_X7_isDigit_43, B_X7_isDigit_44, bck_pos (by omega)]
    · rw [if_neg q, bck_pos (by omega), ite_T (by omega), B_X7_isDigit_43, B_X7_isDigit_44, bck_pos (by omega)]
  · rw [B_X7_isDigit_0, hp19, ite_F (by omega), B_X7_isDigit_43, B_X7_isDigit_44, bck_pos (by omega)]
/-- one digit more -/
theorem rdDig {T : Nat → Int} {n i fr : Nat} {a gd x y wd : Int} (hT : MTx T iv0 n) (H : RSt iv0 s i gd x y wd) (hi : i < n) (hd : digI (T i)) (hf : i < fr + 2) (hfr : fr < n) (ha : 0 ≤ a ∧ a ≤ 99) : Run sc 124 7 [some (Rf 52), some (I fr), some (I a)] [] (hp s) = Run sc 124 7 [some (Rf 52), some (I fr), some (I (10 * a + (T i - 48)))] [] (hp (setO s 52 (upI (s 52) 19 ((i : Int) + 1)))) := by
  obtain ⟨t1, t2, t3⟩ := H.tx hT
  obtain ⟨c1, c2⟩ := t3 i hi
  have hp19 := H.2.2.1
  rw [B_X7_readNumber_7, chk_pos (by omega), hp19, ite_T (by omega), isDg_T hT H hi hd, aBind_some, pushR_some, B_X7_readNumber_21, ite_F (by omega), hp19, Int.toNat_natCast, c1, chk_pos (by omega), bck_pos (by omega), chk_pos (by omega), chk_pos (by omega), chk_pos (by omega), bck_pos (by omega), B_X7_readNumber_52, show 10 * a + T i - 48 = 10 * a + (T i - 48) by omega]
/-- no digit, or two of them read -/
theorem rdEnd {T : Nat → Int} {n i fr : Nat} {a gd x y wd : Int} (hT : MTx T iv0 n) (H : RSt iv0 s i gd x y wd) (hc : ¬ (i < n ∧ digI (T i)) ∨ i = fr + 2) (hfr : fr < n) : Run sc 124 7 [some (Rf 52), some (I fr), some (I a)] [] (hp s) = Run sc 124 55 [some (Rf 52), some (I fr), some (I a)] [] (hp s) := by
  obtain ⟨t1, t2, t3⟩ := H.tx hT
  have hp19 := H.2.2.1
  by_cases q : (i : Int) < fr + 2
  · rw [B_X7_readNumber_7, chk_pos (by omega), hp19, if_pos q, isDg_F hT H (by rcases hc with z | z; exact z; omega), aBind_some, pushR_some, B_X7_readNumber_21, ite_T (by omega)]
  · rw [B_X7_readNumber_7, chk_pos (by omega), hp19, if_neg q]
/-- what comes after the digits -/
theorem rdFin {T : Nat → Int} {n i fr : Nat} {a x y wd : Int} (hT : MTx T iv0 n) (H : RSt iv0 s i 1 x y wd) (hne : fr < i) (hfr : fr < n) : ∃ s2, Run sc 124 55 [some (Rf 52), some (I fr), some (I a)] [] (hp s) = some (some (I a), hp s2) ∧ s2 54 = s 54 ∧
    ((i < n ∧ digI (T i) ∧ RSt iv0 s2 i 0 x y wd) ∨ (¬ (i < n ∧ digI (T i)) ∧ ¬ (1 ≤ a ∧ a ≤ 24) ∧ RSt iv0 s2 fr 0 x y wd) ∨ (¬ (i < n ∧ digI (T i)) ∧ (1 ≤ a ∧ a ≤ 24) ∧ RSt iv0 s2 i 1 x y wd)) := by
  obtain ⟨t1, t2, t3⟩ := H.tx hT
  have hp19 := H.2.2.1
  rw [B_X7_readNumber_55, hp19, ite_F (by omega), B_X7_readNumber_65]
  by_cases q : i < n ∧ digI (T i)
  · refine ⟨setO s 52 (upI (s 52) 20 0), ?_, setO_ne (by omega), Or.inl ⟨q.1, q.2, H.g⟩⟩
    rw [isDg_T hT H q.1 q.2, aBind_some, pushR_some, B_X7_readNumber_69, ite_F (by omega), bck_pos (by omega), B_X7_readNumber_77, B_X7_readNumber_100]
  · rw [isDg_F hT H q, aBind_some, pushR_some, B_X7_readNumber_69, ite_T (by omega), B_X7_readNumber_80]
    by_cases q2 : 1 ≤ a ∧ a ≤ 24
    · refine ⟨s, ?_, rfl, Or.inr (Or.inr ⟨q, q2, H⟩)⟩
      rw [in_T q2, aBind_some, pushR_some, B_X7_readNumber_87, ite_F (by omega), B_X7_readNumber_100]
    · refine ⟨setO (setO s 52 (upI (s 52) 20 0)) 52 (upI ((setO s 52 (upI (s 52) 20 0)) 52) 19 fr), ?_, by rw [setO_ne (by omega), setO_ne (by omega)], Or.inr (Or.inl ⟨q, q2, H.g.p⟩)⟩
      rw [in_F q2, aBind_some, pushR_some, B_X7_readNumber_87, ite_T (by omega), bck_pos (by omega), B_X7_readNumber_95, bck_pos (by omega), B_X7_readNumber_100]
theorem type_M {T : Nat → Int} {n : Nat} {c : Int} (hT : MTx T iv n) (hc : 0 ≤ c ∧ c ≤ 65535) (hn : n < 120) : Run sc 121 0 [some (Rf 52), some (I c)] [] (hp iv) = some (some (I ((n : Int) + 1)), hp (setO (setO iv 63 (upI (iv 63) n c)) 52 (upI (iv 52) 17 ((n : Int) + 1)))) := by
  obtain ⟨t1, t2, t3⟩ := hT
  rw [B_X7_type_0, ite_F (by omega), B_X7_type_12, t1, bck_pos (by omega), bck_pos (by omega), B_X7_type_22, setO_ne (show 52 ≠ 63 by omega), t1, chk_pos (by omega), bck_pos (by omega), B_X7_type_32, setO_same, upI_same, Int.toNat_natCast]
theorem typeF_M {T : Nat → Int} {n : Nat} {c : Int} (hT : MTx T iv n) (hn : n = 120) : Run sc 121 0 [some (Rf 52), some (I c)] [] (hp iv) = some (some (I (-3)), hp iv) := by
  obtain ⟨t1, t2, t3⟩ := hT
  rw [B_X7_type_0, ite_T (by omega)]
theorem clrT_M {T : Nat → Int} {n : Nat} (hT : MTx T iv n) : Run sc 122 0 [some (Rf 52), none] [] (hp iv) = some (some (I n), hp (setO iv 52 (upI (iv 52) 17 0))) := by
  obtain ⟨t1, t2, t3⟩ := hT
  rw [B_X7_clearText_0, bck_pos (by omega), t1, B_X7_clearText_10]
end MTEXT
