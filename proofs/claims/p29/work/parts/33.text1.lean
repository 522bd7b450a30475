/-! StitchChart$ChartText -/
section TEXT1
variable {sc : Nat × (Nat → Int)} {iv : Nat → Nat → Int}
abbrev digI (c : Int) : Prop := 48 ≤ c ∧ c ≤ 57
abbrev entI (c : Int) : Prop := c = 46 ∨ (97 ≤ c ∧ c ≤ 102)
/-- how many cells: a is the number, b its digits -/
def ncI (a b : Int) : Int := if b = 0 then 1 else a
def colI (c : Int) : Int := if c = 46 then 0 else c - 96
/-- a number of b digits -/
def digB (a b : Int) : Prop := (b = 0 ∧ a = 0) ∨ (b = 1 ∧ 0 ≤ a ∧ a ≤ 9) ∨ (b = 2 ∧ 0 ≤ a ∧ a ≤ 99)
theorem digB.n {a b : Int} (h : digB a b) : 0 ≤ a ∧ a ≤ 99 ∧ 0 ≤ b ∧ b ≤ 2 ∧ 0 ≤ ncI a b ∧ ncI a b ≤ 99 := by
  unfold ncI
  rcases h with ⟨h1, h2⟩ | ⟨h1, h2⟩ | ⟨h1, h2⟩ <;> split <;> omega
theorem digB.add {a b c : Int} (h : digB a b) (hc : digI c) (hb : b ≠ 2) : digB (10 * a + (c - 48)) (b + 1) := by
  rcases h with ⟨h1, h2⟩ | ⟨h1, h2⟩ | ⟨h1, h2⟩
  · exact Or.inr (Or.inl (by omega))
  · exact Or.inr (Or.inr (by omega))
  · exact absurd h1 hb
theorem digB.z : digB 0 0 := Or.inl ⟨rfl, rfl⟩
/-- where a text goes wrong first, f characters before its end; -1 if nowhere -/
def cfF (T : Nat → Int) (len : Nat) : Nat → Nat → Int → Int → Int
  | 0, _, a, b => if 1 ≤ ncI a b ∧ ncI a b ≤ 24 then (if b = 0 then -1 else len) else len - b
  | f + 1, i, a, b => if digI (T i) then (if b = 2 then i else cfF T len f (i + 1) (10 * a + (T i - 48)) (b + 1))
      else if 1 ≤ ncI a b ∧ ncI a b ≤ 24 then (if (T i = 47 ∧ b = 0) ∨ entI (T i) then cfF T len f (i + 1) 0 0 else i) else i - b
theorem cfF_s {T : Nat → Int} {len f i : Nat} {a b : Int} : cfF T len (f + 1) i a b = if digI (T i) then (if b = 2 then (i : Int) else cfF T len f (i + 1) (10 * a + (T i - 48)) (b + 1))
      else if 1 ≤ ncI a b ∧ ncI a b ≤ 24 then (if (T i = 47 ∧ b = 0) ∨ entI (T i) then cfF T len f (i + 1) 0 0 else i) else i - b := rfl
/-- whether a text without fault fits -/
def fiF (T : Nat → Int) (w h : Int) : Nat → Nat → Int → Int → Int → Int → Bool
  | 0, _, _, _, _, _ => true
  | f + 1, i, x, y, a, b => if digI (T i) then (if w < x ∨ h ≤ y then false else fiF T w h f (i + 1) x y (10 * a + (T i - 48)) (b + 1))
      else if T i = 47 then (if w < 0 ∨ h ≤ y + 1 then false else fiF T w h f (i + 1) 0 (y + 1) a b)
      else (if w < x + ncI a b ∨ h ≤ y then false else fiF T w h f (i + 1) (x + ncI a b) y 0 0)
theorem fiF_s {T : Nat → Int} {w h : Int} {f i : Nat} {x y a b : Int} : fiF T w h (f + 1) i x y a b = if digI (T i) then (if w < x ∨ h ≤ y then false else fiF T w h f (i + 1) x y (10 * a + (T i - 48)) (b + 1))
      else if T i = 47 then (if w < 0 ∨ h ≤ y + 1 then false else fiF T w h f (i + 1) 0 (y + 1) a b)
      else (if w < x + ncI a b ∨ h ≤ y then false else fiF T w h f (i + 1) (x + ncI a b) y 0 0) := rfl
/-- n cells of a line get a color -/
def rowP (g : Nat → Int) (x y n c : Int) : Nat → Int := fun j => if y * 24 + x ≤ j ∧ (j : Int) < y * 24 + x + n then c else g j
/-- what a text without fault draws -/
def drF (T : Nat → Int) : Nat → Nat → Int → Int → Int → Int → (Nat → Int) → (Nat → Int)
  | 0, _, _, _, _, _, g => g
  | f + 1, i, x, y, a, b, g => if digI (T i) then drF T f (i + 1) x y (10 * a + (T i - 48)) (b + 1) g
      else if T i = 47 then drF T f (i + 1) 0 (y + 1) a b g
      else drF T f (i + 1) (x + ncI a b) y 0 0 (rowP g x y (ncI a b) (colI (T i)))
theorem drF_s {T : Nat → Int} {f i : Nat} {x y a b : Int} {g : Nat → Int} : drF T (f + 1) i x y a b g = if digI (T i) then drF T f (i + 1) x y (10 * a + (T i - 48)) (b + 1) g
      else if T i = 47 then drF T f (i + 1) 0 (y + 1) a b g
      else drF T f (i + 1) (x + ncI a b) y 0 0 (rowP g x y (ncI a b) (colI (T i))) := rfl
/-- a reading with a number and its digits -/
def tx (iv : Nat → Nat → Int) (a b : Int) : Nat → Nat → Int := setO iv 50 (upI (upI (iv 50) 2 a) 3 b)
theorem tx_ne {a b : Int} {k : Nat} (h : k ≠ 50) : tx iv a b k = iv k := setO_ne h
theorem tx_1 {a b : Int} : tx iv a b 50 1 = iv 50 1 := by unfold tx; rw [setO_same, upI_ne (by omega), upI_ne (by omega)]
theorem tx_2 {a b : Int} : tx iv a b 50 2 = a := by unfold tx; rw [setO_same, upI_ne (by omega), upI_same]
theorem tx_3 {a b : Int} : tx iv a b 50 3 = b := by unfold tx; rw [setO_same, upI_same]
theorem tx_tx {a b c d : Int} : tx (tx iv a b) c d = tx iv c d := by
  unfold tx
  rw [setO_setO, setO_same]
  congr 1
  funext k
  unfold upI
  by_cases h1 : k = 3
  · rw [if_pos h1, if_pos h1]
  · rw [if_neg h1, if_neg h1]
    by_cases h2 : k = 2
    · rw [if_pos h2, if_pos h2, if_neg h1]
    · simp [h1, h2]
theorem startN_S : Run sc 22 0 [some (Rf 50)] [] (hp iv) = some (none, hp (tx iv 0 0)) := by
  rw [B_X1_startNumber_0, bck_pos (by omega), B_X1_startNumber_5, bck_pos (by omega), B_X1_startNumber_10, setO_setO, setO_same]
  rfl
theorem startN_T {a b : Int} : Run sc 22 0 [some (Rf 50)] [] (hp (tx iv a b)) = some (none, hp (tx iv 0 0)) := by rw [startN_S, tx_tx]
theorem addD_S {a b c : Int} (hb : digB a b) (hc : digI c) : Run sc 23 0 [some (Rf 50), some (I c)] [] (hp (tx iv a b)) = some (none, hp (tx iv (10 * a + (c - 48)) (b + 1))) := by
  have := hb.n
  rw [B_X1_addDigit_0, tx_2, chk_pos (by omega), chk_pos (by omega), chk_pos (by omega), bck_pos (by omega), B_X1_addDigit_16]
  have e : (setO (tx iv a b) 50 (upI (tx iv a b 50) 2 (10 * a + (c - 48)))) 50 3 = b := by rw [setO_same, upI_ne (by omega), tx_3]
  rw [e, chk_pos (by omega), bck_pos (by omega), B_X1_addDigit_26, setO_setO, setO_same]
  rw [← tx_tx (iv := iv) (a := a) (b := b) (c := 10 * a + (c - 48)) (d := b + 1)]
  rfl
theorem numC_S {a b : Int} : Run sc 24 0 [some (Rf 50)] [] (hp (tx iv a b)) = some (some (I (ncI a b)), hp (tx iv a b)) := by
  unfold ncI
  rw [B_X1_numberOfCells_0, tx_3]
  by_cases e : b = 0
  · rw [if_pos e, if_pos e, B_X1_numberOfCells_15]
  · rw [if_neg e, if_neg e, B_X1_numberOfCells_11, tx_2, B_X1_numberOfCells_15]
/-- a text of the class -/
def TxtB (iv : Nat → Nat → Int) (n : Nat) : Prop := iv 50 1 = n ∧ n ≤ 120 ∧ ∀ i, i < n → 0 ≤ iv 51 i ∧ iv 51 i ≤ 65535
theorem chAt_S {n i : Nat} (hT : TxtB iv n) (hi : i < n) : Run sc 18 0 [some (Rf 50), some (I i)] [] (hp iv) = some (some (I (iv 51 i)), hp iv) := by
  obtain ⟨h1, h2, h3⟩ := hT
  have := h3 i hi
  rw [B_X1_characterAt_0, within_T (by omega), aBind_some, pushR_some, B_X1_characterAt_7, ite_F (by omega), bck_pos (by omega), Int.toNat_natCast, B_X1_characterAt_21, bck_pos (by omega)]
theorem isD_T {c : Int} (h : digI c) : Run sc 19 0 [some (I c)] [] (hp iv) = some (some (I 1), hp iv) := by
  rw [B_X1_isDigit_0, ite_F (by omega), ite_F (by omega), B_X1_isDigit_17, bck_pos (by omega)]
theorem isD_F {c : Int} (h : ¬ digI c) : Run sc 19 0 [some (I c)] [] (hp iv) = some (some (I 0), hp iv) := by
  by_cases h1 : c < 48
  · rw [B_X1_isDigit_0, ite_T h1, B_X1_isDigit_16, B_X1_isDigit_17, bck_pos (by omega)]
  · rw [B_X1_isDigit_0, ite_F h1, ite_T (by omega), B_X1_isDigit_16, B_X1_isDigit_17, bck_pos (by omega)]
theorem isE_T {c : Int} (h : entI c) : Run sc 20 0 [some (I c)] [] (hp iv) = some (some (I 1), hp iv) := by
  by_cases h1 : c = 46
  · rw [B_X1_isEntry_0, ite_T h1, B_X1_isEntry_18, B_X1_isEntry_23, bck_pos (by omega)]
  · rw [B_X1_isEntry_0, ite_F h1, ite_F (by omega), ite_F (by omega), B_X1_isEntry_18, B_X1_isEntry_23, bck_pos (by omega)]
theorem isE_F {c : Int} (h : ¬ entI c) : Run sc 20 0 [some (I c)] [] (hp iv) = some (some (I 0), hp iv) := by
  by_cases h1 : c < 97
  · rw [B_X1_isEntry_0, ite_F (by omega), ite_T (by omega), B_X1_isEntry_22, B_X1_isEntry_23, bck_pos (by omega)]
  · rw [B_X1_isEntry_0, ite_F (by omega), ite_F (by omega), ite_T (by omega), B_X1_isEntry_22, B_X1_isEntry_23, bck_pos (by omega)]
theorem colO_S {c : Int} (h : entI c) : Run sc 21 0 [some (I c)] [] (hp iv) = some (some (I (colI c)), hp iv) := by
  unfold colI
  by_cases h1 : c = 46
  · rw [if_pos h1, B_X1_colorOf_0, ite_T h1, B_X1_colorOf_16]
  · rw [if_neg h1, B_X1_colorOf_0, ite_F h1, B_X1_colorOf_10, chk_pos (by omega), chk_pos (by omega), B_X1_colorOf_16, show c - 97 + 1 = c - 96 by omega]
theorem colI_b {c : Int} (h : entI c) : 0 ≤ colI c ∧ colI c ≤ 6 := by unfold colI; split <;> omega
theorem TxtB.tx {n : Nat} {a b : Int} (h : TxtB iv n) : TxtB (tx iv a b) n := by
  unfold TxtB
  rw [tx_1, tx_ne (show 51 ≠ 50 by omega)]; exact h
/-- answers at most this, and sets a reading -/
def okF (iv : Nat → Nat → Int) (r : Option AR) (z : Int) : Prop := ∃ a b, r = some (some (I z), hp (tx iv a b))
theorem mis_S {n : Nat} (hT : TxtB iv n) : ∀ f i (a b : Int) (d2 d3 : Option AV), i + f = n → digB a b → okF iv (Run sc 26 6 [some (Rf 50), some (I i), d2, d3] [] (hp (tx iv a b))) (cfF (iv 51) n f i a b) := by
  intro f
  induction f with
  | zero =>
    intro i a b d2 d3 hi hb
    have hn := hb.n
    obtain ⟨t1, t2, t3⟩ := id hT
    show okF iv _ (if 1 ≤ ncI a b ∧ ncI a b ≤ 24 then (if b = 0 then -1 else (n : Int)) else n - b)
    refine ⟨a, b, ?_⟩
    rw [B_X1_findMisplaced_6, tx_1, ite_F (by omega), B_X1_findMisplaced_107, numC_S, aBind_some, pushR_some, B_X1_findMisplaced_111]
    by_cases c : 1 ≤ ncI a b ∧ ncI a b ≤ 24
    · rw [within_T c, aBind_some, pushR_some, B_X1_findMisplaced_117, ite_F (by omega), B_X1_findMisplaced_130, tx_3, if_pos c]
      by_cases e : b = 0
      · rw [if_pos e, if_pos e, B_X1_findMisplaced_145]
      · rw [if_neg e, if_neg e, B_X1_findMisplaced_141, tx_1, B_X1_findMisplaced_145, t1]
    · rw [within_F c, aBind_some, pushR_some, B_X1_findMisplaced_117, ite_T (by omega), tx_3, tx_1, t1, chk_pos (by omega), if_neg c]
  | succ f ih =>
    intro i a b d2 d3 hi hb
    have hn := hb.n
    obtain ⟨t1, t2, t3⟩ := id hT
    have tc := t3 i (by omega)
    rw [cfF_s, B_X1_findMisplaced_6, tx_1, ite_T (by omega), chAt_S hT.tx (by omega), aBind_some, pushR_some, tx_ne (show 51 ≠ 50 by omega), B_X1_findMisplaced_19]
    generalize hc : iv 51 i = c at *
    by_cases q : digI c
    · rw [isD_T q, aBind_some, pushR_some, B_X1_findMisplaced_24, ite_F (by omega), tx_3, if_pos q]
      by_cases e : b = 2
      · rw [if_pos e, if_pos e]; exact ⟨a, b, rfl⟩
      · rw [if_neg e, if_neg e, B_X1_findMisplaced_37, addD_S hb q, aBind_some, pushR_none, B_X1_findMisplaced_42, B_X1_findMisplaced_101, chk_pos (by omega)]
        exact ih (i + 1) _ _ _ _ (by omega) (hb.add q e)
    · rw [isD_F q, aBind_some, pushR_some, B_X1_findMisplaced_24, ite_T (by omega), B_X1_findMisplaced_45, numC_S, aBind_some, pushR_some, B_X1_findMisplaced_49, if_neg q]
      by_cases c2 : 1 ≤ ncI a b ∧ ncI a b ≤ 24
      · rw [within_T c2, aBind_some, pushR_some, B_X1_findMisplaced_55, ite_F (by omega), B_X1_findMisplaced_65, tx_3, if_pos c2]
        by_cases e1 : c = 47 ∧ b = 0
        · rw [if_pos e1.1, if_pos e1.2, B_X1_findMisplaced_83, ite_F (by omega), B_X1_findMisplaced_97, startN_T, aBind_some, pushR_none, B_X1_findMisplaced_101, chk_pos (by omega), if_pos (Or.inl e1)]
          exact ih (i + 1) _ _ _ _ (by omega) digB.z
        · have e2 : (if c = 47 then (if b = 0 then Run sc 26 83 [some (Rf 50), some (I i), some (I c), d3] [I 1] (hp (tx iv a b)) else Run sc 26 82 [some (Rf 50), some (I i), some (I c), d3] [] (hp (tx iv a b))) else Run sc 26 82 [some (Rf 50), some (I i), some (I c), d3] [] (hp (tx iv a b))) = Run sc 26 82 [some (Rf 50), some (I i), some (I c), d3] [] (hp (tx iv a b)) := by
            by_cases e3 : c = 47
            · rw [if_pos e3, if_neg (fun z => e1 ⟨e3, z⟩)]
            · rw [if_neg e3]
          rw [e2, B_X1_findMisplaced_82, B_X1_findMisplaced_83, ite_T (by omega)]
          by_cases e4 : entI c
          · rw [isE_T e4, aBind_some, pushR_some, B_X1_findMisplaced_92, ite_F (by omega), B_X1_findMisplaced_97, startN_T, aBind_some, pushR_none, B_X1_findMisplaced_101, chk_pos (by omega), if_pos (Or.inr e4)]
            exact ih (i + 1) _ _ _ _ (by omega) digB.z
          · rw [isE_F e4, aBind_some, pushR_some, B_X1_findMisplaced_92, ite_T (by omega), if_neg (fun z => z.elim e1 e4)]
            exact ⟨a, b, rfl⟩
      · rw [within_F c2, aBind_some, pushR_some, B_X1_findMisplaced_55, ite_T (by omega), tx_3, chk_pos (by omega), if_neg c2]
        exact ⟨a, b, rfl⟩
end TEXT1
