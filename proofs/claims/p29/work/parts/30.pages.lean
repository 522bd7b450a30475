/-! StitchChart$PageLayout -/
section PAGES
variable {sc : Nat × (Nat → Int)} {iv : Nat → Nat → Int}
theorem divB {a d : Int} (ha : 0 ≤ a) (hd : 1 ≤ d) : 0 ≤ a / d ∧ a / d ≤ a := by
  refine ⟨Int.ediv_nonneg ha (by omega), ?_⟩
  exact Int.ediv_le_self d ha
theorem modB {a d : Int} (hd : 1 ≤ d) : 0 ≤ a % d ∧ a % d < d := ⟨Int.emod_nonneg _ (by omega), Int.emod_lt_of_pos _ (by omega)⟩
theorem mulB {a b m n : Int} (ha : 0 ≤ a ∧ a ≤ m) (hb : 0 ≤ b ∧ b ≤ n) : 0 ≤ a * b ∧ a * b ≤ m * n :=
  ⟨Int.mul_nonneg ha.1 hb.1, Int.mul_le_mul ha.2 hb.2 hb.1 (Int.le_trans ha.1 ha.2)⟩
/-- how many pages, so many wide, along a side -/
def pgF (ov side s : Int) : Int := if s < side then 1 + (side - s + (s - ov) - 1) / (s - ov) else 1
/-- the first page that shows a place -/
def fsF (ov a s : Int) : Int := if a < s then 0 else 1 + (a - s) / (s - ov)
def ownF (w cols lines ov x y : Int) : Int := fsF ov y lines * pgF ov w cols + fsF ov x cols
theorem pgF_b {ov side s : Int} (hs : 4 ≤ s ∧ s ≤ 24) (ho : 0 ≤ ov ∧ ov ≤ 3) (hd : side ≤ 24) : 1 ≤ pgF ov side s ∧ pgF ov side s ≤ 50 := by
  unfold pgF
  split
  · have := divB (a := side - s + (s - ov) - 1) (d := s - ov) (by omega) (by omega)
    omega
  · omega
theorem fsF_b {ov a s : Int} (hs : 4 ≤ s ∧ s ≤ 24) (ho : 0 ≤ ov ∧ ov ≤ 3) (ha : a ≤ 100) : 0 ≤ fsF ov a s ∧ fsF ov a s ≤ 100 := by
  unfold fsF
  split
  · omega
  · have := divB (a := a - s) (d := s - ov) (by omega) (by omega)
    omega
theorem ownF_b {w cols lines ov x y : Int} (hw : w ≤ 24) (hc : 4 ≤ cols ∧ cols ≤ 24) (hl : 4 ≤ lines ∧ lines ≤ 24) (ho : 0 ≤ ov ∧ ov ≤ 3) (hx : x ≤ 100) (hy : y ≤ 100) : (0 ≤ fsF ov y lines * pgF ov w cols ∧ fsF ov y lines * pgF ov w cols ≤ 5000) ∧ 0 ≤ ownF w cols lines ov x y ∧ ownF w cols lines ov x y ≤ 5100 := by
  unfold ownF
  have h1 := fsF_b hl ho hy
  have h2 := fsF_b hc ho hx
  have h3 := pgF_b hc ho hw
  have := mulB h1 (show 0 ≤ pgF ov w cols ∧ pgF ov w cols ≤ 50 by omega)
  omega
theorem fsF_at {ov a s : Int} (hs : 4 ≤ s) (ho : 0 ≤ ov ∧ ov ≤ 3) (ha : 0 ≤ a) : fsF ov a s * (s - ov) ≤ a ∧ a < fsF ov a s * (s - ov) + s := by
  unfold fsF
  split
  · omega
  · have h1 := Int.ediv_mul_le (a - s) (show s - ov ≠ 0 by omega)
    have h2 := Int.lt_ediv_add_one_mul_self (a - s) (show 0 < s - ov by omega)
    rw [Int.add_mul]
    rw [Int.add_mul] at h2
    omega
theorem fsF_lt {ov a s side : Int} (hs : 4 ≤ s) (ho : 0 ≤ ov ∧ ov ≤ 3) (ha : a < side) : fsF ov a s < pgF ov side s := by
  unfold fsF pgF
  split
  · split
    · have := divB (a := side - s + (s - ov) - 1) (d := s - ov) (by omega) (by omega)
      omega
    · omega
  · rw [if_pos (by omega)]
    have h1 : (a - s) / (s - ov) + 1 ≤ (side - s + (s - ov) - 1) / (s - ov) := by
      have h0 : (a - s + (s - ov)) / (s - ov) = (a - s) / (s - ov) + 1 := by
        have := Int.add_mul_ediv_right (a - s) 1 (show s - ov ≠ 0 by omega)
        rwa [Int.one_mul] at this
      rw [← h0]
      exact Int.ediv_le_ediv (by omega) (by omega)
    omega
def LayB (iv : Nat → Nat → Int) : Prop := (4 ≤ iv 49 1 ∧ iv 49 1 ≤ 24) ∧ (4 ≤ iv 49 2 ∧ iv 49 2 ≤ 24) ∧ 0 ≤ iv 49 3 ∧ iv 49 3 ≤ 3
theorem stp_S {s : Int} (h : LayB iv) (hs : 4 ≤ s ∧ s ≤ 24) : Run sc 61 0 [some (Rf 49), some (I s)] [] (hp iv) = some (some (I (s - iv 49 3)), hp iv) := by
  obtain ⟨h1, h2, h3⟩ := h
  rw [B_X4_step_0, ite_T (by omega), chk_pos (by omega), B_X4_step_18]
theorem pg_S {side s : Int} (h : LayB iv) (hs : 4 ≤ s ∧ s ≤ 24) (hd : -100 ≤ side ∧ side ≤ 24) : Run sc 62 0 [some (Rf 49), some (I side), some (I s), none] [] (hp iv) = some (some (I (pgF (iv 49 3) side s)), hp iv) := by
  obtain ⟨h1, h2, h3⟩ := id h
  unfold pgF
  by_cases c : s < side
  · have := divB (a := side - s + (s - iv 49 3) - 1) (d := s - iv 49 3) (by omega) (by omega)
    rw [if_pos c, B_X4_pagesAlong_0, ite_T c, B_X4_pagesAlong_7, stp_S h hs, aBind_some, pushR_some, B_X4_pagesAlong_12, chk_pos (by omega), chk_pos (by omega), chk_pos (by omega), bck_pos (by omega), bck_pos (by omega), chk_pos (by omega)]
  · rw [if_neg c, B_X4_pagesAlong_0, ite_F c]
/-- pages beside each other -/
def acr (iv : Nat → Nat → Int) : Int := pgF (iv 49 3) (iv 2 0) (iv 49 1)
def dwn (iv : Nat → Nat → Int) : Int := pgF (iv 49 3) (iv 2 1) (iv 49 2)
def ownC (iv : Nat → Nat → Int) (x y : Int) : Int := ownF (iv 2 0) (iv 49 1) (iv 49 2) (iv 49 3) x y
def DimB (iv : Nat → Nat → Int) (w h : Nat) : Prop := iv 2 0 = w ∧ iv 2 1 = h ∧ 1 ≤ w ∧ w ≤ 24 ∧ 1 ≤ h ∧ h ≤ 24
theorem acr_S {w h : Nat} (hL : LayB iv) (hD : DimB iv w h) : Run sc 63 0 [some (Rf 49)] [] (hp iv) = some (some (I (acr iv)), hp iv) := by
  obtain ⟨d1, d2, d3, d4, d5, d6⟩ := hD
  have h1 : 1 ≤ acr iv ∧ acr iv ≤ 50 := pgF_b (side := iv 2 0) hL.1 hL.2.2 (by omega)
  have e : Run sc 62 0 [some (Rf 49), some (I (iv 2 0)), some (I (iv 49 1)), none] [] (hp iv) = some (some (I (acr iv)), hp iv) := pg_S hL hL.1 (by omega)
  rw [B_X4_pagesAcross_0, e, aBind_some, pushR_some, B_X4_pagesAcross_16]
  by_cases c : 1 < acr iv
  · rw [if_pos c]
  · rw [if_neg c, show acr iv = 1 by omega]
theorem dwn_S {w h : Nat} (hL : LayB iv) (hD : DimB iv w h) : Run sc 62 0 [some (Rf 49), some (I (iv 2 1)), some (I (iv 49 2)), none] [] (hp iv) = some (some (I (dwn iv)), hp iv) := by
  obtain ⟨d1, d2, d3, d4, d5, d6⟩ := hD
  rw [pg_S hL hL.2.1 (by omega)]
  rfl
theorem tot_b {w h : Nat} (hL : LayB iv) (hD : DimB iv w h) : 1 ≤ acr iv * dwn iv ∧ acr iv * dwn iv ≤ 2500 ∧ 1 ≤ acr iv ∧ acr iv ≤ 50 ∧ 1 ≤ dwn iv ∧ dwn iv ≤ 50 := by
  obtain ⟨d1, d2, d3, d4, d5, d6⟩ := hD
  have h1 : 1 ≤ acr iv ∧ acr iv ≤ 50 := pgF_b (side := iv 2 0) hL.1 hL.2.2 (by omega)
  have h2 : 1 ≤ dwn iv ∧ dwn iv ≤ 50 := pgF_b (side := iv 2 1) hL.2.1 hL.2.2 (by omega)
  have := mulB (show 0 ≤ acr iv ∧ acr iv ≤ 50 by omega) (show 0 ≤ dwn iv ∧ dwn iv ≤ 50 by omega)
  have := Int.mul_pos (show 0 < acr iv by omega) (show 0 < dwn iv by omega)
  omega
theorem tot_S {w h : Nat} (hL : LayB iv) (hD : DimB iv w h) : Run sc 64 0 [some (Rf 49)] [] (hp iv) = some (some (I (acr iv * dwn iv)), hp iv) := by
  have := tot_b hL hD
  obtain ⟨d1, d2, d3, d4, d5, d6⟩ := id hD
  rw [B_X4_total_0, acr_S hL hD, aBind_some, pushR_some, B_X4_total_4, dwn_S hL hD, aBind_some, pushR_some, B_X4_total_19, chk_pos (by omega)]
theorem hasP_T {w h : Nat} {p : Int} (hL : LayB iv) (hD : DimB iv w h) (c : 0 ≤ p ∧ p < acr iv * dwn iv) : Run sc 65 0 [some (Rf 49), some (I p)] [] (hp iv) = some (some (I 1), hp iv) := by
  have := tot_b hL hD
  rw [B_X4_has_0, tot_S hL hD, aBind_some, pushR_some, B_X4_has_6, chk_pos (by omega), within_T (by omega), aBind_some, pushR_some, B_X4_has_11, bck_pos (by omega)]
theorem hasP_F {w h : Nat} {p : Int} (hL : LayB iv) (hD : DimB iv w h) (c : ¬ (0 ≤ p ∧ p < acr iv * dwn iv)) : Run sc 65 0 [some (Rf 49), some (I p)] [] (hp iv) = some (some (I 0), hp iv) := by
  have := tot_b hL hD
  rw [B_X4_has_0, tot_S hL hD, aBind_some, pushR_some, B_X4_has_6, chk_pos (by omega), within_F (by omega), aBind_some, pushR_some, B_X4_has_11, bck_pos (by omega)]
def lefC (iv : Nat → Nat → Int) (p : Int) : Int := p % acr iv * (iv 49 1 - iv 49 3)
def topC (iv : Nat → Nat → Int) (p : Int) : Int := p / acr iv * (iv 49 2 - iv 49 3)
theorem lef_b {w h : Nat} {p : Int} (hL : LayB iv) (hD : DimB iv w h) : 0 ≤ lefC iv p ∧ lefC iv p ≤ 1200 := by
  have := tot_b hL hD
  obtain ⟨l1, l2, l3⟩ := hL
  have h1 := modB (a := p) (d := acr iv) (by omega)
  unfold lefC
  have := mulB (show 0 ≤ p % acr iv ∧ p % acr iv ≤ 50 by omega) (show 0 ≤ iv 49 1 - iv 49 3 ∧ iv 49 1 - iv 49 3 ≤ 24 by omega)
  omega
theorem top_b {w h : Nat} {p : Int} (hL : LayB iv) (hD : DimB iv w h) (hp0 : 0 ≤ p ∧ p ≤ 2500) : 0 ≤ topC iv p ∧ topC iv p ≤ 60000 := by
  have := tot_b hL hD
  obtain ⟨l1, l2, l3⟩ := hL
  have h1 := divB (a := p) (d := acr iv) (by omega) (by omega)
  unfold topC
  have := mulB (show 0 ≤ p / acr iv ∧ p / acr iv ≤ 2500 by omega) (show 0 ≤ iv 49 2 - iv 49 3 ∧ iv 49 2 - iv 49 3 ≤ 24 by omega)
  omega
theorem lef_S {w h : Nat} {p : Int} (hL : LayB iv) (hD : DimB iv w h) (hp0 : 0 ≤ p ∧ p ≤ 2500) : Run sc 66 0 [some (Rf 49), some (I p)] [] (hp iv) = some (some (I (lefC iv p)), hp iv) := by
  have := tot_b hL hD
  have := lef_b (p := p) hL hD
  unfold lefC at *
  rw [B_X4_left_0, acr_S hL hD, aBind_some, pushR_some, B_X4_left_5, bck_pos (by omega), bck_pos (by omega), stp_S hL hL.1, aBind_some, pushR_some, B_X4_left_14, chk_pos (by omega)]
theorem top_S {w h : Nat} {p : Int} (hL : LayB iv) (hD : DimB iv w h) (hp0 : 0 ≤ p ∧ p ≤ 2500) : Run sc 67 0 [some (Rf 49), some (I p)] [] (hp iv) = some (some (I (topC iv p)), hp iv) := by
  have := tot_b hL hD
  have := top_b hL hD hp0
  unfold topC at *
  rw [B_X4_top_0, acr_S hL hD, aBind_some, pushR_some, B_X4_top_5, bck_pos (by omega), bck_pos (by omega), stp_S hL hL.2.1, aBind_some, pushR_some, B_X4_top_14, chk_pos (by omega)]
theorem shownC_S {w h : Nat} {p : Int} (hL : LayB iv) (hD : DimB iv w h) (hp0 : 0 ≤ p ∧ p ≤ 2500) : Run sc 68 0 [some (Rf 49), some (I p)] [] (hp iv) = some (some (I (if iv 2 0 - lefC iv p < iv 49 1 then iv 2 0 - lefC iv p else iv 49 1)), hp iv) := by
  have := lef_b (p := p) hL hD
  obtain ⟨d1, d2, d3, d4, d5, d6⟩ := id hD
  rw [B_X4_shownColumns_0, lef_S hL hD hp0, aBind_some, pushR_some, B_X4_shownColumns_16, chk_pos (by omega)]
theorem shownL_S {w h : Nat} {p : Int} (hL : LayB iv) (hD : DimB iv w h) (hp0 : 0 ≤ p ∧ p ≤ 2500) : Run sc 69 0 [some (Rf 49), some (I p)] [] (hp iv) = some (some (I (if iv 2 1 - topC iv p < iv 49 2 then iv 2 1 - topC iv p else iv 49 2)), hp iv) := by
  have := top_b hL hD hp0
  obtain ⟨d1, d2, d3, d4, d5, d6⟩ := id hD
  rw [B_X4_shownLines_0, top_S hL hD hp0, aBind_some, pushR_some, B_X4_shownLines_16, chk_pos (by omega)]
theorem fs_S {a s : Int} (hL : LayB iv) (hs : 4 ≤ s ∧ s ≤ 24) (ha : -100 ≤ a ∧ a ≤ 100) : Run sc 70 0 [some (Rf 49), some (I a), some (I s)] [] (hp iv) = some (some (I (fsF (iv 49 3) a s)), hp iv) := by
  obtain ⟨l1, l2, l3⟩ := id hL
  unfold fsF
  by_cases c : a < s
  · rw [if_pos c, B_X4_firstShowing_0, ite_T c, B_X4_firstShowing_20]
  · have := divB (a := a - s) (d := s - iv 49 3) (by omega) (by omega)
    rw [if_neg c, B_X4_firstShowing_0, ite_F c, B_X4_firstShowing_9, chk_pos (by omega), stp_S hL hs, aBind_some, pushR_some, B_X4_firstShowing_18, bck_pos (by omega), bck_pos (by omega), chk_pos (by omega), B_X4_firstShowing_20]
theorem own_S {w h : Nat} {x y : Int} (hL : LayB iv) (hD : DimB iv w h) (hx : -100 ≤ x ∧ x ≤ 100) (hy : -100 ≤ y ∧ y ≤ 100) : Run sc 71 0 [some (Rf 49), some (I x), some (I y)] [] (hp iv) = some (some (I (ownC iv x y)), hp iv) := by
  obtain ⟨d1, d2, d3, d4, d5, d6⟩ := id hD
  obtain ⟨l1, l2, l3⟩ := id hL
  have hb := ownF_b (w := iv 2 0) (x := x) (y := y) (by omega) l1 l2 l3 (by omega) (by omega)
  have hf := fsF_b (a := x) l1 l3 (by omega)
  have ha : pgF (iv 49 3) (iv 2 0) (iv 49 1) = acr iv := rfl
  rw [ha] at hb
  rw [B_X4_owner_0, fs_S hL l2 hy, aBind_some, pushR_some, B_X4_owner_9, acr_S hL hD, aBind_some, pushR_some, B_X4_owner_13, chk_pos (by omega), fs_S hL l1 hx, aBind_some, pushR_some, B_X4_owner_23]
  unfold ownF at hb
  rw [ha] at hb
  rw [chk_pos (by omega)]
  rfl
end PAGES
