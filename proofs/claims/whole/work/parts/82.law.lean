/-! the law, call by call -/
section ARMS
variable {sc : Nat × (Nat → Int)} {iv : Nat → Nat → Int} {w h n : Nat} {x : Int}
/-- a call is made, and the loop goes on -/
def LStep (sc : Nat × (Nat → Int)) (pc : Nat) (x : Int) (iv : Nat → Nat → Int) : Prop := ∃ iv2 w h n, Run sc 0 pc [some (Rf 0), some (Rf 1), some (Rf 52), some (I x)] [] (hp iv) = Run sc 0 18 [some (Rf 0), some (Rf 1), some (Rf 52), some (I (x + 6))] [] (hp iv2) ∧ InvW iv2 w h n
theorem arm0 (H : InvW iv w h n) (hx : 0 ≤ x ∧ x ≤ (sc.1 : Int) - 6) (hs : sc.1 ≤ 3072) : LStep sc 152 x iv := by
  obtain ⟨a, i1, i2, w2, h2, n2, e1, e2, H2⟩ := (show Both sc 77 111 [some (Rf 1), some (I (sc.2 (Int.toNat (x + 1)))), some (I (sc.2 (Int.toNat (x + 2))))] [some (Rf 52), some (I (sc.2 (Int.toNat (x + 1)))), some (I (sc.2 (Int.toNat (x + 2))))] iv from reset_B H)
  refine ⟨i2, w2, h2, n2, ?_, H2⟩
  rw [B_L_law_152, chk_pos (by omega), bck_pos (by omega), chk_pos (by omega), bck_pos (by omega), e1, aBind_some, pushR_some, B_L_law_166, chk_pos (by omega), bck_pos (by omega), chk_pos (by omega), bck_pos (by omega), e2, aBind_some, pushR_some, B_L_law_180, if_pos rfl, B_L_law_1030, chk_pos (by omega)]
theorem arm1 (H : InvW iv w h n) (hx : 0 ≤ x ∧ x ≤ (sc.1 : Int) - 6) (hs : sc.1 ≤ 3072) : LStep sc 185 x iv := by
  obtain ⟨a, i1, i2, w2, h2, n2, e1, e2, H2⟩ := (show Both sc 78 121 [some (Rf 1), some (I ((sc.2 (Int.toNat (x + 1))) % 65536))] [some (Rf 52), some (I ((sc.2 (Int.toNat (x + 1))) % 65536))] iv from type_B H (by omega))
  refine ⟨i2, w2, h2, n2, ?_, H2⟩
  rw [B_L_law_185, chk_pos (by omega), bck_pos (by omega), e1, aBind_some, pushR_some, B_L_law_195, chk_pos (by omega), bck_pos (by omega), e2, aBind_some, pushR_some, B_L_law_205, if_pos rfl, B_L_law_1030, chk_pos (by omega)]
theorem arm2 (H : InvW iv w h n) (hx : 0 ≤ x ∧ x ≤ (sc.1 : Int) - 6) (hs : sc.1 ≤ 3072) : LStep sc 210 x iv := by
  obtain ⟨a, i1, i2, w2, h2, n2, e1, e2, H2⟩ := (show Both sc 79 122 [some (Rf 1), none] [some (Rf 52), none] iv from clearText_B H)
  refine ⟨i2, w2, h2, n2, ?_, H2⟩
  rw [B_L_law_210, e1, aBind_some, pushR_some, B_L_law_214, e2, aBind_some, pushR_some, B_L_law_218, if_pos rfl, B_L_law_1030, chk_pos (by omega)]
theorem arm3 (H : InvW iv w h n) (hx : 0 ≤ x ∧ x ≤ (sc.1 : Int) - 6) (hs : sc.1 ≤ 3072) : LStep sc 223 x iv := by
  obtain ⟨a, i1, i2, w2, h2, n2, e1, e2, H2⟩ := (show Both sc 80 128 [some (Rf 1), none] [some (Rf 52), none] iv from read_B H)
  refine ⟨i2, w2, h2, n2, ?_, H2⟩
  rw [B_L_law_223, e1, aBind_some, pushR_some, B_L_law_227, e2, aBind_some, pushR_some, B_L_law_231, if_pos rfl, B_L_law_1030, chk_pos (by omega)]
theorem arm4 (H : InvW iv w h n) (hx : 0 ≤ x ∧ x ≤ (sc.1 : Int) - 6) (hs : sc.1 ≤ 3072) : LStep sc 236 x iv := by
  obtain ⟨a, i1, i2, w2, h2, n2, e1, e2, H2⟩ := (show Both sc 81 130 [some (Rf 1), some (I (sc.2 (Int.toNat (x + 1)))), some (I (sc.2 (Int.toNat (x + 2)))), some (I (sc.2 (Int.toNat (x + 3)))), none] [some (Rf 52), some (I (sc.2 (Int.toNat (x + 1)))), some (I (sc.2 (Int.toNat (x + 2)))), some (I (sc.2 (Int.toNat (x + 3)))), none] iv from setCell_B H)
  refine ⟨i2, w2, h2, n2, ?_, H2⟩
  rw [B_L_law_236, chk_pos (by omega), bck_pos (by omega), chk_pos (by omega), bck_pos (by omega), chk_pos (by omega), bck_pos (by omega), e1, aBind_some, pushR_some, B_L_law_255, chk_pos (by omega), bck_pos (by omega), chk_pos (by omega), bck_pos (by omega), chk_pos (by omega), bck_pos (by omega), e2, aBind_some, pushR_some, B_L_law_274, if_pos rfl, B_L_law_1030, chk_pos (by omega)]
theorem arm5 (H : InvW iv w h n) (hx : 0 ≤ x ∧ x ≤ (sc.1 : Int) - 6) (hs : sc.1 ≤ 3072) : LStep sc 279 x iv := by
  obtain ⟨a, i1, i2, w2, h2, n2, e1, e2, H2⟩ := (show Both sc 82 131 [some (Rf 1), some (I (sc.2 (Int.toNat (x + 1)))), some (I (sc.2 (Int.toNat (x + 2)))), some (I (sc.2 (Int.toNat (x + 3)))), some (I (sc.2 (Int.toNat (x + 4)))), some (I (sc.2 (Int.toNat (x + 5)))), none, none] [some (Rf 52), some (I (sc.2 (Int.toNat (x + 1)))), some (I (sc.2 (Int.toNat (x + 2)))), some (I (sc.2 (Int.toNat (x + 3)))), some (I (sc.2 (Int.toNat (x + 4)))), some (I (sc.2 (Int.toNat (x + 5)))), none, none] iv from fill_B H)
  refine ⟨i2, w2, h2, n2, ?_, H2⟩
  rw [B_L_law_279, chk_pos (by omega), bck_pos (by omega), chk_pos (by omega), bck_pos (by omega), chk_pos (by omega), bck_pos (by omega), chk_pos (by omega), bck_pos (by omega), chk_pos (by omega), bck_pos (by omega), e1, aBind_some, pushR_some, B_L_law_308, chk_pos (by omega), bck_pos (by omega), chk_pos (by omega), bck_pos (by omega), chk_pos (by omega), bck_pos (by omega), chk_pos (by omega), bck_pos (by omega), chk_pos (by omega), bck_pos (by omega), e2, aBind_some, pushR_some, B_L_law_337, if_pos rfl, B_L_law_1030, chk_pos (by omega)]
theorem arm6 (H : InvW iv w h n) (hx : 0 ≤ x ∧ x ≤ (sc.1 : Int) - 6) (hs : sc.1 ≤ 3072) : LStep sc 342 x iv := by
  obtain ⟨a, i1, i2, w2, h2, n2, e1, e2, H2⟩ := (show Both sc 83 132 [some (Rf 1), some (I (sc.2 (Int.toNat (x + 1)))), some (I (sc.2 (Int.toNat (x + 2))))] [some (Rf 52), some (I (sc.2 (Int.toNat (x + 1)))), some (I (sc.2 (Int.toNat (x + 2))))] iv from cell_B H)
  refine ⟨i2, w2, h2, n2, ?_, H2⟩
  rw [B_L_law_342, chk_pos (by omega), bck_pos (by omega), chk_pos (by omega), bck_pos (by omega), e1, aBind_some, pushR_some, B_L_law_356, chk_pos (by omega), bck_pos (by omega), chk_pos (by omega), bck_pos (by omega), e2, aBind_some, pushR_some, B_L_law_370, if_pos rfl, B_L_law_1030, chk_pos (by omega)]
theorem arm7 (H : InvW iv w h n) (hx : 0 ≤ x ∧ x ≤ (sc.1 : Int) - 6) (hs : sc.1 ≤ 3072) : LStep sc 375 x iv := by
  obtain ⟨a, i1, i2, w2, h2, n2, e1, e2, H2⟩ := (show Both sc 84 136 [some (Rf 1), some (I (sc.2 (Int.toNat (x + 1)))), some (I (sc.2 (Int.toNat (x + 2)))), none, none] [some (Rf 52), some (I (sc.2 (Int.toNat (x + 1)))), some (I (sc.2 (Int.toNat (x + 2)))), none, none, none, none] iv from count_B H)
  refine ⟨i2, w2, h2, n2, ?_, H2⟩
  rw [B_L_law_375, chk_pos (by omega), bck_pos (by omega), chk_pos (by omega), bck_pos (by omega), e1, aBind_some, pushR_some, B_L_law_389, chk_pos (by omega), bck_pos (by omega), chk_pos (by omega), bck_pos (by omega), e2, aBind_some, pushR_some, B_L_law_403, if_pos rfl, B_L_law_1030, chk_pos (by omega)]
theorem arm8 (H : InvW iv w h n) (hx : 0 ≤ x ∧ x ≤ (sc.1 : Int) - 6) (hs : sc.1 ≤ 3072) : LStep sc 408 x iv := by
  obtain ⟨a, i1, i2, w2, h2, n2, e1, e2, H2⟩ := (show Both sc 85 135 [some (Rf 1), some (I (sc.2 (Int.toNat (x + 1)))), some (I (sc.2 (Int.toNat (x + 2))))] [some (Rf 52), some (I (sc.2 (Int.toNat (x + 1)))), some (I (sc.2 (Int.toNat (x + 2))))] iv from lone_B H)
  refine ⟨i2, w2, h2, n2, ?_, H2⟩
  rw [B_L_law_408, chk_pos (by omega), bck_pos (by omega), chk_pos (by omega), bck_pos (by omega), e1, aBind_some, pushR_some, B_L_law_422, chk_pos (by omega), bck_pos (by omega), chk_pos (by omega), bck_pos (by omega), e2, aBind_some, pushR_some, B_L_law_436, if_pos rfl, B_L_law_1030, chk_pos (by omega)]
theorem arm9 (H : InvW iv w h n) (hx : 0 ≤ x ∧ x ≤ (sc.1 : Int) - 6) (hs : sc.1 ≤ 3072) : LStep sc 441 x iv := by
  obtain ⟨a, i1, i2, w2, h2, n2, e1, e2, H2⟩ := (show Both sc 86 138 [some (Rf 1), some (I (sc.2 (Int.toNat (x + 1)))), none, none, none] [some (Rf 52), some (I (sc.2 (Int.toNat (x + 1)))), none, none, none, none, none] iv from merge_B H)
  refine ⟨i2, w2, h2, n2, ?_, H2⟩
  rw [B_L_law_441, chk_pos (by omega), bck_pos (by omega), e1, aBind_some, pushR_some, B_L_law_450, chk_pos (by omega), bck_pos (by omega), e2, aBind_some, pushR_some, B_L_law_459, if_pos rfl, B_L_law_1030, chk_pos (by omega)]
theorem arm10 (H : InvW iv w h n) (hx : 0 ≤ x ∧ x ≤ (sc.1 : Int) - 6) (hs : sc.1 ≤ 3072) : LStep sc 464 x iv := by
  obtain ⟨a, i1, i2, w2, h2, n2, e1, e2, H2⟩ := (show Both sc 87 140 [some (Rf 1), some (I (sc.2 (Int.toNat (x + 1)))), some (I (sc.2 (Int.toNat (x + 2)))), some (I (sc.2 (Int.toNat (x + 3)))), none] [some (Rf 52), some (I (sc.2 (Int.toNat (x + 1)))), some (I (sc.2 (Int.toNat (x + 2)))), some (I (sc.2 (Int.toNat (x + 3))))] iv from run_B H)
  refine ⟨i2, w2, h2, n2, ?_, H2⟩
  rw [B_L_law_464, chk_pos (by omega), bck_pos (by omega), chk_pos (by omega), bck_pos (by omega), chk_pos (by omega), bck_pos (by omega), e1, aBind_some, pushR_some, B_L_law_483, chk_pos (by omega), bck_pos (by omega), chk_pos (by omega), bck_pos (by omega), chk_pos (by omega), bck_pos (by omega), e2, aBind_some, pushR_some, B_L_law_502, if_pos rfl, B_L_law_1030, chk_pos (by omega)]
theorem arm11 (H : InvW iv w h n) (hx : 0 ≤ x ∧ x ≤ (sc.1 : Int) - 6) (hs : sc.1 ≤ 3072) : LStep sc 507 x iv := by
  obtain ⟨a, i1, i2, w2, h2, n2, e1, e2, H2⟩ := (show Both sc 88 141 [some (Rf 1), some (I (sc.2 (Int.toNat (x + 1)))), some (I (sc.2 (Int.toNat (x + 2)))), none] [some (Rf 52), some (I (sc.2 (Int.toNat (x + 1)))), some (I (sc.2 (Int.toNat (x + 2))))] iv from runAt_B H)
  refine ⟨i2, w2, h2, n2, ?_, H2⟩
  rw [B_L_law_507, chk_pos (by omega), bck_pos (by omega), chk_pos (by omega), bck_pos (by omega), e1, aBind_some, pushR_some, B_L_law_521, chk_pos (by omega), bck_pos (by omega), chk_pos (by omega), bck_pos (by omega), e2, aBind_some, pushR_some, B_L_law_535, if_pos rfl, B_L_law_1030, chk_pos (by omega)]
theorem arm12 (H : InvW iv w h n) (hx : 0 ≤ x ∧ x ≤ (sc.1 : Int) - 6) (hs : sc.1 ≤ 3072) : LStep sc 540 x iv := by
  obtain ⟨a, i1, i2, w2, h2, n2, e1, e2, H2⟩ := (show Both sc 89 143 [some (Rf 1), some (I (sc.2 (Int.toNat (x + 1)))), some (I (sc.2 (Int.toNat (x + 2)))), some (I (sc.2 (Int.toNat (x + 3)))), none] [some (Rf 52), some (I (sc.2 (Int.toNat (x + 1)))), some (I (sc.2 (Int.toNat (x + 2)))), some (I (sc.2 (Int.toNat (x + 3))))] iv from moveRun_B H)
  refine ⟨i2, w2, h2, n2, ?_, H2⟩
  rw [B_L_law_540, chk_pos (by omega), bck_pos (by omega), chk_pos (by omega), bck_pos (by omega), chk_pos (by omega), bck_pos (by omega), e1, aBind_some, pushR_some, B_L_law_559, chk_pos (by omega), bck_pos (by omega), chk_pos (by omega), bck_pos (by omega), chk_pos (by omega), bck_pos (by omega), e2, aBind_some, pushR_some, B_L_law_578, if_pos rfl, B_L_law_1030, chk_pos (by omega)]
theorem arm13 (H : InvW iv w h n) (hx : 0 ≤ x ∧ x ≤ (sc.1 : Int) - 6) (hs : sc.1 ≤ 3072) : LStep sc 583 x iv := by
  obtain ⟨a, i1, i2, w2, h2, n2, e1, e2, H2⟩ := (show Both sc 90 144 [some (Rf 1), some (I (sc.2 (Int.toNat (x + 1)))), none] [some (Rf 52), some (I (sc.2 (Int.toNat (x + 1))))] iv from firstOrder_B H)
  refine ⟨i2, w2, h2, n2, ?_, H2⟩
  rw [B_L_law_583, chk_pos (by omega), bck_pos (by omega), e1, aBind_some, pushR_some, B_L_law_592, chk_pos (by omega), bck_pos (by omega), e2, aBind_some, pushR_some, B_L_law_601, if_pos rfl, B_L_law_1030, chk_pos (by omega)]
theorem arm14 (H : InvW iv w h n) (hx : 0 ≤ x ∧ x ≤ (sc.1 : Int) - 6) (hs : sc.1 ≤ 3072) : LStep sc 606 x iv := by
  obtain ⟨a, i1, i2, w2, h2, n2, e1, e2, H2⟩ := (show Both sc 91 149 [some (Rf 1), some (I (sc.2 (Int.toNat (x + 1))))] [some (Rf 52), some (I (sc.2 (Int.toNat (x + 1)))), none, none, none, none] iv from shorten_B H)
  refine ⟨i2, w2, h2, n2, ?_, H2⟩
  rw [B_L_law_606, chk_pos (by omega), bck_pos (by omega), e1, aBind_some, pushR_some, B_L_law_615, chk_pos (by omega), bck_pos (by omega), e2, aBind_some, pushR_some, B_L_law_624, if_pos rfl, B_L_law_1030, chk_pos (by omega)]
theorem arm15 (H : InvW iv w h n) (hx : 0 ≤ x ∧ x ≤ (sc.1 : Int) - 6) (hs : sc.1 ≤ 3072) : LStep sc 629 x iv := by
  obtain ⟨a, i1, i2, w2, h2, n2, e1, e2, H2⟩ := (show Both sc 92 150 [some (Rf 1), some (I (sc.2 (Int.toNat (x + 1)))), some (I (sc.2 (Int.toNat (x + 2)))), none] [some (Rf 52), some (I (sc.2 (Int.toNat (x + 1)))), some (I (sc.2 (Int.toNat (x + 2)))), none] iv from setThread_B H)
  refine ⟨i2, w2, h2, n2, ?_, H2⟩
  rw [B_L_law_629, chk_pos (by omega), bck_pos (by omega), chk_pos (by omega), bck_pos (by omega), e1, aBind_some, pushR_some, B_L_law_643, chk_pos (by omega), bck_pos (by omega), chk_pos (by omega), bck_pos (by omega), e2, aBind_some, pushR_some, B_L_law_657, if_pos rfl, B_L_law_1030, chk_pos (by omega)]
theorem arm18 (H : InvW iv w h n) (hx : 0 ≤ x ∧ x ≤ (sc.1 : Int) - 6) (hs : sc.1 ≤ 3072) : LStep sc 806 x iv := by
  obtain ⟨a, i1, i2, w2, h2, n2, e1, e2, H2⟩ := (show Both sc 95 157 [some (Rf 1), some (I (sc.2 (Int.toNat (x + 1))))] [some (Rf 52), some (I (sc.2 (Int.toNat (x + 1)))), none, none, none, none] iv from outline_B H)
  refine ⟨i2, w2, h2, n2, ?_, H2⟩
  rw [B_L_law_806, chk_pos (by omega), bck_pos (by omega), e1, aBind_some, pushR_some, B_L_law_815, chk_pos (by omega), bck_pos (by omega), e2, aBind_some, pushR_some, B_L_law_824, if_pos rfl, B_L_law_1030, chk_pos (by omega)]
theorem arm19 (H : InvW iv w h n) (hx : 0 ≤ x ∧ x ≤ (sc.1 : Int) - 6) (hs : sc.1 ≤ 3072) : LStep sc 829 x iv := by
  obtain ⟨a, i1, i2, w2, h2, n2, e1, e2, H2⟩ := (show Both sc 96 159 [some (Rf 1), none] [some (Rf 52), none, none] iv from clearBack_B H)
  refine ⟨i2, w2, h2, n2, ?_, H2⟩
  rw [B_L_law_829, e1, aBind_some, pushR_some, B_L_law_833, e2, aBind_some, pushR_some, B_L_law_837, if_pos rfl, B_L_law_1030, chk_pos (by omega)]
theorem arm20 (H : InvW iv w h n) (hx : 0 ≤ x ∧ x ≤ (sc.1 : Int) - 6) (hs : sc.1 ≤ 3072) : LStep sc 842 x iv := by
  obtain ⟨a, i1, i2, w2, h2, n2, e1, e2, H2⟩ := (show Both sc 97 163 [some (Rf 1), some (I (sc.2 (Int.toNat (x + 1))))] [some (Rf 52), some (I (sc.2 (Int.toNat (x + 1)))), none, none, none, none, none, none] iv from backs_B H)
  refine ⟨i2, w2, h2, n2, ?_, H2⟩
  rw [B_L_law_842, chk_pos (by omega), bck_pos (by omega), e1, aBind_some, pushR_some, B_L_law_851, chk_pos (by omega), bck_pos (by omega), e2, aBind_some, pushR_some, B_L_law_860, if_pos rfl, B_L_law_1030, chk_pos (by omega)]
theorem arm21 (H : InvW iv w h n) (hx : 0 ≤ x ∧ x ≤ (sc.1 : Int) - 6) (hs : sc.1 ≤ 3072) : LStep sc 865 x iv := by
  obtain ⟨a, i1, i2, w2, h2, n2, e1, e2, H2⟩ := (show Both sc 98 168 [some (Rf 1), some (I (sc.2 (Int.toNat (x + 1)))), some (I (sc.2 (Int.toNat (x + 2)))), some (I (sc.2 (Int.toNat (x + 3))))] [some (Rf 52), some (I (sc.2 (Int.toNat (x + 1)))), some (I (sc.2 (Int.toNat (x + 2)))), some (I (sc.2 (Int.toNat (x + 3))))] iv from setPages_B H)
  refine ⟨i2, w2, h2, n2, ?_, H2⟩
  rw [B_L_law_865, chk_pos (by omega), bck_pos (by omega), chk_pos (by omega), bck_pos (by omega), chk_pos (by omega), bck_pos (by omega), e1, aBind_some, pushR_some, B_L_law_884, chk_pos (by omega), bck_pos (by omega), chk_pos (by omega), bck_pos (by omega), chk_pos (by omega), bck_pos (by omega), e2, aBind_some, pushR_some, B_L_law_903, if_pos rfl, B_L_law_1030, chk_pos (by omega)]
theorem arm22 (H : InvW iv w h n) (hx : 0 ≤ x ∧ x ≤ (sc.1 : Int) - 6) (hs : sc.1 ≤ 3072) : LStep sc 908 x iv := by
  obtain ⟨a, i1, i2, w2, h2, n2, e1, e2, H2⟩ := (show Both sc 99 169 [some (Rf 1), some (I (sc.2 (Int.toNat (x + 1)))), some (I (sc.2 (Int.toNat (x + 2))))] [some (Rf 52), some (I (sc.2 (Int.toNat (x + 1)))), some (I (sc.2 (Int.toNat (x + 2)))), none, none, none, none, none, none, none, none, none] iv from page_B H)
  refine ⟨i2, w2, h2, n2, ?_, H2⟩
  rw [B_L_law_908, chk_pos (by omega), bck_pos (by omega), chk_pos (by omega), bck_pos (by omega), e1, aBind_some, pushR_some, B_L_law_922, chk_pos (by omega), bck_pos (by omega), chk_pos (by omega), bck_pos (by omega), e2, aBind_some, pushR_some, B_L_law_936, if_pos rfl, B_L_law_1030, chk_pos (by omega)]
theorem arm23 (H : InvW iv w h n) (hx : 0 ≤ x ∧ x ≤ (sc.1 : Int) - 6) (hs : sc.1 ≤ 3072) : LStep sc 941 x iv := by
  obtain ⟨a, i1, i2, w2, h2, n2, e1, e2, H2⟩ := (show Both sc 100 174 [some (Rf 1), some (I (sc.2 (Int.toNat (x + 1)))), some (I (sc.2 (Int.toNat (x + 2)))), some (I (sc.2 (Int.toNat (x + 3)))), none, none] [some (Rf 52), some (I (sc.2 (Int.toNat (x + 1)))), some (I (sc.2 (Int.toNat (x + 2)))), some (I (sc.2 (Int.toNat (x + 3)))), none, none] iv from onPage_B H)
  refine ⟨i2, w2, h2, n2, ?_, H2⟩
  rw [B_L_law_941, chk_pos (by omega), bck_pos (by omega), chk_pos (by omega), bck_pos (by omega), chk_pos (by omega), bck_pos (by omega), e1, aBind_some, pushR_some, B_L_law_960, chk_pos (by omega), bck_pos (by omega), chk_pos (by omega), bck_pos (by omega), chk_pos (by omega), bck_pos (by omega), e2, aBind_some, pushR_some, B_L_law_979, if_pos rfl, B_L_law_1030, chk_pos (by omega)]
theorem arm24 (H : InvW iv w h n) (hx : 0 ≤ x ∧ x ≤ (sc.1 : Int) - 6) (hs : sc.1 ≤ 3072) : LStep sc 984 x iv := by
  obtain ⟨a, i1, i2, w2, h2, n2, e1, e2, H2⟩ := (show Both sc 101 167 [some (Rf 1)] [some (Rf 52)] iv from pages_B H)
  refine ⟨i2, w2, h2, n2, ?_, H2⟩
  rw [B_L_law_984, e1, aBind_some, pushR_some, B_L_law_988, e2, aBind_some, pushR_some, B_L_law_992, if_pos rfl, B_L_law_1030, chk_pos (by omega)]
theorem arm25 (H : InvW iv w h n) (hx : 0 ≤ x ∧ x ≤ (sc.1 : Int) - 6) (hs : sc.1 ≤ 3072) : LStep sc 997 x iv := by
  obtain ⟨a, i1, i2, w2, h2, n2, e1, e2, H2⟩ := (show Both sc 102 175 [some (Rf 1), some (I (sc.2 (Int.toNat (x + 1)))), some (I (sc.2 (Int.toNat (x + 2))))] [some (Rf 52), some (I (sc.2 (Int.toNat (x + 1)))), some (I (sc.2 (Int.toNat (x + 2))))] iv from pageOf_B H)
  refine ⟨i2, w2, h2, n2, ?_, H2⟩
  rw [B_L_law_997, chk_pos (by omega), bck_pos (by omega), chk_pos (by omega), bck_pos (by omega), e1, aBind_some, pushR_some, B_L_law_1011, chk_pos (by omega), bck_pos (by omega), chk_pos (by omega), bck_pos (by omega), e2, aBind_some, pushR_some, B_L_law_1025, if_pos rfl, B_L_law_1030, chk_pos (by omega)]
theorem arm16 (H : InvW iv w h n) (hx : 0 ≤ x ∧ x ≤ (sc.1 : Int) - 6) (hs : sc.1 ≤ 3072) : LStep sc 662 x iv := by
  by_cases u : (sc.2 (Int.toNat (x + 3))) = 0
  · by_cases v : (sc.2 (Int.toNat (x + 4))) = 0
    · obtain ⟨a, i1, i2, w2, h2, n2, e1, e2, H2⟩ := (show Both sc 93 155 [some (Rf 1), some (I (sc.2 (Int.toNat (x + 1)))), some (I (sc.2 (Int.toNat (x + 2)))), some (I 0), some (I 0)] [some (Rf 52), some (I (sc.2 (Int.toNat (x + 1)))), some (I (sc.2 (Int.toNat (x + 2)))), some (I 0), some (I 0)] iv from setBackF_B H (by omega))
      refine ⟨i2, w2, h2, n2, ?_, H2⟩
      rw [B_L_law_662, chk_pos (by omega), bck_pos (by omega), chk_pos (by omega), bck_pos (by omega), chk_pos (by omega), bck_pos (by omega), if_pos u, B_L_law_685, B_L_law_686, chk_pos (by omega), bck_pos (by omega), if_pos v, B_L_law_698, B_L_law_699, e1, aBind_some, pushR_some, B_L_law_702, chk_pos (by omega), bck_pos (by omega), chk_pos (by omega), bck_pos (by omega), chk_pos (by omega), bck_pos (by omega), if_pos u, B_L_law_725, B_L_law_726, chk_pos (by omega), bck_pos (by omega), if_pos v, B_L_law_738, B_L_law_739, e2, aBind_some, pushR_some, B_L_law_742, if_pos rfl, B_L_law_1030, chk_pos (by omega)]
    · obtain ⟨a, i1, i2, w2, h2, n2, e1, e2, H2⟩ := (show Both sc 93 155 [some (Rf 1), some (I (sc.2 (Int.toNat (x + 1)))), some (I (sc.2 (Int.toNat (x + 2)))), some (I 0), some (I 1)] [some (Rf 52), some (I (sc.2 (Int.toNat (x + 1)))), some (I (sc.2 (Int.toNat (x + 2)))), some (I 0), some (I 1)] iv from setBackF_B H (by omega))
      refine ⟨i2, w2, h2, n2, ?_, H2⟩
      rw [B_L_law_662, chk_pos (by omega), bck_pos (by omega), chk_pos (by omega), bck_pos (by omega), chk_pos (by omega), bck_pos (by omega), if_pos u, B_L_law_685, B_L_law_686, chk_pos (by omega), bck_pos (by omega), if_neg v, B_L_law_699, e1, aBind_some, pushR_some, B_L_law_702, chk_pos (by omega), bck_pos (by omega), chk_pos (by omega), bck_pos (by omega), chk_pos (by omega), bck_pos (by omega), if_pos u, B_L_law_725, B_L_law_726, chk_pos (by omega), bck_pos (by omega), if_neg v, B_L_law_739, e2, aBind_some, pushR_some, B_L_law_742, if_pos rfl, B_L_law_1030, chk_pos (by omega)]
  · by_cases v : (sc.2 (Int.toNat (x + 4))) = 0
    · obtain ⟨a, i1, i2, w2, h2, n2, e1, e2, H2⟩ := (show Both sc 93 155 [some (Rf 1), some (I (sc.2 (Int.toNat (x + 1)))), some (I (sc.2 (Int.toNat (x + 2)))), some (I 1), some (I 0)] [some (Rf 52), some (I (sc.2 (Int.toNat (x + 1)))), some (I (sc.2 (Int.toNat (x + 2)))), some (I 1), some (I 0)] iv from setBackU_B H (by omega))
      refine ⟨i2, w2, h2, n2, ?_, H2⟩
      rw [B_L_law_662, chk_pos (by omega), bck_pos (by omega), chk_pos (by omega), bck_pos (by omega), chk_pos (by omega), bck_pos (by omega), if_neg u, B_L_law_686, chk_pos (by omega), bck_pos (by omega), if_pos v, B_L_law_698, B_L_law_699, e1, aBind_some, pushR_some, B_L_law_702, chk_pos (by omega), bck_pos (by omega), chk_pos (by omega), bck_pos (by omega), chk_pos (by omega), bck_pos (by omega), if_neg u, B_L_law_726, chk_pos (by omega), bck_pos (by omega), if_pos v, B_L_law_738, B_L_law_739, e2, aBind_some, pushR_some, B_L_law_742, if_pos rfl, B_L_law_1030, chk_pos (by omega)]
    · obtain ⟨a, i1, i2, w2, h2, n2, e1, e2, H2⟩ := (show Both sc 93 155 [some (Rf 1), some (I (sc.2 (Int.toNat (x + 1)))), some (I (sc.2 (Int.toNat (x + 2)))), some (I 1), some (I 1)] [some (Rf 52), some (I (sc.2 (Int.toNat (x + 1)))), some (I (sc.2 (Int.toNat (x + 2)))), some (I 1), some (I 1)] iv from setBackU_B H (by omega))
      refine ⟨i2, w2, h2, n2, ?_, H2⟩
      rw [B_L_law_662, chk_pos (by omega), bck_pos (by omega), chk_pos (by omega), bck_pos (by omega), chk_pos (by omega), bck_pos (by omega), if_neg u, B_L_law_686, chk_pos (by omega), bck_pos (by omega), if_neg v, B_L_law_699, e1, aBind_some, pushR_some, B_L_law_702, chk_pos (by omega), bck_pos (by omega), chk_pos (by omega), bck_pos (by omega), chk_pos (by omega), bck_pos (by omega), if_neg u, B_L_law_726, chk_pos (by omega), bck_pos (by omega), if_neg v, B_L_law_739, e2, aBind_some, pushR_some, B_L_law_742, if_pos rfl, B_L_law_1030, chk_pos (by omega)]
theorem arm17 (H : InvW iv w h n) (hx : 0 ≤ x ∧ x ≤ (sc.1 : Int) - 6) (hs : sc.1 ≤ 3072) : LStep sc 747 x iv := by
  by_cases u : (sc.2 (Int.toNat (x + 3))) = 0
  · obtain ⟨a, i1, i2, w2, h2, n2, e1, e2, H2⟩ := (show Both sc 94 156 [some (Rf 1), some (I (sc.2 (Int.toNat (x + 1)))), some (I (sc.2 (Int.toNat (x + 2)))), some (I 0)] [some (Rf 52), some (I (sc.2 (Int.toNat (x + 1)))), some (I (sc.2 (Int.toNat (x + 2)))), some (I 0)] iv from back_B H (by omega))
    refine ⟨i2, w2, h2, n2, ?_, H2⟩
    rw [B_L_law_747, chk_pos (by omega), bck_pos (by omega), chk_pos (by omega), bck_pos (by omega), chk_pos (by omega), bck_pos (by omega), if_pos u, B_L_law_770, B_L_law_771, e1, aBind_some, pushR_some, B_L_law_774, chk_pos (by omega), bck_pos (by omega), chk_pos (by omega), bck_pos (by omega), chk_pos (by omega), bck_pos (by omega), if_pos u, B_L_law_797, B_L_law_798, e2, aBind_some, pushR_some, B_L_law_801, if_pos rfl, B_L_law_1030, chk_pos (by omega)]
  · obtain ⟨a, i1, i2, w2, h2, n2, e1, e2, H2⟩ := (show Both sc 94 156 [some (Rf 1), some (I (sc.2 (Int.toNat (x + 1)))), some (I (sc.2 (Int.toNat (x + 2)))), some (I 1)] [some (Rf 52), some (I (sc.2 (Int.toNat (x + 1)))), some (I (sc.2 (Int.toNat (x + 2)))), some (I 1)] iv from back_B H (by omega))
    refine ⟨i2, w2, h2, n2, ?_, H2⟩
    rw [B_L_law_747, chk_pos (by omega), bck_pos (by omega), chk_pos (by omega), bck_pos (by omega), chk_pos (by omega), bck_pos (by omega), if_neg u, B_L_law_771, e1, aBind_some, pushR_some, B_L_law_774, chk_pos (by omega), bck_pos (by omega), chk_pos (by omega), bck_pos (by omega), chk_pos (by omega), bck_pos (by omega), if_neg u, B_L_law_798, e2, aBind_some, pushR_some, B_L_law_801, if_pos rfl, B_L_law_1030, chk_pos (by omega)]
theorem armD (H : InvW iv w h n) (hx : 0 ≤ x ∧ x ≤ (sc.1 : Int) - 6) (hs : sc.1 ≤ 3072) : LStep sc 1030 x iv := ⟨iv, w, h, n, by rw [B_L_law_1030, chk_pos (by omega)], H⟩
theorem disp (H : InvW iv w h n) (hx : 0 ≤ x ∧ x ≤ (sc.1 : Int) - 6) (hs : sc.1 ≤ 3072) : LStep sc 18 x iv := by
  unfold LStep
  rw [B_L_law_18, chk_pos (by omega), ite_F (by omega), bck_pos (by omega)]
  generalize sc.2 (Int.toNat x) % (31 + 1) = v
  by_cases z0 : v = 0
  · rw [if_pos z0]; exact arm0 H hx hs
  rw [if_neg z0]
  by_cases z1 : v = 1
  · rw [if_pos z1]; exact arm1 H hx hs
  rw [if_neg z1]
  by_cases z2 : v = 2
  · rw [if_pos z2]; exact arm2 H hx hs
  rw [if_neg z2]
  by_cases z3 : v = 3
  · rw [if_pos z3]; exact arm3 H hx hs
  rw [if_neg z3]
  by_cases z4 : v = 4
  · rw [if_pos z4]; exact arm4 H hx hs
  rw [if_neg z4]
  by_cases z5 : v = 5
  · rw [if_pos z5]; exact arm5 H hx hs
  rw [if_neg z5]
  by_cases z6 : v = 6
  · rw [if_pos z6]; exact arm6 H hx hs
  rw [if_neg z6]
  by_cases z7 : v = 7
  · rw [if_pos z7]; exact arm7 H hx hs
  rw [if_neg z7]
  by_cases z8 : v = 8
  · rw [if_pos z8]; exact arm8 H hx hs
  rw [if_neg z8]
  by_cases z9 : v = 9
  · rw [if_pos z9]; exact arm9 H hx hs
  rw [if_neg z9]
  by_cases z10 : v = 10
  · rw [if_pos z10]; exact arm10 H hx hs
  rw [if_neg z10]
  by_cases z11 : v = 11
  · rw [if_pos z11]; exact arm11 H hx hs
  rw [if_neg z11]
  by_cases z12 : v = 12
  · rw [if_pos z12]; exact arm12 H hx hs
  rw [if_neg z12]
  by_cases z13 : v = 13
  · rw [if_pos z13]; exact arm13 H hx hs
  rw [if_neg z13]
  by_cases z14 : v = 14
  · rw [if_pos z14]; exact arm14 H hx hs
  rw [if_neg z14]
  by_cases z15 : v = 15
  · rw [if_pos z15]; exact arm15 H hx hs
  rw [if_neg z15]
  by_cases z16 : v = 16
  · rw [if_pos z16]; exact arm16 H hx hs
  rw [if_neg z16]
  by_cases z17 : v = 17
  · rw [if_pos z17]; exact arm17 H hx hs
  rw [if_neg z17]
  by_cases z18 : v = 18
  · rw [if_pos z18]; exact arm18 H hx hs
  rw [if_neg z18]
  by_cases z19 : v = 19
  · rw [if_pos z19]; exact arm19 H hx hs
  rw [if_neg z19]
  by_cases z20 : v = 20
  · rw [if_pos z20]; exact arm20 H hx hs
  rw [if_neg z20]
  by_cases z21 : v = 21
  · rw [if_pos z21]; exact arm21 H hx hs
  rw [if_neg z21]
  by_cases z22 : v = 22
  · rw [if_pos z22]; exact arm22 H hx hs
  rw [if_neg z22]
  by_cases z23 : v = 23
  · rw [if_pos z23]; exact arm23 H hx hs
  rw [if_neg z23]
  by_cases z24 : v = 24
  · rw [if_pos z24]; exact arm24 H hx hs
  rw [if_neg z24]
  by_cases z25 : v = 25
  · rw [if_pos z25]; exact arm25 H hx hs
  rw [if_neg z25]
  exact armD H hx hs
/-- the whole loop -/
theorem law_all (hs : sc.1 ≤ 3072) : ∀ (m : Nat) (x : Int) (iv : Nat → Nat → Int) (w h n : Nat), 0 ≤ x → x ≤ 10000 → (sc.1 : Int) - x ≤ m → InvW iv w h n → ∃ iv2, Run sc 0 18 [some (Rf 0), some (Rf 1), some (Rf 52), some (I x)] [] (hp iv) = some (some (I 1), hp iv2) := by
  intro m
  induction m with
  | zero =>
    intro x iv w h n h0 h1 h2 H
    exact ⟨iv, by rw [B_L_law_18, chk_pos (by omega), ite_T (by omega), B_L_law_1036, bck_pos (by omega)]⟩
  | succ m ih =>
    intro x iv w h n h0 h1 h2 H
    by_cases z : x ≤ (sc.1 : Int) - 6
    · obtain ⟨iv2, w2, h2', n2, e, H2⟩ := disp H ⟨h0, z⟩ hs
      obtain ⟨iv3, e3⟩ := ih (x + 6) iv2 w2 h2' n2 (by omega) (by omega) (by omega) H2
      exact ⟨iv3, by rw [e, e3]⟩
    · exact ⟨iv, by rw [B_L_law_18, chk_pos (by omega), ite_T (by omega), B_L_law_1036, bck_pos (by omega)]⟩
end ARMS
