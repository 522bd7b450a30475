/-! the heap behind the constructors, and small facts of the tables -/
def CSL : List (Nat × Nat) := [(6, 6), (3, 5), (9, 7), (8, 576), (8, 576), (5, 2), (11, 6), (2, 9), (8, 288), (8, 288), (8, 288), (8, 288), (8, 288), (2, 9), (8, 288), (8, 288), (8, 288), (8, 288), (8, 288), (2, 9), (8, 288), (8, 288), (8, 288), (8, 288), (8, 288), (2, 9), (8, 288), (8, 288), (8, 288), (8, 288), (8, 288), (2, 9), (8, 288), (8, 288), (8, 288), (8, 288), (8, 288), (2, 9), (8, 288), (8, 288), (8, 288), (8, 288), (8, 288), (0, 6), (9, 625), (9, 625), (9, 625), (8, 625), (4, 4), (1, 4), (10, 120)]
def RFL : List (List Nat) := [[], [2, 6, 7, 44, 49, 50], [0, 0, 3, 4, 5], [], [], [], [], [8, 14, 20, 26, 32, 38], [2, 6, 0, 0, 9, 10, 11, 12, 13], [], [], [], [], [], [2, 6, 0, 0, 15, 16, 17, 18, 19], [], [], [], [], [], [2, 6, 0, 0, 21, 22, 23, 24, 25], [], [], [], [], [], [2, 6, 0, 0, 27, 28, 29, 30, 31], [], [], [], [], [], [2, 6, 0, 0, 33, 34, 35, 36, 37], [], [], [], [], [], [2, 6, 0, 0, 39, 40, 41, 42, 43], [], [], [], [], [], [2, 45, 46, 47, 48, 0], [], [], [], [], [2, 0, 0, 0], [51, 0, 0, 0], []]
def RFT (a j : Nat) : Nat := (RFL.getD a []).getD j 0
def hp (iv : Nat → Nat → Int) : AH := (CSL, RFT, iv)
def hq (cs : List (Nat × Nat)) (iv : Nat → Nat → Int) : AH := (CSL ++ cs, RFT, iv)
theorem kCR {k : Nat} (hk : k < 6) {iv : Nat → Nat → Int} : kOf (hp iv).1 (8 + 6 * k) = some (2, 9) := by
  have key : ∀ k : Nat, k < 6 → kOf CSL (8 + 6 * k) = some (2, 9) := by decide +kernel
  exact key k hk
theorem kCA0 {k : Nat} (hk : k < 6) {iv : Nat → Nat → Int} : kOf (hp iv).1 (9 + 6 * k) = some (8, 288) := by
  have key : ∀ k : Nat, k < 6 → kOf CSL (9 + 6 * k) = some (8, 288) := by decide +kernel
  exact key k hk
theorem kCA1 {k : Nat} (hk : k < 6) {iv : Nat → Nat → Int} : kOf (hp iv).1 (10 + 6 * k) = some (8, 288) := by
  have key : ∀ k : Nat, k < 6 → kOf CSL (10 + 6 * k) = some (8, 288) := by decide +kernel
  exact key k hk
theorem kCA2 {k : Nat} (hk : k < 6) {iv : Nat → Nat → Int} : kOf (hp iv).1 (11 + 6 * k) = some (8, 288) := by
  have key : ∀ k : Nat, k < 6 → kOf CSL (11 + 6 * k) = some (8, 288) := by decide +kernel
  exact key k hk
theorem kCA3 {k : Nat} (hk : k < 6) {iv : Nat → Nat → Int} : kOf (hp iv).1 (12 + 6 * k) = some (8, 288) := by
  have key : ∀ k : Nat, k < 6 → kOf CSL (12 + 6 * k) = some (8, 288) := by decide +kernel
  exact key k hk
theorem kCA4 {k : Nat} (hk : k < 6) {iv : Nat → Nat → Int} : kOf (hp iv).1 (13 + 6 * k) = some (8, 288) := by
  have key : ∀ k : Nat, k < 6 → kOf CSL (13 + 6 * k) = some (8, 288) := by decide +kernel
  exact key k hk
theorem rCR0 {k : Nat} (hk : k < 6) {iv : Nat → Nat → Int} : (hp iv).2.1 (8 + 6 * k) 0 = 2 := by
  have key : ∀ k : Nat, k < 6 → RFT (8 + 6 * k) 0 = 2 := by decide +kernel
  exact key k hk
theorem rCR1 {k : Nat} (hk : k < 6) {iv : Nat → Nat → Int} : (hp iv).2.1 (8 + 6 * k) 1 = 6 := by
  have key : ∀ k : Nat, k < 6 → RFT (8 + 6 * k) 1 = 6 := by decide +kernel
  exact key k hk
theorem rCR4 {k : Nat} (hk : k < 6) {iv : Nat → Nat → Int} : (hp iv).2.1 (8 + 6 * k) 4 = 9 + 6 * k := by
  have key : ∀ k : Nat, k < 6 → RFT (8 + 6 * k) 4 = 9 + 6 * k := by decide +kernel
  exact key k hk
theorem rCR5 {k : Nat} (hk : k < 6) {iv : Nat → Nat → Int} : (hp iv).2.1 (8 + 6 * k) 5 = 10 + 6 * k := by
  have key : ∀ k : Nat, k < 6 → RFT (8 + 6 * k) 5 = 10 + 6 * k := by decide +kernel
  exact key k hk
theorem rCR6 {k : Nat} (hk : k < 6) {iv : Nat → Nat → Int} : (hp iv).2.1 (8 + 6 * k) 6 = 11 + 6 * k := by
  have key : ∀ k : Nat, k < 6 → RFT (8 + 6 * k) 6 = 11 + 6 * k := by decide +kernel
  exact key k hk
theorem rCR7 {k : Nat} (hk : k < 6) {iv : Nat → Nat → Int} : (hp iv).2.1 (8 + 6 * k) 7 = 12 + 6 * k := by
  have key : ∀ k : Nat, k < 6 → RFT (8 + 6 * k) 7 = 12 + 6 * k := by decide +kernel
  exact key k hk
theorem rCR8 {k : Nat} (hk : k < 6) {iv : Nat → Nat → Int} : (hp iv).2.1 (8 + 6 * k) 8 = 13 + 6 * k := by
  have key : ∀ k : Nat, k < 6 → RFT (8 + 6 * k) 8 = 13 + 6 * k := by decide +kernel
  exact key k hk
theorem r7 {x : Int} (h : 0 ≤ x ∧ x ≤ 5) {iv : Nat → Nat → Int} : (hp iv).2.1 7 x.toNat = 8 + 6 * x.toNat := by
  have key : ∀ k : Nat, k < 6 → RFT 7 k = 8 + 6 * k := by decide +kernel
  exact key _ (by omega)
theorem hkI {x : Int} (h : 0 ≤ x ∧ x ≤ 5) : x.toNat < 6 := by omega
theorem mc_0 : mCode 0 = cL_law := rfl
theorem mo_0 : mOwn 0 = 7 := rfl
theorem mc_1 : mCode 1 = cX0_init := rfl
theorem mo_1 : mOwn 1 = 0 := rfl
theorem mc_2 : mCode 2 = cX0_removeAll := rfl
theorem mo_2 : mOwn 2 = 0 := rfl
theorem mc_3 : mCode 3 = cX0_hasEdge := rfl
theorem mo_3 : mOwn 3 = 0 := rfl
theorem mc_4 : mCode 4 = cX0_stitchesAt := rfl
theorem mo_4 : mOwn 4 = 0 := rfl
theorem mc_5 : mCode 5 = cX0_put := rfl
theorem mo_5 : mOwn 5 = 0 := rfl
theorem mc_6 : mCode 6 = cX0_addOutline := rfl
theorem mo_6 : mOwn 6 = 0 := rfl
theorem mc_7 : mCode 7 = cX0_edges := rfl
theorem mo_7 : mOwn 7 = 0 := rfl
theorem mc_8 : mCode 8 = cX0_stitchesAtPoint := rfl
theorem mo_8 : mOwn 8 = 0 := rfl
theorem mc_9 : mCode 9 = cX0_oddPoints := rfl
theorem mo_9 : mOwn 9 = 0 := rfl
theorem mc_10 : mCode 10 = cX0_groups := rfl
theorem mo_10 : mOwn 10 = 0 := rfl
theorem mc_11 : mCode 11 = cX0_strands := rfl
theorem mo_11 : mOwn 11 = 0 := rfl
theorem mc_12 : mCode 12 = cX0_sumOverGroups := rfl
theorem mo_12 : mOwn 12 = 0 := rfl
theorem mc_13 : mCode 13 = cX0_reach := rfl
theorem mo_13 : mOwn 13 = 0 := rfl
theorem mc_14 : mCode 14 = cX0_oddPointsOfGroup := rfl
theorem mo_14 : mOwn 14 = 0 := rfl
theorem mc_15 : mCode 15 = cX0_reachNextPoints := rfl
theorem mo_15 : mOwn 15 = 0 := rfl
theorem mc_16 : mCode 16 = cX1_init := rfl
theorem mo_16 : mOwn 16 = 1 := rfl
theorem mc_17 : mCode 17 = cX1_append := rfl
theorem mo_17 : mOwn 17 = 1 := rfl
theorem mc_18 : mCode 18 = cX1_characterAt := rfl
theorem mo_18 : mOwn 18 = 1 := rfl
theorem mc_19 : mCode 19 = cX1_isDigit := rfl
theorem mo_19 : mOwn 19 = 1 := rfl
theorem mc_20 : mCode 20 = cX1_isEntry := rfl
theorem mo_20 : mOwn 20 = 1 := rfl
theorem mc_21 : mCode 21 = cX1_colorOf := rfl
theorem mo_21 : mOwn 21 = 1 := rfl
theorem mc_22 : mCode 22 = cX1_startNumber := rfl
theorem mo_22 : mOwn 22 = 1 := rfl
theorem mc_23 : mCode 23 = cX1_addDigit := rfl
theorem mo_23 : mOwn 23 = 1 := rfl
theorem mc_24 : mCode 24 = cX1_numberOfCells := rfl
theorem mo_24 : mOwn 24 = 1 := rfl
theorem mc_25 : mCode 25 = cX1_findFault := rfl
theorem mo_25 : mOwn 25 = 1 := rfl
theorem mc_26 : mCode 26 = cX1_findMisplaced := rfl
theorem mo_26 : mOwn 26 = 1 := rfl
theorem mc_27 : mCode 27 = cX1_fits := rfl
theorem mo_27 : mOwn 27 = 1 := rfl
theorem mc_28 : mCode 28 = cX1_drawOn := rfl
theorem mo_28 : mOwn 28 = 1 := rfl
theorem mc_29 : mCode 29 = cX2_init := rfl
theorem mo_29 : mOwn 29 = 2 := rfl
theorem mc_30 : mCode 30 = cX2_has := rfl
theorem mo_30 : mOwn 30 = 2 := rfl
theorem mc_31 : mCode 31 = cX2_findRuns := rfl
theorem mo_31 : mOwn 31 = 2 := rfl
theorem mc_32 : mCode 32 = cX2_addRun := rfl
theorem mo_32 : mOwn 32 = 2 := rfl
theorem mc_33 : mCode 33 = cX2_makeOrderFirst := rfl
theorem mo_33 : mOwn 33 = 2 := rfl
theorem mc_34 : mCode 34 = cX2_nearestWithoutPlace := rfl
theorem mo_34 : mOwn 34 = 2 := rfl
theorem mc_35 : mCode 35 = cX2_wayBetween := rfl
theorem mo_35 : mOwn 35 = 2 := rfl
theorem mc_36 : mCode 36 = cX2_runAtPlace := rfl
theorem mo_36 : mOwn 36 = 2 := rfl
theorem mc_37 : mCode 37 = cX2_costBetween := rfl
theorem mo_37 : mOwn 37 = 2 := rfl
theorem mc_38 : mCode 38 = cX2_stitches := rfl
theorem mo_38 : mOwn 38 = 2 := rfl
theorem mc_39 : mCode 39 = cX2_threadLength := rfl
theorem mo_39 : mOwn 39 = 2 := rfl
theorem mc_40 : mCode 40 = cX2_starts := rfl
theorem mo_40 : mOwn 40 = 2 := rfl
theorem mc_41 : mCode 41 = cX2_relocate := rfl
theorem mo_41 : mOwn 41 = 2 := rfl
theorem mc_42 : mCode 42 = cX2_lay := rfl
theorem mo_42 : mOwn 42 = 2 := rfl
theorem mc_43 : mCode 43 = cX2_shortenOrder := rfl
theorem mo_43 : mOwn 43 = 2 := rfl
theorem mc_44 : mCode 44 = cX2_shortenOnce := rfl
theorem mo_44 : mOwn 44 = 2 := rfl
theorem mc_45 : mCode 45 = cX2_savedByMove := rfl
theorem mo_45 : mOwn 45 = 2 := rfl
theorem mc_46 : mCode 46 = cX2_runsOnPage := rfl
theorem mo_46 : mOwn 46 = 2 := rfl
theorem mc_47 : mCode 47 = cX2_startsOnPage := rfl
theorem mo_47 : mOwn 47 = 2 := rfl
theorem mc_48 : mCode 48 = cX3_init := rfl
theorem mo_48 : mOwn 48 = 3 := rfl
theorem mc_49 : mCode 49 = cX3_startAnew := rfl
theorem mo_49 : mOwn 49 = 3 := rfl
theorem mc_50 : mCode 50 = cX3_has := rfl
theorem mo_50 : mOwn 50 = 3 := rfl
theorem mc_51 : mCode 51 = cX3_colorAt := rfl
theorem mo_51 : mOwn 51 = 3 := rfl
theorem mc_52 : mCode 52 = cX3_put := rfl
theorem mo_52 : mOwn 52 = 3 := rfl
theorem mc_53 : mCode 53 = cX3_touch := rfl
theorem mo_53 : mOwn 53 = 3 := rfl
theorem mc_54 : mCode 54 = cX3_putRow := rfl
theorem mo_54 : mOwn 54 = 3 := rfl
theorem mc_55 : mCode 55 = cX3_neighborsOfColor := rfl
theorem mo_55 : mOwn 55 = 3 := rfl
theorem mc_56 : mCode 56 = cX3_standsAlone := rfl
theorem mo_56 : mOwn 56 = 3 := rfl
theorem mc_57 : mCode 57 = cX3_loneStitches := rfl
theorem mo_57 : mOwn 57 = 3 := rfl
theorem mc_58 : mCode 58 = cX3_colorAfterMerging := rfl
theorem mo_58 : mOwn 58 = 3 := rfl
theorem mc_59 : mCode 59 = cX3_mergeOnce := rfl
theorem mo_59 : mOwn 59 = 3 := rfl
theorem mc_60 : mCode 60 = cX4_init := rfl
theorem mo_60 : mOwn 60 = 4 := rfl
theorem mc_61 : mCode 61 = cX4_step := rfl
theorem mo_61 : mOwn 61 = 4 := rfl
theorem mc_62 : mCode 62 = cX4_pagesAlong := rfl
theorem mo_62 : mOwn 62 = 4 := rfl
theorem mc_63 : mCode 63 = cX4_pagesAcross := rfl
theorem mo_63 : mOwn 63 = 4 := rfl
theorem mc_64 : mCode 64 = cX4_total := rfl
theorem mo_64 : mOwn 64 = 4 := rfl
theorem mc_65 : mCode 65 = cX4_has := rfl
theorem mo_65 : mOwn 65 = 4 := rfl
theorem mc_66 : mCode 66 = cX4_left := rfl
theorem mo_66 : mOwn 66 = 4 := rfl
theorem mc_67 : mCode 67 = cX4_top := rfl
theorem mo_67 : mOwn 67 = 4 := rfl
theorem mc_68 : mCode 68 = cX4_shownColumns := rfl
theorem mo_68 : mOwn 68 = 4 := rfl
theorem mc_69 : mCode 69 = cX4_shownLines := rfl
theorem mo_69 : mOwn 69 = 4 := rfl
theorem mc_70 : mCode 70 = cX4_firstShowing := rfl
theorem mo_70 : mOwn 70 = 4 := rfl
theorem mc_71 : mCode 71 = cX4_owner := rfl
theorem mo_71 : mOwn 71 = 4 := rfl
theorem mc_72 : mCode 72 = cX4_tally := rfl
theorem mo_72 : mOwn 72 = 4 := rfl
theorem mc_73 : mCode 73 = cX5_init := rfl
theorem mo_73 : mOwn 73 = 5 := rfl
theorem mc_74 : mCode 74 = cX5_carries := rfl
theorem mo_74 : mOwn 74 = 5 := rfl
theorem mc_75 : mCode 75 = cX5_cost := rfl
theorem mo_75 : mOwn 75 = 5 := rfl
theorem mc_76 : mCode 76 = cX6_init := rfl
theorem mo_76 : mOwn 76 = 6 := rfl
theorem mc_77 : mCode 77 = cX6_reset := rfl
theorem mo_77 : mOwn 77 = 6 := rfl
theorem mc_78 : mCode 78 = cX6_type := rfl
theorem mo_78 : mOwn 78 = 6 := rfl
theorem mc_79 : mCode 79 = cX6_clearText := rfl
theorem mo_79 : mOwn 79 = 6 := rfl
theorem mc_80 : mCode 80 = cX6_readChart := rfl
theorem mo_80 : mOwn 80 = 6 := rfl
theorem mc_81 : mCode 81 = cX6_setCell := rfl
theorem mo_81 : mOwn 81 = 6 := rfl
theorem mc_82 : mCode 82 = cX6_fill := rfl
theorem mo_82 : mOwn 82 = 6 := rfl
theorem mc_83 : mCode 83 = cX6_cell := rfl
theorem mo_83 : mOwn 83 = 6 := rfl
theorem mc_84 : mCode 84 = cX6_count := rfl
theorem mo_84 : mOwn 84 = 6 := rfl
theorem mc_85 : mCode 85 = cX6_isLone := rfl
theorem mo_85 : mOwn 85 = 6 := rfl
theorem mc_86 : mCode 86 = cX6_merge := rfl
theorem mo_86 : mOwn 86 = 6 := rfl
theorem mc_87 : mCode 87 = cX6_run := rfl
theorem mo_87 : mOwn 87 = 6 := rfl
theorem mc_88 : mCode 88 = cX6_runAt := rfl
theorem mo_88 : mOwn 88 = 6 := rfl
theorem mc_89 : mCode 89 = cX6_moveRun := rfl
theorem mo_89 : mOwn 89 = 6 := rfl
theorem mc_90 : mCode 90 = cX6_firstOrder := rfl
theorem mo_90 : mOwn 90 = 6 := rfl
theorem mc_91 : mCode 91 = cX6_shorten := rfl
theorem mo_91 : mOwn 91 = 6 := rfl
theorem mc_92 : mCode 92 = cX6_setThread := rfl
theorem mo_92 : mOwn 92 = 6 := rfl
theorem mc_93 : mCode 93 = cX6_setBack := rfl
theorem mo_93 : mOwn 93 = 6 := rfl
theorem mc_94 : mCode 94 = cX6_back := rfl
theorem mo_94 : mOwn 94 = 6 := rfl
theorem mc_95 : mCode 95 = cX6_outline := rfl
theorem mo_95 : mOwn 95 = 6 := rfl
theorem mc_96 : mCode 96 = cX6_clearBack := rfl
theorem mo_96 : mOwn 96 = 6 := rfl
theorem mc_97 : mCode 97 = cX6_backs := rfl
theorem mo_97 : mOwn 97 = 6 := rfl
theorem mc_98 : mCode 98 = cX6_setPages := rfl
theorem mo_98 : mOwn 98 = 6 := rfl
theorem mc_99 : mCode 99 = cX6_page := rfl
theorem mo_99 : mOwn 99 = 6 := rfl
theorem mc_100 : mCode 100 = cX6_onPage := rfl
theorem mo_100 : mOwn 100 = 6 := rfl
theorem mc_101 : mCode 101 = cX6_pages := rfl
theorem mo_101 : mOwn 101 = 6 := rfl
theorem mc_102 : mCode 102 = cX6_pageOf := rfl
theorem mo_102 : mOwn 102 = 6 := rfl
theorem mc_103 : mCode 103 = cX6_isWithin := rfl
theorem mo_103 : mOwn 103 = 6 := rfl
theorem mc_104 : mCode 104 = cX6_isColor := rfl
theorem mo_104 : mOwn 104 = 6 := rfl
theorem mc_105 : mCode 105 = cX6_runsOf := rfl
theorem mo_105 : mOwn 105 = 6 := rfl
theorem mc_106 : mCode 106 = cX6_countOfColor := rfl
theorem mo_106 : mOwn 106 = 6 := rfl
theorem mc_107 : mCode 107 = cX6_countOfColorOnPage := rfl
theorem mo_107 : mOwn 107 = 6 := rfl
theorem mc_108 : mCode 108 = cL_cell := rfl
theorem mo_108 : mOwn 108 = 7 := rfl
theorem mc_109 : mCode 109 = cL_low := rfl
theorem mo_109 : mOwn 109 = 7 := rfl
theorem mc_110 : mCode 110 = cL_size := rfl
theorem mo_110 : mOwn 110 = 7 := rfl
theorem mc_111 : mCode 111 = cL_runs := rfl
theorem mo_111 : mOwn 111 = 7 := rfl
theorem mc_112 : mCode 112 = cL_nearest := rfl
theorem mo_112 : mOwn 112 = 7 := rfl
theorem mc_113 : mCode 113 = cL_lone := rfl
theorem mo_113 : mOwn 113 = 7 := rfl
theorem mc_114 : mCode 114 = cL_alone := rfl
theorem mo_114 : mOwn 114 = 7 := rfl
theorem mc_115 : mCode 115 = cL_merges := rfl
theorem mo_115 : mOwn 115 = 7 := rfl
theorem mc_116 : mCode 116 = cL_at := rfl
theorem mo_116 : mOwn 116 = 7 := rfl
theorem mc_117 : mCode 117 = cL_backs := rfl
theorem mo_117 : mOwn 117 = 7 := rfl
theorem mc_118 : mCode 118 = cL_outlines := rfl
theorem mo_118 : mOwn 118 = 7 := rfl
theorem mc_119 : mCode 119 = cL_pages := rfl
theorem mo_119 : mOwn 119 = 7 := rfl
theorem mc_120 : mCode 120 = cL_orders := rfl
theorem mo_120 : mOwn 120 = 7 := rfl
theorem mc_121 : mCode 121 = cL_texts := rfl
theorem mo_121 : mOwn 121 = 7 := rfl
theorem mc_122 : mCode 122 = cL_errors := rfl
theorem mo_122 : mOwn 122 = 7 := rfl
theorem ft_0_11 : alook (fTab 0) 11 = some (0, 0) := rfl
theorem ft_0_15 : alook (fTab 0) 15 = some (0, 1) := rfl
theorem ft_0_19 : alook (fTab 0) 19 = some (0, 2) := rfl
theorem ft_0_22 : alook (fTab 0) 22 = some (0, 3) := rfl
theorem ft_0_25 : alook (fTab 0) 25 = some (0, 4) := rfl
theorem ft_0_29 : alook (fTab 0) 29 = some (3, 0) := rfl
theorem ft_0_35 : alook (fTab 0) 35 = some (3, 1) := rfl
theorem ft_0_77 : alook (fTab 0) 77 = some (0, 5) := rfl
theorem ct_0_5 : alook (cTab 0) 5 = some (0, 0, 5) := rfl
theorem ct_0_38 : alook (cTab 0) 38 = some (3, 3, 0) := rfl
theorem ct_0_42 : alook (cTab 0) 42 = some (4, 3, 0) := rfl
theorem ct_0_46 : alook (cTab 0) 46 = some (51, 2, 0) := rfl
theorem ct_0_50 : alook (cTab 0) 50 = some (5, 4, 0) := rfl
theorem ct_0_54 : alook (cTab 0) 54 = some (8, 2, 0) := rfl
theorem ct_0_57 : alook (cTab 0) 57 = some (12, 1, 0) := rfl
theorem ct_0_61 : alook (cTab 0) 61 = some (13, 3, 0) := rfl
theorem ct_0_64 : alook (cTab 0) 64 = some (14, 0, 0) := rfl
theorem ct_0_68 : alook (cTab 0) 68 = some (0, 2, 6) := rfl
theorem ct_0_73 : alook (cTab 0) 73 = some (103, 3, 2) := rfl
theorem ct_0_80 : alook (cTab 0) 80 = some (15, 2, 0) := rfl
theorem ft_1_9 : alook (fTab 1) 9 = some (1, 0) := rfl
theorem ft_1_13 : alook (fTab 1) 13 = some (1, 1) := rfl
theorem ft_1_23 : alook (fTab 1) 23 = some (1, 2) := rfl
theorem ft_1_26 : alook (fTab 1) 26 = some (1, 3) := rfl
theorem ct_1_1 : alook (cTab 1) 1 = some (0, 0, 5) := rfl
theorem ct_1_17 : alook (cTab 1) 17 = some (103, 3, 2) := rfl
theorem ct_1_29 : alook (cTab 1) 29 = some (26, 0, 0) := rfl
theorem ct_1_33 : alook (cTab 1) 33 = some (27, 2, 0) := rfl
theorem ct_1_37 : alook (cTab 1) 37 = some (22, 0, 0) := rfl
theorem ct_1_40 : alook (cTab 1) 40 = some (18, 1, 0) := rfl
theorem ct_1_44 : alook (cTab 1) 44 = some (19, 1, 1) := rfl
theorem ct_1_48 : alook (cTab 1) 48 = some (23, 1, 0) := rfl
theorem ct_1_52 : alook (cTab 1) 52 = some (24, 0, 0) := rfl
theorem ct_1_55 : alook (cTab 1) 55 = some (20, 1, 1) := rfl
theorem ct_1_58 : alook (cTab 1) 58 = some (21, 1, 1) := rfl
theorem ct_1_62 : alook (cTab 1) 62 = some (54, 4, 0) := rfl
theorem ft_2_9 : alook (fTab 2) 9 = some (2, 0) := rfl
theorem ft_2_15 : alook (fTab 2) 15 = some (2, 1) := rfl
theorem ft_2_19 : alook (fTab 2) 19 = some (2, 2) := rfl
theorem ft_2_23 : alook (fTab 2) 23 = some (2, 4) := rfl
theorem ft_2_27 : alook (fTab 2) 27 = some (2, 5) := rfl
theorem ft_2_30 : alook (fTab 2) 30 = some (2, 6) := rfl
theorem ft_2_33 : alook (fTab 2) 33 = some (2, 7) := rfl
theorem ft_2_36 : alook (fTab 2) 36 = some (2, 8) := rfl
theorem ft_2_39 : alook (fTab 2) 39 = some (2, 3) := rfl
theorem ft_2_42 : alook (fTab 2) 42 = some (3, 1) := rfl
theorem ft_2_47 : alook (fTab 2) 47 = some (3, 0) := rfl
theorem ft_2_79 : alook (fTab 2) 79 = some (5, 1) := rfl
theorem ct_2_3 : alook (cTab 2) 3 = some (0, 0, 5) := rfl
theorem ct_2_50 : alook (cTab 2) 50 = some (51, 2, 0) := rfl
theorem ct_2_54 : alook (cTab 2) 54 = some (32, 2, 0) := rfl
theorem ct_2_58 : alook (cTab 2) 58 = some (34, 1, 0) := rfl
theorem ct_2_62 : alook (cTab 2) 62 = some (30, 1, 0) := rfl
theorem ct_2_66 : alook (cTab 2) 66 = some (35, 2, 0) := rfl
theorem ct_2_69 : alook (cTab 2) 69 = some (0, 1, 8) := rfl
theorem ct_2_74 : alook (cTab 2) 74 = some (75, 1, 0) := rfl
theorem ct_2_82 : alook (cTab 2) 82 = some (38, 0, 0) := rfl
theorem ct_2_86 : alook (cTab 2) 86 = some (36, 1, 0) := rfl
theorem ct_2_89 : alook (cTab 2) 89 = some (37, 2, 0) := rfl
theorem ct_2_92 : alook (cTab 2) 92 = some (74, 1, 0) := rfl
theorem ct_2_95 : alook (cTab 2) 95 = some (42, 2, 0) := rfl
theorem ct_2_99 : alook (cTab 2) 99 = some (44, 0, 0) := rfl
theorem ct_2_102 : alook (cTab 2) 102 = some (45, 2, 0) := rfl
theorem ct_2_105 : alook (cTab 2) 105 = some (41, 2, 0) := rfl
theorem ct_2_108 : alook (cTab 2) 108 = some (71, 2, 0) := rfl
theorem ft_3_9 : alook (fTab 3) 9 = some (3, 0) := rfl
theorem ft_3_15 : alook (fTab 3) 15 = some (3, 1) := rfl
theorem ft_3_18 : alook (fTab 3) 18 = some (3, 2) := rfl
theorem ft_3_22 : alook (fTab 3) 22 = some (3, 3) := rfl
theorem ft_3_26 : alook (fTab 3) 26 = some (3, 4) := rfl
theorem ct_3_3 : alook (cTab 3) 3 = some (0, 0, 5) := rfl
theorem ct_3_29 : alook (cTab 3) 29 = some (50, 2, 0) := rfl
theorem ct_3_33 : alook (cTab 3) 33 = some (51, 2, 0) := rfl
theorem ct_3_37 : alook (cTab 3) 37 = some (103, 3, 2) := rfl
theorem ct_3_41 : alook (cTab 3) 41 = some (53, 1, 0) := rfl
theorem ct_3_45 : alook (cTab 3) 45 = some (52, 3, 0) := rfl
theorem ct_3_49 : alook (cTab 3) 49 = some (55, 3, 0) := rfl
theorem ct_3_52 : alook (cTab 3) 52 = some (56, 2, 0) := rfl
theorem ct_3_55 : alook (cTab 3) 55 = some (58, 2, 0) := rfl
theorem ft_4_7 : alook (fTab 4) 7 = some (4, 1) := rfl
theorem ft_4_13 : alook (fTab 4) 13 = some (4, 2) := rfl
theorem ft_4_16 : alook (fTab 4) 16 = some (4, 3) := rfl
theorem ft_4_19 : alook (fTab 4) 19 = some (4, 0) := rfl
theorem ft_4_27 : alook (fTab 4) 27 = some (3, 0) := rfl
theorem ft_4_45 : alook (fTab 4) 45 = some (3, 1) := rfl
theorem ct_4_1 : alook (cTab 4) 1 = some (0, 0, 5) := rfl
theorem ct_4_23 : alook (cTab 4) 23 = some (61, 1, 0) := rfl
theorem ct_4_32 : alook (cTab 4) 32 = some (62, 2, 0) := rfl
theorem ct_4_36 : alook (cTab 4) 36 = some (0, 2, 6) := rfl
theorem ct_4_41 : alook (cTab 4) 41 = some (63, 0, 0) := rfl
theorem ct_4_48 : alook (cTab 4) 48 = some (64, 0, 0) := rfl
theorem ct_4_51 : alook (cTab 4) 51 = some (103, 3, 2) := rfl
theorem ct_4_57 : alook (cTab 4) 57 = some (66, 1, 0) := rfl
theorem ct_4_60 : alook (cTab 4) 60 = some (0, 2, 7) := rfl
theorem ct_4_63 : alook (cTab 4) 63 = some (67, 1, 0) := rfl
theorem ct_4_66 : alook (cTab 4) 66 = some (70, 2, 0) := rfl
theorem ct_4_69 : alook (cTab 4) 69 = some (71, 2, 0) := rfl
theorem ct_4_72 : alook (cTab 4) 72 = some (51, 2, 0) := rfl
theorem ft_5_7 : alook (fTab 5) 7 = some (5, 0) := rfl
theorem ft_5_13 : alook (fTab 5) 13 = some (5, 1) := rfl
theorem ct_5_1 : alook (cTab 5) 1 = some (0, 0, 5) := rfl
theorem ct_5_16 : alook (cTab 5) 16 = some (74, 1, 0) := rfl
theorem ft_6_10 : alook (fTab 6) 10 = some (6, 0) := rfl
theorem ft_6_19 : alook (fTab 6) 19 = some (6, 1) := rfl
theorem ft_6_25 : alook (fTab 6) 25 = some (6, 2) := rfl
theorem ft_6_37 : alook (fTab 6) 37 = some (6, 3) := rfl
theorem ft_6_44 : alook (fTab 6) 44 = some (6, 4) := rfl
theorem ft_6_51 : alook (fTab 6) 51 = some (6, 5) := rfl
theorem ft_6_70 : alook (fTab 6) 70 = some (1, 1) := rfl
theorem ft_6_74 : alook (fTab 6) 74 = some (3, 0) := rfl
theorem ft_6_77 : alook (fTab 6) 77 = some (3, 1) := rfl
theorem ft_6_123 : alook (fTab 6) 123 = some (2, 4) := rfl
theorem ft_6_127 : alook (fTab 6) 127 = some (2, 5) := rfl
theorem ft_6_130 : alook (fTab 6) 130 = some (2, 6) := rfl
theorem ft_6_133 : alook (fTab 6) 133 = some (2, 8) := rfl
theorem ft_6_136 : alook (fTab 6) 136 = some (2, 7) := rfl
theorem ft_6_151 : alook (fTab 6) 151 = some (5, 1) := rfl
theorem ft_6_154 : alook (fTab 6) 154 = some (5, 0) := rfl
theorem ft_6_184 : alook (fTab 6) 184 = some (4, 1) := rfl
theorem ft_6_187 : alook (fTab 6) 187 = some (4, 2) := rfl
theorem ft_6_190 : alook (fTab 6) 190 = some (4, 3) := rfl
theorem ft_6_219 : alook (fTab 6) 219 = some (3, 2) := rfl
theorem ft_6_232 : alook (fTab 6) 232 = some (2, 3) := rfl
theorem ct_6_1 : alook (cTab 6) 1 = some (0, 0, 5) := rfl
theorem ct_6_9 : alook (cTab 6) 9 = some (48, 0, 3) := rfl
theorem ct_6_18 : alook (cTab 6) 18 = some (73, 0, 4) := rfl
theorem ct_6_29 : alook (cTab 6) 29 = some (29, 3, 3) := rfl
theorem ct_6_34 : alook (cTab 6) 34 = some (1, 1, 3) := rfl
theorem ct_6_43 : alook (cTab 6) 43 = some (60, 1, 3) := rfl
theorem ct_6_50 : alook (cTab 6) 50 = some (16, 0, 3) := rfl
theorem ct_6_55 : alook (cTab 6) 55 = some (103, 3, 1) := rfl
theorem ct_6_59 : alook (cTab 6) 59 = some (49, 2, 0) := rfl
theorem ct_6_63 : alook (cTab 6) 63 = some (2, 0, 0) := rfl
theorem ct_6_66 : alook (cTab 6) 66 = some (17, 1, 0) := rfl
theorem ct_6_80 : alook (cTab 6) 80 = some (25, 2, 0) := rfl
theorem ct_6_84 : alook (cTab 6) 84 = some (28, 1, 0) := rfl
theorem ct_6_88 : alook (cTab 6) 88 = some (50, 2, 0) := rfl
theorem ct_6_92 : alook (cTab 6) 92 = some (51, 2, 0) := rfl
theorem ct_6_95 : alook (cTab 6) 95 = some (52, 3, 0) := rfl
theorem ct_6_99 : alook (cTab 6) 99 = some (54, 4, 0) := rfl
theorem ct_6_103 : alook (cTab 6) 103 = some (106, 2, 0) := rfl
theorem ct_6_106 : alook (cTab 6) 106 = some (56, 2, 0) := rfl
theorem ct_6_109 : alook (cTab 6) 109 = some (59, 0, 0) := rfl
theorem ct_6_113 : alook (cTab 6) 113 = some (104, 1, 1) := rfl
theorem ct_6_117 : alook (cTab 6) 117 = some (105, 1, 0) := rfl
theorem ct_6_121 : alook (cTab 6) 121 = some (30, 1, 0) := rfl
theorem ct_6_139 : alook (cTab 6) 139 = some (41, 2, 0) := rfl
theorem ct_6_142 : alook (cTab 6) 142 = some (39, 0, 0) := rfl
theorem ct_6_145 : alook (cTab 6) 145 = some (33, 0, 0) := rfl
theorem ct_6_148 : alook (cTab 6) 148 = some (43, 0, 0) := rfl
theorem ct_6_157 : alook (cTab 6) 157 = some (3, 3, 0) := rfl
theorem ct_6_161 : alook (cTab 6) 161 = some (5, 4, 0) := rfl
theorem ct_6_164 : alook (cTab 6) 164 = some (4, 3, 0) := rfl
theorem ct_6_168 : alook (cTab 6) 168 = some (6, 1, 0) := rfl
theorem ct_6_172 : alook (cTab 6) 172 = some (7, 0, 0) := rfl
theorem ct_6_175 : alook (cTab 6) 175 = some (10, 0, 0) := rfl
theorem ct_6_178 : alook (cTab 6) 178 = some (11, 0, 0) := rfl
theorem ct_6_181 : alook (cTab 6) 181 = some (9, 0, 0) := rfl
theorem ct_6_193 : alook (cTab 6) 193 = some (64, 0, 0) := rfl
theorem ct_6_196 : alook (cTab 6) 196 = some (65, 1, 0) := rfl
theorem ct_6_197 : alook (cTab 6) 197 = some (66, 1, 0) := rfl
theorem ct_6_200 : alook (cTab 6) 200 = some (67, 1, 0) := rfl
theorem ct_6_203 : alook (cTab 6) 203 = some (68, 1, 0) := rfl
theorem ct_6_206 : alook (cTab 6) 206 = some (69, 1, 0) := rfl
theorem ct_6_209 : alook (cTab 6) 209 = some (72, 4, 0) := rfl
theorem ct_6_213 : alook (cTab 6) 213 = some (107, 3, 0) := rfl
theorem ct_6_216 : alook (cTab 6) 216 = some (71, 2, 0) := rfl
theorem ct_6_223 : alook (cTab 6) 223 = some (31, 0, 0) := rfl
theorem ct_6_226 : alook (cTab 6) 226 = some (38, 0, 0) := rfl
theorem ct_6_229 : alook (cTab 6) 229 = some (57, 1, 0) := rfl
theorem ct_6_235 : alook (cTab 6) 235 = some (40, 0, 0) := rfl
theorem ct_6_238 : alook (cTab 6) 238 = some (46, 2, 0) := rfl
theorem ct_6_242 : alook (cTab 6) 242 = some (47, 2, 0) := rfl
theorem ct_7_9 : alook (cTab 7) 9 = some (84, 2, 0) := rfl
theorem ct_7_15 : alook (cTab 7) 15 = some (83, 2, 0) := rfl
theorem ct_7_18 : alook (cTab 7) 18 = some (87, 3, 0) := rfl
theorem ct_7_22 : alook (cTab 7) 22 = some (88, 2, 0) := rfl
theorem ct_7_25 : alook (cTab 7) 25 = some (110, 1, 1) := rfl
theorem ct_7_31 : alook (cTab 7) 31 = some (113, 3, 1) := rfl
theorem ct_7_35 : alook (cTab 7) 35 = some (85, 2, 0) := rfl
theorem ct_7_38 : alook (cTab 7) 38 = some (86, 1, 0) := rfl
theorem ct_7_41 : alook (cTab 7) 41 = some (94, 3, 0) := rfl
theorem ct_7_45 : alook (cTab 7) 45 = some (116, 3, 1) := rfl
theorem ct_7_48 : alook (cTab 7) 48 = some (97, 1, 0) := rfl
theorem ct_7_51 : alook (cTab 7) 51 = some (96, 0, 0) := rfl
theorem ct_7_55 : alook (cTab 7) 55 = some (95, 1, 0) := rfl
theorem ct_7_58 : alook (cTab 7) 58 = some (101, 0, 0) := rfl
theorem ct_7_61 : alook (cTab 7) 61 = some (109, 2, 1) := rfl
theorem ct_7_64 : alook (cTab 7) 64 = some (99, 2, 0) := rfl
theorem ct_7_67 : alook (cTab 7) 67 = some (100, 3, 0) := rfl
theorem ct_7_70 : alook (cTab 7) 70 = some (102, 2, 0) := rfl
theorem ct_7_73 : alook (cTab 7) 73 = some (89, 3, 0) := rfl
theorem ct_7_76 : alook (cTab 7) 76 = some (91, 1, 0) := rfl
theorem ct_7_79 : alook (cTab 7) 79 = some (90, 1, 0) := rfl
theorem ct_7_82 : alook (cTab 7) 82 = some (112, 2, 1) := rfl
theorem ct_7_86 : alook (cTab 7) 86 = some (79, 0, 0) := rfl
theorem ct_7_89 : alook (cTab 7) 89 = some (78, 1, 0) := rfl
theorem ct_7_93 : alook (cTab 7) 93 = some (80, 0, 0) := rfl
theorem ct_7_96 : alook (cTab 7) 96 = some (77, 2, 0) := rfl
theorem ct_7_99 : alook (cTab 7) 99 = some (81, 3, 0) := rfl
theorem ct_7_102 : alook (cTab 7) 102 = some (82, 5, 0) := rfl
theorem ct_7_106 : alook (cTab 7) 106 = some (92, 2, 0) := rfl
theorem ct_7_109 : alook (cTab 7) 109 = some (98, 3, 0) := rfl
theorem ct_7_112 : alook (cTab 7) 112 = some (93, 4, 0) := rfl
theorem ct_7_116 : alook (cTab 7) 116 = some (76, 0, 3) := rfl
theorem ct_7_117 : alook (cTab 7) 117 = some (108, 2, 1) := rfl
theorem ct_7_120 : alook (cTab 7) 120 = some (115, 3, 1) := rfl
theorem ct_7_124 : alook (cTab 7) 124 = some (120, 3, 1) := rfl
theorem ct_7_127 : alook (cTab 7) 127 = some (118, 4, 1) := rfl
theorem ct_7_131 : alook (cTab 7) 131 = some (111, 5, 1) := rfl
theorem ct_7_135 : alook (cTab 7) 135 = some (114, 3, 1) := rfl
theorem ct_7_138 : alook (cTab 7) 138 = some (117, 4, 1) := rfl
theorem ct_7_140 : alook (cTab 7) 140 = some (119, 4, 1) := rfl
theorem ct_7_142 : alook (cTab 7) 142 = some (121, 2, 1) := rfl
theorem ct_7_145 : alook (cTab 7) 145 = some (122, 3, 1) := rfl
theorem af_0_77 : aFit 0 77 := by decide
theorem af_0_81 : aFit 0 81 := by decide
theorem af_0_82 : aFit 0 82 := by decide
theorem af_0_83 : aFit 0 83 := by decide
theorem af_0_86 : aFit 0 86 := by decide
theorem af_0_92 : aFit 0 92 := by decide
theorem af_0_93 : aFit 0 93 := by decide
theorem af_0_94 : aFit 0 94 := by decide
theorem af_0_98 : aFit 0 98 := by decide
theorem af_0_101 : aFit 0 101 := by decide
theorem af_0_108 : aFit 0 108 := by decide
theorem af_0_109 : aFit 0 109 := by decide
theorem af_0_111 : aFit 0 111 := by decide
theorem af_0_112 : aFit 0 112 := by decide
theorem af_0_114 : aFit 0 114 := by decide
theorem af_0_115 : aFit 0 115 := by decide
theorem af_0_117 : aFit 0 117 := by decide
theorem af_0_118 : aFit 0 118 := by decide
theorem af_0_119 : aFit 0 119 := by decide
theorem af_0_120 : aFit 0 120 := by decide
theorem af_0_121 : aFit 0 121 := by decide
theorem af_0_122 : aFit 0 122 := by decide
theorem af_4_3 : aFit 4 3 := by decide
theorem af_5_3 : aFit 5 3 := by decide
theorem af_5_4 : aFit 5 4 := by decide
theorem af_6_5 : aFit 6 5 := by decide
theorem af_6_51 : aFit 6 51 := by decide
theorem af_7_4 : aFit 7 4 := by decide
theorem af_8_4 : aFit 8 4 := by decide
theorem af_9_8 : aFit 9 8 := by decide
theorem af_10_12 : aFit 10 12 := by decide
theorem af_11_12 : aFit 11 12 := by decide
theorem af_12_8 : aFit 12 8 := by decide
theorem af_12_13 : aFit 12 13 := by decide
theorem af_12_14 : aFit 12 14 := by decide
theorem af_13_103 : aFit 13 103 := by decide
theorem af_14_8 : aFit 14 8 := by decide
theorem af_14_15 : aFit 14 15 := by decide
theorem af_15_4 : aFit 15 4 := by decide
theorem af_15_13 : aFit 15 13 := by decide
theorem af_18_103 : aFit 18 103 := by decide
theorem af_25_26 : aFit 25 26 := by decide
theorem af_25_27 : aFit 25 27 := by decide
theorem af_26_18 : aFit 26 18 := by decide
theorem af_26_19 : aFit 26 19 := by decide
theorem af_26_20 : aFit 26 20 := by decide
theorem af_26_22 : aFit 26 22 := by decide
theorem af_26_23 : aFit 26 23 := by decide
theorem af_26_24 : aFit 26 24 := by decide
theorem af_26_103 : aFit 26 103 := by decide
theorem af_27_18 : aFit 27 18 := by decide
theorem af_27_19 : aFit 27 19 := by decide
theorem af_27_22 : aFit 27 22 := by decide
theorem af_27_23 : aFit 27 23 := by decide
theorem af_27_24 : aFit 27 24 := by decide
theorem af_28_18 : aFit 28 18 := by decide
theorem af_28_19 : aFit 28 19 := by decide
theorem af_28_21 : aFit 28 21 := by decide
theorem af_28_22 : aFit 28 22 := by decide
theorem af_28_23 : aFit 28 23 := by decide
theorem af_28_24 : aFit 28 24 := by decide
theorem af_28_54 : aFit 28 54 := by decide
theorem af_31_32 : aFit 31 32 := by decide
theorem af_31_51 : aFit 31 51 := by decide
theorem af_32_51 : aFit 32 51 := by decide
theorem af_33_30 : aFit 33 30 := by decide
theorem af_33_34 : aFit 33 34 := by decide
theorem af_34_35 : aFit 34 35 := by decide
theorem af_35_30 : aFit 35 30 := by decide
theorem af_36_30 : aFit 36 30 := by decide
theorem af_37_30 : aFit 37 30 := by decide
theorem af_37_35 : aFit 37 35 := by decide
theorem af_37_75 : aFit 37 75 := by decide
theorem af_39_36 : aFit 39 36 := by decide
theorem af_39_37 : aFit 39 37 := by decide
theorem af_39_38 : aFit 39 38 := by decide
theorem af_40_35 : aFit 40 35 := by decide
theorem af_40_36 : aFit 40 36 := by decide
theorem af_40_74 : aFit 40 74 := by decide
theorem af_41_30 : aFit 41 30 := by decide
theorem af_41_36 : aFit 41 36 := by decide
theorem af_41_42 : aFit 41 42 := by decide
theorem af_42_30 : aFit 42 30 := by decide
theorem af_43_44 : aFit 43 44 := by decide
theorem af_44_41 : aFit 44 41 := by decide
theorem af_44_45 : aFit 44 45 := by decide
theorem af_45_36 : aFit 45 36 := by decide
theorem af_45_37 : aFit 45 37 := by decide
theorem af_46_71 : aFit 46 71 := by decide
theorem af_47_30 : aFit 47 30 := by decide
theorem af_47_36 : aFit 47 36 := by decide
theorem af_47_37 : aFit 47 37 := by decide
theorem af_47_71 : aFit 47 71 := by decide
theorem af_51_50 : aFit 51 50 := by decide
theorem af_52_50 : aFit 52 50 := by decide
theorem af_52_51 : aFit 52 51 := by decide
theorem af_52_53 : aFit 52 53 := by decide
theorem af_52_103 : aFit 52 103 := by decide
theorem af_53_103 : aFit 53 103 := by decide
theorem af_54_52 : aFit 54 52 := by decide
theorem af_55_51 : aFit 55 51 := by decide
theorem af_56_51 : aFit 56 51 := by decide
theorem af_56_55 : aFit 56 55 := by decide
theorem af_57_51 : aFit 57 51 := by decide
theorem af_57_56 : aFit 57 56 := by decide
theorem af_58_51 : aFit 58 51 := by decide
theorem af_58_55 : aFit 58 55 := by decide
theorem af_58_56 : aFit 58 56 := by decide
theorem af_59_50 : aFit 59 50 := by decide
theorem af_59_52 : aFit 59 52 := by decide
theorem af_59_58 : aFit 59 58 := by decide
theorem af_62_61 : aFit 62 61 := by decide
theorem af_63_62 : aFit 63 62 := by decide
theorem af_64_62 : aFit 64 62 := by decide
theorem af_64_63 : aFit 64 63 := by decide
theorem af_65_64 : aFit 65 64 := by decide
theorem af_65_103 : aFit 65 103 := by decide
theorem af_66_61 : aFit 66 61 := by decide
theorem af_66_63 : aFit 66 63 := by decide
theorem af_67_61 : aFit 67 61 := by decide
theorem af_67_63 : aFit 67 63 := by decide
theorem af_68_66 : aFit 68 66 := by decide
theorem af_69_67 : aFit 69 67 := by decide
theorem af_70_61 : aFit 70 61 := by decide
theorem af_71_63 : aFit 71 63 := by decide
theorem af_71_70 : aFit 71 70 := by decide
theorem af_72_51 : aFit 72 51 := by decide
theorem af_72_66 : aFit 72 66 := by decide
theorem af_72_67 : aFit 72 67 := by decide
theorem af_72_71 : aFit 72 71 := by decide
theorem af_72_103 : aFit 72 103 := by decide
theorem af_75_74 : aFit 75 74 := by decide
theorem af_77_2 : aFit 77 2 := by decide
theorem af_77_49 : aFit 77 49 := by decide
theorem af_77_103 : aFit 77 103 := by decide
theorem af_78_17 : aFit 78 17 := by decide
theorem af_80_25 : aFit 80 25 := by decide
theorem af_80_28 : aFit 80 28 := by decide
theorem af_81_50 : aFit 81 50 := by decide
theorem af_81_51 : aFit 81 51 := by decide
theorem af_81_52 : aFit 81 52 := by decide
theorem af_81_103 : aFit 81 103 := by decide
theorem af_82_50 : aFit 82 50 := by decide
theorem af_82_54 : aFit 82 54 := by decide
theorem af_82_103 : aFit 82 103 := by decide
theorem af_83_50 : aFit 83 50 := by decide
theorem af_83_51 : aFit 83 51 := by decide
theorem af_84_103 : aFit 84 103 := by decide
theorem af_84_106 : aFit 84 106 := by decide
theorem af_85_50 : aFit 85 50 := by decide
theorem af_85_56 : aFit 85 56 := by decide
theorem af_86_59 : aFit 86 59 := by decide
theorem af_86_103 : aFit 86 103 := by decide
theorem af_87_30 : aFit 87 30 := by decide
theorem af_87_104 : aFit 87 104 := by decide
theorem af_87_105 : aFit 87 105 := by decide
theorem af_88_30 : aFit 88 30 := by decide
theorem af_88_104 : aFit 88 104 := by decide
theorem af_88_105 : aFit 88 105 := by decide
theorem af_89_30 : aFit 89 30 := by decide
theorem af_89_39 : aFit 89 39 := by decide
theorem af_89_41 : aFit 89 41 := by decide
theorem af_89_104 : aFit 89 104 := by decide
theorem af_89_105 : aFit 89 105 := by decide
theorem af_90_33 : aFit 90 33 := by decide
theorem af_90_39 : aFit 90 39 := by decide
theorem af_90_104 : aFit 90 104 := by decide
theorem af_90_105 : aFit 90 105 := by decide
theorem af_91_43 : aFit 91 43 := by decide
theorem af_91_104 : aFit 91 104 := by decide
theorem af_91_105 : aFit 91 105 := by decide
theorem af_92_103 : aFit 92 103 := by decide
theorem af_93_3 : aFit 93 3 := by decide
theorem af_93_5 : aFit 93 5 := by decide
theorem af_94_3 : aFit 94 3 := by decide
theorem af_94_4 : aFit 94 4 := by decide
theorem af_95_6 : aFit 95 6 := by decide
theorem af_95_104 : aFit 95 104 := by decide
theorem af_96_2 : aFit 96 2 := by decide
theorem af_96_7 : aFit 96 7 := by decide
theorem af_97_7 : aFit 97 7 := by decide
theorem af_97_9 : aFit 97 9 := by decide
theorem af_97_10 : aFit 97 10 := by decide
theorem af_97_11 : aFit 97 11 := by decide
theorem af_98_64 : aFit 98 64 := by decide
theorem af_98_103 : aFit 98 103 := by decide
theorem af_99_65 : aFit 99 65 := by decide
theorem af_99_66 : aFit 99 66 := by decide
theorem af_99_67 : aFit 99 67 := by decide
theorem af_99_68 : aFit 99 68 := by decide
theorem af_99_69 : aFit 99 69 := by decide
theorem af_99_72 : aFit 99 72 := by decide
theorem af_100_65 : aFit 100 65 := by decide
theorem af_100_103 : aFit 100 103 := by decide
theorem af_100_107 : aFit 100 107 := by decide
theorem af_101_64 : aFit 101 64 := by decide
theorem af_102_50 : aFit 102 50 := by decide
theorem af_102_71 : aFit 102 71 := by decide
theorem af_104_103 : aFit 104 103 := by decide
theorem af_105_31 : aFit 105 31 := by decide
theorem af_105_33 : aFit 105 33 := by decide
theorem af_105_104 : aFit 105 104 := by decide
theorem af_106_38 : aFit 106 38 := by decide
theorem af_106_39 : aFit 106 39 := by decide
theorem af_106_40 : aFit 106 40 := by decide
theorem af_106_57 : aFit 106 57 := by decide
theorem af_106_105 : aFit 106 105 := by decide
theorem af_107_46 : aFit 107 46 := by decide
theorem af_107_47 : aFit 107 47 := by decide
theorem af_107_72 : aFit 107 72 := by decide
theorem af_107_105 : aFit 107 105 := by decide
theorem af_111_83 : aFit 111 83 := by decide
theorem af_111_84 : aFit 111 84 := by decide
theorem af_111_87 : aFit 111 87 := by decide
theorem af_111_88 : aFit 111 88 := by decide
theorem af_111_110 : aFit 111 110 := by decide
theorem af_112_84 : aFit 112 84 := by decide
theorem af_112_87 : aFit 112 87 := by decide
theorem af_112_88 : aFit 112 88 := by decide
theorem af_112_110 : aFit 112 110 := by decide
theorem af_113_83 : aFit 113 83 := by decide
theorem af_114_83 : aFit 114 83 := by decide
theorem af_114_84 : aFit 114 84 := by decide
theorem af_114_85 : aFit 114 85 := by decide
theorem af_114_113 : aFit 114 113 := by decide
theorem af_115_83 : aFit 115 83 := by decide
theorem af_115_86 : aFit 115 86 := by decide
theorem af_115_113 : aFit 115 113 := by decide
theorem af_116_94 : aFit 116 94 := by decide
theorem af_117_94 : aFit 117 94 := by decide
theorem af_117_97 : aFit 117 97 := by decide
theorem af_117_116 : aFit 117 116 := by decide
theorem af_118_83 : aFit 118 83 := by decide
theorem af_118_94 : aFit 118 94 := by decide
theorem af_118_95 : aFit 118 95 := by decide
theorem af_118_96 : aFit 118 96 := by decide
theorem af_118_97 : aFit 118 97 := by decide
theorem af_118_116 : aFit 118 116 := by decide
theorem af_119_84 : aFit 119 84 := by decide
theorem af_119_99 : aFit 119 99 := by decide
theorem af_119_100 : aFit 119 100 := by decide
theorem af_119_101 : aFit 119 101 := by decide
theorem af_119_102 : aFit 119 102 := by decide
theorem af_119_109 : aFit 119 109 := by decide
theorem af_120_84 : aFit 120 84 := by decide
theorem af_120_88 : aFit 120 88 := by decide
theorem af_120_89 : aFit 120 89 := by decide
theorem af_120_90 : aFit 120 90 := by decide
theorem af_120_91 : aFit 120 91 := by decide
theorem af_120_109 : aFit 120 109 := by decide
theorem af_120_112 : aFit 120 112 := by decide
theorem af_121_78 : aFit 121 78 := by decide
theorem af_121_79 : aFit 121 79 := by decide
theorem af_121_80 : aFit 121 80 := by decide
theorem af_121_109 : aFit 121 109 := by decide
theorem af_122_77 : aFit 122 77 := by decide
theorem af_122_81 : aFit 122 81 := by decide
theorem af_122_82 : aFit 122 82 := by decide
theorem af_122_87 : aFit 122 87 := by decide
theorem af_122_92 : aFit 122 92 := by decide
theorem af_122_93 : aFit 122 93 := by decide
theorem af_122_98 : aFit 122 98 := by decide
