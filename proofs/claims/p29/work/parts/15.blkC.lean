theorem B_X4_step_0 (sc : Nat × (Nat → Int)) (iv : Nat → Nat → Int) (x1 : Int) : Run sc 61 0 [some (Rf 49), some (I x1)] [] (hp iv) = if (iv 49 3) < x1 then chk (x1 - (iv 49 3)) (Run sc 61 18 [some (Rf 49), some (I x1)] [(I (x1 - (iv 49 3)))] (hp iv)) else Run sc 61 17 [some (Rf 49), some (I x1)] [] (hp iv) :=
  (R_iload_n mc_61 dX4_step_0 rfl).trans <|
  (R_aload_n mc_61 dX4_step_1 rfl).trans <|
  (R_getI mc_61 dX4_step_2 mo_61 ft_4_16 rfl rfl).trans <|
  (R_icmp_le mc_61 dX4_step_5 (t := 17) rfl).trans <| ite_c2
  ((R_iload_n mc_61 dX4_step_8 rfl).trans <|
  (R_aload_n mc_61 dX4_step_9 rfl).trans <|
  (R_getI mc_61 dX4_step_10 mo_61 ft_4_16 rfl rfl).trans <|
  (R_isub mc_61 dX4_step_13).trans <| chk_congr <|
  R_goto mc_61 dX4_step_14 (t := 18) rfl)
  (rfl)
theorem B_X4_step_17 (sc : Nat × (Nat → Int)) (iv : Nat → Nat → Int) (x1 : Int) : Run sc 61 17 [some (Rf 49), some (I x1)] [] (hp iv) = Run sc 61 18 [some (Rf 49), some (I x1)] [(I 1)] (hp iv) :=
  R_iconst mc_61 dX4_step_17 ⟨by decide, by decide⟩
theorem B_X4_step_18 (sc : Nat × (Nat → Int)) (iv : Nat → Nat → Int) (x1 : Int) (s0 : Int) : Run sc 61 18 [some (Rf 49), some (I x1)] [(I s0)] (hp iv) = some (some (I s0), (hp iv)) :=
  R_ireturn mc_61 dX4_step_18 rfl
theorem B_X4_pagesAlong_0 (sc : Nat × (Nat → Int)) (iv : Nat → Nat → Int) (x1 : Int) (x2 : Int) : Run sc 62 0 [some (Rf 49), some (I x1), some (I x2), none] [] (hp iv) = if x2 < x1 then Run sc 62 7 [some (Rf 49), some (I x1), some (I x2), none] [] (hp iv) else some (some (I 1), (hp iv)) :=
  (R_iload_n mc_62 dX4_pagesAlong_0 rfl).trans <|
  (R_iload_n mc_62 dX4_pagesAlong_1 rfl).trans <|
  (R_icmp_gt mc_62 dX4_pagesAlong_2 (t := 7) rfl).trans <| ite_c2
  (rfl)
  ((R_iconst mc_62 dX4_pagesAlong_5 ⟨by decide, by decide⟩).trans <|
  R_ireturn mc_62 dX4_pagesAlong_6 rfl)
theorem B_X4_pagesAlong_7 (sc : Nat × (Nat → Int)) (iv : Nat → Nat → Int) (x1 : Int) (x2 : Int) (d3 : Option AV) : Run sc 62 7 [some (Rf 49), some (I x1), some (I x2), d3] [] (hp iv) = aBind (Run sc 61 0 [some (Rf 49), some (I x2)] [] (hp iv)) (fun v h2 => Run sc 62 12 [some (Rf 49), some (I x1), some (I x2), d3] (pushR v []) h2) :=
  (R_aload_n mc_62 dX4_pagesAlong_7 rfl).trans <|
  (R_iload_n mc_62 dX4_pagesAlong_8 rfl).trans <|
  R_invV mc_62 dX4_pagesAlong_9 mo_62 ct_4_23 af_62_61 rfl rfl rfl ⟨Nat.le_of_ble_eq_true rfl, Nat.le_of_ble_eq_true rfl⟩
theorem B_X4_pagesAlong_12 (sc : Nat × (Nat → Int)) (iv : Nat → Nat → Int) (x1 : Int) (x2 : Int) (d3 : Option AV) (s0 : Int) : Run sc 62 12 [some (Rf 49), some (I x1), some (I x2), d3] [(I s0)] (hp iv) = chk (x1 - x2) (chk ((x1 - x2) + s0) (chk (((x1 - x2) + s0) - 1) (bck 1 2147483647 s0 (bck 0 2147483647 (((x1 - x2) + s0) - 1) (chk (1 + ((((x1 - x2) + s0) - 1) / s0)) (some (some (I (1 + ((((x1 - x2) + s0) - 1) / s0))), (hp iv)))))))) :=
  (R_istore_n mc_62 dX4_pagesAlong_12 (Nat.le_of_ble_eq_true rfl)).trans <|
  (R_iconst mc_62 dX4_pagesAlong_13 ⟨by decide, by decide⟩).trans <|
  (R_iload_n mc_62 dX4_pagesAlong_14 rfl).trans <|
  (R_iload_n mc_62 dX4_pagesAlong_15 rfl).trans <|
  (R_isub mc_62 dX4_pagesAlong_16).trans <| chk_congr <|
  (R_iload_n mc_62 dX4_pagesAlong_17 rfl).trans <|
  (R_iadd mc_62 dX4_pagesAlong_18).trans <| chk_congr <|
  (R_iconst mc_62 dX4_pagesAlong_19 ⟨by decide, by decide⟩).trans <|
  (R_isub mc_62 dX4_pagesAlong_20).trans <| chk_congr <|
  (R_iload_n mc_62 dX4_pagesAlong_21 rfl).trans <|
  (R_idiv mc_62 dX4_pagesAlong_22).trans <| bck_congr <| bck_congr <|
  (R_iadd mc_62 dX4_pagesAlong_23).trans <| chk_congr <|
  R_ireturn mc_62 dX4_pagesAlong_24 rfl
theorem B_X4_pagesAcross_0 (sc : Nat × (Nat → Int)) (iv : Nat → Nat → Int)  : Run sc 63 0 [some (Rf 49)] [] (hp iv) = aBind (Run sc 62 0 [some (Rf 49), some (I (iv 2 0)), some (I (iv 49 1)), none] [] (hp iv)) (fun v h2 => Run sc 63 16 [some (Rf 49)] (pushR v [(I 1)]) h2) :=
  (R_iconst mc_63 dX4_pagesAcross_0 ⟨by decide, by decide⟩).trans <|
  (R_aload_n mc_63 dX4_pagesAcross_1 rfl).trans <|
  (R_aload_n mc_63 dX4_pagesAcross_2 rfl).trans <|
  (R_getR mc_63 dX4_pagesAcross_3 mo_63 ft_4_19 rfl rfl (r := 2) rfl (by decide)).trans <|
  (R_getI mc_63 dX4_pagesAcross_6 mo_63 ft_4_27 rfl rfl).trans <|
  (R_aload_n mc_63 dX4_pagesAcross_9 rfl).trans <|
  (R_getI mc_63 dX4_pagesAcross_10 mo_63 ft_4_7 rfl rfl).trans <|
  R_invV mc_63 dX4_pagesAcross_13 mo_63 ct_4_32 af_63_62 rfl rfl rfl ⟨Nat.le_of_ble_eq_true rfl, Nat.le_of_ble_eq_true rfl⟩
theorem B_X4_pagesAcross_16 (sc : Nat × (Nat → Int)) (iv : Nat → Nat → Int) (s0 : Int) (s1 : Int) : Run sc 63 16 [some (Rf 49)] [(I s0), (I s1)] (hp iv) = some (some (I (if s1 < s0 then s0 else s1)), (hp iv)) :=
  (R_max mc_63 dX4_pagesAcross_16 mo_63 ct_4_36 ⟨Nat.le_of_ble_eq_true rfl, Nat.le_of_ble_eq_true rfl⟩).trans <|
  R_ireturn mc_63 dX4_pagesAcross_19 rfl
theorem B_X4_total_0 (sc : Nat × (Nat → Int)) (iv : Nat → Nat → Int)  : Run sc 64 0 [some (Rf 49)] [] (hp iv) = aBind (Run sc 63 0 [some (Rf 49)] [] (hp iv)) (fun v h2 => Run sc 64 4 [some (Rf 49)] (pushR v []) h2) :=
  (R_aload_n mc_64 dX4_total_0 rfl).trans <|
  R_invV mc_64 dX4_total_1 mo_64 ct_4_41 af_64_63 rfl rfl rfl ⟨Nat.le_of_ble_eq_true rfl, Nat.le_of_ble_eq_true rfl⟩
theorem B_X4_total_4 (sc : Nat × (Nat → Int)) (iv : Nat → Nat → Int) (s0 : Int) : Run sc 64 4 [some (Rf 49)] [(I s0)] (hp iv) = aBind (Run sc 62 0 [some (Rf 49), some (I (iv 2 1)), some (I (iv 49 2)), none] [] (hp iv)) (fun v h2 => Run sc 64 19 [some (Rf 49)] (pushR v [(I s0)]) h2) :=
  (R_aload_n mc_64 dX4_total_4 rfl).trans <|
  (R_aload_n mc_64 dX4_total_5 rfl).trans <|
  (R_getR mc_64 dX4_total_6 mo_64 ft_4_19 rfl rfl (r := 2) rfl (by decide)).trans <|
  (R_getI mc_64 dX4_total_9 mo_64 ft_4_45 rfl rfl).trans <|
  (R_aload_n mc_64 dX4_total_12 rfl).trans <|
  (R_getI mc_64 dX4_total_13 mo_64 ft_4_13 rfl rfl).trans <|
  R_invV mc_64 dX4_total_16 mo_64 ct_4_32 af_64_62 rfl rfl rfl ⟨Nat.le_of_ble_eq_true rfl, Nat.le_of_ble_eq_true rfl⟩
theorem B_X4_total_19 (sc : Nat × (Nat → Int)) (iv : Nat → Nat → Int) (s0 : Int) (s1 : Int) : Run sc 64 19 [some (Rf 49)] [(I s0), (I s1)] (hp iv) = chk (s1 * s0) (some (some (I (s1 * s0)), (hp iv))) :=
  (R_imul mc_64 dX4_total_19).trans <| chk_congr <|
  R_ireturn mc_64 dX4_total_20 rfl
theorem B_X4_has_0 (sc : Nat × (Nat → Int)) (iv : Nat → Nat → Int) (x1 : Int) : Run sc 65 0 [some (Rf 49), some (I x1)] [] (hp iv) = aBind (Run sc 64 0 [some (Rf 49)] [] (hp iv)) (fun v h2 => Run sc 65 6 [some (Rf 49), some (I x1)] (pushR v [(I 0), (I x1)]) h2) :=
  (R_iload_n mc_65 dX4_has_0 rfl).trans <|
  (R_iconst mc_65 dX4_has_1 ⟨by decide, by decide⟩).trans <|
  (R_aload_n mc_65 dX4_has_2 rfl).trans <|
  R_invV mc_65 dX4_has_3 mo_65 ct_4_48 af_65_64 rfl rfl rfl ⟨Nat.le_of_ble_eq_true rfl, Nat.le_of_ble_eq_true rfl⟩
theorem B_X4_has_6 (sc : Nat × (Nat → Int)) (iv : Nat → Nat → Int) (x1 : Int) (s0 : Int) (s1 : Int) (s2 : Int) : Run sc 65 6 [some (Rf 49), some (I x1)] [(I s0), (I s1), (I s2)] (hp iv) = chk (s0 - 1) (aBind (Run sc 103 0 [some (I s2), some (I s1), some (I (s0 - 1))] [] (hp iv)) (fun v h2 => Run sc 65 11 [some (Rf 49), some (I x1)] (pushR v []) h2)) :=
  (R_iconst mc_65 dX4_has_6 ⟨by decide, by decide⟩).trans <|
  (R_isub mc_65 dX4_has_7).trans <| chk_congr <|
  R_invS mc_65 dX4_has_8 mo_65 ct_4_51 (Or.inr rfl) af_65_103 (Nat.le_of_ble_eq_true rfl) rfl rfl ⟨Nat.le_of_ble_eq_true rfl, Nat.le_of_ble_eq_true rfl⟩
theorem B_X4_has_11 (sc : Nat × (Nat → Int)) (iv : Nat → Nat → Int) (x1 : Int) (s0 : Int) : Run sc 65 11 [some (Rf 49), some (I x1)] [(I s0)] (hp iv) = bck 0 1 s0 (some (some (I s0), (hp iv))) :=
  R_ireturnZ mc_65 dX4_has_11 rfl
theorem B_X4_left_0 (sc : Nat × (Nat → Int)) (iv : Nat → Nat → Int) (x1 : Int) : Run sc 66 0 [some (Rf 49), some (I x1)] [] (hp iv) = aBind (Run sc 63 0 [some (Rf 49)] [] (hp iv)) (fun v h2 => Run sc 66 5 [some (Rf 49), some (I x1)] (pushR v [(I x1)]) h2) :=
  (R_iload_n mc_66 dX4_left_0 rfl).trans <|
  (R_aload_n mc_66 dX4_left_1 rfl).trans <|
  R_invV mc_66 dX4_left_2 mo_66 ct_4_41 af_66_63 rfl rfl rfl ⟨Nat.le_of_ble_eq_true rfl, Nat.le_of_ble_eq_true rfl⟩
theorem B_X4_left_5 (sc : Nat × (Nat → Int)) (iv : Nat → Nat → Int) (x1 : Int) (s0 : Int) (s1 : Int) : Run sc 66 5 [some (Rf 49), some (I x1)] [(I s0), (I s1)] (hp iv) = bck 1 2147483647 s0 (bck 0 2147483647 s1 (aBind (Run sc 61 0 [some (Rf 49), some (I (iv 49 1))] [] (hp iv)) (fun v h2 => Run sc 66 14 [some (Rf 49), some (I x1)] (pushR v [(I (s1 % s0))]) h2))) :=
  (R_irem mc_66 dX4_left_5).trans <| bck_congr <| bck_congr <|
  (R_aload_n mc_66 dX4_left_6 rfl).trans <|
  (R_aload_n mc_66 dX4_left_7 rfl).trans <|
  (R_getI mc_66 dX4_left_8 mo_66 ft_4_7 rfl rfl).trans <|
  R_invV mc_66 dX4_left_11 mo_66 ct_4_23 af_66_61 rfl rfl rfl ⟨Nat.le_of_ble_eq_true rfl, Nat.le_of_ble_eq_true rfl⟩
theorem B_X4_left_14 (sc : Nat × (Nat → Int)) (iv : Nat → Nat → Int) (x1 : Int) (s0 : Int) (s1 : Int) : Run sc 66 14 [some (Rf 49), some (I x1)] [(I s0), (I s1)] (hp iv) = chk (s1 * s0) (some (some (I (s1 * s0)), (hp iv))) :=
  (R_imul mc_66 dX4_left_14).trans <| chk_congr <|
  R_ireturn mc_66 dX4_left_15 rfl
theorem B_X4_top_0 (sc : Nat × (Nat → Int)) (iv : Nat → Nat → Int) (x1 : Int) : Run sc 67 0 [some (Rf 49), some (I x1)] [] (hp iv) = aBind (Run sc 63 0 [some (Rf 49)] [] (hp iv)) (fun v h2 => Run sc 67 5 [some (Rf 49), some (I x1)] (pushR v [(I x1)]) h2) :=
  (R_iload_n mc_67 dX4_top_0 rfl).trans <|
  (R_aload_n mc_67 dX4_top_1 rfl).trans <|
  R_invV mc_67 dX4_top_2 mo_67 ct_4_41 af_67_63 rfl rfl rfl ⟨Nat.le_of_ble_eq_true rfl, Nat.le_of_ble_eq_true rfl⟩
theorem B_X4_top_5 (sc : Nat × (Nat → Int)) (iv : Nat → Nat → Int) (x1 : Int) (s0 : Int) (s1 : Int) : Run sc 67 5 [some (Rf 49), some (I x1)] [(I s0), (I s1)] (hp iv) = bck 1 2147483647 s0 (bck 0 2147483647 s1 (aBind (Run sc 61 0 [some (Rf 49), some (I (iv 49 2))] [] (hp iv)) (fun v h2 => Run sc 67 14 [some (Rf 49), some (I x1)] (pushR v [(I (s1 / s0))]) h2))) :=
  (R_idiv mc_67 dX4_top_5).trans <| bck_congr <| bck_congr <|
  (R_aload_n mc_67 dX4_top_6 rfl).trans <|
  (R_aload_n mc_67 dX4_top_7 rfl).trans <|
  (R_getI mc_67 dX4_top_8 mo_67 ft_4_13 rfl rfl).trans <|
  R_invV mc_67 dX4_top_11 mo_67 ct_4_23 af_67_61 rfl rfl rfl ⟨Nat.le_of_ble_eq_true rfl, Nat.le_of_ble_eq_true rfl⟩
theorem B_X4_top_14 (sc : Nat × (Nat → Int)) (iv : Nat → Nat → Int) (x1 : Int) (s0 : Int) (s1 : Int) : Run sc 67 14 [some (Rf 49), some (I x1)] [(I s0), (I s1)] (hp iv) = chk (s1 * s0) (some (some (I (s1 * s0)), (hp iv))) :=
  (R_imul mc_67 dX4_top_14).trans <| chk_congr <|
  R_ireturn mc_67 dX4_top_15 rfl
theorem B_X4_shownColumns_0 (sc : Nat × (Nat → Int)) (iv : Nat → Nat → Int) (x1 : Int) : Run sc 68 0 [some (Rf 49), some (I x1)] [] (hp iv) = aBind (Run sc 66 0 [some (Rf 49), some (I x1)] [] (hp iv)) (fun v h2 => Run sc 68 16 [some (Rf 49), some (I x1)] (pushR v [(I (iv 2 0)), (I (iv 49 1))]) h2) :=
  (R_aload_n mc_68 dX4_shownColumns_0 rfl).trans <|
  (R_getI mc_68 dX4_shownColumns_1 mo_68 ft_4_7 rfl rfl).trans <|
  (R_aload_n mc_68 dX4_shownColumns_4 rfl).trans <|
  (R_getR mc_68 dX4_shownColumns_5 mo_68 ft_4_19 rfl rfl (r := 2) rfl (by decide)).trans <|
  (R_getI mc_68 dX4_shownColumns_8 mo_68 ft_4_27 rfl rfl).trans <|
  (R_aload_n mc_68 dX4_shownColumns_11 rfl).trans <|
  (R_iload_n mc_68 dX4_shownColumns_12 rfl).trans <|
  R_invV mc_68 dX4_shownColumns_13 mo_68 ct_4_57 af_68_66 rfl rfl rfl ⟨Nat.le_of_ble_eq_true rfl, Nat.le_of_ble_eq_true rfl⟩
theorem B_X4_shownColumns_16 (sc : Nat × (Nat → Int)) (iv : Nat → Nat → Int) (x1 : Int) (s0 : Int) (s1 : Int) (s2 : Int) : Run sc 68 16 [some (Rf 49), some (I x1)] [(I s0), (I s1), (I s2)] (hp iv) = chk (s1 - s0) (some (some (I (if (s1 - s0) < s2 then (s1 - s0) else s2)), (hp iv))) :=
  (R_isub mc_68 dX4_shownColumns_16).trans <| chk_congr <|
  (R_min mc_68 dX4_shownColumns_17 mo_68 ct_4_60 ⟨Nat.le_of_ble_eq_true rfl, Nat.le_of_ble_eq_true rfl⟩).trans <|
  R_ireturn mc_68 dX4_shownColumns_20 rfl
theorem B_X4_shownLines_0 (sc : Nat × (Nat → Int)) (iv : Nat → Nat → Int) (x1 : Int) : Run sc 69 0 [some (Rf 49), some (I x1)] [] (hp iv) = aBind (Run sc 67 0 [some (Rf 49), some (I x1)] [] (hp iv)) (fun v h2 => Run sc 69 16 [some (Rf 49), some (I x1)] (pushR v [(I (iv 2 1)), (I (iv 49 2))]) h2) :=
  (R_aload_n mc_69 dX4_shownLines_0 rfl).trans <|
  (R_getI mc_69 dX4_shownLines_1 mo_69 ft_4_13 rfl rfl).trans <|
  (R_aload_n mc_69 dX4_shownLines_4 rfl).trans <|
  (R_getR mc_69 dX4_shownLines_5 mo_69 ft_4_19 rfl rfl (r := 2) rfl (by decide)).trans <|
  (R_getI mc_69 dX4_shownLines_8 mo_69 ft_4_45 rfl rfl).trans <|
  (R_aload_n mc_69 dX4_shownLines_11 rfl).trans <|
  (R_iload_n mc_69 dX4_shownLines_12 rfl).trans <|
  R_invV mc_69 dX4_shownLines_13 mo_69 ct_4_63 af_69_67 rfl rfl rfl ⟨Nat.le_of_ble_eq_true rfl, Nat.le_of_ble_eq_true rfl⟩
theorem B_X4_shownLines_16 (sc : Nat × (Nat → Int)) (iv : Nat → Nat → Int) (x1 : Int) (s0 : Int) (s1 : Int) (s2 : Int) : Run sc 69 16 [some (Rf 49), some (I x1)] [(I s0), (I s1), (I s2)] (hp iv) = chk (s1 - s0) (some (some (I (if (s1 - s0) < s2 then (s1 - s0) else s2)), (hp iv))) :=
  (R_isub mc_69 dX4_shownLines_16).trans <| chk_congr <|
  (R_min mc_69 dX4_shownLines_17 mo_69 ct_4_60 ⟨Nat.le_of_ble_eq_true rfl, Nat.le_of_ble_eq_true rfl⟩).trans <|
  R_ireturn mc_69 dX4_shownLines_20 rfl
theorem B_X4_firstShowing_0 (sc : Nat × (Nat → Int)) (iv : Nat → Nat → Int) (x1 : Int) (x2 : Int) : Run sc 70 0 [some (Rf 49), some (I x1), some (I x2)] [] (hp iv) = if x1 < x2 then Run sc 70 20 [some (Rf 49), some (I x1), some (I x2)] [(I 0)] (hp iv) else Run sc 70 9 [some (Rf 49), some (I x1), some (I x2)] [] (hp iv) :=
  (R_iload_n mc_70 dX4_firstShowing_0 rfl).trans <|
  (R_iload_n mc_70 dX4_firstShowing_1 rfl).trans <|
  (R_icmp_ge mc_70 dX4_firstShowing_2 (t := 9) rfl).trans <| ite_c2
  ((R_iconst mc_70 dX4_firstShowing_5 ⟨by decide, by decide⟩).trans <|
  R_goto mc_70 dX4_firstShowing_6 (t := 20) rfl)
  (rfl)
theorem B_X4_firstShowing_9 (sc : Nat × (Nat → Int)) (iv : Nat → Nat → Int) (x1 : Int) (x2 : Int) : Run sc 70 9 [some (Rf 49), some (I x1), some (I x2)] [] (hp iv) = chk (x1 - x2) (aBind (Run sc 61 0 [some (Rf 49), some (I x2)] [] (hp iv)) (fun v h2 => Run sc 70 18 [some (Rf 49), some (I x1), some (I x2)] (pushR v [(I (x1 - x2)), (I 1)]) h2)) :=
  (R_iconst mc_70 dX4_firstShowing_9 ⟨by decide, by decide⟩).trans <|
  (R_iload_n mc_70 dX4_firstShowing_10 rfl).trans <|
  (R_iload_n mc_70 dX4_firstShowing_11 rfl).trans <|
  (R_isub mc_70 dX4_firstShowing_12).trans <| chk_congr <|
  (R_aload_n mc_70 dX4_firstShowing_13 rfl).trans <|
  (R_iload_n mc_70 dX4_firstShowing_14 rfl).trans <|
  R_invV mc_70 dX4_firstShowing_15 mo_70 ct_4_23 af_70_61 rfl rfl rfl ⟨Nat.le_of_ble_eq_true rfl, Nat.le_of_ble_eq_true rfl⟩
theorem B_X4_firstShowing_18 (sc : Nat × (Nat → Int)) (iv : Nat → Nat → Int) (x1 : Int) (x2 : Int) (s0 : Int) (s1 : Int) (s2 : Int) : Run sc 70 18 [some (Rf 49), some (I x1), some (I x2)] [(I s0), (I s1), (I s2)] (hp iv) = bck 1 2147483647 s0 (bck 0 2147483647 s1 (chk (s2 + (s1 / s0)) (Run sc 70 20 [some (Rf 49), some (I x1), some (I x2)] [(I (s2 + (s1 / s0)))] (hp iv)))) :=
  (R_idiv mc_70 dX4_firstShowing_18).trans <| bck_congr <| bck_congr <|
  (R_iadd mc_70 dX4_firstShowing_19).trans <| chk_congr <|
  rfl
theorem B_X4_firstShowing_20 (sc : Nat × (Nat → Int)) (iv : Nat → Nat → Int) (x1 : Int) (x2 : Int) (s0 : Int) : Run sc 70 20 [some (Rf 49), some (I x1), some (I x2)] [(I s0)] (hp iv) = some (some (I s0), (hp iv)) :=
  R_ireturn mc_70 dX4_firstShowing_20 rfl
theorem B_X4_owner_0 (sc : Nat × (Nat → Int)) (iv : Nat → Nat → Int) (x1 : Int) (x2 : Int) : Run sc 71 0 [some (Rf 49), some (I x1), some (I x2)] [] (hp iv) = aBind (Run sc 70 0 [some (Rf 49), some (I x2), some (I (iv 49 2))] [] (hp iv)) (fun v h2 => Run sc 71 9 [some (Rf 49), some (I x1), some (I x2)] (pushR v []) h2) :=
  (R_aload_n mc_71 dX4_owner_0 rfl).trans <|
  (R_iload_n mc_71 dX4_owner_1 rfl).trans <|
  (R_aload_n mc_71 dX4_owner_2 rfl).trans <|
  (R_getI mc_71 dX4_owner_3 mo_71 ft_4_13 rfl rfl).trans <|
  R_invV mc_71 dX4_owner_6 mo_71 ct_4_66 af_71_70 rfl rfl rfl ⟨Nat.le_of_ble_eq_true rfl, Nat.le_of_ble_eq_true rfl⟩
theorem B_X4_owner_9 (sc : Nat × (Nat → Int)) (iv : Nat → Nat → Int) (x1 : Int) (x2 : Int) (s0 : Int) : Run sc 71 9 [some (Rf 49), some (I x1), some (I x2)] [(I s0)] (hp iv) = aBind (Run sc 63 0 [some (Rf 49)] [] (hp iv)) (fun v h2 => Run sc 71 13 [some (Rf 49), some (I x1), some (I x2)] (pushR v [(I s0)]) h2) :=
  (R_aload_n mc_71 dX4_owner_9 rfl).trans <|
  R_invV mc_71 dX4_owner_10 mo_71 ct_4_41 af_71_63 rfl rfl rfl ⟨Nat.le_of_ble_eq_true rfl, Nat.le_of_ble_eq_true rfl⟩
theorem B_X4_owner_13 (sc : Nat × (Nat → Int)) (iv : Nat → Nat → Int) (x1 : Int) (x2 : Int) (s0 : Int) (s1 : Int) : Run sc 71 13 [some (Rf 49), some (I x1), some (I x2)] [(I s0), (I s1)] (hp iv) = chk (s1 * s0) (aBind (Run sc 70 0 [some (Rf 49), some (I x1), some (I (iv 49 1))] [] (hp iv)) (fun v h2 => Run sc 71 23 [some (Rf 49), some (I x1), some (I x2)] (pushR v [(I (s1 * s0))]) h2)) :=
  (R_imul mc_71 dX4_owner_13).trans <| chk_congr <|
  (R_aload_n mc_71 dX4_owner_14 rfl).trans <|
  (R_iload_n mc_71 dX4_owner_15 rfl).trans <|
  (R_aload_n mc_71 dX4_owner_16 rfl).trans <|
  (R_getI mc_71 dX4_owner_17 mo_71 ft_4_7 rfl rfl).trans <|
  R_invV mc_71 dX4_owner_20 mo_71 ct_4_66 af_71_70 rfl rfl rfl ⟨Nat.le_of_ble_eq_true rfl, Nat.le_of_ble_eq_true rfl⟩
theorem B_X4_owner_23 (sc : Nat × (Nat → Int)) (iv : Nat → Nat → Int) (x1 : Int) (x2 : Int) (s0 : Int) (s1 : Int) : Run sc 71 23 [some (Rf 49), some (I x1), some (I x2)] [(I s0), (I s1)] (hp iv) = chk (s1 + s0) (some (some (I (s1 + s0)), (hp iv))) :=
  (R_iadd mc_71 dX4_owner_23).trans <| chk_congr <|
  R_ireturn mc_71 dX4_owner_24 rfl
theorem B_X4_tally_0 (sc : Nat × (Nat → Int)) (iv : Nat → Nat → Int) (x1 : Int) (x2 : Int) (x3 : Int) (x4 : Int) : Run sc 72 0 [some (Rf 49), some (I x1), some (I x2), some (I x3), some (I x4), none, none, none, none, none, none, none, none] [] (hp iv) = aBind (Run sc 66 0 [some (Rf 49), some (I x1)] [] (hp iv)) (fun v h2 => Run sc 72 5 [some (Rf 49), some (I x1), some (I x2), some (I x3), some (I x4), none, none, none, none, none, none, none, none] (pushR v []) h2) :=
  (R_aload_n mc_72 dX4_tally_0 rfl).trans <|
  (R_iload_n mc_72 dX4_tally_1 rfl).trans <|
  R_invV mc_72 dX4_tally_2 mo_72 ct_4_57 af_72_66 rfl rfl rfl ⟨Nat.le_of_ble_eq_true rfl, Nat.le_of_ble_eq_true rfl⟩
theorem B_X4_tally_5 (sc : Nat × (Nat → Int)) (iv : Nat → Nat → Int) (x1 : Int) (x2 : Int) (x3 : Int) (x4 : Int) (d5 : Option AV) (d6 : Option AV) (d7 : Option AV) (d8 : Option AV) (d9 : Option AV) (d10 : Option AV) (d11 : Option AV) (d12 : Option AV) (s0 : Int) : Run sc 72 5 [some (Rf 49), some (I x1), some (I x2), some (I x3), some (I x4), d5, d6, d7, d8, d9, d10, d11, d12] [(I s0)] (hp iv) = aBind (Run sc 67 0 [some (Rf 49), some (I x1)] [] (hp iv)) (fun v h2 => Run sc 72 12 [some (Rf 49), some (I x1), some (I x2), some (I x3), some (I x4), some (I s0), d6, d7, d8, d9, d10, d11, d12] (pushR v []) h2) :=
  (R_istore mc_72 dX4_tally_5 (Nat.le_of_ble_eq_true rfl)).trans <|
  (R_aload_n mc_72 dX4_tally_7 rfl).trans <|
  (R_iload_n mc_72 dX4_tally_8 rfl).trans <|
  R_invV mc_72 dX4_tally_9 mo_72 ct_4_63 af_72_67 rfl rfl rfl ⟨Nat.le_of_ble_eq_true rfl, Nat.le_of_ble_eq_true rfl⟩
theorem B_X4_tally_12 (sc : Nat × (Nat → Int)) (iv : Nat → Nat → Int) (x1 : Int) (x2 : Int) (x3 : Int) (x4 : Int) (x5 : Int) (d6 : Option AV) (d7 : Option AV) (d8 : Option AV) (d9 : Option AV) (d10 : Option AV) (d11 : Option AV) (d12 : Option AV) (s0 : Int) : Run sc 72 12 [some (Rf 49), some (I x1), some (I x2), some (I x3), some (I x4), some (I x5), d6, d7, d8, d9, d10, d11, d12] [(I s0)] (hp iv) = chk (x5 + (iv 49 1)) (chk (s0 + (iv 49 2)) (Run sc 72 59 [some (Rf 49), some (I x1), some (I x2), some (I x3), some (I x4), some (I x5), some (I s0), some (I (if (iv 2 0) < (x5 + (iv 49 1)) then (iv 2 0) else (x5 + (iv 49 1)))), some (I (if (iv 2 1) < (s0 + (iv 49 2)) then (iv 2 1) else (s0 + (iv 49 2)))), some (I 0), some (I s0), d11, d12] [] (hp iv))) :=
  (R_istore mc_72 dX4_tally_12 (Nat.le_of_ble_eq_true rfl)).trans <|
  (R_iload mc_72 dX4_tally_14 rfl).trans <|
  (R_aload_n mc_72 dX4_tally_16 rfl).trans <|
  (R_getI mc_72 dX4_tally_17 mo_72 ft_4_7 rfl rfl).trans <|
  (R_iadd mc_72 dX4_tally_20).trans <| chk_congr <|
  (R_aload_n mc_72 dX4_tally_21 rfl).trans <|
  (R_getR mc_72 dX4_tally_22 mo_72 ft_4_19 rfl rfl (r := 2) rfl (by decide)).trans <|
  (R_getI mc_72 dX4_tally_25 mo_72 ft_4_27 rfl rfl).trans <|
  (R_min mc_72 dX4_tally_28 mo_72 ct_4_60 ⟨Nat.le_of_ble_eq_true rfl, Nat.le_of_ble_eq_true rfl⟩).trans <|
  (R_istore mc_72 dX4_tally_31 (Nat.le_of_ble_eq_true rfl)).trans <|
  (R_iload mc_72 dX4_tally_33 rfl).trans <|
  (R_aload_n mc_72 dX4_tally_35 rfl).trans <|
  (R_getI mc_72 dX4_tally_36 mo_72 ft_4_13 rfl rfl).trans <|
  (R_iadd mc_72 dX4_tally_39).trans <| chk_congr <|
  (R_aload_n mc_72 dX4_tally_40 rfl).trans <|
  (R_getR mc_72 dX4_tally_41 mo_72 ft_4_19 rfl rfl (r := 2) rfl (by decide)).trans <|
  (R_getI mc_72 dX4_tally_44 mo_72 ft_4_45 rfl rfl).trans <|
  (R_min mc_72 dX4_tally_47 mo_72 ct_4_60 ⟨Nat.le_of_ble_eq_true rfl, Nat.le_of_ble_eq_true rfl⟩).trans <|
  (R_istore mc_72 dX4_tally_50 (Nat.le_of_ble_eq_true rfl)).trans <|
  (R_iconst mc_72 dX4_tally_52 ⟨by decide, by decide⟩).trans <|
  (R_istore mc_72 dX4_tally_53 (Nat.le_of_ble_eq_true rfl)).trans <|
  (R_iload mc_72 dX4_tally_55 rfl).trans <|
  R_istore mc_72 dX4_tally_57 (Nat.le_of_ble_eq_true rfl)
theorem B_X4_tally_59 (sc : Nat × (Nat → Int)) (iv : Nat → Nat → Int) (x1 : Int) (x2 : Int) (x3 : Int) (x4 : Int) (x5 : Int) (x6 : Int) (x7 : Int) (x8 : Int) (x9 : Int) (x10 : Int) (d11 : Option AV) (d12 : Option AV) : Run sc 72 59 [some (Rf 49), some (I x1), some (I x2), some (I x3), some (I x4), some (I x5), some (I x6), some (I x7), some (I x8), some (I x9), some (I x10), d11, d12] [] (hp iv) = if x10 < x8 then Run sc 72 70 [some (Rf 49), some (I x1), some (I x2), some (I x3), some (I x4), some (I x5), some (I x6), some (I x7), some (I x8), some (I x9), some (I x10), some (I x5), d12] [] (hp iv) else Run sc 72 137 [some (Rf 49), some (I x1), some (I x2), some (I x3), some (I x4), some (I x5), some (I x6), some (I x7), some (I x8), some (I x9), some (I x10), d11, d12] [] (hp iv) :=
  (R_iload mc_72 dX4_tally_59 rfl).trans <|
  (R_iload mc_72 dX4_tally_61 rfl).trans <|
  (R_icmp_ge mc_72 dX4_tally_63 (t := 137) rfl).trans <| ite_c2
  ((R_iload mc_72 dX4_tally_66 rfl).trans <|
  R_istore mc_72 dX4_tally_68 (Nat.le_of_ble_eq_true rfl))
  (rfl)
theorem B_X4_tally_70 (sc : Nat × (Nat → Int)) (iv : Nat → Nat → Int) (x1 : Int) (x2 : Int) (x3 : Int) (x4 : Int) (x5 : Int) (x6 : Int) (x7 : Int) (x8 : Int) (x9 : Int) (x10 : Int) (x11 : Int) (d12 : Option AV) : Run sc 72 70 [some (Rf 49), some (I x1), some (I x2), some (I x3), some (I x4), some (I x5), some (I x6), some (I x7), some (I x8), some (I x9), some (I x10), some (I x11), d12] [] (hp iv) = if x11 < x7 then aBind (Run sc 71 0 [some (Rf 49), some (I x11), some (I x10)] [] (hp iv)) (fun v h2 => Run sc 72 85 [some (Rf 49), some (I x1), some (I x2), some (I x3), some (I x4), some (I x5), some (I x6), some (I x7), some (I x8), some (I x9), some (I x10), some (I x11), d12] (pushR v []) h2) else Run sc 72 131 [some (Rf 49), some (I x1), some (I x2), some (I x3), some (I x4), some (I x5), some (I x6), some (I x7), some (I x8), some (I x9), some (I x10), some (I x11), d12] [] (hp iv) :=
  (R_iload mc_72 dX4_tally_70 rfl).trans <|
  (R_iload mc_72 dX4_tally_72 rfl).trans <|
  (R_icmp_ge mc_72 dX4_tally_74 (t := 131) rfl).trans <| ite_c2
  ((R_aload_n mc_72 dX4_tally_77 rfl).trans <|
  (R_iload mc_72 dX4_tally_78 rfl).trans <|
  (R_iload mc_72 dX4_tally_80 rfl).trans <|
  R_invV mc_72 dX4_tally_82 mo_72 ct_4_69 af_72_71 rfl rfl rfl ⟨Nat.le_of_ble_eq_true rfl, Nat.le_of_ble_eq_true rfl⟩)
  (rfl)
theorem B_X4_tally_85 (sc : Nat × (Nat → Int)) (iv : Nat → Nat → Int) (x1 : Int) (x2 : Int) (x3 : Int) (x4 : Int) (x5 : Int) (x6 : Int) (x7 : Int) (x8 : Int) (x9 : Int) (x10 : Int) (x11 : Int) (d12 : Option AV) (s0 : Int) : Run sc 72 85 [some (Rf 49), some (I x1), some (I x2), some (I x3), some (I x4), some (I x5), some (I x6), some (I x7), some (I x8), some (I x9), some (I x10), some (I x11), d12] [(I s0)] (hp iv) = if s0 = x1 then Run sc 72 94 [some (Rf 49), some (I x1), some (I x2), some (I x3), some (I x4), some (I x5), some (I x6), some (I x7), some (I x8), some (I x9), some (I x10), some (I x11), d12] [(I 1)] (hp iv) else Run sc 72 93 [some (Rf 49), some (I x1), some (I x2), some (I x3), some (I x4), some (I x5), some (I x6), some (I x7), some (I x8), some (I x9), some (I x10), some (I x11), d12] [] (hp iv) :=
  (R_iload_n mc_72 dX4_tally_85 rfl).trans <|
  (R_icmp_ne mc_72 dX4_tally_86 (t := 93) rfl).trans <| ite_c2
  ((R_iconst mc_72 dX4_tally_89 ⟨by decide, by decide⟩).trans <|
  R_goto mc_72 dX4_tally_90 (t := 94) rfl)
  (rfl)
theorem B_X4_tally_93 (sc : Nat × (Nat → Int)) (iv : Nat → Nat → Int) (x1 : Int) (x2 : Int) (x3 : Int) (x4 : Int) (x5 : Int) (x6 : Int) (x7 : Int) (x8 : Int) (x9 : Int) (x10 : Int) (x11 : Int) (d12 : Option AV) : Run sc 72 93 [some (Rf 49), some (I x1), some (I x2), some (I x3), some (I x4), some (I x5), some (I x6), some (I x7), some (I x8), some (I x9), some (I x10), some (I x11), d12] [] (hp iv) = Run sc 72 94 [some (Rf 49), some (I x1), some (I x2), some (I x3), some (I x4), some (I x5), some (I x6), some (I x7), some (I x8), some (I x9), some (I x10), some (I x11), d12] [(I 0)] (hp iv) :=
  R_iconst mc_72 dX4_tally_93 ⟨by decide, by decide⟩
theorem B_X4_tally_94 (sc : Nat × (Nat → Int)) (iv : Nat → Nat → Int) (x1 : Int) (x2 : Int) (x3 : Int) (x4 : Int) (x5 : Int) (x6 : Int) (x7 : Int) (x8 : Int) (x9 : Int) (x10 : Int) (x11 : Int) (d12 : Option AV) (s0 : Int) : Run sc 72 94 [some (Rf 49), some (I x1), some (I x2), some (I x3), some (I x4), some (I x5), some (I x6), some (I x7), some (I x8), some (I x9), some (I x10), some (I x11), d12] [(I s0)] (hp iv) = if s0 = x2 then aBind (Run sc 51 0 [some (Rf 2), some (I x11), some (I x10)] [] (hp iv)) (fun v h2 => Run sc 72 113 [some (Rf 49), some (I x1), some (I x2), some (I x3), some (I x4), some (I x5), some (I x6), some (I x7), some (I x8), some (I x9), some (I x10), some (I x11), some (I s0)] (pushR v []) h2) else Run sc 72 125 [some (Rf 49), some (I x1), some (I x2), some (I x3), some (I x4), some (I x5), some (I x6), some (I x7), some (I x8), some (I x9), some (I x10), some (I x11), some (I s0)] [] (hp iv) :=
  (R_istore mc_72 dX4_tally_94 (Nat.le_of_ble_eq_true rfl)).trans <|
  (R_iload mc_72 dX4_tally_96 rfl).trans <|
  (R_iload_n mc_72 dX4_tally_98 rfl).trans <|
  (R_icmp_ne mc_72 dX4_tally_99 (t := 125) rfl).trans <| ite_c2
  ((R_aload_n mc_72 dX4_tally_102 rfl).trans <|
  (R_getR mc_72 dX4_tally_103 mo_72 ft_4_19 rfl rfl (r := 2) rfl (by decide)).trans <|
  (R_iload mc_72 dX4_tally_106 rfl).trans <|
  (R_iload mc_72 dX4_tally_108 rfl).trans <|
  R_invV mc_72 dX4_tally_110 mo_72 ct_4_72 af_72_51 rfl rfl rfl ⟨Nat.le_of_ble_eq_true rfl, Nat.le_of_ble_eq_true rfl⟩)
  (rfl)
theorem B_X4_tally_113 (sc : Nat × (Nat → Int)) (iv : Nat → Nat → Int) (x1 : Int) (x2 : Int) (x3 : Int) (x4 : Int) (x5 : Int) (x6 : Int) (x7 : Int) (x8 : Int) (x9 : Int) (x10 : Int) (x11 : Int) (x12 : Int) (s0 : Int) : Run sc 72 113 [some (Rf 49), some (I x1), some (I x2), some (I x3), some (I x4), some (I x5), some (I x6), some (I x7), some (I x8), some (I x9), some (I x10), some (I x11), some (I x12)] [(I s0)] (hp iv) = aBind (Run sc 103 0 [some (I s0), some (I x3), some (I x4)] [] (hp iv)) (fun v h2 => Run sc 72 119 [some (Rf 49), some (I x1), some (I x2), some (I x3), some (I x4), some (I x5), some (I x6), some (I x7), some (I x8), some (I x9), some (I x10), some (I x11), some (I x12)] (pushR v []) h2) :=
  (R_iload_n mc_72 dX4_tally_113 rfl).trans <|
  (R_iload mc_72 dX4_tally_114 rfl).trans <|
  R_invS mc_72 dX4_tally_116 mo_72 ct_4_51 (Or.inr rfl) af_72_103 (Nat.le_of_ble_eq_true rfl) rfl rfl ⟨Nat.le_of_ble_eq_true rfl, Nat.le_of_ble_eq_true rfl⟩
theorem B_X4_tally_119 (sc : Nat × (Nat → Int)) (iv : Nat → Nat → Int) (x1 : Int) (x2 : Int) (x3 : Int) (x4 : Int) (x5 : Int) (x6 : Int) (x7 : Int) (x8 : Int) (x9 : Int) (x10 : Int) (x11 : Int) (x12 : Int) (s0 : Int) : Run sc 72 119 [some (Rf 49), some (I x1), some (I x2), some (I x3), some (I x4), some (I x5), some (I x6), some (I x7), some (I x8), some (I x9), some (I x10), some (I x11), some (I x12)] [(I s0)] (hp iv) = if s0 = 0 then Run sc 72 125 [some (Rf 49), some (I x1), some (I x2), some (I x3), some (I x4), some (I x5), some (I x6), some (I x7), some (I x8), some (I x9), some (I x10), some (I x11), some (I x12)] [] (hp iv) else chk (x9 + 1) (Run sc 72 125 [some (Rf 49), some (I x1), some (I x2), some (I x3), some (I x4), some (I x5), some (I x6), some (I x7), some (I x8), some (I (x9 + 1)), some (I x10), some (I x11), some (I x12)] [] (hp iv)) :=
  (R_if_eq mc_72 dX4_tally_119 (t := 125) rfl).trans <| ite_c2
  (rfl)
  ((R_iinc mc_72 dX4_tally_122 rfl).trans <| chk_congr <|
  rfl)
theorem B_X4_tally_125 (sc : Nat × (Nat → Int)) (iv : Nat → Nat → Int) (x1 : Int) (x2 : Int) (x3 : Int) (x4 : Int) (x5 : Int) (x6 : Int) (x7 : Int) (x8 : Int) (x9 : Int) (x10 : Int) (x11 : Int) (x12 : Int) : Run sc 72 125 [some (Rf 49), some (I x1), some (I x2), some (I x3), some (I x4), some (I x5), some (I x6), some (I x7), some (I x8), some (I x9), some (I x10), some (I x11), some (I x12)] [] (hp iv) = chk (x11 + 1) (Run sc 72 70 [some (Rf 49), some (I x1), some (I x2), some (I x3), some (I x4), some (I x5), some (I x6), some (I x7), some (I x8), some (I x9), some (I x10), some (I (x11 + 1)), some (I x12)] [] (hp iv)) :=
  (R_iinc mc_72 dX4_tally_125 rfl).trans <| chk_congr <|
  R_goto mc_72 dX4_tally_128 (t := 70) rfl
theorem B_X4_tally_131 (sc : Nat × (Nat → Int)) (iv : Nat → Nat → Int) (x1 : Int) (x2 : Int) (x3 : Int) (x4 : Int) (x5 : Int) (x6 : Int) (x7 : Int) (x8 : Int) (x9 : Int) (x10 : Int) (x11 : Int) (d12 : Option AV) : Run sc 72 131 [some (Rf 49), some (I x1), some (I x2), some (I x3), some (I x4), some (I x5), some (I x6), some (I x7), some (I x8), some (I x9), some (I x10), some (I x11), d12] [] (hp iv) = chk (x10 + 1) (Run sc 72 59 [some (Rf 49), some (I x1), some (I x2), some (I x3), some (I x4), some (I x5), some (I x6), some (I x7), some (I x8), some (I x9), some (I (x10 + 1)), some (I x11), d12] [] (hp iv)) :=
  (R_iinc mc_72 dX4_tally_131 rfl).trans <| chk_congr <|
  R_goto mc_72 dX4_tally_134 (t := 59) rfl
theorem B_X4_tally_137 (sc : Nat × (Nat → Int)) (iv : Nat → Nat → Int) (x1 : Int) (x2 : Int) (x3 : Int) (x4 : Int) (x5 : Int) (x6 : Int) (x7 : Int) (x8 : Int) (x9 : Int) (x10 : Int) (d11 : Option AV) (d12 : Option AV) : Run sc 72 137 [some (Rf 49), some (I x1), some (I x2), some (I x3), some (I x4), some (I x5), some (I x6), some (I x7), some (I x8), some (I x9), some (I x10), d11, d12] [] (hp iv) = some (some (I x9), (hp iv)) :=
  (R_iload mc_72 dX4_tally_137 rfl).trans <|
  R_ireturn mc_72 dX4_tally_139 rfl
