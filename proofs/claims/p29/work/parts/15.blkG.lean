theorem B_X6_reset_0 (sc : Nat × (Nat → Int)) (iv : Nat → Nat → Int) (x1 : Int) (x2 : Int) : Run sc 77 0 [some (Rf 1), some (I x1), some (I x2)] [] (hp iv) = aBind (Run sc 103 0 [some (I x1), some (I 1), some (I 24)] [] (hp iv)) (fun v h2 => Run sc 77 7 [some (Rf 1), some (I x1), some (I x2)] (pushR v []) h2) :=
  (R_iload_n mc_77 dX6_reset_0 rfl).trans <|
  (R_iconst mc_77 dX6_reset_1 ⟨by decide, by decide⟩).trans <|
  (R_bipush mc_77 dX6_reset_2 ⟨by decide, by decide⟩).trans <|
  R_invS mc_77 dX6_reset_4 mo_77 ct_6_55 (Or.inl rfl) af_77_103 (Nat.le_of_ble_eq_true rfl) rfl rfl ⟨Nat.le_of_ble_eq_true rfl, Nat.le_of_ble_eq_true rfl⟩
theorem B_X6_reset_7 (sc : Nat × (Nat → Int)) (iv : Nat → Nat → Int) (x1 : Int) (x2 : Int) (s0 : Int) : Run sc 77 7 [some (Rf 1), some (I x1), some (I x2)] [(I s0)] (hp iv) = if s0 = 0 then Run sc 77 20 [some (Rf 1), some (I x1), some (I x2)] [] (hp iv) else aBind (Run sc 103 0 [some (I x2), some (I 1), some (I 24)] [] (hp iv)) (fun v h2 => Run sc 77 17 [some (Rf 1), some (I x1), some (I x2)] (pushR v []) h2) :=
  (R_if_eq mc_77 dX6_reset_7 (t := 20) rfl).trans <| ite_c2
  (rfl)
  ((R_iload_n mc_77 dX6_reset_10 rfl).trans <|
  (R_iconst mc_77 dX6_reset_11 ⟨by decide, by decide⟩).trans <|
  (R_bipush mc_77 dX6_reset_12 ⟨by decide, by decide⟩).trans <|
  R_invS mc_77 dX6_reset_14 mo_77 ct_6_55 (Or.inl rfl) af_77_103 (Nat.le_of_ble_eq_true rfl) rfl rfl ⟨Nat.le_of_ble_eq_true rfl, Nat.le_of_ble_eq_true rfl⟩)
theorem B_X6_reset_17 (sc : Nat × (Nat → Int)) (iv : Nat → Nat → Int) (x1 : Int) (x2 : Int) (s0 : Int) : Run sc 77 17 [some (Rf 1), some (I x1), some (I x2)] [(I s0)] (hp iv) = if s0 = 0 then Run sc 77 20 [some (Rf 1), some (I x1), some (I x2)] [] (hp iv) else Run sc 77 23 [some (Rf 1), some (I x1), some (I x2)] [] (hp iv) :=
  R_if_ne mc_77 dX6_reset_17 (t := 23) rfl
theorem B_X6_reset_20 (sc : Nat × (Nat → Int)) (iv : Nat → Nat → Int) (x1 : Int) (x2 : Int) : Run sc 77 20 [some (Rf 1), some (I x1), some (I x2)] [] (hp iv) = some (some (I (-2)), (hp iv)) :=
  (R_bipush mc_77 dX6_reset_20 ⟨by decide, by decide⟩).trans <|
  R_ireturn mc_77 dX6_reset_22 rfl
theorem B_X6_reset_23 (sc : Nat × (Nat → Int)) (iv : Nat → Nat → Int) (x1 : Int) (x2 : Int) : Run sc 77 23 [some (Rf 1), some (I x1), some (I x2)] [] (hp iv) = aBind (Run sc 49 0 [some (Rf 2), some (I x1), some (I x2), none] [] (hp iv)) (fun v h2 => Run sc 77 32 [some (Rf 1), some (I x1), some (I x2)] (pushR v []) h2) :=
  (R_aload_n mc_77 dX6_reset_23 rfl).trans <|
  (R_getR mc_77 dX6_reset_24 mo_77 ft_6_10 rfl rfl (r := 2) rfl (by decide)).trans <|
  (R_iload_n mc_77 dX6_reset_27 rfl).trans <|
  (R_iload_n mc_77 dX6_reset_28 rfl).trans <|
  R_invV mc_77 dX6_reset_29 mo_77 ct_6_59 af_77_49 rfl rfl rfl ⟨Nat.le_of_ble_eq_true rfl, Nat.le_of_ble_eq_true rfl⟩
theorem B_X6_reset_32 (sc : Nat × (Nat → Int)) (iv : Nat → Nat → Int) (x1 : Int) (x2 : Int) : Run sc 77 32 [some (Rf 1), some (I x1), some (I x2)] [] (hp iv) = aBind (Run sc 2 0 [some (Rf 44), none] [] (hp iv)) (fun v h2 => Run sc 77 39 [some (Rf 1), some (I x1), some (I x2)] (pushR v []) h2) :=
  (R_aload_n mc_77 dX6_reset_32 rfl).trans <|
  (R_getR mc_77 dX6_reset_33 mo_77 ft_6_37 rfl rfl (r := 44) rfl (by decide)).trans <|
  R_invV mc_77 dX6_reset_36 mo_77 ct_6_63 af_77_2 rfl rfl rfl ⟨Nat.le_of_ble_eq_true rfl, Nat.le_of_ble_eq_true rfl⟩
theorem B_X6_reset_39 (sc : Nat × (Nat → Int)) (iv : Nat → Nat → Int) (x1 : Int) (x2 : Int) : Run sc 77 39 [some (Rf 1), some (I x1), some (I x2)] [] (hp iv) = chk (x1 * x2) (some (some (I (x1 * x2)), (hp iv))) :=
  (R_iload_n mc_77 dX6_reset_39 rfl).trans <|
  (R_iload_n mc_77 dX6_reset_40 rfl).trans <|
  (R_imul mc_77 dX6_reset_41).trans <| chk_congr <|
  R_ireturn mc_77 dX6_reset_42 rfl
theorem B_X6_type_0 (sc : Nat × (Nat → Int)) (iv : Nat → Nat → Int) (x1 : Int) : Run sc 78 0 [some (Rf 1), some (I x1)] [] (hp iv) = aBind (Run sc 17 0 [some (Rf 50), some (I x1)] [] (hp iv)) (fun v h2 => Run sc 78 8 [some (Rf 1), some (I x1)] (pushR v []) h2) :=
  (R_aload_n mc_78 dX6_type_0 rfl).trans <|
  (R_getR mc_78 dX6_type_1 mo_78 ft_6_51 rfl rfl (r := 50) rfl (by decide)).trans <|
  (R_iload_n mc_78 dX6_type_4 rfl).trans <|
  R_invV mc_78 dX6_type_5 mo_78 ct_6_66 af_78_17 rfl rfl rfl ⟨Nat.le_of_ble_eq_true rfl, Nat.le_of_ble_eq_true rfl⟩
theorem B_X6_type_8 (sc : Nat × (Nat → Int)) (iv : Nat → Nat → Int) (x1 : Int) (s0 : Int) : Run sc 78 8 [some (Rf 1), some (I x1)] [(I s0)] (hp iv) = if s0 = 0 then Run sc 78 21 [some (Rf 1), some (I x1)] [] (hp iv) else Run sc 78 23 [some (Rf 1), some (I x1)] [(I (iv 50 1))] (hp iv) :=
  (R_if_eq mc_78 dX6_type_8 (t := 21) rfl).trans <| ite_c2
  (rfl)
  ((R_aload_n mc_78 dX6_type_11 rfl).trans <|
  (R_getR mc_78 dX6_type_12 mo_78 ft_6_51 rfl rfl (r := 50) rfl (by decide)).trans <|
  (R_getI mc_78 dX6_type_15 mo_78 ft_6_70 rfl rfl).trans <|
  R_goto mc_78 dX6_type_18 (t := 23) rfl)
theorem B_X6_type_21 (sc : Nat × (Nat → Int)) (iv : Nat → Nat → Int) (x1 : Int) : Run sc 78 21 [some (Rf 1), some (I x1)] [] (hp iv) = Run sc 78 23 [some (Rf 1), some (I x1)] [(I (-3))] (hp iv) :=
  R_bipush mc_78 dX6_type_21 ⟨by decide, by decide⟩
theorem B_X6_type_23 (sc : Nat × (Nat → Int)) (iv : Nat → Nat → Int) (x1 : Int) (s0 : Int) : Run sc 78 23 [some (Rf 1), some (I x1)] [(I s0)] (hp iv) = some (some (I s0), (hp iv)) :=
  R_ireturn mc_78 dX6_type_23 rfl
theorem B_X6_clearText_0 (sc : Nat × (Nat → Int)) (iv : Nat → Nat → Int)  : Run sc 79 0 [some (Rf 1), none] [] (hp iv) = bck (-2147483648) 2147483647 0 (Run sc 79 16 [some (Rf 1), some (I (iv 50 1))] [] (hp (setO iv 50 (upI (iv 50) 1 0)))) :=
  (R_aload_n mc_79 dX6_clearText_0 rfl).trans <|
  (R_getR mc_79 dX6_clearText_1 mo_79 ft_6_51 rfl rfl (r := 50) rfl (by decide)).trans <|
  (R_getI mc_79 dX6_clearText_4 mo_79 ft_6_70 rfl rfl).trans <|
  (R_istore_n mc_79 dX6_clearText_7 (Nat.le_of_ble_eq_true rfl)).trans <|
  (R_aload_n mc_79 dX6_clearText_8 rfl).trans <|
  (R_getR mc_79 dX6_clearText_9 mo_79 ft_6_51 rfl rfl (r := 50) rfl (by decide)).trans <|
  (R_iconst mc_79 dX6_clearText_12 ⟨by decide, by decide⟩).trans <|
  (R_putI mc_79 dX6_clearText_13 mo_79 ft_6_70 rfl rfl rfl (lo := (-2147483648)) (hi := 2147483647) rfl rfl).trans <| bck_congr <|
  rfl
theorem B_X6_clearText_16 (sc : Nat × (Nat → Int)) (iv : Nat → Nat → Int) (x1 : Int) : Run sc 79 16 [some (Rf 1), some (I x1)] [] (hp iv) = some (some (I x1), (hp iv)) :=
  (R_iload_n mc_79 dX6_clearText_16 rfl).trans <|
  R_ireturn mc_79 dX6_clearText_17 rfl
theorem B_X6_readChart_0 (sc : Nat × (Nat → Int)) (iv : Nat → Nat → Int)  : Run sc 80 0 [some (Rf 1), none] [] (hp iv) = aBind (Run sc 25 0 [some (Rf 50), some (I (iv 2 0)), some (I (iv 2 1)), none] [] (hp iv)) (fun v h2 => Run sc 80 21 [some (Rf 1), none] (pushR v []) h2) :=
  (R_aload_n mc_80 dX6_readChart_0 rfl).trans <|
  (R_getR mc_80 dX6_readChart_1 mo_80 ft_6_51 rfl rfl (r := 50) rfl (by decide)).trans <|
  (R_aload_n mc_80 dX6_readChart_4 rfl).trans <|
  (R_getR mc_80 dX6_readChart_5 mo_80 ft_6_10 rfl rfl (r := 2) rfl (by decide)).trans <|
  (R_getI mc_80 dX6_readChart_8 mo_80 ft_6_74 rfl rfl).trans <|
  (R_aload_n mc_80 dX6_readChart_11 rfl).trans <|
  (R_getR mc_80 dX6_readChart_12 mo_80 ft_6_10 rfl rfl (r := 2) rfl (by decide)).trans <|
  (R_getI mc_80 dX6_readChart_15 mo_80 ft_6_77 rfl rfl).trans <|
  R_invV mc_80 dX6_readChart_18 mo_80 ct_6_80 af_80_25 rfl rfl rfl ⟨Nat.le_of_ble_eq_true rfl, Nat.le_of_ble_eq_true rfl⟩
theorem B_X6_readChart_21 (sc : Nat × (Nat → Int)) (iv : Nat → Nat → Int) (d1 : Option AV) (s0 : Int) : Run sc 80 21 [some (Rf 1), d1] [(I s0)] (hp iv) = if s0 = (-1) then aBind (Run sc 28 0 [some (Rf 50), some (Rf 2), none, none, none, none, none] [] (hp iv)) (fun v h2 => Run sc 80 38 [some (Rf 1), some (I s0)] (pushR v []) h2) else Run sc 80 41 [some (Rf 1), some (I s0)] [] (hp iv) :=
  (R_istore_n mc_80 dX6_readChart_21 (Nat.le_of_ble_eq_true rfl)).trans <|
  (R_iload_n mc_80 dX6_readChart_22 rfl).trans <|
  (R_iconst mc_80 dX6_readChart_23 ⟨by decide, by decide⟩).trans <|
  (R_icmp_ne mc_80 dX6_readChart_24 (t := 41) rfl).trans <| ite_c2
  ((R_aload_n mc_80 dX6_readChart_27 rfl).trans <|
  (R_getR mc_80 dX6_readChart_28 mo_80 ft_6_51 rfl rfl (r := 50) rfl (by decide)).trans <|
  (R_aload_n mc_80 dX6_readChart_31 rfl).trans <|
  (R_getR mc_80 dX6_readChart_32 mo_80 ft_6_10 rfl rfl (r := 2) rfl (by decide)).trans <|
  R_invV mc_80 dX6_readChart_35 mo_80 ct_6_84 af_80_28 rfl rfl rfl ⟨Nat.le_of_ble_eq_true rfl, Nat.le_of_ble_eq_true rfl⟩)
  (rfl)
theorem B_X6_readChart_38 (sc : Nat × (Nat → Int)) (iv : Nat → Nat → Int) (x1 : Int) (s0 : Int) : Run sc 80 38 [some (Rf 1), some (I x1)] [(I s0)] (hp iv) = Run sc 80 45 [some (Rf 1), some (I x1)] [(I s0)] (hp iv) :=
  R_goto mc_80 dX6_readChart_38 (t := 45) rfl
theorem B_X6_readChart_41 (sc : Nat × (Nat → Int)) (iv : Nat → Nat → Int) (x1 : Int) : Run sc 80 41 [some (Rf 1), some (I x1)] [] (hp iv) = chk ((-100) - x1) (Run sc 80 45 [some (Rf 1), some (I x1)] [(I ((-100) - x1))] (hp iv)) :=
  (R_bipush mc_80 dX6_readChart_41 ⟨by decide, by decide⟩).trans <|
  (R_iload_n mc_80 dX6_readChart_43 rfl).trans <|
  (R_isub mc_80 dX6_readChart_44).trans <| chk_congr <|
  rfl
theorem B_X6_readChart_45 (sc : Nat × (Nat → Int)) (iv : Nat → Nat → Int) (x1 : Int) (s0 : Int) : Run sc 80 45 [some (Rf 1), some (I x1)] [(I s0)] (hp iv) = some (some (I s0), (hp iv)) :=
  R_ireturn mc_80 dX6_readChart_45 rfl
theorem B_X6_setCell_0 (sc : Nat × (Nat → Int)) (iv : Nat → Nat → Int) (x1 : Int) (x2 : Int) (x3 : Int) : Run sc 81 0 [some (Rf 1), some (I x1), some (I x2), some (I x3), none] [] (hp iv) = aBind (Run sc 50 0 [some (Rf 2), some (I x1), some (I x2)] [] (hp iv)) (fun v h2 => Run sc 81 9 [some (Rf 1), some (I x1), some (I x2), some (I x3), none] (pushR v []) h2) :=
  (R_aload_n mc_81 dX6_setCell_0 rfl).trans <|
  (R_getR mc_81 dX6_setCell_1 mo_81 ft_6_10 rfl rfl (r := 2) rfl (by decide)).trans <|
  (R_iload_n mc_81 dX6_setCell_4 rfl).trans <|
  (R_iload_n mc_81 dX6_setCell_5 rfl).trans <|
  R_invV mc_81 dX6_setCell_6 mo_81 ct_6_88 af_81_50 rfl rfl rfl ⟨Nat.le_of_ble_eq_true rfl, Nat.le_of_ble_eq_true rfl⟩
theorem B_X6_setCell_9 (sc : Nat × (Nat → Int)) (iv : Nat → Nat → Int) (x1 : Int) (x2 : Int) (x3 : Int) (d4 : Option AV) (s0 : Int) : Run sc 81 9 [some (Rf 1), some (I x1), some (I x2), some (I x3), d4] [(I s0)] (hp iv) = if s0 = 0 then some (some (I (-1)), (hp iv)) else Run sc 81 14 [some (Rf 1), some (I x1), some (I x2), some (I x3), d4] [] (hp iv) :=
  (R_if_ne mc_81 dX6_setCell_9 (t := 14) rfl).trans <| ite_c2
  ((R_iconst mc_81 dX6_setCell_12 ⟨by decide, by decide⟩).trans <|
  R_ireturn mc_81 dX6_setCell_13 rfl)
  (rfl)
theorem B_X6_setCell_14 (sc : Nat × (Nat → Int)) (iv : Nat → Nat → Int) (x1 : Int) (x2 : Int) (x3 : Int) (d4 : Option AV) : Run sc 81 14 [some (Rf 1), some (I x1), some (I x2), some (I x3), d4] [] (hp iv) = aBind (Run sc 103 0 [some (I x3), some (I 0), some (I 6)] [] (hp iv)) (fun v h2 => Run sc 81 21 [some (Rf 1), some (I x1), some (I x2), some (I x3), d4] (pushR v []) h2) :=
  (R_iload_n mc_81 dX6_setCell_14 rfl).trans <|
  (R_iconst mc_81 dX6_setCell_15 ⟨by decide, by decide⟩).trans <|
  (R_bipush mc_81 dX6_setCell_16 ⟨by decide, by decide⟩).trans <|
  R_invS mc_81 dX6_setCell_18 mo_81 ct_6_55 (Or.inl rfl) af_81_103 (Nat.le_of_ble_eq_true rfl) rfl rfl ⟨Nat.le_of_ble_eq_true rfl, Nat.le_of_ble_eq_true rfl⟩
theorem B_X6_setCell_21 (sc : Nat × (Nat → Int)) (iv : Nat → Nat → Int) (x1 : Int) (x2 : Int) (x3 : Int) (d4 : Option AV) (s0 : Int) : Run sc 81 21 [some (Rf 1), some (I x1), some (I x2), some (I x3), d4] [(I s0)] (hp iv) = if s0 = 0 then some (some (I (-2)), (hp iv)) else Run sc 81 27 [some (Rf 1), some (I x1), some (I x2), some (I x3), d4] [] (hp iv) :=
  (R_if_ne mc_81 dX6_setCell_21 (t := 27) rfl).trans <| ite_c2
  ((R_bipush mc_81 dX6_setCell_24 ⟨by decide, by decide⟩).trans <|
  R_ireturn mc_81 dX6_setCell_26 rfl)
  (rfl)
theorem B_X6_setCell_27 (sc : Nat × (Nat → Int)) (iv : Nat → Nat → Int) (x1 : Int) (x2 : Int) (x3 : Int) (d4 : Option AV) : Run sc 81 27 [some (Rf 1), some (I x1), some (I x2), some (I x3), d4] [] (hp iv) = aBind (Run sc 51 0 [some (Rf 2), some (I x1), some (I x2)] [] (hp iv)) (fun v h2 => Run sc 81 36 [some (Rf 1), some (I x1), some (I x2), some (I x3), d4] (pushR v []) h2) :=
  (R_aload_n mc_81 dX6_setCell_27 rfl).trans <|
  (R_getR mc_81 dX6_setCell_28 mo_81 ft_6_10 rfl rfl (r := 2) rfl (by decide)).trans <|
  (R_iload_n mc_81 dX6_setCell_31 rfl).trans <|
  (R_iload_n mc_81 dX6_setCell_32 rfl).trans <|
  R_invV mc_81 dX6_setCell_33 mo_81 ct_6_92 af_81_51 rfl rfl rfl ⟨Nat.le_of_ble_eq_true rfl, Nat.le_of_ble_eq_true rfl⟩
theorem B_X6_setCell_36 (sc : Nat × (Nat → Int)) (iv : Nat → Nat → Int) (x1 : Int) (x2 : Int) (x3 : Int) (d4 : Option AV) (s0 : Int) : Run sc 81 36 [some (Rf 1), some (I x1), some (I x2), some (I x3), d4] [(I s0)] (hp iv) = aBind (Run sc 52 0 [some (Rf 2), some (I x1), some (I x2), some (I x3), none] [] (hp iv)) (fun v h2 => Run sc 81 48 [some (Rf 1), some (I x1), some (I x2), some (I x3), some (I s0)] (pushR v []) h2) :=
  (R_istore mc_81 dX6_setCell_36 (Nat.le_of_ble_eq_true rfl)).trans <|
  (R_aload_n mc_81 dX6_setCell_38 rfl).trans <|
  (R_getR mc_81 dX6_setCell_39 mo_81 ft_6_10 rfl rfl (r := 2) rfl (by decide)).trans <|
  (R_iload_n mc_81 dX6_setCell_42 rfl).trans <|
  (R_iload_n mc_81 dX6_setCell_43 rfl).trans <|
  (R_iload_n mc_81 dX6_setCell_44 rfl).trans <|
  R_invV mc_81 dX6_setCell_45 mo_81 ct_6_95 af_81_52 rfl rfl rfl ⟨Nat.le_of_ble_eq_true rfl, Nat.le_of_ble_eq_true rfl⟩
theorem B_X6_setCell_48 (sc : Nat × (Nat → Int)) (iv : Nat → Nat → Int) (x1 : Int) (x2 : Int) (x3 : Int) (x4 : Int) (s0 : Int) : Run sc 81 48 [some (Rf 1), some (I x1), some (I x2), some (I x3), some (I x4)] [(I s0)] (hp iv) = some (some (I x4), (hp iv)) :=
  (R_pop mc_81 dX6_setCell_48).trans <|
  (R_iload mc_81 dX6_setCell_49 rfl).trans <|
  R_ireturn mc_81 dX6_setCell_51 rfl
theorem B_X6_fill_0 (sc : Nat × (Nat → Int)) (iv : Nat → Nat → Int) (x1 : Int) (x2 : Int) (x3 : Int) (x4 : Int) (x5 : Int) : Run sc 82 0 [some (Rf 1), some (I x1), some (I x2), some (I x3), some (I x4), some (I x5), none, none] [] (hp iv) = aBind (Run sc 50 0 [some (Rf 2), some (I x1), some (I x2)] [] (hp iv)) (fun v h2 => Run sc 82 9 [some (Rf 1), some (I x1), some (I x2), some (I x3), some (I x4), some (I x5), none, none] (pushR v []) h2) :=
  (R_aload_n mc_82 dX6_fill_0 rfl).trans <|
  (R_getR mc_82 dX6_fill_1 mo_82 ft_6_10 rfl rfl (r := 2) rfl (by decide)).trans <|
  (R_iload_n mc_82 dX6_fill_4 rfl).trans <|
  (R_iload_n mc_82 dX6_fill_5 rfl).trans <|
  R_invV mc_82 dX6_fill_6 mo_82 ct_6_88 af_82_50 rfl rfl rfl ⟨Nat.le_of_ble_eq_true rfl, Nat.le_of_ble_eq_true rfl⟩
theorem B_X6_fill_9 (sc : Nat × (Nat → Int)) (iv : Nat → Nat → Int) (x1 : Int) (x2 : Int) (x3 : Int) (x4 : Int) (x5 : Int) (d6 : Option AV) (d7 : Option AV) (s0 : Int) : Run sc 82 9 [some (Rf 1), some (I x1), some (I x2), some (I x3), some (I x4), some (I x5), d6, d7] [(I s0)] (hp iv) = if s0 = 0 then some (some (I (-1)), (hp iv)) else Run sc 82 14 [some (Rf 1), some (I x1), some (I x2), some (I x3), some (I x4), some (I x5), d6, d7] [] (hp iv) :=
  (R_if_ne mc_82 dX6_fill_9 (t := 14) rfl).trans <| ite_c2
  ((R_iconst mc_82 dX6_fill_12 ⟨by decide, by decide⟩).trans <|
  R_ireturn mc_82 dX6_fill_13 rfl)
  (rfl)
theorem B_X6_fill_14 (sc : Nat × (Nat → Int)) (iv : Nat → Nat → Int) (x1 : Int) (x2 : Int) (x3 : Int) (x4 : Int) (x5 : Int) (d6 : Option AV) (d7 : Option AV) : Run sc 82 14 [some (Rf 1), some (I x1), some (I x2), some (I x3), some (I x4), some (I x5), d6, d7] [] (hp iv) = chk ((iv 2 0) - x1) (aBind (Run sc 103 0 [some (I x3), some (I 1), some (I ((iv 2 0) - x1))] [] (hp iv)) (fun v h2 => Run sc 82 28 [some (Rf 1), some (I x1), some (I x2), some (I x3), some (I x4), some (I x5), d6, d7] (pushR v []) h2)) :=
  (R_iload_n mc_82 dX6_fill_14 rfl).trans <|
  (R_iconst mc_82 dX6_fill_15 ⟨by decide, by decide⟩).trans <|
  (R_aload_n mc_82 dX6_fill_16 rfl).trans <|
  (R_getR mc_82 dX6_fill_17 mo_82 ft_6_10 rfl rfl (r := 2) rfl (by decide)).trans <|
  (R_getI mc_82 dX6_fill_20 mo_82 ft_6_74 rfl rfl).trans <|
  (R_iload_n mc_82 dX6_fill_23 rfl).trans <|
  (R_isub mc_82 dX6_fill_24).trans <| chk_congr <|
  R_invS mc_82 dX6_fill_25 mo_82 ct_6_55 (Or.inl rfl) af_82_103 (Nat.le_of_ble_eq_true rfl) rfl rfl ⟨Nat.le_of_ble_eq_true rfl, Nat.le_of_ble_eq_true rfl⟩
theorem B_X6_fill_28 (sc : Nat × (Nat → Int)) (iv : Nat → Nat → Int) (x1 : Int) (x2 : Int) (x3 : Int) (x4 : Int) (x5 : Int) (d6 : Option AV) (d7 : Option AV) (s0 : Int) : Run sc 82 28 [some (Rf 1), some (I x1), some (I x2), some (I x3), some (I x4), some (I x5), d6, d7] [(I s0)] (hp iv) = if s0 = 0 then Run sc 82 60 [some (Rf 1), some (I x1), some (I x2), some (I x3), some (I x4), some (I x5), d6, d7] [] (hp iv) else chk ((iv 2 1) - x2) (aBind (Run sc 103 0 [some (I x4), some (I 1), some (I ((iv 2 1) - x2))] [] (hp iv)) (fun v h2 => Run sc 82 46 [some (Rf 1), some (I x1), some (I x2), some (I x3), some (I x4), some (I x5), d6, d7] (pushR v []) h2)) :=
  (R_if_eq mc_82 dX6_fill_28 (t := 60) rfl).trans <| ite_c2
  (rfl)
  ((R_iload mc_82 dX6_fill_31 rfl).trans <|
  (R_iconst mc_82 dX6_fill_33 ⟨by decide, by decide⟩).trans <|
  (R_aload_n mc_82 dX6_fill_34 rfl).trans <|
  (R_getR mc_82 dX6_fill_35 mo_82 ft_6_10 rfl rfl (r := 2) rfl (by decide)).trans <|
  (R_getI mc_82 dX6_fill_38 mo_82 ft_6_77 rfl rfl).trans <|
  (R_iload_n mc_82 dX6_fill_41 rfl).trans <|
  (R_isub mc_82 dX6_fill_42).trans <| chk_congr <|
  R_invS mc_82 dX6_fill_43 mo_82 ct_6_55 (Or.inl rfl) af_82_103 (Nat.le_of_ble_eq_true rfl) rfl rfl ⟨Nat.le_of_ble_eq_true rfl, Nat.le_of_ble_eq_true rfl⟩)
theorem B_X6_fill_46 (sc : Nat × (Nat → Int)) (iv : Nat → Nat → Int) (x1 : Int) (x2 : Int) (x3 : Int) (x4 : Int) (x5 : Int) (d6 : Option AV) (d7 : Option AV) (s0 : Int) : Run sc 82 46 [some (Rf 1), some (I x1), some (I x2), some (I x3), some (I x4), some (I x5), d6, d7] [(I s0)] (hp iv) = if s0 = 0 then Run sc 82 60 [some (Rf 1), some (I x1), some (I x2), some (I x3), some (I x4), some (I x5), d6, d7] [] (hp iv) else aBind (Run sc 103 0 [some (I x5), some (I 0), some (I 6)] [] (hp iv)) (fun v h2 => Run sc 82 57 [some (Rf 1), some (I x1), some (I x2), some (I x3), some (I x4), some (I x5), d6, d7] (pushR v []) h2) :=
  (R_if_eq mc_82 dX6_fill_46 (t := 60) rfl).trans <| ite_c2
  (rfl)
  ((R_iload mc_82 dX6_fill_49 rfl).trans <|
  (R_iconst mc_82 dX6_fill_51 ⟨by decide, by decide⟩).trans <|
  (R_bipush mc_82 dX6_fill_52 ⟨by decide, by decide⟩).trans <|
  R_invS mc_82 dX6_fill_54 mo_82 ct_6_55 (Or.inl rfl) af_82_103 (Nat.le_of_ble_eq_true rfl) rfl rfl ⟨Nat.le_of_ble_eq_true rfl, Nat.le_of_ble_eq_true rfl⟩)
theorem B_X6_fill_57 (sc : Nat × (Nat → Int)) (iv : Nat → Nat → Int) (x1 : Int) (x2 : Int) (x3 : Int) (x4 : Int) (x5 : Int) (d6 : Option AV) (d7 : Option AV) (s0 : Int) : Run sc 82 57 [some (Rf 1), some (I x1), some (I x2), some (I x3), some (I x4), some (I x5), d6, d7] [(I s0)] (hp iv) = if s0 = 0 then Run sc 82 60 [some (Rf 1), some (I x1), some (I x2), some (I x3), some (I x4), some (I x5), d6, d7] [] (hp iv) else Run sc 82 63 [some (Rf 1), some (I x1), some (I x2), some (I x3), some (I x4), some (I x5), d6, d7] [] (hp iv) :=
  R_if_ne mc_82 dX6_fill_57 (t := 63) rfl
theorem B_X6_fill_60 (sc : Nat × (Nat → Int)) (iv : Nat → Nat → Int) (x1 : Int) (x2 : Int) (x3 : Int) (x4 : Int) (x5 : Int) (d6 : Option AV) (d7 : Option AV) : Run sc 82 60 [some (Rf 1), some (I x1), some (I x2), some (I x3), some (I x4), some (I x5), d6, d7] [] (hp iv) = some (some (I (-2)), (hp iv)) :=
  (R_bipush mc_82 dX6_fill_60 ⟨by decide, by decide⟩).trans <|
  R_ireturn mc_82 dX6_fill_62 rfl
theorem B_X6_fill_63 (sc : Nat × (Nat → Int)) (iv : Nat → Nat → Int) (x1 : Int) (x2 : Int) (x3 : Int) (x4 : Int) (x5 : Int) (d6 : Option AV) (d7 : Option AV) : Run sc 82 63 [some (Rf 1), some (I x1), some (I x2), some (I x3), some (I x4), some (I x5), d6, d7] [] (hp iv) = Run sc 82 69 [some (Rf 1), some (I x1), some (I x2), some (I x3), some (I x4), some (I x5), some (I 0), some (I 0)] [] (hp iv) :=
  (R_iconst mc_82 dX6_fill_63 ⟨by decide, by decide⟩).trans <|
  (R_istore mc_82 dX6_fill_64 (Nat.le_of_ble_eq_true rfl)).trans <|
  (R_iconst mc_82 dX6_fill_66 ⟨by decide, by decide⟩).trans <|
  R_istore mc_82 dX6_fill_67 (Nat.le_of_ble_eq_true rfl)
theorem B_X6_fill_69 (sc : Nat × (Nat → Int)) (iv : Nat → Nat → Int) (x1 : Int) (x2 : Int) (x3 : Int) (x4 : Int) (x5 : Int) (x6 : Int) (x7 : Int) : Run sc 82 69 [some (Rf 1), some (I x1), some (I x2), some (I x3), some (I x4), some (I x5), some (I x6), some (I x7)] [] (hp iv) = if x7 < x4 then chk (x2 + x7) (aBind (Run sc 54 0 [some (Rf 2), some (I x1), some (I (x2 + x7)), some (I x3), some (I x5), none, none] [] (hp iv)) (fun v h2 => Run sc 82 93 [some (Rf 1), some (I x1), some (I x2), some (I x3), some (I x4), some (I x5), some (I x6), some (I x7)] (pushR v [(I x6)]) h2)) else Run sc 82 102 [some (Rf 1), some (I x1), some (I x2), some (I x3), some (I x4), some (I x5), some (I x6), some (I x7)] [] (hp iv) :=
  (R_iload mc_82 dX6_fill_69 rfl).trans <|
  (R_iload mc_82 dX6_fill_71 rfl).trans <|
  (R_icmp_ge mc_82 dX6_fill_73 (t := 102) rfl).trans <| ite_c2
  ((R_iload mc_82 dX6_fill_76 rfl).trans <|
  (R_aload_n mc_82 dX6_fill_78 rfl).trans <|
  (R_getR mc_82 dX6_fill_79 mo_82 ft_6_10 rfl rfl (r := 2) rfl (by decide)).trans <|
  (R_iload_n mc_82 dX6_fill_82 rfl).trans <|
  (R_iload_n mc_82 dX6_fill_83 rfl).trans <|
  (R_iload mc_82 dX6_fill_84 rfl).trans <|
  (R_iadd mc_82 dX6_fill_86).trans <| chk_congr <|
  (R_iload_n mc_82 dX6_fill_87 rfl).trans <|
  (R_iload mc_82 dX6_fill_88 rfl).trans <|
  R_invV mc_82 dX6_fill_90 mo_82 ct_6_99 af_82_54 rfl rfl rfl ⟨Nat.le_of_ble_eq_true rfl, Nat.le_of_ble_eq_true rfl⟩)
  (rfl)
theorem B_X6_fill_93 (sc : Nat × (Nat → Int)) (iv : Nat → Nat → Int) (x1 : Int) (x2 : Int) (x3 : Int) (x4 : Int) (x5 : Int) (x6 : Int) (x7 : Int) (s0 : Int) (s1 : Int) : Run sc 82 93 [some (Rf 1), some (I x1), some (I x2), some (I x3), some (I x4), some (I x5), some (I x6), some (I x7)] [(I s0), (I s1)] (hp iv) = chk (s1 + s0) (chk (x7 + 1) (Run sc 82 69 [some (Rf 1), some (I x1), some (I x2), some (I x3), some (I x4), some (I x5), some (I (s1 + s0)), some (I (x7 + 1))] [] (hp iv))) :=
  (R_iadd mc_82 dX6_fill_93).trans <| chk_congr <|
  (R_istore mc_82 dX6_fill_94 (Nat.le_of_ble_eq_true rfl)).trans <|
  (R_iinc mc_82 dX6_fill_96 rfl).trans <| chk_congr <|
  R_goto mc_82 dX6_fill_99 (t := 69) rfl
theorem B_X6_fill_102 (sc : Nat × (Nat → Int)) (iv : Nat → Nat → Int) (x1 : Int) (x2 : Int) (x3 : Int) (x4 : Int) (x5 : Int) (x6 : Int) (x7 : Int) : Run sc 82 102 [some (Rf 1), some (I x1), some (I x2), some (I x3), some (I x4), some (I x5), some (I x6), some (I x7)] [] (hp iv) = some (some (I x6), (hp iv)) :=
  (R_iload mc_82 dX6_fill_102 rfl).trans <|
  R_ireturn mc_82 dX6_fill_104 rfl
theorem B_X6_cell_0 (sc : Nat × (Nat → Int)) (iv : Nat → Nat → Int) (x1 : Int) (x2 : Int) : Run sc 83 0 [some (Rf 1), some (I x1), some (I x2)] [] (hp iv) = aBind (Run sc 50 0 [some (Rf 2), some (I x1), some (I x2)] [] (hp iv)) (fun v h2 => Run sc 83 9 [some (Rf 1), some (I x1), some (I x2)] (pushR v []) h2) :=
  (R_aload_n mc_83 dX6_cell_0 rfl).trans <|
  (R_getR mc_83 dX6_cell_1 mo_83 ft_6_10 rfl rfl (r := 2) rfl (by decide)).trans <|
  (R_iload_n mc_83 dX6_cell_4 rfl).trans <|
  (R_iload_n mc_83 dX6_cell_5 rfl).trans <|
  R_invV mc_83 dX6_cell_6 mo_83 ct_6_88 af_83_50 rfl rfl rfl ⟨Nat.le_of_ble_eq_true rfl, Nat.le_of_ble_eq_true rfl⟩
theorem B_X6_cell_9 (sc : Nat × (Nat → Int)) (iv : Nat → Nat → Int) (x1 : Int) (x2 : Int) (s0 : Int) : Run sc 83 9 [some (Rf 1), some (I x1), some (I x2)] [(I s0)] (hp iv) = if s0 = 0 then Run sc 83 24 [some (Rf 1), some (I x1), some (I x2)] [] (hp iv) else aBind (Run sc 51 0 [some (Rf 2), some (I x1), some (I x2)] [] (hp iv)) (fun v h2 => Run sc 83 21 [some (Rf 1), some (I x1), some (I x2)] (pushR v []) h2) :=
  (R_if_eq mc_83 dX6_cell_9 (t := 24) rfl).trans <| ite_c2
  (rfl)
  ((R_aload_n mc_83 dX6_cell_12 rfl).trans <|
  (R_getR mc_83 dX6_cell_13 mo_83 ft_6_10 rfl rfl (r := 2) rfl (by decide)).trans <|
  (R_iload_n mc_83 dX6_cell_16 rfl).trans <|
  (R_iload_n mc_83 dX6_cell_17 rfl).trans <|
  R_invV mc_83 dX6_cell_18 mo_83 ct_6_92 af_83_51 rfl rfl rfl ⟨Nat.le_of_ble_eq_true rfl, Nat.le_of_ble_eq_true rfl⟩)
theorem B_X6_cell_21 (sc : Nat × (Nat → Int)) (iv : Nat → Nat → Int) (x1 : Int) (x2 : Int) (s0 : Int) : Run sc 83 21 [some (Rf 1), some (I x1), some (I x2)] [(I s0)] (hp iv) = Run sc 83 25 [some (Rf 1), some (I x1), some (I x2)] [(I s0)] (hp iv) :=
  R_goto mc_83 dX6_cell_21 (t := 25) rfl
theorem B_X6_cell_24 (sc : Nat × (Nat → Int)) (iv : Nat → Nat → Int) (x1 : Int) (x2 : Int) : Run sc 83 24 [some (Rf 1), some (I x1), some (I x2)] [] (hp iv) = Run sc 83 25 [some (Rf 1), some (I x1), some (I x2)] [(I (-1))] (hp iv) :=
  R_iconst mc_83 dX6_cell_24 ⟨by decide, by decide⟩
theorem B_X6_cell_25 (sc : Nat × (Nat → Int)) (iv : Nat → Nat → Int) (x1 : Int) (x2 : Int) (s0 : Int) : Run sc 83 25 [some (Rf 1), some (I x1), some (I x2)] [(I s0)] (hp iv) = some (some (I s0), (hp iv)) :=
  R_ireturn mc_83 dX6_cell_25 rfl
theorem B_X6_count_0 (sc : Nat × (Nat → Int)) (iv : Nat → Nat → Int) (x1 : Int) (x2 : Int) : Run sc 84 0 [some (Rf 1), some (I x1), some (I x2), none, none] [] (hp iv) = aBind (Run sc 103 0 [some (I x1), some (I 0), some (I 6)] [] (hp iv)) (fun v h2 => Run sc 84 7 [some (Rf 1), some (I x1), some (I x2), none, none] (pushR v []) h2) :=
  (R_iload_n mc_84 dX6_count_0 rfl).trans <|
  (R_iconst mc_84 dX6_count_1 ⟨by decide, by decide⟩).trans <|
  (R_bipush mc_84 dX6_count_2 ⟨by decide, by decide⟩).trans <|
  R_invS mc_84 dX6_count_4 mo_84 ct_6_55 (Or.inl rfl) af_84_103 (Nat.le_of_ble_eq_true rfl) rfl rfl ⟨Nat.le_of_ble_eq_true rfl, Nat.le_of_ble_eq_true rfl⟩
theorem B_X6_count_7 (sc : Nat × (Nat → Int)) (iv : Nat → Nat → Int) (x1 : Int) (x2 : Int) (d3 : Option AV) (d4 : Option AV) (s0 : Int) : Run sc 84 7 [some (Rf 1), some (I x1), some (I x2), d3, d4] [(I s0)] (hp iv) = if s0 = 0 then Run sc 84 19 [some (Rf 1), some (I x1), some (I x2), d3, d4] [] (hp iv) else aBind (Run sc 103 0 [some (I x2), some (I 0), some (I 4)] [] (hp iv)) (fun v h2 => Run sc 84 16 [some (Rf 1), some (I x1), some (I x2), d3, d4] (pushR v []) h2) :=
  (R_if_eq mc_84 dX6_count_7 (t := 19) rfl).trans <| ite_c2
  (rfl)
  ((R_iload_n mc_84 dX6_count_10 rfl).trans <|
  (R_iconst mc_84 dX6_count_11 ⟨by decide, by decide⟩).trans <|
  (R_iconst mc_84 dX6_count_12 ⟨by decide, by decide⟩).trans <|
  R_invS mc_84 dX6_count_13 mo_84 ct_6_55 (Or.inl rfl) af_84_103 (Nat.le_of_ble_eq_true rfl) rfl rfl ⟨Nat.le_of_ble_eq_true rfl, Nat.le_of_ble_eq_true rfl⟩)
theorem B_X6_count_16 (sc : Nat × (Nat → Int)) (iv : Nat → Nat → Int) (x1 : Int) (x2 : Int) (d3 : Option AV) (d4 : Option AV) (s0 : Int) : Run sc 84 16 [some (Rf 1), some (I x1), some (I x2), d3, d4] [(I s0)] (hp iv) = if s0 = 0 then Run sc 84 19 [some (Rf 1), some (I x1), some (I x2), d3, d4] [] (hp iv) else Run sc 84 22 [some (Rf 1), some (I x1), some (I x2), d3, d4] [] (hp iv) :=
  R_if_ne mc_84 dX6_count_16 (t := 22) rfl
theorem B_X6_count_19 (sc : Nat × (Nat → Int)) (iv : Nat → Nat → Int) (x1 : Int) (x2 : Int) (d3 : Option AV) (d4 : Option AV) : Run sc 84 19 [some (Rf 1), some (I x1), some (I x2), d3, d4] [] (hp iv) = some (some (I (-2)), (hp iv)) :=
  (R_bipush mc_84 dX6_count_19 ⟨by decide, by decide⟩).trans <|
  R_ireturn mc_84 dX6_count_21 rfl
theorem B_X6_count_22 (sc : Nat × (Nat → Int)) (iv : Nat → Nat → Int) (x1 : Int) (x2 : Int) (d3 : Option AV) (d4 : Option AV) : Run sc 84 22 [some (Rf 1), some (I x1), some (I x2), d3, d4] [] (hp iv) = Run sc 84 27 [some (Rf 1), some (I x1), some (I x2), some (I 0), some (I 1)] [] (hp iv) :=
  (R_iconst mc_84 dX6_count_22 ⟨by decide, by decide⟩).trans <|
  (R_istore_n mc_84 dX6_count_23 (Nat.le_of_ble_eq_true rfl)).trans <|
  (R_iconst mc_84 dX6_count_24 ⟨by decide, by decide⟩).trans <|
  R_istore mc_84 dX6_count_25 (Nat.le_of_ble_eq_true rfl)
theorem B_X6_count_27 (sc : Nat × (Nat → Int)) (iv : Nat → Nat → Int) (x1 : Int) (x2 : Int) (x3 : Int) (x4 : Int) : Run sc 84 27 [some (Rf 1), some (I x1), some (I x2), some (I x3), some (I x4)] [] (hp iv) = if 6 < x4 then Run sc 84 60 [some (Rf 1), some (I x1), some (I x2), some (I x3), some (I x4)] [] (hp iv) else if x1 = 0 then Run sc 84 44 [some (Rf 1), some (I x1), some (I x2), some (I x3), some (I x4)] [] (hp iv) else if x1 = x4 then Run sc 84 44 [some (Rf 1), some (I x1), some (I x2), some (I x3), some (I x4)] [] (hp iv) else Run sc 84 54 [some (Rf 1), some (I x1), some (I x2), some (I x3), some (I x4)] [] (hp iv) :=
  (R_iload mc_84 dX6_count_27 rfl).trans <|
  (R_bipush mc_84 dX6_count_29 ⟨by decide, by decide⟩).trans <|
  (R_icmp_gt mc_84 dX6_count_31 (t := 60) rfl).trans <| ite_c2
  (rfl)
  ((R_iload_n mc_84 dX6_count_34 rfl).trans <|
  (R_if_eq mc_84 dX6_count_35 (t := 44) rfl).trans <| ite_c2
  (rfl)
  ((R_iload_n mc_84 dX6_count_38 rfl).trans <|
  (R_iload mc_84 dX6_count_39 rfl).trans <|
  R_icmp_ne mc_84 dX6_count_41 (t := 54) rfl))
theorem B_X6_count_44 (sc : Nat × (Nat → Int)) (iv : Nat → Nat → Int) (x1 : Int) (x2 : Int) (x3 : Int) (x4 : Int) : Run sc 84 44 [some (Rf 1), some (I x1), some (I x2), some (I x3), some (I x4)] [] (hp iv) = aBind (Run sc 106 0 [some (Rf 1), some (I x4), some (I x2)] [] (hp iv)) (fun v h2 => Run sc 84 52 [some (Rf 1), some (I x1), some (I x2), some (I x3), some (I x4)] (pushR v [(I x3)]) h2) :=
  (R_iload_n mc_84 dX6_count_44 rfl).trans <|
  (R_aload_n mc_84 dX6_count_45 rfl).trans <|
  (R_iload mc_84 dX6_count_46 rfl).trans <|
  (R_iload_n mc_84 dX6_count_48 rfl).trans <|
  R_invV mc_84 dX6_count_49 mo_84 ct_6_103 af_84_106 rfl rfl rfl ⟨Nat.le_of_ble_eq_true rfl, Nat.le_of_ble_eq_true rfl⟩
theorem B_X6_count_52 (sc : Nat × (Nat → Int)) (iv : Nat → Nat → Int) (x1 : Int) (x2 : Int) (x3 : Int) (x4 : Int) (s0 : Int) (s1 : Int) : Run sc 84 52 [some (Rf 1), some (I x1), some (I x2), some (I x3), some (I x4)] [(I s0), (I s1)] (hp iv) = chk (s1 + s0) (Run sc 84 54 [some (Rf 1), some (I x1), some (I x2), some (I (s1 + s0)), some (I x4)] [] (hp iv)) :=
  (R_iadd mc_84 dX6_count_52).trans <| chk_congr <|
  R_istore_n mc_84 dX6_count_53 (Nat.le_of_ble_eq_true rfl)
theorem B_X6_count_54 (sc : Nat × (Nat → Int)) (iv : Nat → Nat → Int) (x1 : Int) (x2 : Int) (x3 : Int) (x4 : Int) : Run sc 84 54 [some (Rf 1), some (I x1), some (I x2), some (I x3), some (I x4)] [] (hp iv) = chk (x4 + 1) (Run sc 84 27 [some (Rf 1), some (I x1), some (I x2), some (I x3), some (I (x4 + 1))] [] (hp iv)) :=
  (R_iinc mc_84 dX6_count_54 rfl).trans <| chk_congr <|
  R_goto mc_84 dX6_count_57 (t := 27) rfl
theorem B_X6_count_60 (sc : Nat × (Nat → Int)) (iv : Nat → Nat → Int) (x1 : Int) (x2 : Int) (x3 : Int) (x4 : Int) : Run sc 84 60 [some (Rf 1), some (I x1), some (I x2), some (I x3), some (I x4)] [] (hp iv) = some (some (I x3), (hp iv)) :=
  (R_iload_n mc_84 dX6_count_60 rfl).trans <|
  R_ireturn mc_84 dX6_count_61 rfl
theorem B_X6_isLone_0 (sc : Nat × (Nat → Int)) (iv : Nat → Nat → Int) (x1 : Int) (x2 : Int) : Run sc 85 0 [some (Rf 1), some (I x1), some (I x2)] [] (hp iv) = aBind (Run sc 50 0 [some (Rf 2), some (I x1), some (I x2)] [] (hp iv)) (fun v h2 => Run sc 85 9 [some (Rf 1), some (I x1), some (I x2)] (pushR v []) h2) :=
  (R_aload_n mc_85 dX6_isLone_0 rfl).trans <|
  (R_getR mc_85 dX6_isLone_1 mo_85 ft_6_10 rfl rfl (r := 2) rfl (by decide)).trans <|
  (R_iload_n mc_85 dX6_isLone_4 rfl).trans <|
  (R_iload_n mc_85 dX6_isLone_5 rfl).trans <|
  R_invV mc_85 dX6_isLone_6 mo_85 ct_6_88 af_85_50 rfl rfl rfl ⟨Nat.le_of_ble_eq_true rfl, Nat.le_of_ble_eq_true rfl⟩
theorem B_X6_isLone_9 (sc : Nat × (Nat → Int)) (iv : Nat → Nat → Int) (x1 : Int) (x2 : Int) (s0 : Int) : Run sc 85 9 [some (Rf 1), some (I x1), some (I x2)] [(I s0)] (hp iv) = if s0 = 0 then some (some (I (-1)), (hp iv)) else Run sc 85 14 [some (Rf 1), some (I x1), some (I x2)] [] (hp iv) :=
  (R_if_ne mc_85 dX6_isLone_9 (t := 14) rfl).trans <| ite_c2
  ((R_iconst mc_85 dX6_isLone_12 ⟨by decide, by decide⟩).trans <|
  R_ireturn mc_85 dX6_isLone_13 rfl)
  (rfl)
theorem B_X6_isLone_14 (sc : Nat × (Nat → Int)) (iv : Nat → Nat → Int) (x1 : Int) (x2 : Int) : Run sc 85 14 [some (Rf 1), some (I x1), some (I x2)] [] (hp iv) = aBind (Run sc 56 0 [some (Rf 2), some (I x1), some (I x2), none] [] (hp iv)) (fun v h2 => Run sc 85 23 [some (Rf 1), some (I x1), some (I x2)] (pushR v []) h2) :=
  (R_aload_n mc_85 dX6_isLone_14 rfl).trans <|
  (R_getR mc_85 dX6_isLone_15 mo_85 ft_6_10 rfl rfl (r := 2) rfl (by decide)).trans <|
  (R_iload_n mc_85 dX6_isLone_18 rfl).trans <|
  (R_iload_n mc_85 dX6_isLone_19 rfl).trans <|
  R_invV mc_85 dX6_isLone_20 mo_85 ct_6_106 af_85_56 rfl rfl rfl ⟨Nat.le_of_ble_eq_true rfl, Nat.le_of_ble_eq_true rfl⟩
theorem B_X6_isLone_23 (sc : Nat × (Nat → Int)) (iv : Nat → Nat → Int) (x1 : Int) (x2 : Int) (s0 : Int) : Run sc 85 23 [some (Rf 1), some (I x1), some (I x2)] [(I s0)] (hp iv) = if s0 = 0 then Run sc 85 30 [some (Rf 1), some (I x1), some (I x2)] [] (hp iv) else Run sc 85 31 [some (Rf 1), some (I x1), some (I x2)] [(I 1)] (hp iv) :=
  (R_if_eq mc_85 dX6_isLone_23 (t := 30) rfl).trans <| ite_c2
  (rfl)
  ((R_iconst mc_85 dX6_isLone_26 ⟨by decide, by decide⟩).trans <|
  R_goto mc_85 dX6_isLone_27 (t := 31) rfl)
theorem B_X6_isLone_30 (sc : Nat × (Nat → Int)) (iv : Nat → Nat → Int) (x1 : Int) (x2 : Int) : Run sc 85 30 [some (Rf 1), some (I x1), some (I x2)] [] (hp iv) = Run sc 85 31 [some (Rf 1), some (I x1), some (I x2)] [(I 0)] (hp iv) :=
  R_iconst mc_85 dX6_isLone_30 ⟨by decide, by decide⟩
theorem B_X6_isLone_31 (sc : Nat × (Nat → Int)) (iv : Nat → Nat → Int) (x1 : Int) (x2 : Int) (s0 : Int) : Run sc 85 31 [some (Rf 1), some (I x1), some (I x2)] [(I s0)] (hp iv) = some (some (I s0), (hp iv)) :=
  R_ireturn mc_85 dX6_isLone_31 rfl
theorem B_X6_merge_0 (sc : Nat × (Nat → Int)) (iv : Nat → Nat → Int) (x1 : Int) : Run sc 86 0 [some (Rf 1), some (I x1), none, none, none] [] (hp iv) = aBind (Run sc 103 0 [some (I x1), some (I 1), some (I 20)] [] (hp iv)) (fun v h2 => Run sc 86 7 [some (Rf 1), some (I x1), none, none, none] (pushR v []) h2) :=
  (R_iload_n mc_86 dX6_merge_0 rfl).trans <|
  (R_iconst mc_86 dX6_merge_1 ⟨by decide, by decide⟩).trans <|
  (R_bipush mc_86 dX6_merge_2 ⟨by decide, by decide⟩).trans <|
  R_invS mc_86 dX6_merge_4 mo_86 ct_6_55 (Or.inl rfl) af_86_103 (Nat.le_of_ble_eq_true rfl) rfl rfl ⟨Nat.le_of_ble_eq_true rfl, Nat.le_of_ble_eq_true rfl⟩
theorem B_X6_merge_7 (sc : Nat × (Nat → Int)) (iv : Nat → Nat → Int) (x1 : Int) (d2 : Option AV) (d3 : Option AV) (d4 : Option AV) (s0 : Int) : Run sc 86 7 [some (Rf 1), some (I x1), d2, d3, d4] [(I s0)] (hp iv) = if s0 = 0 then some (some (I (-2)), (hp iv)) else Run sc 86 13 [some (Rf 1), some (I x1), d2, d3, d4] [] (hp iv) :=
  (R_if_ne mc_86 dX6_merge_7 (t := 13) rfl).trans <| ite_c2
  ((R_bipush mc_86 dX6_merge_10 ⟨by decide, by decide⟩).trans <|
  R_ireturn mc_86 dX6_merge_12 rfl)
  (rfl)
theorem B_X6_merge_13 (sc : Nat × (Nat → Int)) (iv : Nat → Nat → Int) (x1 : Int) (d2 : Option AV) (d3 : Option AV) (d4 : Option AV) : Run sc 86 13 [some (Rf 1), some (I x1), d2, d3, d4] [] (hp iv) = Run sc 86 17 [some (Rf 1), some (I x1), some (I 0), some (I 0), d4] [] (hp iv) :=
  (R_iconst mc_86 dX6_merge_13 ⟨by decide, by decide⟩).trans <|
  (R_istore_n mc_86 dX6_merge_14 (Nat.le_of_ble_eq_true rfl)).trans <|
  (R_iconst mc_86 dX6_merge_15 ⟨by decide, by decide⟩).trans <|
  R_istore_n mc_86 dX6_merge_16 (Nat.le_of_ble_eq_true rfl)
theorem B_X6_merge_17 (sc : Nat × (Nat → Int)) (iv : Nat → Nat → Int) (x1 : Int) (x2 : Int) (x3 : Int) (d4 : Option AV) : Run sc 86 17 [some (Rf 1), some (I x1), some (I x2), some (I x3), d4] [] (hp iv) = if x3 < x1 then aBind (Run sc 59 0 [some (Rf 2), none, none, none] [] (hp iv)) (fun v h2 => Run sc 86 29 [some (Rf 1), some (I x1), some (I x2), some (I x3), d4] (pushR v []) h2) else Run sc 86 50 [some (Rf 1), some (I x1), some (I x2), some (I x3), d4] [] (hp iv) :=
  (R_iload_n mc_86 dX6_merge_17 rfl).trans <|
  (R_iload_n mc_86 dX6_merge_18 rfl).trans <|
  (R_icmp_ge mc_86 dX6_merge_19 (t := 50) rfl).trans <| ite_c2
  ((R_aload_n mc_86 dX6_merge_22 rfl).trans <|
  (R_getR mc_86 dX6_merge_23 mo_86 ft_6_10 rfl rfl (r := 2) rfl (by decide)).trans <|
  R_invV mc_86 dX6_merge_26 mo_86 ct_6_109 af_86_59 rfl rfl rfl ⟨Nat.le_of_ble_eq_true rfl, Nat.le_of_ble_eq_true rfl⟩)
  (rfl)
theorem B_X6_merge_29 (sc : Nat × (Nat → Int)) (iv : Nat → Nat → Int) (x1 : Int) (x2 : Int) (x3 : Int) (d4 : Option AV) (s0 : Int) : Run sc 86 29 [some (Rf 1), some (I x1), some (I x2), some (I x3), d4] [(I s0)] (hp iv) = if s0 = 0 then Run sc 86 50 [some (Rf 1), some (I x1), some (I x2), some (I x3), some (I s0)] [] (hp iv) else Run sc 86 39 [some (Rf 1), some (I x1), some (I x2), some (I x3), some (I s0)] [] (hp iv) :=
  (R_istore mc_86 dX6_merge_29 (Nat.le_of_ble_eq_true rfl)).trans <|
  (R_iload mc_86 dX6_merge_31 rfl).trans <|
  (R_if_ne mc_86 dX6_merge_33 (t := 39) rfl).trans <| ite_c2
  (R_goto mc_86 dX6_merge_36 (t := 50) rfl)
  (rfl)
theorem B_X6_merge_39 (sc : Nat × (Nat → Int)) (iv : Nat → Nat → Int) (x1 : Int) (x2 : Int) (x3 : Int) (x4 : Int) : Run sc 86 39 [some (Rf 1), some (I x1), some (I x2), some (I x3), some (I x4)] [] (hp iv) = chk (x2 + x4) (chk (x3 + 1) (Run sc 86 17 [some (Rf 1), some (I x1), some (I (x2 + x4)), some (I (x3 + 1)), some (I x4)] [] (hp iv))) :=
  (R_iload_n mc_86 dX6_merge_39 rfl).trans <|
  (R_iload mc_86 dX6_merge_40 rfl).trans <|
  (R_iadd mc_86 dX6_merge_42).trans <| chk_congr <|
  (R_istore_n mc_86 dX6_merge_43 (Nat.le_of_ble_eq_true rfl)).trans <|
  (R_iinc mc_86 dX6_merge_44 rfl).trans <| chk_congr <|
  R_goto mc_86 dX6_merge_47 (t := 17) rfl
theorem B_X6_merge_50 (sc : Nat × (Nat → Int)) (iv : Nat → Nat → Int) (x1 : Int) (x2 : Int) (x3 : Int) (d4 : Option AV) : Run sc 86 50 [some (Rf 1), some (I x1), some (I x2), some (I x3), d4] [] (hp iv) = some (some (I x2), (hp iv)) :=
  (R_iload_n mc_86 dX6_merge_50 rfl).trans <|
  R_ireturn mc_86 dX6_merge_51 rfl
theorem B_X6_run_0 (sc : Nat × (Nat → Int)) (iv : Nat → Nat → Int) (x1 : Int) (x2 : Int) (x3 : Int) : Run sc 87 0 [some (Rf 1), some (I x1), some (I x2), some (I x3), none] [] (hp iv) = aBind (Run sc 104 0 [some (I x1)] [] (hp iv)) (fun v h2 => Run sc 87 4 [some (Rf 1), some (I x1), some (I x2), some (I x3), none] (pushR v []) h2) :=
  (R_iload_n mc_87 dX6_run_0 rfl).trans <|
  R_invS mc_87 dX6_run_1 mo_87 ct_6_113 (Or.inl rfl) af_87_104 (Nat.le_of_ble_eq_true rfl) rfl rfl ⟨Nat.le_of_ble_eq_true rfl, Nat.le_of_ble_eq_true rfl⟩
theorem B_X6_run_4 (sc : Nat × (Nat → Int)) (iv : Nat → Nat → Int) (x1 : Int) (x2 : Int) (x3 : Int) (d4 : Option AV) (s0 : Int) : Run sc 87 4 [some (Rf 1), some (I x1), some (I x2), some (I x3), d4] [(I s0)] (hp iv) = if s0 = 0 then some (some (I (-2)), (hp iv)) else Run sc 87 10 [some (Rf 1), some (I x1), some (I x2), some (I x3), d4] [] (hp iv) :=
  (R_if_ne mc_87 dX6_run_4 (t := 10) rfl).trans <| ite_c2
  ((R_bipush mc_87 dX6_run_7 ⟨by decide, by decide⟩).trans <|
  R_ireturn mc_87 dX6_run_9 rfl)
  (rfl)
theorem B_X6_run_10 (sc : Nat × (Nat → Int)) (iv : Nat → Nat → Int) (x1 : Int) (x2 : Int) (x3 : Int) (d4 : Option AV) : Run sc 87 10 [some (Rf 1), some (I x1), some (I x2), some (I x3), d4] [] (hp iv) = aBind (Run sc 105 0 [some (Rf 1), some (I x1), none, none] [] (hp iv)) (fun v h2 => Run sc 87 15 [some (Rf 1), some (I x1), some (I x2), some (I x3), d4] (pushR v []) h2) :=
  (R_aload_n mc_87 dX6_run_10 rfl).trans <|
  (R_iload_n mc_87 dX6_run_11 rfl).trans <|
  R_invV mc_87 dX6_run_12 mo_87 ct_6_117 af_87_105 rfl rfl rfl ⟨Nat.le_of_ble_eq_true rfl, Nat.le_of_ble_eq_true rfl⟩
theorem B_X6_run_15 (sc : Nat × (Nat → Int)) (iv : Nat → Nat → Int) (k : Nat) (hk : k < 6) (x1 : Int) (x2 : Int) (x3 : Int) (d4 : Option AV) : Run sc 87 15 [some (Rf 1), some (I x1), some (I x2), some (I x3), d4] [(Rf (8 + 6 * k))] (hp iv) = aBind (Run sc 30 0 [some (Rf (8 + 6 * k)), some (I x2)] [] (hp iv)) (fun v h2 => Run sc 87 23 [some (Rf 1), some (I x1), some (I x2), some (I x3), some (Rf (8 + 6 * k))] (pushR v []) h2) :=
  (R_astore mc_87 dX6_run_15 (Nat.le_of_ble_eq_true rfl)).trans <|
  (R_aload mc_87 dX6_run_17 rfl).trans <|
  (R_iload_n mc_87 dX6_run_19 rfl).trans <|
  R_invV mc_87 dX6_run_20 mo_87 ct_6_121 af_87_30 rfl (kCR hk) rfl ⟨Nat.le_of_ble_eq_true rfl, Nat.le_of_ble_eq_true rfl⟩
theorem B_X6_run_23 (sc : Nat × (Nat → Int)) (iv : Nat → Nat → Int) (k : Nat) (hk : k < 6) (x1 : Int) (x2 : Int) (x3 : Int) (s0 : Int) : Run sc 87 23 [some (Rf 1), some (I x1), some (I x2), some (I x3), some (Rf (8 + 6 * k))] [(I s0)] (hp iv) = if s0 = 0 then some (some (I (-1)), (hp iv)) else Run sc 87 28 [some (Rf 1), some (I x1), some (I x2), some (I x3), some (Rf (8 + 6 * k))] [] (hp iv) :=
  (R_if_ne mc_87 dX6_run_23 (t := 28) rfl).trans <| ite_c2
  ((R_iconst mc_87 dX6_run_26 ⟨by decide, by decide⟩).trans <|
  R_ireturn mc_87 dX6_run_27 rfl)
  (rfl)
theorem B_X6_run_28 (sc : Nat × (Nat → Int)) (iv : Nat → Nat → Int) (k : Nat) (hk : k < 6) (x1 : Int) (x2 : Int) (x3 : Int) : Run sc 87 28 [some (Rf 1), some (I x1), some (I x2), some (I x3), some (Rf (8 + 6 * k))] [] (hp iv) = if x3 = 0 then Run sc 87 60 [some (Rf 1), some (I x1), some (I x2), some (I x3), some (Rf (8 + 6 * k))] [] (hp iv) else if x3 = 1 then Run sc 87 68 [some (Rf 1), some (I x1), some (I x2), some (I x3), some (Rf (8 + 6 * k))] [] (hp iv) else if x3 = 2 then Run sc 87 76 [some (Rf 1), some (I x1), some (I x2), some (I x3), some (Rf (8 + 6 * k))] [] (hp iv) else if x3 = 3 then Run sc 87 84 [some (Rf 1), some (I x1), some (I x2), some (I x3), some (Rf (8 + 6 * k))] [] (hp iv) else Run sc 87 92 [some (Rf 1), some (I x1), some (I x2), some (I x3), some (Rf (8 + 6 * k))] [] (hp iv) :=
  (R_iload_n mc_87 dX6_run_28 rfl).trans <|
  (by
    by_cases z0 : x3 = 0
    · rw [if_pos z0]; exact R_switchIn mc_87 dX6_run_29 (by omega) (by omega) (by rw [z0]; rfl) (t := 60) rfl
    rw [if_neg z0]
    by_cases z1 : x3 = 1
    · rw [if_pos z1]; exact R_switchIn mc_87 dX6_run_29 (by omega) (by omega) (by rw [z1]; rfl) (t := 68) rfl
    rw [if_neg z1]
    by_cases z2 : x3 = 2
    · rw [if_pos z2]; exact R_switchIn mc_87 dX6_run_29 (by omega) (by omega) (by rw [z2]; rfl) (t := 76) rfl
    rw [if_neg z2]
    by_cases z3 : x3 = 3
    · rw [if_pos z3]; exact R_switchIn mc_87 dX6_run_29 (by omega) (by omega) (by rw [z3]; rfl) (t := 84) rfl
    rw [if_neg z3]
    exact R_switchOut mc_87 dX6_run_29 (by omega) (t := 92) rfl)
theorem B_X6_run_60 (sc : Nat × (Nat → Int)) (iv : Nat → Nat → Int) (k : Nat) (hk : k < 6) (x1 : Int) (x2 : Int) (x3 : Int) : Run sc 87 60 [some (Rf 1), some (I x1), some (I x2), some (I x3), some (Rf (8 + 6 * k))] [] (hp iv) = bck 0 (((288 : Nat) : Int) - 1) x2 (some (some (I (iv (9 + 6 * k) (Int.toNat x2))), (hp iv))) :=
  (R_aload mc_87 dX6_run_60 rfl).trans <|
  (R_getR mc_87 dX6_run_62 mo_87 ft_6_123 (kCR hk) rfl (rCR4 hk) (by omega)).trans <|
  (R_iload_n mc_87 dX6_run_65 rfl).trans <|
  (R_iaload mc_87 dX6_run_66 (kCA0 hk)).trans <| bck_congr <|
  R_ireturn mc_87 dX6_run_67 rfl
theorem B_X6_run_68 (sc : Nat × (Nat → Int)) (iv : Nat → Nat → Int) (k : Nat) (hk : k < 6) (x1 : Int) (x2 : Int) (x3 : Int) : Run sc 87 68 [some (Rf 1), some (I x1), some (I x2), some (I x3), some (Rf (8 + 6 * k))] [] (hp iv) = bck 0 (((288 : Nat) : Int) - 1) x2 (some (some (I (iv (10 + 6 * k) (Int.toNat x2))), (hp iv))) :=
  (R_aload mc_87 dX6_run_68 rfl).trans <|
  (R_getR mc_87 dX6_run_70 mo_87 ft_6_127 (kCR hk) rfl (rCR5 hk) (by omega)).trans <|
  (R_iload_n mc_87 dX6_run_73 rfl).trans <|
  (R_iaload mc_87 dX6_run_74 (kCA1 hk)).trans <| bck_congr <|
  R_ireturn mc_87 dX6_run_75 rfl
theorem B_X6_run_76 (sc : Nat × (Nat → Int)) (iv : Nat → Nat → Int) (k : Nat) (hk : k < 6) (x1 : Int) (x2 : Int) (x3 : Int) : Run sc 87 76 [some (Rf 1), some (I x1), some (I x2), some (I x3), some (Rf (8 + 6 * k))] [] (hp iv) = bck 0 (((288 : Nat) : Int) - 1) x2 (some (some (I (iv (11 + 6 * k) (Int.toNat x2))), (hp iv))) :=
  (R_aload mc_87 dX6_run_76 rfl).trans <|
  (R_getR mc_87 dX6_run_78 mo_87 ft_6_130 (kCR hk) rfl (rCR6 hk) (by omega)).trans <|
  (R_iload_n mc_87 dX6_run_81 rfl).trans <|
  (R_iaload mc_87 dX6_run_82 (kCA2 hk)).trans <| bck_congr <|
  R_ireturn mc_87 dX6_run_83 rfl
theorem B_X6_run_84 (sc : Nat × (Nat → Int)) (iv : Nat → Nat → Int) (k : Nat) (hk : k < 6) (x1 : Int) (x2 : Int) (x3 : Int) : Run sc 87 84 [some (Rf 1), some (I x1), some (I x2), some (I x3), some (Rf (8 + 6 * k))] [] (hp iv) = bck 0 (((288 : Nat) : Int) - 1) x2 (some (some (I (iv (13 + 6 * k) (Int.toNat x2))), (hp iv))) :=
  (R_aload mc_87 dX6_run_84 rfl).trans <|
  (R_getR mc_87 dX6_run_86 mo_87 ft_6_133 (kCR hk) rfl (rCR8 hk) (by omega)).trans <|
  (R_iload_n mc_87 dX6_run_89 rfl).trans <|
  (R_iaload mc_87 dX6_run_90 (kCA4 hk)).trans <| bck_congr <|
  R_ireturn mc_87 dX6_run_91 rfl
theorem B_X6_run_92 (sc : Nat × (Nat → Int)) (iv : Nat → Nat → Int) (k : Nat) (hk : k < 6) (x1 : Int) (x2 : Int) (x3 : Int) : Run sc 87 92 [some (Rf 1), some (I x1), some (I x2), some (I x3), some (Rf (8 + 6 * k))] [] (hp iv) = some (some (I (-2)), (hp iv)) :=
  (R_bipush mc_87 dX6_run_92 ⟨by decide, by decide⟩).trans <|
  R_ireturn mc_87 dX6_run_94 rfl
theorem B_X6_runAt_0 (sc : Nat × (Nat → Int)) (iv : Nat → Nat → Int) (x1 : Int) (x2 : Int) : Run sc 88 0 [some (Rf 1), some (I x1), some (I x2), none] [] (hp iv) = aBind (Run sc 104 0 [some (I x1)] [] (hp iv)) (fun v h2 => Run sc 88 4 [some (Rf 1), some (I x1), some (I x2), none] (pushR v []) h2) :=
  (R_iload_n mc_88 dX6_runAt_0 rfl).trans <|
  R_invS mc_88 dX6_runAt_1 mo_88 ct_6_113 (Or.inl rfl) af_88_104 (Nat.le_of_ble_eq_true rfl) rfl rfl ⟨Nat.le_of_ble_eq_true rfl, Nat.le_of_ble_eq_true rfl⟩
theorem B_X6_runAt_4 (sc : Nat × (Nat → Int)) (iv : Nat → Nat → Int) (x1 : Int) (x2 : Int) (d3 : Option AV) (s0 : Int) : Run sc 88 4 [some (Rf 1), some (I x1), some (I x2), d3] [(I s0)] (hp iv) = if s0 = 0 then Run sc 88 11 [some (Rf 1), some (I x1), some (I x2), d3] [] (hp iv) else if x2 < 0 then Run sc 88 11 [some (Rf 1), some (I x1), some (I x2), d3] [] (hp iv) else Run sc 88 14 [some (Rf 1), some (I x1), some (I x2), d3] [] (hp iv) :=
  (R_if_eq mc_88 dX6_runAt_4 (t := 11) rfl).trans <| ite_c2
  (rfl)
  ((R_iload_n mc_88 dX6_runAt_7 rfl).trans <|
  R_if_ge mc_88 dX6_runAt_8 (t := 14) rfl)
theorem B_X6_runAt_11 (sc : Nat × (Nat → Int)) (iv : Nat → Nat → Int) (x1 : Int) (x2 : Int) (d3 : Option AV) : Run sc 88 11 [some (Rf 1), some (I x1), some (I x2), d3] [] (hp iv) = some (some (I (-2)), (hp iv)) :=
  (R_bipush mc_88 dX6_runAt_11 ⟨by decide, by decide⟩).trans <|
  R_ireturn mc_88 dX6_runAt_13 rfl
theorem B_X6_runAt_14 (sc : Nat × (Nat → Int)) (iv : Nat → Nat → Int) (x1 : Int) (x2 : Int) (d3 : Option AV) : Run sc 88 14 [some (Rf 1), some (I x1), some (I x2), d3] [] (hp iv) = aBind (Run sc 105 0 [some (Rf 1), some (I x1), none, none] [] (hp iv)) (fun v h2 => Run sc 88 19 [some (Rf 1), some (I x1), some (I x2), d3] (pushR v []) h2) :=
  (R_aload_n mc_88 dX6_runAt_14 rfl).trans <|
  (R_iload_n mc_88 dX6_runAt_15 rfl).trans <|
  R_invV mc_88 dX6_runAt_16 mo_88 ct_6_117 af_88_105 rfl rfl rfl ⟨Nat.le_of_ble_eq_true rfl, Nat.le_of_ble_eq_true rfl⟩
theorem B_X6_runAt_19 (sc : Nat × (Nat → Int)) (iv : Nat → Nat → Int) (k : Nat) (hk : k < 6) (x1 : Int) (x2 : Int) (d3 : Option AV) : Run sc 88 19 [some (Rf 1), some (I x1), some (I x2), d3] [(Rf (8 + 6 * k))] (hp iv) = aBind (Run sc 30 0 [some (Rf (8 + 6 * k)), some (I x2)] [] (hp iv)) (fun v h2 => Run sc 88 25 [some (Rf 1), some (I x1), some (I x2), some (Rf (8 + 6 * k))] (pushR v []) h2) :=
  (R_astore_n mc_88 dX6_runAt_19 (Nat.le_of_ble_eq_true rfl)).trans <|
  (R_aload_n mc_88 dX6_runAt_20 rfl).trans <|
  (R_iload_n mc_88 dX6_runAt_21 rfl).trans <|
  R_invV mc_88 dX6_runAt_22 mo_88 ct_6_121 af_88_30 rfl (kCR hk) rfl ⟨Nat.le_of_ble_eq_true rfl, Nat.le_of_ble_eq_true rfl⟩
theorem B_X6_runAt_25 (sc : Nat × (Nat → Int)) (iv : Nat → Nat → Int) (k : Nat) (hk : k < 6) (x1 : Int) (x2 : Int) (s0 : Int) : Run sc 88 25 [some (Rf 1), some (I x1), some (I x2), some (Rf (8 + 6 * k))] [(I s0)] (hp iv) = if s0 = 0 then Run sc 88 37 [some (Rf 1), some (I x1), some (I x2), some (Rf (8 + 6 * k))] [] (hp iv) else bck 0 (((288 : Nat) : Int) - 1) x2 (Run sc 88 39 [some (Rf 1), some (I x1), some (I x2), some (Rf (8 + 6 * k))] [(I (iv (12 + 6 * k) (Int.toNat x2)))] (hp iv)) :=
  (R_if_eq mc_88 dX6_runAt_25 (t := 37) rfl).trans <| ite_c2
  (rfl)
  ((R_aload_n mc_88 dX6_runAt_28 rfl).trans <|
  (R_getR mc_88 dX6_runAt_29 mo_88 ft_6_136 (kCR hk) rfl (rCR7 hk) (by omega)).trans <|
  (R_iload_n mc_88 dX6_runAt_32 rfl).trans <|
  (R_iaload mc_88 dX6_runAt_33 (kCA3 hk)).trans <| bck_congr <|
  R_goto mc_88 dX6_runAt_34 (t := 39) rfl)
theorem B_X6_runAt_37 (sc : Nat × (Nat → Int)) (iv : Nat → Nat → Int) (k : Nat) (hk : k < 6) (x1 : Int) (x2 : Int) : Run sc 88 37 [some (Rf 1), some (I x1), some (I x2), some (Rf (8 + 6 * k))] [] (hp iv) = Run sc 88 39 [some (Rf 1), some (I x1), some (I x2), some (Rf (8 + 6 * k))] [(I (-4))] (hp iv) :=
  R_bipush mc_88 dX6_runAt_37 ⟨by decide, by decide⟩
theorem B_X6_runAt_39 (sc : Nat × (Nat → Int)) (iv : Nat → Nat → Int) (k : Nat) (hk : k < 6) (x1 : Int) (x2 : Int) (s0 : Int) : Run sc 88 39 [some (Rf 1), some (I x1), some (I x2), some (Rf (8 + 6 * k))] [(I s0)] (hp iv) = some (some (I s0), (hp iv)) :=
  R_ireturn mc_88 dX6_runAt_39 rfl
theorem B_X6_moveRun_0 (sc : Nat × (Nat → Int)) (iv : Nat → Nat → Int) (x1 : Int) (x2 : Int) (x3 : Int) : Run sc 89 0 [some (Rf 1), some (I x1), some (I x2), some (I x3), none] [] (hp iv) = aBind (Run sc 104 0 [some (I x1)] [] (hp iv)) (fun v h2 => Run sc 89 4 [some (Rf 1), some (I x1), some (I x2), some (I x3), none] (pushR v []) h2) :=
  (R_iload_n mc_89 dX6_moveRun_0 rfl).trans <|
  R_invS mc_89 dX6_moveRun_1 mo_89 ct_6_113 (Or.inl rfl) af_89_104 (Nat.le_of_ble_eq_true rfl) rfl rfl ⟨Nat.le_of_ble_eq_true rfl, Nat.le_of_ble_eq_true rfl⟩
theorem B_X6_moveRun_4 (sc : Nat × (Nat → Int)) (iv : Nat → Nat → Int) (x1 : Int) (x2 : Int) (x3 : Int) (d4 : Option AV) (s0 : Int) : Run sc 89 4 [some (Rf 1), some (I x1), some (I x2), some (I x3), d4] [(I s0)] (hp iv) = if s0 = 0 then some (some (I (-2)), (hp iv)) else Run sc 89 10 [some (Rf 1), some (I x1), some (I x2), some (I x3), d4] [] (hp iv) :=
  (R_if_ne mc_89 dX6_moveRun_4 (t := 10) rfl).trans <| ite_c2
  ((R_bipush mc_89 dX6_moveRun_7 ⟨by decide, by decide⟩).trans <|
  R_ireturn mc_89 dX6_moveRun_9 rfl)
  (rfl)
theorem B_X6_moveRun_10 (sc : Nat × (Nat → Int)) (iv : Nat → Nat → Int) (x1 : Int) (x2 : Int) (x3 : Int) (d4 : Option AV) : Run sc 89 10 [some (Rf 1), some (I x1), some (I x2), some (I x3), d4] [] (hp iv) = aBind (Run sc 105 0 [some (Rf 1), some (I x1), none, none] [] (hp iv)) (fun v h2 => Run sc 89 15 [some (Rf 1), some (I x1), some (I x2), some (I x3), d4] (pushR v []) h2) :=
  (R_aload_n mc_89 dX6_moveRun_10 rfl).trans <|
  (R_iload_n mc_89 dX6_moveRun_11 rfl).trans <|
  R_invV mc_89 dX6_moveRun_12 mo_89 ct_6_117 af_89_105 rfl rfl rfl ⟨Nat.le_of_ble_eq_true rfl, Nat.le_of_ble_eq_true rfl⟩
theorem B_X6_moveRun_15 (sc : Nat × (Nat → Int)) (iv : Nat → Nat → Int) (k : Nat) (hk : k < 6) (x1 : Int) (x2 : Int) (x3 : Int) (d4 : Option AV) : Run sc 89 15 [some (Rf 1), some (I x1), some (I x2), some (I x3), d4] [(Rf (8 + 6 * k))] (hp iv) = aBind (Run sc 30 0 [some (Rf (8 + 6 * k)), some (I x2)] [] (hp iv)) (fun v h2 => Run sc 89 23 [some (Rf 1), some (I x1), some (I x2), some (I x3), some (Rf (8 + 6 * k))] (pushR v []) h2) :=
  (R_astore mc_89 dX6_moveRun_15 (Nat.le_of_ble_eq_true rfl)).trans <|
  (R_aload mc_89 dX6_moveRun_17 rfl).trans <|
  (R_iload_n mc_89 dX6_moveRun_19 rfl).trans <|
  R_invV mc_89 dX6_moveRun_20 mo_89 ct_6_121 af_89_30 rfl (kCR hk) rfl ⟨Nat.le_of_ble_eq_true rfl, Nat.le_of_ble_eq_true rfl⟩
theorem B_X6_moveRun_23 (sc : Nat × (Nat → Int)) (iv : Nat → Nat → Int) (k : Nat) (hk : k < 6) (x1 : Int) (x2 : Int) (x3 : Int) (s0 : Int) : Run sc 89 23 [some (Rf 1), some (I x1), some (I x2), some (I x3), some (Rf (8 + 6 * k))] [(I s0)] (hp iv) = if s0 = 0 then Run sc 89 35 [some (Rf 1), some (I x1), some (I x2), some (I x3), some (Rf (8 + 6 * k))] [] (hp iv) else aBind (Run sc 30 0 [some (Rf (8 + 6 * k)), some (I x3)] [] (hp iv)) (fun v h2 => Run sc 89 32 [some (Rf 1), some (I x1), some (I x2), some (I x3), some (Rf (8 + 6 * k))] (pushR v []) h2) :=
  (R_if_eq mc_89 dX6_moveRun_23 (t := 35) rfl).trans <| ite_c2
  (rfl)
  ((R_aload mc_89 dX6_moveRun_26 rfl).trans <|
  (R_iload_n mc_89 dX6_moveRun_28 rfl).trans <|
  R_invV mc_89 dX6_moveRun_29 mo_89 ct_6_121 af_89_30 rfl (kCR hk) rfl ⟨Nat.le_of_ble_eq_true rfl, Nat.le_of_ble_eq_true rfl⟩)
theorem B_X6_moveRun_32 (sc : Nat × (Nat → Int)) (iv : Nat → Nat → Int) (k : Nat) (hk : k < 6) (x1 : Int) (x2 : Int) (x3 : Int) (s0 : Int) : Run sc 89 32 [some (Rf 1), some (I x1), some (I x2), some (I x3), some (Rf (8 + 6 * k))] [(I s0)] (hp iv) = if s0 = 0 then Run sc 89 35 [some (Rf 1), some (I x1), some (I x2), some (I x3), some (Rf (8 + 6 * k))] [] (hp iv) else Run sc 89 38 [some (Rf 1), some (I x1), some (I x2), some (I x3), some (Rf (8 + 6 * k))] [] (hp iv) :=
  R_if_ne mc_89 dX6_moveRun_32 (t := 38) rfl
theorem B_X6_moveRun_35 (sc : Nat × (Nat → Int)) (iv : Nat → Nat → Int) (k : Nat) (hk : k < 6) (x1 : Int) (x2 : Int) (x3 : Int) : Run sc 89 35 [some (Rf 1), some (I x1), some (I x2), some (I x3), some (Rf (8 + 6 * k))] [] (hp iv) = some (some (I (-2)), (hp iv)) :=
  (R_bipush mc_89 dX6_moveRun_35 ⟨by decide, by decide⟩).trans <|
  R_ireturn mc_89 dX6_moveRun_37 rfl
theorem B_X6_moveRun_38 (sc : Nat × (Nat → Int)) (iv : Nat → Nat → Int) (k : Nat) (hk : k < 6) (x1 : Int) (x2 : Int) (x3 : Int) : Run sc 89 38 [some (Rf 1), some (I x1), some (I x2), some (I x3), some (Rf (8 + 6 * k))] [] (hp iv) = aBind (Run sc 41 0 [some (Rf (8 + 6 * k)), some (I x2), some (I x3), none, none] [] (hp iv)) (fun v h2 => Run sc 89 45 [some (Rf 1), some (I x1), some (I x2), some (I x3), some (Rf (8 + 6 * k))] (pushR v []) h2) :=
  (R_aload mc_89 dX6_moveRun_38 rfl).trans <|
  (R_iload_n mc_89 dX6_moveRun_40 rfl).trans <|
  (R_iload_n mc_89 dX6_moveRun_41 rfl).trans <|
  R_invV mc_89 dX6_moveRun_42 mo_89 ct_6_139 af_89_41 rfl (kCR hk) rfl ⟨Nat.le_of_ble_eq_true rfl, Nat.le_of_ble_eq_true rfl⟩
theorem B_X6_moveRun_45 (sc : Nat × (Nat → Int)) (iv : Nat → Nat → Int) (k : Nat) (hk : k < 6) (x1 : Int) (x2 : Int) (x3 : Int) : Run sc 89 45 [some (Rf 1), some (I x1), some (I x2), some (I x3), some (Rf (8 + 6 * k))] [] (hp iv) = aBind (Run sc 39 0 [some (Rf (8 + 6 * k)), none, none] [] (hp iv)) (fun v h2 => Run sc 89 50 [some (Rf 1), some (I x1), some (I x2), some (I x3), some (Rf (8 + 6 * k))] (pushR v []) h2) :=
  (R_aload mc_89 dX6_moveRun_45 rfl).trans <|
  R_invV mc_89 dX6_moveRun_47 mo_89 ct_6_142 af_89_39 rfl (kCR hk) rfl ⟨Nat.le_of_ble_eq_true rfl, Nat.le_of_ble_eq_true rfl⟩
theorem B_X6_moveRun_50 (sc : Nat × (Nat → Int)) (iv : Nat → Nat → Int) (k : Nat) (hk : k < 6) (x1 : Int) (x2 : Int) (x3 : Int) (s0 : Int) : Run sc 89 50 [some (Rf 1), some (I x1), some (I x2), some (I x3), some (Rf (8 + 6 * k))] [(I s0)] (hp iv) = some (some (I s0), (hp iv)) :=
  R_ireturn mc_89 dX6_moveRun_50 rfl
theorem B_X6_firstOrder_0 (sc : Nat × (Nat → Int)) (iv : Nat → Nat → Int) (x1 : Int) : Run sc 90 0 [some (Rf 1), some (I x1), none] [] (hp iv) = aBind (Run sc 104 0 [some (I x1)] [] (hp iv)) (fun v h2 => Run sc 90 4 [some (Rf 1), some (I x1), none] (pushR v []) h2) :=
  (R_iload_n mc_90 dX6_firstOrder_0 rfl).trans <|
  R_invS mc_90 dX6_firstOrder_1 mo_90 ct_6_113 (Or.inl rfl) af_90_104 (Nat.le_of_ble_eq_true rfl) rfl rfl ⟨Nat.le_of_ble_eq_true rfl, Nat.le_of_ble_eq_true rfl⟩
theorem B_X6_firstOrder_4 (sc : Nat × (Nat → Int)) (iv : Nat → Nat → Int) (x1 : Int) (d2 : Option AV) (s0 : Int) : Run sc 90 4 [some (Rf 1), some (I x1), d2] [(I s0)] (hp iv) = if s0 = 0 then some (some (I (-2)), (hp iv)) else Run sc 90 10 [some (Rf 1), some (I x1), d2] [] (hp iv) :=
  (R_if_ne mc_90 dX6_firstOrder_4 (t := 10) rfl).trans <| ite_c2
  ((R_bipush mc_90 dX6_firstOrder_7 ⟨by decide, by decide⟩).trans <|
  R_ireturn mc_90 dX6_firstOrder_9 rfl)
  (rfl)
theorem B_X6_firstOrder_10 (sc : Nat × (Nat → Int)) (iv : Nat → Nat → Int) (x1 : Int) (d2 : Option AV) : Run sc 90 10 [some (Rf 1), some (I x1), d2] [] (hp iv) = aBind (Run sc 105 0 [some (Rf 1), some (I x1), none, none] [] (hp iv)) (fun v h2 => Run sc 90 15 [some (Rf 1), some (I x1), d2] (pushR v []) h2) :=
  (R_aload_n mc_90 dX6_firstOrder_10 rfl).trans <|
  (R_iload_n mc_90 dX6_firstOrder_11 rfl).trans <|
  R_invV mc_90 dX6_firstOrder_12 mo_90 ct_6_117 af_90_105 rfl rfl rfl ⟨Nat.le_of_ble_eq_true rfl, Nat.le_of_ble_eq_true rfl⟩
theorem B_X6_firstOrder_15 (sc : Nat × (Nat → Int)) (iv : Nat → Nat → Int) (k : Nat) (hk : k < 6) (x1 : Int) (d2 : Option AV) : Run sc 90 15 [some (Rf 1), some (I x1), d2] [(Rf (8 + 6 * k))] (hp iv) = aBind (Run sc 33 0 [some (Rf (8 + 6 * k)), none, none] [] (hp iv)) (fun v h2 => Run sc 90 20 [some (Rf 1), some (I x1), some (Rf (8 + 6 * k))] (pushR v []) h2) :=
  (R_astore_n mc_90 dX6_firstOrder_15 (Nat.le_of_ble_eq_true rfl)).trans <|
  (R_aload_n mc_90 dX6_firstOrder_16 rfl).trans <|
  R_invV mc_90 dX6_firstOrder_17 mo_90 ct_6_145 af_90_33 rfl (kCR hk) rfl ⟨Nat.le_of_ble_eq_true rfl, Nat.le_of_ble_eq_true rfl⟩
theorem B_X6_firstOrder_20 (sc : Nat × (Nat → Int)) (iv : Nat → Nat → Int) (k : Nat) (hk : k < 6) (x1 : Int) : Run sc 90 20 [some (Rf 1), some (I x1), some (Rf (8 + 6 * k))] [] (hp iv) = aBind (Run sc 39 0 [some (Rf (8 + 6 * k)), none, none] [] (hp iv)) (fun v h2 => Run sc 90 24 [some (Rf 1), some (I x1), some (Rf (8 + 6 * k))] (pushR v []) h2) :=
  (R_aload_n mc_90 dX6_firstOrder_20 rfl).trans <|
  R_invV mc_90 dX6_firstOrder_21 mo_90 ct_6_142 af_90_39 rfl (kCR hk) rfl ⟨Nat.le_of_ble_eq_true rfl, Nat.le_of_ble_eq_true rfl⟩
theorem B_X6_firstOrder_24 (sc : Nat × (Nat → Int)) (iv : Nat → Nat → Int) (k : Nat) (hk : k < 6) (x1 : Int) (s0 : Int) : Run sc 90 24 [some (Rf 1), some (I x1), some (Rf (8 + 6 * k))] [(I s0)] (hp iv) = some (some (I s0), (hp iv)) :=
  R_ireturn mc_90 dX6_firstOrder_24 rfl
theorem B_X6_shorten_0 (sc : Nat × (Nat → Int)) (iv : Nat → Nat → Int) (x1 : Int) : Run sc 91 0 [some (Rf 1), some (I x1)] [] (hp iv) = aBind (Run sc 104 0 [some (I x1)] [] (hp iv)) (fun v h2 => Run sc 91 4 [some (Rf 1), some (I x1)] (pushR v []) h2) :=
  (R_iload_n mc_91 dX6_shorten_0 rfl).trans <|
  R_invS mc_91 dX6_shorten_1 mo_91 ct_6_113 (Or.inl rfl) af_91_104 (Nat.le_of_ble_eq_true rfl) rfl rfl ⟨Nat.le_of_ble_eq_true rfl, Nat.le_of_ble_eq_true rfl⟩
theorem B_X6_shorten_4 (sc : Nat × (Nat → Int)) (iv : Nat → Nat → Int) (x1 : Int) (s0 : Int) : Run sc 91 4 [some (Rf 1), some (I x1)] [(I s0)] (hp iv) = if s0 = 0 then Run sc 91 18 [some (Rf 1), some (I x1)] [] (hp iv) else aBind (Run sc 105 0 [some (Rf 1), some (I x1), none, none] [] (hp iv)) (fun v h2 => Run sc 91 12 [some (Rf 1), some (I x1)] (pushR v []) h2) :=
  (R_if_eq mc_91 dX6_shorten_4 (t := 18) rfl).trans <| ite_c2
  (rfl)
  ((R_aload_n mc_91 dX6_shorten_7 rfl).trans <|
  (R_iload_n mc_91 dX6_shorten_8 rfl).trans <|
  R_invV mc_91 dX6_shorten_9 mo_91 ct_6_117 af_91_105 rfl rfl rfl ⟨Nat.le_of_ble_eq_true rfl, Nat.le_of_ble_eq_true rfl⟩)
theorem B_X6_shorten_12 (sc : Nat × (Nat → Int)) (iv : Nat → Nat → Int) (k : Nat) (hk : k < 6) (x1 : Int) : Run sc 91 12 [some (Rf 1), some (I x1)] [(Rf (8 + 6 * k))] (hp iv) = aBind (Run sc 43 0 [some (Rf (8 + 6 * k)), none, none, none] [] (hp iv)) (fun v h2 => Run sc 91 15 [some (Rf 1), some (I x1)] (pushR v []) h2) :=
  R_invV mc_91 dX6_shorten_12 mo_91 ct_6_148 af_91_43 rfl (kCR hk) rfl ⟨Nat.le_of_ble_eq_true rfl, Nat.le_of_ble_eq_true rfl⟩
theorem B_X6_shorten_15 (sc : Nat × (Nat → Int)) (iv : Nat → Nat → Int) (x1 : Int) (s0 : Int) : Run sc 91 15 [some (Rf 1), some (I x1)] [(I s0)] (hp iv) = Run sc 91 20 [some (Rf 1), some (I x1)] [(I s0)] (hp iv) :=
  R_goto mc_91 dX6_shorten_15 (t := 20) rfl
theorem B_X6_shorten_18 (sc : Nat × (Nat → Int)) (iv : Nat → Nat → Int) (x1 : Int) : Run sc 91 18 [some (Rf 1), some (I x1)] [] (hp iv) = Run sc 91 20 [some (Rf 1), some (I x1)] [(I (-2))] (hp iv) :=
  R_bipush mc_91 dX6_shorten_18 ⟨by decide, by decide⟩
theorem B_X6_shorten_20 (sc : Nat × (Nat → Int)) (iv : Nat → Nat → Int) (x1 : Int) (s0 : Int) : Run sc 91 20 [some (Rf 1), some (I x1)] [(I s0)] (hp iv) = some (some (I s0), (hp iv)) :=
  R_ireturn mc_91 dX6_shorten_20 rfl
theorem B_X6_setThread_0 (sc : Nat × (Nat → Int)) (iv : Nat → Nat → Int) (x1 : Int) (x2 : Int) : Run sc 92 0 [some (Rf 1), some (I x1), some (I x2), none] [] (hp iv) = aBind (Run sc 103 0 [some (I x1), some (I 0), some (I 1000)] [] (hp iv)) (fun v h2 => Run sc 92 8 [some (Rf 1), some (I x1), some (I x2), none] (pushR v []) h2) :=
  (R_iload_n mc_92 dX6_setThread_0 rfl).trans <|
  (R_iconst mc_92 dX6_setThread_1 ⟨by decide, by decide⟩).trans <|
  (R_sipush mc_92 dX6_setThread_2 ⟨by decide, by decide⟩).trans <|
  R_invS mc_92 dX6_setThread_5 mo_92 ct_6_55 (Or.inl rfl) af_92_103 (Nat.le_of_ble_eq_true rfl) rfl rfl ⟨Nat.le_of_ble_eq_true rfl, Nat.le_of_ble_eq_true rfl⟩
theorem B_X6_setThread_8 (sc : Nat × (Nat → Int)) (iv : Nat → Nat → Int) (x1 : Int) (x2 : Int) (d3 : Option AV) (s0 : Int) : Run sc 92 8 [some (Rf 1), some (I x1), some (I x2), d3] [(I s0)] (hp iv) = if s0 = 0 then Run sc 92 22 [some (Rf 1), some (I x1), some (I x2), d3] [] (hp iv) else aBind (Run sc 103 0 [some (I x2), some (I 0), some (I 200)] [] (hp iv)) (fun v h2 => Run sc 92 19 [some (Rf 1), some (I x1), some (I x2), d3] (pushR v []) h2) :=
  (R_if_eq mc_92 dX6_setThread_8 (t := 22) rfl).trans <| ite_c2
  (rfl)
  ((R_iload_n mc_92 dX6_setThread_11 rfl).trans <|
  (R_iconst mc_92 dX6_setThread_12 ⟨by decide, by decide⟩).trans <|
  (R_sipush mc_92 dX6_setThread_13 ⟨by decide, by decide⟩).trans <|
  R_invS mc_92 dX6_setThread_16 mo_92 ct_6_55 (Or.inl rfl) af_92_103 (Nat.le_of_ble_eq_true rfl) rfl rfl ⟨Nat.le_of_ble_eq_true rfl, Nat.le_of_ble_eq_true rfl⟩)
theorem B_X6_setThread_19 (sc : Nat × (Nat → Int)) (iv : Nat → Nat → Int) (x1 : Int) (x2 : Int) (d3 : Option AV) (s0 : Int) : Run sc 92 19 [some (Rf 1), some (I x1), some (I x2), d3] [(I s0)] (hp iv) = if s0 = 0 then Run sc 92 22 [some (Rf 1), some (I x1), some (I x2), d3] [] (hp iv) else Run sc 92 25 [some (Rf 1), some (I x1), some (I x2), d3] [] (hp iv) :=
  R_if_ne mc_92 dX6_setThread_19 (t := 25) rfl
theorem B_X6_setThread_22 (sc : Nat × (Nat → Int)) (iv : Nat → Nat → Int) (x1 : Int) (x2 : Int) (d3 : Option AV) : Run sc 92 22 [some (Rf 1), some (I x1), some (I x2), d3] [] (hp iv) = some (some (I (-2)), (hp iv)) :=
  (R_bipush mc_92 dX6_setThread_22 ⟨by decide, by decide⟩).trans <|
  R_ireturn mc_92 dX6_setThread_24 rfl
theorem B_X6_setThread_25 (sc : Nat × (Nat → Int)) (iv : Nat → Nat → Int) (x1 : Int) (x2 : Int) (d3 : Option AV) : Run sc 92 25 [some (Rf 1), some (I x1), some (I x2), d3] [] (hp iv) = chk (1000 * (iv 6 1)) (chk ((1000 * (iv 6 1)) + (iv 6 0)) (bck (-2147483648) 2147483647 x1 (Run sc 92 53 [some (Rf 1), some (I x1), some (I x2), some (I ((1000 * (iv 6 1)) + (iv 6 0)))] [] (hp (setO iv 6 (upI (iv 6) 0 x1)))))) :=
  (R_sipush mc_92 dX6_setThread_25 ⟨by decide, by decide⟩).trans <|
  (R_aload_n mc_92 dX6_setThread_28 rfl).trans <|
  (R_getR mc_92 dX6_setThread_29 mo_92 ft_6_19 rfl rfl (r := 6) rfl (by decide)).trans <|
  (R_getI mc_92 dX6_setThread_32 mo_92 ft_6_151 rfl rfl).trans <|
  (R_imul mc_92 dX6_setThread_35).trans <| chk_congr <|
  (R_aload_n mc_92 dX6_setThread_36 rfl).trans <|
  (R_getR mc_92 dX6_setThread_37 mo_92 ft_6_19 rfl rfl (r := 6) rfl (by decide)).trans <|
  (R_getI mc_92 dX6_setThread_40 mo_92 ft_6_154 rfl rfl).trans <|
  (R_iadd mc_92 dX6_setThread_43).trans <| chk_congr <|
  (R_istore_n mc_92 dX6_setThread_44 (Nat.le_of_ble_eq_true rfl)).trans <|
  (R_aload_n mc_92 dX6_setThread_45 rfl).trans <|
  (R_getR mc_92 dX6_setThread_46 mo_92 ft_6_19 rfl rfl (r := 6) rfl (by decide)).trans <|
  (R_iload_n mc_92 dX6_setThread_49 rfl).trans <|
  (R_putI mc_92 dX6_setThread_50 mo_92 ft_6_154 rfl rfl rfl (lo := (-2147483648)) (hi := 2147483647) rfl rfl).trans <| bck_congr <|
  rfl
theorem B_X6_setThread_53 (sc : Nat × (Nat → Int)) (iv : Nat → Nat → Int) (x1 : Int) (x2 : Int) (x3 : Int) : Run sc 92 53 [some (Rf 1), some (I x1), some (I x2), some (I x3)] [] (hp iv) = bck (-2147483648) 2147483647 x2 (Run sc 92 61 [some (Rf 1), some (I x1), some (I x2), some (I x3)] [] (hp (setO iv 6 (upI (iv 6) 1 x2)))) :=
  (R_aload_n mc_92 dX6_setThread_53 rfl).trans <|
  (R_getR mc_92 dX6_setThread_54 mo_92 ft_6_19 rfl rfl (r := 6) rfl (by decide)).trans <|
  (R_iload_n mc_92 dX6_setThread_57 rfl).trans <|
  (R_putI mc_92 dX6_setThread_58 mo_92 ft_6_151 rfl rfl rfl (lo := (-2147483648)) (hi := 2147483647) rfl rfl).trans <| bck_congr <|
  rfl
theorem B_X6_setThread_61 (sc : Nat × (Nat → Int)) (iv : Nat → Nat → Int) (x1 : Int) (x2 : Int) (x3 : Int) : Run sc 92 61 [some (Rf 1), some (I x1), some (I x2), some (I x3)] [] (hp iv) = some (some (I x3), (hp iv)) :=
  (R_iload_n mc_92 dX6_setThread_61 rfl).trans <|
  R_ireturn mc_92 dX6_setThread_62 rfl
theorem B_X6_setBack_0 (sc : Nat × (Nat → Int)) (iv : Nat → Nat → Int) (x1 : Int) (x2 : Int) (x3 : Int) (x4 : Int) : Run sc 93 0 [some (Rf 1), some (I x1), some (I x2), some (I x3), some (I x4)] [] (hp iv) = aBind (Run sc 3 0 [some (Rf 44), some (I x1), some (I x2), some (I x3), none, none] [] (hp iv)) (fun v h2 => Run sc 93 10 [some (Rf 1), some (I x1), some (I x2), some (I x3), some (I x4)] (pushR v []) h2) :=
  (R_aload_n mc_93 dX6_setBack_0 rfl).trans <|
  (R_getR mc_93 dX6_setBack_1 mo_93 ft_6_37 rfl rfl (r := 44) rfl (by decide)).trans <|
  (R_iload_n mc_93 dX6_setBack_4 rfl).trans <|
  (R_iload_n mc_93 dX6_setBack_5 rfl).trans <|
  (R_iload_n mc_93 dX6_setBack_6 rfl).trans <|
  R_invV mc_93 dX6_setBack_7 mo_93 ct_6_157 af_93_3 rfl rfl rfl ⟨Nat.le_of_ble_eq_true rfl, Nat.le_of_ble_eq_true rfl⟩
theorem B_X6_setBack_10 (sc : Nat × (Nat → Int)) (iv : Nat → Nat → Int) (x1 : Int) (x2 : Int) (x3 : Int) (x4 : Int) (s0 : Int) : Run sc 93 10 [some (Rf 1), some (I x1), some (I x2), some (I x3), some (I x4)] [(I s0)] (hp iv) = if s0 = 0 then Run sc 93 28 [some (Rf 1), some (I x1), some (I x2), some (I x3), some (I x4)] [] (hp iv) else aBind (Run sc 5 0 [some (Rf 44), some (I x1), some (I x2), some (I x3), some (I x4), none, none] [] (hp iv)) (fun v h2 => Run sc 93 25 [some (Rf 1), some (I x1), some (I x2), some (I x3), some (I x4)] (pushR v []) h2) :=
  (R_if_eq mc_93 dX6_setBack_10 (t := 28) rfl).trans <| ite_c2
  (rfl)
  ((R_aload_n mc_93 dX6_setBack_13 rfl).trans <|
  (R_getR mc_93 dX6_setBack_14 mo_93 ft_6_37 rfl rfl (r := 44) rfl (by decide)).trans <|
  (R_iload_n mc_93 dX6_setBack_17 rfl).trans <|
  (R_iload_n mc_93 dX6_setBack_18 rfl).trans <|
  (R_iload_n mc_93 dX6_setBack_19 rfl).trans <|
  (R_iload mc_93 dX6_setBack_20 rfl).trans <|
  R_invV mc_93 dX6_setBack_22 mo_93 ct_6_161 af_93_5 rfl rfl rfl ⟨Nat.le_of_ble_eq_true rfl, Nat.le_of_ble_eq_true rfl⟩)
theorem B_X6_setBack_25 (sc : Nat × (Nat → Int)) (iv : Nat → Nat → Int) (x1 : Int) (x2 : Int) (x3 : Int) (x4 : Int) (s0 : Int) : Run sc 93 25 [some (Rf 1), some (I x1), some (I x2), some (I x3), some (I x4)] [(I s0)] (hp iv) = Run sc 93 29 [some (Rf 1), some (I x1), some (I x2), some (I x3), some (I x4)] [(I s0)] (hp iv) :=
  R_goto mc_93 dX6_setBack_25 (t := 29) rfl
theorem B_X6_setBack_28 (sc : Nat × (Nat → Int)) (iv : Nat → Nat → Int) (x1 : Int) (x2 : Int) (x3 : Int) (x4 : Int) : Run sc 93 28 [some (Rf 1), some (I x1), some (I x2), some (I x3), some (I x4)] [] (hp iv) = Run sc 93 29 [some (Rf 1), some (I x1), some (I x2), some (I x3), some (I x4)] [(I (-1))] (hp iv) :=
  R_iconst mc_93 dX6_setBack_28 ⟨by decide, by decide⟩
theorem B_X6_setBack_29 (sc : Nat × (Nat → Int)) (iv : Nat → Nat → Int) (x1 : Int) (x2 : Int) (x3 : Int) (x4 : Int) (s0 : Int) : Run sc 93 29 [some (Rf 1), some (I x1), some (I x2), some (I x3), some (I x4)] [(I s0)] (hp iv) = some (some (I s0), (hp iv)) :=
  R_ireturn mc_93 dX6_setBack_29 rfl
theorem B_X6_back_0 (sc : Nat × (Nat → Int)) (iv : Nat → Nat → Int) (x1 : Int) (x2 : Int) (x3 : Int) : Run sc 94 0 [some (Rf 1), some (I x1), some (I x2), some (I x3)] [] (hp iv) = aBind (Run sc 3 0 [some (Rf 44), some (I x1), some (I x2), some (I x3), none, none] [] (hp iv)) (fun v h2 => Run sc 94 10 [some (Rf 1), some (I x1), some (I x2), some (I x3)] (pushR v []) h2) :=
  (R_aload_n mc_94 dX6_back_0 rfl).trans <|
  (R_getR mc_94 dX6_back_1 mo_94 ft_6_37 rfl rfl (r := 44) rfl (by decide)).trans <|
  (R_iload_n mc_94 dX6_back_4 rfl).trans <|
  (R_iload_n mc_94 dX6_back_5 rfl).trans <|
  (R_iload_n mc_94 dX6_back_6 rfl).trans <|
  R_invV mc_94 dX6_back_7 mo_94 ct_6_157 af_94_3 rfl rfl rfl ⟨Nat.le_of_ble_eq_true rfl, Nat.le_of_ble_eq_true rfl⟩
theorem B_X6_back_10 (sc : Nat × (Nat → Int)) (iv : Nat → Nat → Int) (x1 : Int) (x2 : Int) (x3 : Int) (s0 : Int) : Run sc 94 10 [some (Rf 1), some (I x1), some (I x2), some (I x3)] [(I s0)] (hp iv) = if s0 = 0 then Run sc 94 26 [some (Rf 1), some (I x1), some (I x2), some (I x3)] [] (hp iv) else aBind (Run sc 4 0 [some (Rf 44), some (I x1), some (I x2), some (I x3), none] [] (hp iv)) (fun v h2 => Run sc 94 23 [some (Rf 1), some (I x1), some (I x2), some (I x3)] (pushR v []) h2) :=
  (R_if_eq mc_94 dX6_back_10 (t := 26) rfl).trans <| ite_c2
  (rfl)
  ((R_aload_n mc_94 dX6_back_13 rfl).trans <|
  (R_getR mc_94 dX6_back_14 mo_94 ft_6_37 rfl rfl (r := 44) rfl (by decide)).trans <|
  (R_iload_n mc_94 dX6_back_17 rfl).trans <|
  (R_iload_n mc_94 dX6_back_18 rfl).trans <|
  (R_iload_n mc_94 dX6_back_19 rfl).trans <|
  R_invV mc_94 dX6_back_20 mo_94 ct_6_164 af_94_4 rfl rfl rfl ⟨Nat.le_of_ble_eq_true rfl, Nat.le_of_ble_eq_true rfl⟩)
theorem B_X6_back_23 (sc : Nat × (Nat → Int)) (iv : Nat → Nat → Int) (x1 : Int) (x2 : Int) (x3 : Int) (s0 : Int) : Run sc 94 23 [some (Rf 1), some (I x1), some (I x2), some (I x3)] [(I s0)] (hp iv) = Run sc 94 27 [some (Rf 1), some (I x1), some (I x2), some (I x3)] [(I s0)] (hp iv) :=
  R_goto mc_94 dX6_back_23 (t := 27) rfl
theorem B_X6_back_26 (sc : Nat × (Nat → Int)) (iv : Nat → Nat → Int) (x1 : Int) (x2 : Int) (x3 : Int) : Run sc 94 26 [some (Rf 1), some (I x1), some (I x2), some (I x3)] [] (hp iv) = Run sc 94 27 [some (Rf 1), some (I x1), some (I x2), some (I x3)] [(I (-1))] (hp iv) :=
  R_iconst mc_94 dX6_back_26 ⟨by decide, by decide⟩
theorem B_X6_back_27 (sc : Nat × (Nat → Int)) (iv : Nat → Nat → Int) (x1 : Int) (x2 : Int) (x3 : Int) (s0 : Int) : Run sc 94 27 [some (Rf 1), some (I x1), some (I x2), some (I x3)] [(I s0)] (hp iv) = some (some (I s0), (hp iv)) :=
  R_ireturn mc_94 dX6_back_27 rfl
theorem B_X6_outline_0 (sc : Nat × (Nat → Int)) (iv : Nat → Nat → Int) (x1 : Int) : Run sc 95 0 [some (Rf 1), some (I x1)] [] (hp iv) = aBind (Run sc 104 0 [some (I x1)] [] (hp iv)) (fun v h2 => Run sc 95 4 [some (Rf 1), some (I x1)] (pushR v []) h2) :=
  (R_iload_n mc_95 dX6_outline_0 rfl).trans <|
  R_invS mc_95 dX6_outline_1 mo_95 ct_6_113 (Or.inl rfl) af_95_104 (Nat.le_of_ble_eq_true rfl) rfl rfl ⟨Nat.le_of_ble_eq_true rfl, Nat.le_of_ble_eq_true rfl⟩
theorem B_X6_outline_4 (sc : Nat × (Nat → Int)) (iv : Nat → Nat → Int) (x1 : Int) (s0 : Int) : Run sc 95 4 [some (Rf 1), some (I x1)] [(I s0)] (hp iv) = if s0 = 0 then Run sc 95 18 [some (Rf 1), some (I x1)] [] (hp iv) else aBind (Run sc 6 0 [some (Rf 44), some (I x1), none, none, none, none] [] (hp iv)) (fun v h2 => Run sc 95 15 [some (Rf 1), some (I x1)] (pushR v []) h2) :=
  (R_if_eq mc_95 dX6_outline_4 (t := 18) rfl).trans <| ite_c2
  (rfl)
  ((R_aload_n mc_95 dX6_outline_7 rfl).trans <|
  (R_getR mc_95 dX6_outline_8 mo_95 ft_6_37 rfl rfl (r := 44) rfl (by decide)).trans <|
  (R_iload_n mc_95 dX6_outline_11 rfl).trans <|
  R_invV mc_95 dX6_outline_12 mo_95 ct_6_168 af_95_6 rfl rfl rfl ⟨Nat.le_of_ble_eq_true rfl, Nat.le_of_ble_eq_true rfl⟩)
theorem B_X6_outline_15 (sc : Nat × (Nat → Int)) (iv : Nat → Nat → Int) (x1 : Int) (s0 : Int) : Run sc 95 15 [some (Rf 1), some (I x1)] [(I s0)] (hp iv) = Run sc 95 20 [some (Rf 1), some (I x1)] [(I s0)] (hp iv) :=
  R_goto mc_95 dX6_outline_15 (t := 20) rfl
theorem B_X6_outline_18 (sc : Nat × (Nat → Int)) (iv : Nat → Nat → Int) (x1 : Int) : Run sc 95 18 [some (Rf 1), some (I x1)] [] (hp iv) = Run sc 95 20 [some (Rf 1), some (I x1)] [(I (-2))] (hp iv) :=
  R_bipush mc_95 dX6_outline_18 ⟨by decide, by decide⟩
theorem B_X6_outline_20 (sc : Nat × (Nat → Int)) (iv : Nat → Nat → Int) (x1 : Int) (s0 : Int) : Run sc 95 20 [some (Rf 1), some (I x1)] [(I s0)] (hp iv) = some (some (I s0), (hp iv)) :=
  R_ireturn mc_95 dX6_outline_20 rfl
theorem B_X6_clearBack_0 (sc : Nat × (Nat → Int)) (iv : Nat → Nat → Int)  : Run sc 96 0 [some (Rf 1), none] [] (hp iv) = aBind (Run sc 7 0 [some (Rf 44), none, none, none] [] (hp iv)) (fun v h2 => Run sc 96 7 [some (Rf 1), none] (pushR v []) h2) :=
  (R_aload_n mc_96 dX6_clearBack_0 rfl).trans <|
  (R_getR mc_96 dX6_clearBack_1 mo_96 ft_6_37 rfl rfl (r := 44) rfl (by decide)).trans <|
  R_invV mc_96 dX6_clearBack_4 mo_96 ct_6_172 af_96_7 rfl rfl rfl ⟨Nat.le_of_ble_eq_true rfl, Nat.le_of_ble_eq_true rfl⟩
theorem B_X6_clearBack_7 (sc : Nat × (Nat → Int)) (iv : Nat → Nat → Int) (d1 : Option AV) (s0 : Int) : Run sc 96 7 [some (Rf 1), d1] [(I s0)] (hp iv) = aBind (Run sc 2 0 [some (Rf 44), none] [] (hp iv)) (fun v h2 => Run sc 96 15 [some (Rf 1), some (I s0)] (pushR v []) h2) :=
  (R_istore_n mc_96 dX6_clearBack_7 (Nat.le_of_ble_eq_true rfl)).trans <|
  (R_aload_n mc_96 dX6_clearBack_8 rfl).trans <|
  (R_getR mc_96 dX6_clearBack_9 mo_96 ft_6_37 rfl rfl (r := 44) rfl (by decide)).trans <|
  R_invV mc_96 dX6_clearBack_12 mo_96 ct_6_63 af_96_2 rfl rfl rfl ⟨Nat.le_of_ble_eq_true rfl, Nat.le_of_ble_eq_true rfl⟩
theorem B_X6_clearBack_15 (sc : Nat × (Nat → Int)) (iv : Nat → Nat → Int) (x1 : Int) : Run sc 96 15 [some (Rf 1), some (I x1)] [] (hp iv) = some (some (I x1), (hp iv)) :=
  (R_iload_n mc_96 dX6_clearBack_15 rfl).trans <|
  R_ireturn mc_96 dX6_clearBack_16 rfl
theorem B_X6_backs_0 (sc : Nat × (Nat → Int)) (iv : Nat → Nat → Int) (x1 : Int) : Run sc 97 0 [some (Rf 1), some (I x1)] [] (hp iv) = if x1 = 0 then Run sc 97 36 [some (Rf 1), some (I x1)] [] (hp iv) else if x1 = 1 then Run sc 97 44 [some (Rf 1), some (I x1)] [] (hp iv) else if x1 = 2 then Run sc 97 52 [some (Rf 1), some (I x1)] [] (hp iv) else if x1 = 3 then Run sc 97 60 [some (Rf 1), some (I x1)] [] (hp iv) else if x1 = 4 then Run sc 97 89 [some (Rf 1), some (I x1)] [] (hp iv) else Run sc 97 97 [some (Rf 1), some (I x1)] [] (hp iv) :=
  (R_iload_n mc_97 dX6_backs_0 rfl).trans <|
  (by
    by_cases z0 : x1 = 0
    · rw [if_pos z0]; exact R_switchIn mc_97 dX6_backs_1 (by omega) (by omega) (by rw [z0]; rfl) (t := 36) rfl
    rw [if_neg z0]
    by_cases z1 : x1 = 1
    · rw [if_pos z1]; exact R_switchIn mc_97 dX6_backs_1 (by omega) (by omega) (by rw [z1]; rfl) (t := 44) rfl
    rw [if_neg z1]
    by_cases z2 : x1 = 2
    · rw [if_pos z2]; exact R_switchIn mc_97 dX6_backs_1 (by omega) (by omega) (by rw [z2]; rfl) (t := 52) rfl
    rw [if_neg z2]
    by_cases z3 : x1 = 3
    · rw [if_pos z3]; exact R_switchIn mc_97 dX6_backs_1 (by omega) (by omega) (by rw [z3]; rfl) (t := 60) rfl
    rw [if_neg z3]
    by_cases z4 : x1 = 4
    · rw [if_pos z4]; exact R_switchIn mc_97 dX6_backs_1 (by omega) (by omega) (by rw [z4]; rfl) (t := 89) rfl
    rw [if_neg z4]
    exact R_switchOut mc_97 dX6_backs_1 (by omega) (t := 97) rfl)
theorem B_X6_backs_36 (sc : Nat × (Nat → Int)) (iv : Nat → Nat → Int) (x1 : Int) : Run sc 97 36 [some (Rf 1), some (I x1)] [] (hp iv) = aBind (Run sc 7 0 [some (Rf 44), none, none, none] [] (hp iv)) (fun v h2 => Run sc 97 43 [some (Rf 1), some (I x1)] (pushR v []) h2) :=
  (R_aload_n mc_97 dX6_backs_36 rfl).trans <|
  (R_getR mc_97 dX6_backs_37 mo_97 ft_6_37 rfl rfl (r := 44) rfl (by decide)).trans <|
  R_invV mc_97 dX6_backs_40 mo_97 ct_6_172 af_97_7 rfl rfl rfl ⟨Nat.le_of_ble_eq_true rfl, Nat.le_of_ble_eq_true rfl⟩
theorem B_X6_backs_43 (sc : Nat × (Nat → Int)) (iv : Nat → Nat → Int) (x1 : Int) (s0 : Int) : Run sc 97 43 [some (Rf 1), some (I x1)] [(I s0)] (hp iv) = some (some (I s0), (hp iv)) :=
  R_ireturn mc_97 dX6_backs_43 rfl
theorem B_X6_backs_44 (sc : Nat × (Nat → Int)) (iv : Nat → Nat → Int) (x1 : Int) : Run sc 97 44 [some (Rf 1), some (I x1)] [] (hp iv) = aBind (Run sc 10 0 [some (Rf 44)] [] (hp iv)) (fun v h2 => Run sc 97 51 [some (Rf 1), some (I x1)] (pushR v []) h2) :=
  (R_aload_n mc_97 dX6_backs_44 rfl).trans <|
  (R_getR mc_97 dX6_backs_45 mo_97 ft_6_37 rfl rfl (r := 44) rfl (by decide)).trans <|
  R_invV mc_97 dX6_backs_48 mo_97 ct_6_175 af_97_10 rfl rfl rfl ⟨Nat.le_of_ble_eq_true rfl, Nat.le_of_ble_eq_true rfl⟩
theorem B_X6_backs_51 (sc : Nat × (Nat → Int)) (iv : Nat → Nat → Int) (x1 : Int) (s0 : Int) : Run sc 97 51 [some (Rf 1), some (I x1)] [(I s0)] (hp iv) = some (some (I s0), (hp iv)) :=
  R_ireturn mc_97 dX6_backs_51 rfl
theorem B_X6_backs_52 (sc : Nat × (Nat → Int)) (iv : Nat → Nat → Int) (x1 : Int) : Run sc 97 52 [some (Rf 1), some (I x1)] [] (hp iv) = aBind (Run sc 11 0 [some (Rf 44)] [] (hp iv)) (fun v h2 => Run sc 97 59 [some (Rf 1), some (I x1)] (pushR v []) h2) :=
  (R_aload_n mc_97 dX6_backs_52 rfl).trans <|
  (R_getR mc_97 dX6_backs_53 mo_97 ft_6_37 rfl rfl (r := 44) rfl (by decide)).trans <|
  R_invV mc_97 dX6_backs_56 mo_97 ct_6_178 af_97_11 rfl rfl rfl ⟨Nat.le_of_ble_eq_true rfl, Nat.le_of_ble_eq_true rfl⟩
theorem B_X6_backs_59 (sc : Nat × (Nat → Int)) (iv : Nat → Nat → Int) (x1 : Int) (s0 : Int) : Run sc 97 59 [some (Rf 1), some (I x1)] [(I s0)] (hp iv) = some (some (I s0), (hp iv)) :=
  R_ireturn mc_97 dX6_backs_59 rfl
theorem B_X6_backs_60 (sc : Nat × (Nat → Int)) (iv : Nat → Nat → Int) (x1 : Int) : Run sc 97 60 [some (Rf 1), some (I x1)] [] (hp iv) = aBind (Run sc 7 0 [some (Rf 44), none, none, none] [] (hp iv)) (fun v h2 => Run sc 97 69 [some (Rf 1), some (I x1)] (pushR v [(I 20)]) h2) :=
  (R_bipush mc_97 dX6_backs_60 ⟨by decide, by decide⟩).trans <|
  (R_aload_n mc_97 dX6_backs_62 rfl).trans <|
  (R_getR mc_97 dX6_backs_63 mo_97 ft_6_37 rfl rfl (r := 44) rfl (by decide)).trans <|
  R_invV mc_97 dX6_backs_66 mo_97 ct_6_172 af_97_7 rfl rfl rfl ⟨Nat.le_of_ble_eq_true rfl, Nat.le_of_ble_eq_true rfl⟩
theorem B_X6_backs_69 (sc : Nat × (Nat → Int)) (iv : Nat → Nat → Int) (x1 : Int) (s0 : Int) (s1 : Int) : Run sc 97 69 [some (Rf 1), some (I x1)] [(I s0), (I s1)] (hp iv) = chk (s1 * s0) (chk (2 * (iv 6 1)) (aBind (Run sc 11 0 [some (Rf 44)] [] (hp iv)) (fun v h2 => Run sc 97 86 [some (Rf 1), some (I x1)] (pushR v [(I (2 * (iv 6 1))), (I (s1 * s0))]) h2))) :=
  (R_imul mc_97 dX6_backs_69).trans <| chk_congr <|
  (R_iconst mc_97 dX6_backs_70 ⟨by decide, by decide⟩).trans <|
  (R_aload_n mc_97 dX6_backs_71 rfl).trans <|
  (R_getR mc_97 dX6_backs_72 mo_97 ft_6_19 rfl rfl (r := 6) rfl (by decide)).trans <|
  (R_getI mc_97 dX6_backs_75 mo_97 ft_6_151 rfl rfl).trans <|
  (R_imul mc_97 dX6_backs_78).trans <| chk_congr <|
  (R_aload_n mc_97 dX6_backs_79 rfl).trans <|
  (R_getR mc_97 dX6_backs_80 mo_97 ft_6_37 rfl rfl (r := 44) rfl (by decide)).trans <|
  R_invV mc_97 dX6_backs_83 mo_97 ct_6_178 af_97_11 rfl rfl rfl ⟨Nat.le_of_ble_eq_true rfl, Nat.le_of_ble_eq_true rfl⟩
theorem B_X6_backs_86 (sc : Nat × (Nat → Int)) (iv : Nat → Nat → Int) (x1 : Int) (s0 : Int) (s1 : Int) (s2 : Int) : Run sc 97 86 [some (Rf 1), some (I x1)] [(I s0), (I s1), (I s2)] (hp iv) = chk (s1 * s0) (chk (s2 + (s1 * s0)) (some (some (I (s2 + (s1 * s0))), (hp iv)))) :=
  (R_imul mc_97 dX6_backs_86).trans <| chk_congr <|
  (R_iadd mc_97 dX6_backs_87).trans <| chk_congr <|
  R_ireturn mc_97 dX6_backs_88 rfl
theorem B_X6_backs_89 (sc : Nat × (Nat → Int)) (iv : Nat → Nat → Int) (x1 : Int) : Run sc 97 89 [some (Rf 1), some (I x1)] [] (hp iv) = aBind (Run sc 9 0 [some (Rf 44), none, none, none] [] (hp iv)) (fun v h2 => Run sc 97 96 [some (Rf 1), some (I x1)] (pushR v []) h2) :=
  (R_aload_n mc_97 dX6_backs_89 rfl).trans <|
  (R_getR mc_97 dX6_backs_90 mo_97 ft_6_37 rfl rfl (r := 44) rfl (by decide)).trans <|
  R_invV mc_97 dX6_backs_93 mo_97 ct_6_181 af_97_9 rfl rfl rfl ⟨Nat.le_of_ble_eq_true rfl, Nat.le_of_ble_eq_true rfl⟩
theorem B_X6_backs_96 (sc : Nat × (Nat → Int)) (iv : Nat → Nat → Int) (x1 : Int) (s0 : Int) : Run sc 97 96 [some (Rf 1), some (I x1)] [(I s0)] (hp iv) = some (some (I s0), (hp iv)) :=
  R_ireturn mc_97 dX6_backs_96 rfl
theorem B_X6_backs_97 (sc : Nat × (Nat → Int)) (iv : Nat → Nat → Int) (x1 : Int) : Run sc 97 97 [some (Rf 1), some (I x1)] [] (hp iv) = some (some (I (-2)), (hp iv)) :=
  (R_bipush mc_97 dX6_backs_97 ⟨by decide, by decide⟩).trans <|
  R_ireturn mc_97 dX6_backs_99 rfl
theorem B_X6_setPages_0 (sc : Nat × (Nat → Int)) (iv : Nat → Nat → Int) (x1 : Int) (x2 : Int) (x3 : Int) : Run sc 98 0 [some (Rf 1), some (I x1), some (I x2), some (I x3)] [] (hp iv) = aBind (Run sc 103 0 [some (I x1), some (I 4), some (I 24)] [] (hp iv)) (fun v h2 => Run sc 98 7 [some (Rf 1), some (I x1), some (I x2), some (I x3)] (pushR v []) h2) :=
  (R_iload_n mc_98 dX6_setPages_0 rfl).trans <|
  (R_iconst mc_98 dX6_setPages_1 ⟨by decide, by decide⟩).trans <|
  (R_bipush mc_98 dX6_setPages_2 ⟨by decide, by decide⟩).trans <|
  R_invS mc_98 dX6_setPages_4 mo_98 ct_6_55 (Or.inl rfl) af_98_103 (Nat.le_of_ble_eq_true rfl) rfl rfl ⟨Nat.le_of_ble_eq_true rfl, Nat.le_of_ble_eq_true rfl⟩
theorem B_X6_setPages_7 (sc : Nat × (Nat → Int)) (iv : Nat → Nat → Int) (x1 : Int) (x2 : Int) (x3 : Int) (s0 : Int) : Run sc 98 7 [some (Rf 1), some (I x1), some (I x2), some (I x3)] [(I s0)] (hp iv) = if s0 = 0 then Run sc 98 29 [some (Rf 1), some (I x1), some (I x2), some (I x3)] [] (hp iv) else aBind (Run sc 103 0 [some (I x2), some (I 4), some (I 24)] [] (hp iv)) (fun v h2 => Run sc 98 17 [some (Rf 1), some (I x1), some (I x2), some (I x3)] (pushR v []) h2) :=
  (R_if_eq mc_98 dX6_setPages_7 (t := 29) rfl).trans <| ite_c2
  (rfl)
  ((R_iload_n mc_98 dX6_setPages_10 rfl).trans <|
  (R_iconst mc_98 dX6_setPages_11 ⟨by decide, by decide⟩).trans <|
  (R_bipush mc_98 dX6_setPages_12 ⟨by decide, by decide⟩).trans <|
  R_invS mc_98 dX6_setPages_14 mo_98 ct_6_55 (Or.inl rfl) af_98_103 (Nat.le_of_ble_eq_true rfl) rfl rfl ⟨Nat.le_of_ble_eq_true rfl, Nat.le_of_ble_eq_true rfl⟩)
theorem B_X6_setPages_17 (sc : Nat × (Nat → Int)) (iv : Nat → Nat → Int) (x1 : Int) (x2 : Int) (x3 : Int) (s0 : Int) : Run sc 98 17 [some (Rf 1), some (I x1), some (I x2), some (I x3)] [(I s0)] (hp iv) = if s0 = 0 then Run sc 98 29 [some (Rf 1), some (I x1), some (I x2), some (I x3)] [] (hp iv) else aBind (Run sc 103 0 [some (I x3), some (I 0), some (I 3)] [] (hp iv)) (fun v h2 => Run sc 98 26 [some (Rf 1), some (I x1), some (I x2), some (I x3)] (pushR v []) h2) :=
  (R_if_eq mc_98 dX6_setPages_17 (t := 29) rfl).trans <| ite_c2
  (rfl)
  ((R_iload_n mc_98 dX6_setPages_20 rfl).trans <|
  (R_iconst mc_98 dX6_setPages_21 ⟨by decide, by decide⟩).trans <|
  (R_iconst mc_98 dX6_setPages_22 ⟨by decide, by decide⟩).trans <|
  R_invS mc_98 dX6_setPages_23 mo_98 ct_6_55 (Or.inl rfl) af_98_103 (Nat.le_of_ble_eq_true rfl) rfl rfl ⟨Nat.le_of_ble_eq_true rfl, Nat.le_of_ble_eq_true rfl⟩)
theorem B_X6_setPages_26 (sc : Nat × (Nat → Int)) (iv : Nat → Nat → Int) (x1 : Int) (x2 : Int) (x3 : Int) (s0 : Int) : Run sc 98 26 [some (Rf 1), some (I x1), some (I x2), some (I x3)] [(I s0)] (hp iv) = if s0 = 0 then Run sc 98 29 [some (Rf 1), some (I x1), some (I x2), some (I x3)] [] (hp iv) else Run sc 98 32 [some (Rf 1), some (I x1), some (I x2), some (I x3)] [] (hp iv) :=
  R_if_ne mc_98 dX6_setPages_26 (t := 32) rfl
theorem B_X6_setPages_29 (sc : Nat × (Nat → Int)) (iv : Nat → Nat → Int) (x1 : Int) (x2 : Int) (x3 : Int) : Run sc 98 29 [some (Rf 1), some (I x1), some (I x2), some (I x3)] [] (hp iv) = some (some (I (-2)), (hp iv)) :=
  (R_bipush mc_98 dX6_setPages_29 ⟨by decide, by decide⟩).trans <|
  R_ireturn mc_98 dX6_setPages_31 rfl
theorem B_X6_setPages_32 (sc : Nat × (Nat → Int)) (iv : Nat → Nat → Int) (x1 : Int) (x2 : Int) (x3 : Int) : Run sc 98 32 [some (Rf 1), some (I x1), some (I x2), some (I x3)] [] (hp iv) = bck (-2147483648) 2147483647 x1 (Run sc 98 40 [some (Rf 1), some (I x1), some (I x2), some (I x3)] [] (hp (setO iv 49 (upI (iv 49) 1 x1)))) :=
  (R_aload_n mc_98 dX6_setPages_32 rfl).trans <|
  (R_getR mc_98 dX6_setPages_33 mo_98 ft_6_44 rfl rfl (r := 49) rfl (by decide)).trans <|
  (R_iload_n mc_98 dX6_setPages_36 rfl).trans <|
  (R_putI mc_98 dX6_setPages_37 mo_98 ft_6_184 rfl rfl rfl (lo := (-2147483648)) (hi := 2147483647) rfl rfl).trans <| bck_congr <|
  rfl
theorem B_X6_setPages_40 (sc : Nat × (Nat → Int)) (iv : Nat → Nat → Int) (x1 : Int) (x2 : Int) (x3 : Int) : Run sc 98 40 [some (Rf 1), some (I x1), some (I x2), some (I x3)] [] (hp iv) = bck (-2147483648) 2147483647 x2 (Run sc 98 48 [some (Rf 1), some (I x1), some (I x2), some (I x3)] [] (hp (setO iv 49 (upI (iv 49) 2 x2)))) :=
  (R_aload_n mc_98 dX6_setPages_40 rfl).trans <|
  (R_getR mc_98 dX6_setPages_41 mo_98 ft_6_44 rfl rfl (r := 49) rfl (by decide)).trans <|
  (R_iload_n mc_98 dX6_setPages_44 rfl).trans <|
  (R_putI mc_98 dX6_setPages_45 mo_98 ft_6_187 rfl rfl rfl (lo := (-2147483648)) (hi := 2147483647) rfl rfl).trans <| bck_congr <|
  rfl
theorem B_X6_setPages_48 (sc : Nat × (Nat → Int)) (iv : Nat → Nat → Int) (x1 : Int) (x2 : Int) (x3 : Int) : Run sc 98 48 [some (Rf 1), some (I x1), some (I x2), some (I x3)] [] (hp iv) = bck (-2147483648) 2147483647 x3 (Run sc 98 56 [some (Rf 1), some (I x1), some (I x2), some (I x3)] [] (hp (setO iv 49 (upI (iv 49) 3 x3)))) :=
  (R_aload_n mc_98 dX6_setPages_48 rfl).trans <|
  (R_getR mc_98 dX6_setPages_49 mo_98 ft_6_44 rfl rfl (r := 49) rfl (by decide)).trans <|
  (R_iload_n mc_98 dX6_setPages_52 rfl).trans <|
  (R_putI mc_98 dX6_setPages_53 mo_98 ft_6_190 rfl rfl rfl (lo := (-2147483648)) (hi := 2147483647) rfl rfl).trans <| bck_congr <|
  rfl
theorem B_X6_setPages_56 (sc : Nat × (Nat → Int)) (iv : Nat → Nat → Int) (x1 : Int) (x2 : Int) (x3 : Int) : Run sc 98 56 [some (Rf 1), some (I x1), some (I x2), some (I x3)] [] (hp iv) = aBind (Run sc 64 0 [some (Rf 49)] [] (hp iv)) (fun v h2 => Run sc 98 63 [some (Rf 1), some (I x1), some (I x2), some (I x3)] (pushR v []) h2) :=
  (R_aload_n mc_98 dX6_setPages_56 rfl).trans <|
  (R_getR mc_98 dX6_setPages_57 mo_98 ft_6_44 rfl rfl (r := 49) rfl (by decide)).trans <|
  R_invV mc_98 dX6_setPages_60 mo_98 ct_6_193 af_98_64 rfl rfl rfl ⟨Nat.le_of_ble_eq_true rfl, Nat.le_of_ble_eq_true rfl⟩
theorem B_X6_setPages_63 (sc : Nat × (Nat → Int)) (iv : Nat → Nat → Int) (x1 : Int) (x2 : Int) (x3 : Int) (s0 : Int) : Run sc 98 63 [some (Rf 1), some (I x1), some (I x2), some (I x3)] [(I s0)] (hp iv) = some (some (I s0), (hp iv)) :=
  R_ireturn mc_98 dX6_setPages_63 rfl
theorem B_X6_page_0 (sc : Nat × (Nat → Int)) (iv : Nat → Nat → Int) (x1 : Int) (x2 : Int) : Run sc 99 0 [some (Rf 1), some (I x1), some (I x2)] [] (hp iv) = aBind (Run sc 65 0 [some (Rf 49), some (I x1)] [] (hp iv)) (fun v h2 => Run sc 99 8 [some (Rf 1), some (I x1), some (I x2)] (pushR v []) h2) :=
  (R_aload_n mc_99 dX6_page_0 rfl).trans <|
  (R_getR mc_99 dX6_page_1 mo_99 ft_6_44 rfl rfl (r := 49) rfl (by decide)).trans <|
  (R_iload_n mc_99 dX6_page_4 rfl).trans <|
  R_invV mc_99 dX6_page_5 mo_99 ct_6_196 af_99_65 rfl rfl rfl ⟨Nat.le_of_ble_eq_true rfl, Nat.le_of_ble_eq_true rfl⟩
theorem B_X6_page_8 (sc : Nat × (Nat → Int)) (iv : Nat → Nat → Int) (x1 : Int) (x2 : Int) (s0 : Int) : Run sc 99 8 [some (Rf 1), some (I x1), some (I x2)] [(I s0)] (hp iv) = if s0 = 0 then some (some (I (-1)), (hp iv)) else Run sc 99 13 [some (Rf 1), some (I x1), some (I x2)] [] (hp iv) :=
  (R_if_ne mc_99 dX6_page_8 (t := 13) rfl).trans <| ite_c2
  ((R_iconst mc_99 dX6_page_11 ⟨by decide, by decide⟩).trans <|
  R_ireturn mc_99 dX6_page_12 rfl)
  (rfl)
theorem B_X6_page_13 (sc : Nat × (Nat → Int)) (iv : Nat → Nat → Int) (x1 : Int) (x2 : Int) : Run sc 99 13 [some (Rf 1), some (I x1), some (I x2)] [] (hp iv) = if x2 = 0 then Run sc 99 52 [some (Rf 1), some (I x1), some (I x2)] [] (hp iv) else if x2 = 1 then Run sc 99 61 [some (Rf 1), some (I x1), some (I x2)] [] (hp iv) else if x2 = 2 then Run sc 99 70 [some (Rf 1), some (I x1), some (I x2)] [] (hp iv) else if x2 = 3 then Run sc 99 79 [some (Rf 1), some (I x1), some (I x2)] [] (hp iv) else if x2 = 4 then Run sc 99 88 [some (Rf 1), some (I x1), some (I x2)] [] (hp iv) else if x2 = 5 then Run sc 99 101 [some (Rf 1), some (I x1), some (I x2)] [] (hp iv) else Run sc 99 114 [some (Rf 1), some (I x1), some (I x2)] [] (hp iv) :=
  (R_iload_n mc_99 dX6_page_13 rfl).trans <|
  (by
    by_cases z0 : x2 = 0
    · rw [if_pos z0]; exact R_switchIn mc_99 dX6_page_14 (by omega) (by omega) (by rw [z0]; rfl) (t := 52) rfl
    rw [if_neg z0]
    by_cases z1 : x2 = 1
    · rw [if_pos z1]; exact R_switchIn mc_99 dX6_page_14 (by omega) (by omega) (by rw [z1]; rfl) (t := 61) rfl
    rw [if_neg z1]
    by_cases z2 : x2 = 2
    · rw [if_pos z2]; exact R_switchIn mc_99 dX6_page_14 (by omega) (by omega) (by rw [z2]; rfl) (t := 70) rfl
    rw [if_neg z2]
    by_cases z3 : x2 = 3
    · rw [if_pos z3]; exact R_switchIn mc_99 dX6_page_14 (by omega) (by omega) (by rw [z3]; rfl) (t := 79) rfl
    rw [if_neg z3]
    by_cases z4 : x2 = 4
    · rw [if_pos z4]; exact R_switchIn mc_99 dX6_page_14 (by omega) (by omega) (by rw [z4]; rfl) (t := 88) rfl
    rw [if_neg z4]
    by_cases z5 : x2 = 5
    · rw [if_pos z5]; exact R_switchIn mc_99 dX6_page_14 (by omega) (by omega) (by rw [z5]; rfl) (t := 101) rfl
    rw [if_neg z5]
    exact R_switchOut mc_99 dX6_page_14 (by omega) (t := 114) rfl)
theorem B_X6_page_52 (sc : Nat × (Nat → Int)) (iv : Nat → Nat → Int) (x1 : Int) (x2 : Int) : Run sc 99 52 [some (Rf 1), some (I x1), some (I x2)] [] (hp iv) = aBind (Run sc 66 0 [some (Rf 49), some (I x1)] [] (hp iv)) (fun v h2 => Run sc 99 60 [some (Rf 1), some (I x1), some (I x2)] (pushR v []) h2) :=
  (R_aload_n mc_99 dX6_page_52 rfl).trans <|
  (R_getR mc_99 dX6_page_53 mo_99 ft_6_44 rfl rfl (r := 49) rfl (by decide)).trans <|
  (R_iload_n mc_99 dX6_page_56 rfl).trans <|
  R_invV mc_99 dX6_page_57 mo_99 ct_6_197 af_99_66 rfl rfl rfl ⟨Nat.le_of_ble_eq_true rfl, Nat.le_of_ble_eq_true rfl⟩
theorem B_X6_page_60 (sc : Nat × (Nat → Int)) (iv : Nat → Nat → Int) (x1 : Int) (x2 : Int) (s0 : Int) : Run sc 99 60 [some (Rf 1), some (I x1), some (I x2)] [(I s0)] (hp iv) = some (some (I s0), (hp iv)) :=
  R_ireturn mc_99 dX6_page_60 rfl
theorem B_X6_page_61 (sc : Nat × (Nat → Int)) (iv : Nat → Nat → Int) (x1 : Int) (x2 : Int) : Run sc 99 61 [some (Rf 1), some (I x1), some (I x2)] [] (hp iv) = aBind (Run sc 67 0 [some (Rf 49), some (I x1)] [] (hp iv)) (fun v h2 => Run sc 99 69 [some (Rf 1), some (I x1), some (I x2)] (pushR v []) h2) :=
  (R_aload_n mc_99 dX6_page_61 rfl).trans <|
  (R_getR mc_99 dX6_page_62 mo_99 ft_6_44 rfl rfl (r := 49) rfl (by decide)).trans <|
  (R_iload_n mc_99 dX6_page_65 rfl).trans <|
  R_invV mc_99 dX6_page_66 mo_99 ct_6_200 af_99_67 rfl rfl rfl ⟨Nat.le_of_ble_eq_true rfl, Nat.le_of_ble_eq_true rfl⟩
theorem B_X6_page_69 (sc : Nat × (Nat → Int)) (iv : Nat → Nat → Int) (x1 : Int) (x2 : Int) (s0 : Int) : Run sc 99 69 [some (Rf 1), some (I x1), some (I x2)] [(I s0)] (hp iv) = some (some (I s0), (hp iv)) :=
  R_ireturn mc_99 dX6_page_69 rfl
theorem B_X6_page_70 (sc : Nat × (Nat → Int)) (iv : Nat → Nat → Int) (x1 : Int) (x2 : Int) : Run sc 99 70 [some (Rf 1), some (I x1), some (I x2)] [] (hp iv) = aBind (Run sc 68 0 [some (Rf 49), some (I x1)] [] (hp iv)) (fun v h2 => Run sc 99 78 [some (Rf 1), some (I x1), some (I x2)] (pushR v []) h2) :=
  (R_aload_n mc_99 dX6_page_70 rfl).trans <|
  (R_getR mc_99 dX6_page_71 mo_99 ft_6_44 rfl rfl (r := 49) rfl (by decide)).trans <|
  (R_iload_n mc_99 dX6_page_74 rfl).trans <|
  R_invV mc_99 dX6_page_75 mo_99 ct_6_203 af_99_68 rfl rfl rfl ⟨Nat.le_of_ble_eq_true rfl, Nat.le_of_ble_eq_true rfl⟩
theorem B_X6_page_78 (sc : Nat × (Nat → Int)) (iv : Nat → Nat → Int) (x1 : Int) (x2 : Int) (s0 : Int) : Run sc 99 78 [some (Rf 1), some (I x1), some (I x2)] [(I s0)] (hp iv) = some (some (I s0), (hp iv)) :=
  R_ireturn mc_99 dX6_page_78 rfl
theorem B_X6_page_79 (sc : Nat × (Nat → Int)) (iv : Nat → Nat → Int) (x1 : Int) (x2 : Int) : Run sc 99 79 [some (Rf 1), some (I x1), some (I x2)] [] (hp iv) = aBind (Run sc 69 0 [some (Rf 49), some (I x1)] [] (hp iv)) (fun v h2 => Run sc 99 87 [some (Rf 1), some (I x1), some (I x2)] (pushR v []) h2) :=
  (R_aload_n mc_99 dX6_page_79 rfl).trans <|
  (R_getR mc_99 dX6_page_80 mo_99 ft_6_44 rfl rfl (r := 49) rfl (by decide)).trans <|
  (R_iload_n mc_99 dX6_page_83 rfl).trans <|
  R_invV mc_99 dX6_page_84 mo_99 ct_6_206 af_99_69 rfl rfl rfl ⟨Nat.le_of_ble_eq_true rfl, Nat.le_of_ble_eq_true rfl⟩
theorem B_X6_page_87 (sc : Nat × (Nat → Int)) (iv : Nat → Nat → Int) (x1 : Int) (x2 : Int) (s0 : Int) : Run sc 99 87 [some (Rf 1), some (I x1), some (I x2)] [(I s0)] (hp iv) = some (some (I s0), (hp iv)) :=
  R_ireturn mc_99 dX6_page_87 rfl
theorem B_X6_page_88 (sc : Nat × (Nat → Int)) (iv : Nat → Nat → Int) (x1 : Int) (x2 : Int) : Run sc 99 88 [some (Rf 1), some (I x1), some (I x2)] [] (hp iv) = aBind (Run sc 72 0 [some (Rf 49), some (I x1), some (I 1), some (I 0), some (I 6), none, none, none, none, none, none, none, none] [] (hp iv)) (fun v h2 => Run sc 99 100 [some (Rf 1), some (I x1), some (I x2)] (pushR v []) h2) :=
  (R_aload_n mc_99 dX6_page_88 rfl).trans <|
  (R_getR mc_99 dX6_page_89 mo_99 ft_6_44 rfl rfl (r := 49) rfl (by decide)).trans <|
  (R_iload_n mc_99 dX6_page_92 rfl).trans <|
  (R_iconst mc_99 dX6_page_93 ⟨by decide, by decide⟩).trans <|
  (R_iconst mc_99 dX6_page_94 ⟨by decide, by decide⟩).trans <|
  (R_bipush mc_99 dX6_page_95 ⟨by decide, by decide⟩).trans <|
  R_invV mc_99 dX6_page_97 mo_99 ct_6_209 af_99_72 rfl rfl rfl ⟨Nat.le_of_ble_eq_true rfl, Nat.le_of_ble_eq_true rfl⟩
theorem B_X6_page_100 (sc : Nat × (Nat → Int)) (iv : Nat → Nat → Int) (x1 : Int) (x2 : Int) (s0 : Int) : Run sc 99 100 [some (Rf 1), some (I x1), some (I x2)] [(I s0)] (hp iv) = some (some (I s0), (hp iv)) :=
  R_ireturn mc_99 dX6_page_100 rfl
theorem B_X6_page_101 (sc : Nat × (Nat → Int)) (iv : Nat → Nat → Int) (x1 : Int) (x2 : Int) : Run sc 99 101 [some (Rf 1), some (I x1), some (I x2)] [] (hp iv) = aBind (Run sc 72 0 [some (Rf 49), some (I x1), some (I 0), some (I 1), some (I 6), none, none, none, none, none, none, none, none] [] (hp iv)) (fun v h2 => Run sc 99 113 [some (Rf 1), some (I x1), some (I x2)] (pushR v []) h2) :=
  (R_aload_n mc_99 dX6_page_101 rfl).trans <|
  (R_getR mc_99 dX6_page_102 mo_99 ft_6_44 rfl rfl (r := 49) rfl (by decide)).trans <|
  (R_iload_n mc_99 dX6_page_105 rfl).trans <|
  (R_iconst mc_99 dX6_page_106 ⟨by decide, by decide⟩).trans <|
  (R_iconst mc_99 dX6_page_107 ⟨by decide, by decide⟩).trans <|
  (R_bipush mc_99 dX6_page_108 ⟨by decide, by decide⟩).trans <|
  R_invV mc_99 dX6_page_110 mo_99 ct_6_209 af_99_72 rfl rfl rfl ⟨Nat.le_of_ble_eq_true rfl, Nat.le_of_ble_eq_true rfl⟩
theorem B_X6_page_113 (sc : Nat × (Nat → Int)) (iv : Nat → Nat → Int) (x1 : Int) (x2 : Int) (s0 : Int) : Run sc 99 113 [some (Rf 1), some (I x1), some (I x2)] [(I s0)] (hp iv) = some (some (I s0), (hp iv)) :=
  R_ireturn mc_99 dX6_page_113 rfl
theorem B_X6_page_114 (sc : Nat × (Nat → Int)) (iv : Nat → Nat → Int) (x1 : Int) (x2 : Int) : Run sc 99 114 [some (Rf 1), some (I x1), some (I x2)] [] (hp iv) = some (some (I (-2)), (hp iv)) :=
  (R_bipush mc_99 dX6_page_114 ⟨by decide, by decide⟩).trans <|
  R_ireturn mc_99 dX6_page_116 rfl
theorem B_X6_onPage_0 (sc : Nat × (Nat → Int)) (iv : Nat → Nat → Int) (x1 : Int) (x2 : Int) (x3 : Int) : Run sc 100 0 [some (Rf 1), some (I x1), some (I x2), some (I x3), none, none] [] (hp iv) = aBind (Run sc 65 0 [some (Rf 49), some (I x1)] [] (hp iv)) (fun v h2 => Run sc 100 8 [some (Rf 1), some (I x1), some (I x2), some (I x3), none, none] (pushR v []) h2) :=
  (R_aload_n mc_100 dX6_onPage_0 rfl).trans <|
  (R_getR mc_100 dX6_onPage_1 mo_100 ft_6_44 rfl rfl (r := 49) rfl (by decide)).trans <|
  (R_iload_n mc_100 dX6_onPage_4 rfl).trans <|
  R_invV mc_100 dX6_onPage_5 mo_100 ct_6_196 af_100_65 rfl rfl rfl ⟨Nat.le_of_ble_eq_true rfl, Nat.le_of_ble_eq_true rfl⟩
theorem B_X6_onPage_8 (sc : Nat × (Nat → Int)) (iv : Nat → Nat → Int) (x1 : Int) (x2 : Int) (x3 : Int) (d4 : Option AV) (d5 : Option AV) (s0 : Int) : Run sc 100 8 [some (Rf 1), some (I x1), some (I x2), some (I x3), d4, d5] [(I s0)] (hp iv) = if s0 = 0 then some (some (I (-1)), (hp iv)) else Run sc 100 13 [some (Rf 1), some (I x1), some (I x2), some (I x3), d4, d5] [] (hp iv) :=
  (R_if_ne mc_100 dX6_onPage_8 (t := 13) rfl).trans <| ite_c2
  ((R_iconst mc_100 dX6_onPage_11 ⟨by decide, by decide⟩).trans <|
  R_ireturn mc_100 dX6_onPage_12 rfl)
  (rfl)
theorem B_X6_onPage_13 (sc : Nat × (Nat → Int)) (iv : Nat → Nat → Int) (x1 : Int) (x2 : Int) (x3 : Int) (d4 : Option AV) (d5 : Option AV) : Run sc 100 13 [some (Rf 1), some (I x1), some (I x2), some (I x3), d4, d5] [] (hp iv) = aBind (Run sc 103 0 [some (I x2), some (I 0), some (I 6)] [] (hp iv)) (fun v h2 => Run sc 100 20 [some (Rf 1), some (I x1), some (I x2), some (I x3), d4, d5] (pushR v []) h2) :=
  (R_iload_n mc_100 dX6_onPage_13 rfl).trans <|
  (R_iconst mc_100 dX6_onPage_14 ⟨by decide, by decide⟩).trans <|
  (R_bipush mc_100 dX6_onPage_15 ⟨by decide, by decide⟩).trans <|
  R_invS mc_100 dX6_onPage_17 mo_100 ct_6_55 (Or.inl rfl) af_100_103 (Nat.le_of_ble_eq_true rfl) rfl rfl ⟨Nat.le_of_ble_eq_true rfl, Nat.le_of_ble_eq_true rfl⟩
theorem B_X6_onPage_20 (sc : Nat × (Nat → Int)) (iv : Nat → Nat → Int) (x1 : Int) (x2 : Int) (x3 : Int) (d4 : Option AV) (d5 : Option AV) (s0 : Int) : Run sc 100 20 [some (Rf 1), some (I x1), some (I x2), some (I x3), d4, d5] [(I s0)] (hp iv) = if s0 = 0 then Run sc 100 32 [some (Rf 1), some (I x1), some (I x2), some (I x3), d4, d5] [] (hp iv) else aBind (Run sc 103 0 [some (I x3), some (I 0), some (I 2)] [] (hp iv)) (fun v h2 => Run sc 100 29 [some (Rf 1), some (I x1), some (I x2), some (I x3), d4, d5] (pushR v []) h2) :=
  (R_if_eq mc_100 dX6_onPage_20 (t := 32) rfl).trans <| ite_c2
  (rfl)
  ((R_iload_n mc_100 dX6_onPage_23 rfl).trans <|
  (R_iconst mc_100 dX6_onPage_24 ⟨by decide, by decide⟩).trans <|
  (R_iconst mc_100 dX6_onPage_25 ⟨by decide, by decide⟩).trans <|
  R_invS mc_100 dX6_onPage_26 mo_100 ct_6_55 (Or.inl rfl) af_100_103 (Nat.le_of_ble_eq_true rfl) rfl rfl ⟨Nat.le_of_ble_eq_true rfl, Nat.le_of_ble_eq_true rfl⟩)
theorem B_X6_onPage_29 (sc : Nat × (Nat → Int)) (iv : Nat → Nat → Int) (x1 : Int) (x2 : Int) (x3 : Int) (d4 : Option AV) (d5 : Option AV) (s0 : Int) : Run sc 100 29 [some (Rf 1), some (I x1), some (I x2), some (I x3), d4, d5] [(I s0)] (hp iv) = if s0 = 0 then Run sc 100 32 [some (Rf 1), some (I x1), some (I x2), some (I x3), d4, d5] [] (hp iv) else Run sc 100 35 [some (Rf 1), some (I x1), some (I x2), some (I x3), d4, d5] [] (hp iv) :=
  R_if_ne mc_100 dX6_onPage_29 (t := 35) rfl
theorem B_X6_onPage_32 (sc : Nat × (Nat → Int)) (iv : Nat → Nat → Int) (x1 : Int) (x2 : Int) (x3 : Int) (d4 : Option AV) (d5 : Option AV) : Run sc 100 32 [some (Rf 1), some (I x1), some (I x2), some (I x3), d4, d5] [] (hp iv) = some (some (I (-2)), (hp iv)) :=
  (R_bipush mc_100 dX6_onPage_32 ⟨by decide, by decide⟩).trans <|
  R_ireturn mc_100 dX6_onPage_34 rfl
theorem B_X6_onPage_35 (sc : Nat × (Nat → Int)) (iv : Nat → Nat → Int) (x1 : Int) (x2 : Int) (x3 : Int) (d4 : Option AV) (d5 : Option AV) : Run sc 100 35 [some (Rf 1), some (I x1), some (I x2), some (I x3), d4, d5] [] (hp iv) = Run sc 100 41 [some (Rf 1), some (I x1), some (I x2), some (I x3), some (I 0), some (I 1)] [] (hp iv) :=
  (R_iconst mc_100 dX6_onPage_35 ⟨by decide, by decide⟩).trans <|
  (R_istore mc_100 dX6_onPage_36 (Nat.le_of_ble_eq_true rfl)).trans <|
  (R_iconst mc_100 dX6_onPage_38 ⟨by decide, by decide⟩).trans <|
  R_istore mc_100 dX6_onPage_39 (Nat.le_of_ble_eq_true rfl)
theorem B_X6_onPage_41 (sc : Nat × (Nat → Int)) (iv : Nat → Nat → Int) (x1 : Int) (x2 : Int) (x3 : Int) (x4 : Int) (x5 : Int) : Run sc 100 41 [some (Rf 1), some (I x1), some (I x2), some (I x3), some (I x4), some (I x5)] [] (hp iv) = if 6 < x5 then Run sc 100 77 [some (Rf 1), some (I x1), some (I x2), some (I x3), some (I x4), some (I x5)] [] (hp iv) else if x2 = 0 then Run sc 100 58 [some (Rf 1), some (I x1), some (I x2), some (I x3), some (I x4), some (I x5)] [] (hp iv) else if x2 = x5 then Run sc 100 58 [some (Rf 1), some (I x1), some (I x2), some (I x3), some (I x4), some (I x5)] [] (hp iv) else Run sc 100 71 [some (Rf 1), some (I x1), some (I x2), some (I x3), some (I x4), some (I x5)] [] (hp iv) :=
  (R_iload mc_100 dX6_onPage_41 rfl).trans <|
  (R_bipush mc_100 dX6_onPage_43 ⟨by decide, by decide⟩).trans <|
  (R_icmp_gt mc_100 dX6_onPage_45 (t := 77) rfl).trans <| ite_c2
  (rfl)
  ((R_iload_n mc_100 dX6_onPage_48 rfl).trans <|
  (R_if_eq mc_100 dX6_onPage_49 (t := 58) rfl).trans <| ite_c2
  (rfl)
  ((R_iload_n mc_100 dX6_onPage_52 rfl).trans <|
  (R_iload mc_100 dX6_onPage_53 rfl).trans <|
  R_icmp_ne mc_100 dX6_onPage_55 (t := 71) rfl))
theorem B_X6_onPage_58 (sc : Nat × (Nat → Int)) (iv : Nat → Nat → Int) (x1 : Int) (x2 : Int) (x3 : Int) (x4 : Int) (x5 : Int) : Run sc 100 58 [some (Rf 1), some (I x1), some (I x2), some (I x3), some (I x4), some (I x5)] [] (hp iv) = aBind (Run sc 107 0 [some (Rf 1), some (I x1), some (I x5), some (I x3), none] [] (hp iv)) (fun v h2 => Run sc 100 68 [some (Rf 1), some (I x1), some (I x2), some (I x3), some (I x4), some (I x5)] (pushR v [(I x4)]) h2) :=
  (R_iload mc_100 dX6_onPage_58 rfl).trans <|
  (R_aload_n mc_100 dX6_onPage_60 rfl).trans <|
  (R_iload_n mc_100 dX6_onPage_61 rfl).trans <|
  (R_iload mc_100 dX6_onPage_62 rfl).trans <|
  (R_iload_n mc_100 dX6_onPage_64 rfl).trans <|
  R_invV mc_100 dX6_onPage_65 mo_100 ct_6_213 af_100_107 rfl rfl rfl ⟨Nat.le_of_ble_eq_true rfl, Nat.le_of_ble_eq_true rfl⟩
theorem B_X6_onPage_68 (sc : Nat × (Nat → Int)) (iv : Nat → Nat → Int) (x1 : Int) (x2 : Int) (x3 : Int) (x4 : Int) (x5 : Int) (s0 : Int) (s1 : Int) : Run sc 100 68 [some (Rf 1), some (I x1), some (I x2), some (I x3), some (I x4), some (I x5)] [(I s0), (I s1)] (hp iv) = chk (s1 + s0) (Run sc 100 71 [some (Rf 1), some (I x1), some (I x2), some (I x3), some (I (s1 + s0)), some (I x5)] [] (hp iv)) :=
  (R_iadd mc_100 dX6_onPage_68).trans <| chk_congr <|
  R_istore mc_100 dX6_onPage_69 (Nat.le_of_ble_eq_true rfl)
theorem B_X6_onPage_71 (sc : Nat × (Nat → Int)) (iv : Nat → Nat → Int) (x1 : Int) (x2 : Int) (x3 : Int) (x4 : Int) (x5 : Int) : Run sc 100 71 [some (Rf 1), some (I x1), some (I x2), some (I x3), some (I x4), some (I x5)] [] (hp iv) = chk (x5 + 1) (Run sc 100 41 [some (Rf 1), some (I x1), some (I x2), some (I x3), some (I x4), some (I (x5 + 1))] [] (hp iv)) :=
  (R_iinc mc_100 dX6_onPage_71 rfl).trans <| chk_congr <|
  R_goto mc_100 dX6_onPage_74 (t := 41) rfl
theorem B_X6_onPage_77 (sc : Nat × (Nat → Int)) (iv : Nat → Nat → Int) (x1 : Int) (x2 : Int) (x3 : Int) (x4 : Int) (x5 : Int) : Run sc 100 77 [some (Rf 1), some (I x1), some (I x2), some (I x3), some (I x4), some (I x5)] [] (hp iv) = some (some (I x4), (hp iv)) :=
  (R_iload mc_100 dX6_onPage_77 rfl).trans <|
  R_ireturn mc_100 dX6_onPage_79 rfl
theorem B_X6_pages_0 (sc : Nat × (Nat → Int)) (iv : Nat → Nat → Int)  : Run sc 101 0 [some (Rf 1)] [] (hp iv) = aBind (Run sc 64 0 [some (Rf 49)] [] (hp iv)) (fun v h2 => Run sc 101 7 [some (Rf 1)] (pushR v []) h2) :=
  (R_aload_n mc_101 dX6_pages_0 rfl).trans <|
  (R_getR mc_101 dX6_pages_1 mo_101 ft_6_44 rfl rfl (r := 49) rfl (by decide)).trans <|
  R_invV mc_101 dX6_pages_4 mo_101 ct_6_193 af_101_64 rfl rfl rfl ⟨Nat.le_of_ble_eq_true rfl, Nat.le_of_ble_eq_true rfl⟩
theorem B_X6_pages_7 (sc : Nat × (Nat → Int)) (iv : Nat → Nat → Int) (s0 : Int) : Run sc 101 7 [some (Rf 1)] [(I s0)] (hp iv) = some (some (I s0), (hp iv)) :=
  R_ireturn mc_101 dX6_pages_7 rfl
theorem B_X6_pageOf_0 (sc : Nat × (Nat → Int)) (iv : Nat → Nat → Int) (x1 : Int) (x2 : Int) : Run sc 102 0 [some (Rf 1), some (I x1), some (I x2)] [] (hp iv) = aBind (Run sc 50 0 [some (Rf 2), some (I x1), some (I x2)] [] (hp iv)) (fun v h2 => Run sc 102 9 [some (Rf 1), some (I x1), some (I x2)] (pushR v []) h2) :=
  (R_aload_n mc_102 dX6_pageOf_0 rfl).trans <|
  (R_getR mc_102 dX6_pageOf_1 mo_102 ft_6_10 rfl rfl (r := 2) rfl (by decide)).trans <|
  (R_iload_n mc_102 dX6_pageOf_4 rfl).trans <|
  (R_iload_n mc_102 dX6_pageOf_5 rfl).trans <|
  R_invV mc_102 dX6_pageOf_6 mo_102 ct_6_88 af_102_50 rfl rfl rfl ⟨Nat.le_of_ble_eq_true rfl, Nat.le_of_ble_eq_true rfl⟩
theorem B_X6_pageOf_9 (sc : Nat × (Nat → Int)) (iv : Nat → Nat → Int) (x1 : Int) (x2 : Int) (s0 : Int) : Run sc 102 9 [some (Rf 1), some (I x1), some (I x2)] [(I s0)] (hp iv) = if s0 = 0 then Run sc 102 24 [some (Rf 1), some (I x1), some (I x2)] [] (hp iv) else aBind (Run sc 71 0 [some (Rf 49), some (I x1), some (I x2)] [] (hp iv)) (fun v h2 => Run sc 102 21 [some (Rf 1), some (I x1), some (I x2)] (pushR v []) h2) :=
  (R_if_eq mc_102 dX6_pageOf_9 (t := 24) rfl).trans <| ite_c2
  (rfl)
  ((R_aload_n mc_102 dX6_pageOf_12 rfl).trans <|
  (R_getR mc_102 dX6_pageOf_13 mo_102 ft_6_44 rfl rfl (r := 49) rfl (by decide)).trans <|
  (R_iload_n mc_102 dX6_pageOf_16 rfl).trans <|
  (R_iload_n mc_102 dX6_pageOf_17 rfl).trans <|
  R_invV mc_102 dX6_pageOf_18 mo_102 ct_6_216 af_102_71 rfl rfl rfl ⟨Nat.le_of_ble_eq_true rfl, Nat.le_of_ble_eq_true rfl⟩)
theorem B_X6_pageOf_21 (sc : Nat × (Nat → Int)) (iv : Nat → Nat → Int) (x1 : Int) (x2 : Int) (s0 : Int) : Run sc 102 21 [some (Rf 1), some (I x1), some (I x2)] [(I s0)] (hp iv) = Run sc 102 25 [some (Rf 1), some (I x1), some (I x2)] [(I s0)] (hp iv) :=
  R_goto mc_102 dX6_pageOf_21 (t := 25) rfl
theorem B_X6_pageOf_24 (sc : Nat × (Nat → Int)) (iv : Nat → Nat → Int) (x1 : Int) (x2 : Int) : Run sc 102 24 [some (Rf 1), some (I x1), some (I x2)] [] (hp iv) = Run sc 102 25 [some (Rf 1), some (I x1), some (I x2)] [(I (-1))] (hp iv) :=
  R_iconst mc_102 dX6_pageOf_24 ⟨by decide, by decide⟩
theorem B_X6_pageOf_25 (sc : Nat × (Nat → Int)) (iv : Nat → Nat → Int) (x1 : Int) (x2 : Int) (s0 : Int) : Run sc 102 25 [some (Rf 1), some (I x1), some (I x2)] [(I s0)] (hp iv) = some (some (I s0), (hp iv)) :=
  R_ireturn mc_102 dX6_pageOf_25 rfl
theorem B_X6_isWithin_0 (sc : Nat × (Nat → Int)) (iv : Nat → Nat → Int) (x0 : Int) (x1 : Int) (x2 : Int) : Run sc 103 0 [some (I x0), some (I x1), some (I x2)] [] (hp iv) = if x0 < x1 then Run sc 103 14 [some (I x0), some (I x1), some (I x2)] [] (hp iv) else if x2 < x0 then Run sc 103 14 [some (I x0), some (I x1), some (I x2)] [] (hp iv) else Run sc 103 15 [some (I x0), some (I x1), some (I x2)] [(I 1)] (hp iv) :=
  (R_iload_n mc_103 dX6_isWithin_0 rfl).trans <|
  (R_iload_n mc_103 dX6_isWithin_1 rfl).trans <|
  (R_icmp_lt mc_103 dX6_isWithin_2 (t := 14) rfl).trans <| ite_c2
  (rfl)
  ((R_iload_n mc_103 dX6_isWithin_5 rfl).trans <|
  (R_iload_n mc_103 dX6_isWithin_6 rfl).trans <|
  (R_icmp_gt mc_103 dX6_isWithin_7 (t := 14) rfl).trans <| ite_c2
  (rfl)
  ((R_iconst mc_103 dX6_isWithin_10 ⟨by decide, by decide⟩).trans <|
  R_goto mc_103 dX6_isWithin_11 (t := 15) rfl))
theorem B_X6_isWithin_14 (sc : Nat × (Nat → Int)) (iv : Nat → Nat → Int) (x0 : Int) (x1 : Int) (x2 : Int) : Run sc 103 14 [some (I x0), some (I x1), some (I x2)] [] (hp iv) = Run sc 103 15 [some (I x0), some (I x1), some (I x2)] [(I 0)] (hp iv) :=
  R_iconst mc_103 dX6_isWithin_14 ⟨by decide, by decide⟩
theorem B_X6_isWithin_15 (sc : Nat × (Nat → Int)) (iv : Nat → Nat → Int) (x0 : Int) (x1 : Int) (x2 : Int) (s0 : Int) : Run sc 103 15 [some (I x0), some (I x1), some (I x2)] [(I s0)] (hp iv) = bck 0 1 s0 (some (some (I s0), (hp iv))) :=
  R_ireturnZ mc_103 dX6_isWithin_15 rfl
theorem B_X6_isColor_0 (sc : Nat × (Nat → Int)) (iv : Nat → Nat → Int) (x0 : Int) : Run sc 104 0 [some (I x0)] [] (hp iv) = aBind (Run sc 103 0 [some (I x0), some (I 1), some (I 6)] [] (hp iv)) (fun v h2 => Run sc 104 7 [some (I x0)] (pushR v []) h2) :=
  (R_iload_n mc_104 dX6_isColor_0 rfl).trans <|
  (R_iconst mc_104 dX6_isColor_1 ⟨by decide, by decide⟩).trans <|
  (R_bipush mc_104 dX6_isColor_2 ⟨by decide, by decide⟩).trans <|
  R_invS mc_104 dX6_isColor_4 mo_104 ct_6_55 (Or.inl rfl) af_104_103 (Nat.le_of_ble_eq_true rfl) rfl rfl ⟨Nat.le_of_ble_eq_true rfl, Nat.le_of_ble_eq_true rfl⟩
theorem B_X6_isColor_7 (sc : Nat × (Nat → Int)) (iv : Nat → Nat → Int) (x0 : Int) (s0 : Int) : Run sc 104 7 [some (I x0)] [(I s0)] (hp iv) = bck 0 1 s0 (some (some (I s0), (hp iv))) :=
  R_ireturnZ mc_104 dX6_isColor_7 rfl
theorem B_X6_runsOf_0 (sc : Nat × (Nat → Int)) (iv : Nat → Nat → Int) (x1 : Int) : Run sc 105 0 [some (Rf 1), some (I x1), none, none] [] (hp iv) = aBind (Run sc 104 0 [some (I x1)] [] (hp iv)) (fun v h2 => Run sc 105 4 [some (Rf 1), some (I x1), none, none] (pushR v []) h2) :=
  (R_iload_n mc_105 dX6_runsOf_0 rfl).trans <|
  R_invS mc_105 dX6_runsOf_1 mo_105 ct_6_113 (Or.inl rfl) af_105_104 (Nat.le_of_ble_eq_true rfl) rfl rfl ⟨Nat.le_of_ble_eq_true rfl, Nat.le_of_ble_eq_true rfl⟩
theorem B_X6_runsOf_4 (sc : Nat × (Nat → Int)) (iv : Nat → Nat → Int) (x1 : Int) (d2 : Option AV) (d3 : Option AV) (s0 : Int) : Run sc 105 4 [some (Rf 1), some (I x1), d2, d3] [(I s0)] (hp iv) = if s0 = 0 then Run sc 105 13 [some (Rf 1), some (I x1), d2, d3] [] (hp iv) else chk (x1 - 1) (Run sc 105 14 [some (Rf 1), some (I x1), d2, d3] [(I (x1 - 1))] (hp iv)) :=
  (R_if_eq mc_105 dX6_runsOf_4 (t := 13) rfl).trans <| ite_c2
  (rfl)
  ((R_iload_n mc_105 dX6_runsOf_7 rfl).trans <|
  (R_iconst mc_105 dX6_runsOf_8 ⟨by decide, by decide⟩).trans <|
  (R_isub mc_105 dX6_runsOf_9).trans <| chk_congr <|
  R_goto mc_105 dX6_runsOf_10 (t := 14) rfl)
theorem B_X6_runsOf_13 (sc : Nat × (Nat → Int)) (iv : Nat → Nat → Int) (x1 : Int) (d2 : Option AV) (d3 : Option AV) : Run sc 105 13 [some (Rf 1), some (I x1), d2, d3] [] (hp iv) = Run sc 105 14 [some (Rf 1), some (I x1), d2, d3] [(I 0)] (hp iv) :=
  R_iconst mc_105 dX6_runsOf_13 ⟨by decide, by decide⟩
theorem B_X6_runsOf_14 (sc : Nat × (Nat → Int)) (iv : Nat → Nat → Int) (x1 : Int) (d2 : Option AV) (d3 : Option AV) (s0 : Int) (hi20 : 0 ≤ s0 ∧ s0 ≤ 5) : Run sc 105 14 [some (Rf 1), some (I x1), d2, d3] [(I s0)] (hp iv) = chk (s0 + 1) (bck 0 (((7 : Nat) : Int) - 1) (s0 + 1) (if (iv 3 (Int.toNat (s0 + 1))) = 0 then Run sc 105 56 [some (Rf 1), some (I x1), some (I s0), some (Rf (8 + 6 * (Int.toNat s0)))] [] (hp iv) else chk (s0 + 1) (bck 0 (((7 : Nat) : Int) - 1) (s0 + 1) (bck 0 1 0 (Run sc 105 48 [some (Rf 1), some (I x1), some (I s0), some (Rf (8 + 6 * (Int.toNat s0)))] [] (hp (setO iv 3 (upI (iv 3) (Int.toNat (s0 + 1)) 0)))))))) :=
  (R_istore_n mc_105 dX6_runsOf_14 (Nat.le_of_ble_eq_true rfl)).trans <|
  (R_aload_n mc_105 dX6_runsOf_15 rfl).trans <|
  (R_getR mc_105 dX6_runsOf_16 mo_105 ft_6_25 rfl rfl (r := 7) rfl (by decide)).trans <|
  (R_iload_n mc_105 dX6_runsOf_19 rfl).trans <|
  (R_aaload mc_105 dX6_runsOf_20 rfl hi20 (r7 hi20) (by omega)).trans <|
  (R_astore_n mc_105 dX6_runsOf_21 (Nat.le_of_ble_eq_true rfl)).trans <|
  (R_aload_n mc_105 dX6_runsOf_22 rfl).trans <|
  (R_getR mc_105 dX6_runsOf_23 mo_105 ft_6_10 rfl rfl (r := 2) rfl (by decide)).trans <|
  (R_getR mc_105 dX6_runsOf_26 mo_105 ft_6_219 rfl rfl (r := 3) rfl (by decide)).trans <|
  (R_iload_n mc_105 dX6_runsOf_29 rfl).trans <|
  (R_iconst mc_105 dX6_runsOf_30 ⟨by decide, by decide⟩).trans <|
  (R_iadd mc_105 dX6_runsOf_31).trans <| chk_congr <|
  (R_baload mc_105 dX6_runsOf_32 rfl).trans <| bck_congr <|
  (R_if_eq mc_105 dX6_runsOf_33 (t := 56) rfl).trans <| ite_c2
  (rfl)
  ((R_aload_n mc_105 dX6_runsOf_36 rfl).trans <|
  (R_getR mc_105 dX6_runsOf_37 mo_105 ft_6_10 rfl rfl (r := 2) rfl (by decide)).trans <|
  (R_getR mc_105 dX6_runsOf_40 mo_105 ft_6_219 rfl rfl (r := 3) rfl (by decide)).trans <|
  (R_iload_n mc_105 dX6_runsOf_43 rfl).trans <|
  (R_iconst mc_105 dX6_runsOf_44 ⟨by decide, by decide⟩).trans <|
  (R_iadd mc_105 dX6_runsOf_45).trans <| chk_congr <|
  (R_iconst mc_105 dX6_runsOf_46 ⟨by decide, by decide⟩).trans <|
  (R_bastore mc_105 dX6_runsOf_47 rfl).trans <| bck_congr <| bck_congr <|
  rfl)
theorem B_X6_runsOf_48 (sc : Nat × (Nat → Int)) (iv : Nat → Nat → Int) (k : Nat) (hk : k < 6) (x1 : Int) (x2 : Int) : Run sc 105 48 [some (Rf 1), some (I x1), some (I x2), some (Rf (8 + 6 * k))] [] (hp iv) = aBind (Run sc 31 0 [some (Rf (8 + 6 * k)), none, none] [] (hp iv)) (fun v h2 => Run sc 105 52 [some (Rf 1), some (I x1), some (I x2), some (Rf (8 + 6 * k))] (pushR v []) h2) :=
  (R_aload_n mc_105 dX6_runsOf_48 rfl).trans <|
  R_invV mc_105 dX6_runsOf_49 mo_105 ct_6_223 af_105_31 rfl (kCR hk) rfl ⟨Nat.le_of_ble_eq_true rfl, Nat.le_of_ble_eq_true rfl⟩
theorem B_X6_runsOf_52 (sc : Nat × (Nat → Int)) (iv : Nat → Nat → Int) (k : Nat) (hk : k < 6) (x1 : Int) (x2 : Int) : Run sc 105 52 [some (Rf 1), some (I x1), some (I x2), some (Rf (8 + 6 * k))] [] (hp iv) = aBind (Run sc 33 0 [some (Rf (8 + 6 * k)), none, none] [] (hp iv)) (fun v h2 => Run sc 105 56 [some (Rf 1), some (I x1), some (I x2), some (Rf (8 + 6 * k))] (pushR v []) h2) :=
  (R_aload_n mc_105 dX6_runsOf_52 rfl).trans <|
  R_invV mc_105 dX6_runsOf_53 mo_105 ct_6_145 af_105_33 rfl (kCR hk) rfl ⟨Nat.le_of_ble_eq_true rfl, Nat.le_of_ble_eq_true rfl⟩
theorem B_X6_runsOf_56 (sc : Nat × (Nat → Int)) (iv : Nat → Nat → Int) (k : Nat) (hk : k < 6) (x1 : Int) (x2 : Int) : Run sc 105 56 [some (Rf 1), some (I x1), some (I x2), some (Rf (8 + 6 * k))] [] (hp iv) = some (some (Rf (8 + 6 * k)), (hp iv)) :=
  (R_aload_n mc_105 dX6_runsOf_56 rfl).trans <|
  R_areturn mc_105 dX6_runsOf_57 rfl (by omega)
theorem B_X6_countOfColor_0 (sc : Nat × (Nat → Int)) (iv : Nat → Nat → Int) (x1 : Int) (x2 : Int) : Run sc 106 0 [some (Rf 1), some (I x1), some (I x2)] [] (hp iv) = if x2 = 0 then Run sc 106 36 [some (Rf 1), some (I x1), some (I x2)] [] (hp iv) else if x2 = 1 then Run sc 106 45 [some (Rf 1), some (I x1), some (I x2)] [] (hp iv) else if x2 = 2 then Run sc 106 54 [some (Rf 1), some (I x1), some (I x2)] [] (hp iv) else if x2 = 3 then Run sc 106 63 [some (Rf 1), some (I x1), some (I x2)] [] (hp iv) else if x2 = 4 then Run sc 106 72 [some (Rf 1), some (I x1), some (I x2)] [] (hp iv) else Run sc 106 81 [some (Rf 1), some (I x1), some (I x2)] [] (hp iv) :=
  (R_iload_n mc_106 dX6_countOfColor_0 rfl).trans <|
  (by
    by_cases z0 : x2 = 0
    · rw [if_pos z0]; exact R_switchIn mc_106 dX6_countOfColor_1 (by omega) (by omega) (by rw [z0]; rfl) (t := 36) rfl
    rw [if_neg z0]
    by_cases z1 : x2 = 1
    · rw [if_pos z1]; exact R_switchIn mc_106 dX6_countOfColor_1 (by omega) (by omega) (by rw [z1]; rfl) (t := 45) rfl
    rw [if_neg z1]
    by_cases z2 : x2 = 2
    · rw [if_pos z2]; exact R_switchIn mc_106 dX6_countOfColor_1 (by omega) (by omega) (by rw [z2]; rfl) (t := 54) rfl
    rw [if_neg z2]
    by_cases z3 : x2 = 3
    · rw [if_pos z3]; exact R_switchIn mc_106 dX6_countOfColor_1 (by omega) (by omega) (by rw [z3]; rfl) (t := 63) rfl
    rw [if_neg z3]
    by_cases z4 : x2 = 4
    · rw [if_pos z4]; exact R_switchIn mc_106 dX6_countOfColor_1 (by omega) (by omega) (by rw [z4]; rfl) (t := 72) rfl
    rw [if_neg z4]
    exact R_switchOut mc_106 dX6_countOfColor_1 (by omega) (t := 81) rfl)
theorem B_X6_countOfColor_36 (sc : Nat × (Nat → Int)) (iv : Nat → Nat → Int) (x1 : Int) (x2 : Int) : Run sc 106 36 [some (Rf 1), some (I x1), some (I x2)] [] (hp iv) = aBind (Run sc 105 0 [some (Rf 1), some (I x1), none, none] [] (hp iv)) (fun v h2 => Run sc 106 41 [some (Rf 1), some (I x1), some (I x2)] (pushR v []) h2) :=
  (R_aload_n mc_106 dX6_countOfColor_36 rfl).trans <|
  (R_iload_n mc_106 dX6_countOfColor_37 rfl).trans <|
  R_invV mc_106 dX6_countOfColor_38 mo_106 ct_6_117 af_106_105 rfl rfl rfl ⟨Nat.le_of_ble_eq_true rfl, Nat.le_of_ble_eq_true rfl⟩
theorem B_X6_countOfColor_41 (sc : Nat × (Nat → Int)) (iv : Nat → Nat → Int) (k : Nat) (hk : k < 6) (x1 : Int) (x2 : Int) : Run sc 106 41 [some (Rf 1), some (I x1), some (I x2)] [(Rf (8 + 6 * k))] (hp iv) = aBind (Run sc 38 0 [some (Rf (8 + 6 * k)), none, none] [] (hp iv)) (fun v h2 => Run sc 106 44 [some (Rf 1), some (I x1), some (I x2)] (pushR v []) h2) :=
  R_invV mc_106 dX6_countOfColor_41 mo_106 ct_6_226 af_106_38 rfl (kCR hk) rfl ⟨Nat.le_of_ble_eq_true rfl, Nat.le_of_ble_eq_true rfl⟩
theorem B_X6_countOfColor_44 (sc : Nat × (Nat → Int)) (iv : Nat → Nat → Int) (x1 : Int) (x2 : Int) (s0 : Int) : Run sc 106 44 [some (Rf 1), some (I x1), some (I x2)] [(I s0)] (hp iv) = some (some (I s0), (hp iv)) :=
  R_ireturn mc_106 dX6_countOfColor_44 rfl
theorem B_X6_countOfColor_45 (sc : Nat × (Nat → Int)) (iv : Nat → Nat → Int) (x1 : Int) (x2 : Int) : Run sc 106 45 [some (Rf 1), some (I x1), some (I x2)] [] (hp iv) = aBind (Run sc 57 0 [some (Rf 2), some (I x1), none, none, none] [] (hp iv)) (fun v h2 => Run sc 106 53 [some (Rf 1), some (I x1), some (I x2)] (pushR v []) h2) :=
  (R_aload_n mc_106 dX6_countOfColor_45 rfl).trans <|
  (R_getR mc_106 dX6_countOfColor_46 mo_106 ft_6_10 rfl rfl (r := 2) rfl (by decide)).trans <|
  (R_iload_n mc_106 dX6_countOfColor_49 rfl).trans <|
  R_invV mc_106 dX6_countOfColor_50 mo_106 ct_6_229 af_106_57 rfl rfl rfl ⟨Nat.le_of_ble_eq_true rfl, Nat.le_of_ble_eq_true rfl⟩
theorem B_X6_countOfColor_53 (sc : Nat × (Nat → Int)) (iv : Nat → Nat → Int) (x1 : Int) (x2 : Int) (s0 : Int) : Run sc 106 53 [some (Rf 1), some (I x1), some (I x2)] [(I s0)] (hp iv) = some (some (I s0), (hp iv)) :=
  R_ireturn mc_106 dX6_countOfColor_53 rfl
theorem B_X6_countOfColor_54 (sc : Nat × (Nat → Int)) (iv : Nat → Nat → Int) (x1 : Int) (x2 : Int) : Run sc 106 54 [some (Rf 1), some (I x1), some (I x2)] [] (hp iv) = aBind (Run sc 105 0 [some (Rf 1), some (I x1), none, none] [] (hp iv)) (fun v h2 => Run sc 106 59 [some (Rf 1), some (I x1), some (I x2)] (pushR v []) h2) :=
  (R_aload_n mc_106 dX6_countOfColor_54 rfl).trans <|
  (R_iload_n mc_106 dX6_countOfColor_55 rfl).trans <|
  R_invV mc_106 dX6_countOfColor_56 mo_106 ct_6_117 af_106_105 rfl rfl rfl ⟨Nat.le_of_ble_eq_true rfl, Nat.le_of_ble_eq_true rfl⟩
theorem B_X6_countOfColor_59 (sc : Nat × (Nat → Int)) (iv : Nat → Nat → Int) (k : Nat) (hk : k < 6) (x1 : Int) (x2 : Int) : Run sc 106 59 [some (Rf 1), some (I x1), some (I x2)] [(Rf (8 + 6 * k))] (hp iv) = some (some (I (iv (8 + 6 * k) 3)), (hp iv)) :=
  (R_getI mc_106 dX6_countOfColor_59 mo_106 ft_6_232 (kCR hk) rfl).trans <|
  R_ireturn mc_106 dX6_countOfColor_62 rfl
theorem B_X6_countOfColor_63 (sc : Nat × (Nat → Int)) (iv : Nat → Nat → Int) (x1 : Int) (x2 : Int) : Run sc 106 63 [some (Rf 1), some (I x1), some (I x2)] [] (hp iv) = aBind (Run sc 105 0 [some (Rf 1), some (I x1), none, none] [] (hp iv)) (fun v h2 => Run sc 106 68 [some (Rf 1), some (I x1), some (I x2)] (pushR v []) h2) :=
  (R_aload_n mc_106 dX6_countOfColor_63 rfl).trans <|
  (R_iload_n mc_106 dX6_countOfColor_64 rfl).trans <|
  R_invV mc_106 dX6_countOfColor_65 mo_106 ct_6_117 af_106_105 rfl rfl rfl ⟨Nat.le_of_ble_eq_true rfl, Nat.le_of_ble_eq_true rfl⟩
theorem B_X6_countOfColor_68 (sc : Nat × (Nat → Int)) (iv : Nat → Nat → Int) (k : Nat) (hk : k < 6) (x1 : Int) (x2 : Int) : Run sc 106 68 [some (Rf 1), some (I x1), some (I x2)] [(Rf (8 + 6 * k))] (hp iv) = aBind (Run sc 39 0 [some (Rf (8 + 6 * k)), none, none] [] (hp iv)) (fun v h2 => Run sc 106 71 [some (Rf 1), some (I x1), some (I x2)] (pushR v []) h2) :=
  R_invV mc_106 dX6_countOfColor_68 mo_106 ct_6_142 af_106_39 rfl (kCR hk) rfl ⟨Nat.le_of_ble_eq_true rfl, Nat.le_of_ble_eq_true rfl⟩
theorem B_X6_countOfColor_71 (sc : Nat × (Nat → Int)) (iv : Nat → Nat → Int) (x1 : Int) (x2 : Int) (s0 : Int) : Run sc 106 71 [some (Rf 1), some (I x1), some (I x2)] [(I s0)] (hp iv) = some (some (I s0), (hp iv)) :=
  R_ireturn mc_106 dX6_countOfColor_71 rfl
theorem B_X6_countOfColor_72 (sc : Nat × (Nat → Int)) (iv : Nat → Nat → Int) (x1 : Int) (x2 : Int) : Run sc 106 72 [some (Rf 1), some (I x1), some (I x2)] [] (hp iv) = aBind (Run sc 105 0 [some (Rf 1), some (I x1), none, none] [] (hp iv)) (fun v h2 => Run sc 106 77 [some (Rf 1), some (I x1), some (I x2)] (pushR v []) h2) :=
  (R_aload_n mc_106 dX6_countOfColor_72 rfl).trans <|
  (R_iload_n mc_106 dX6_countOfColor_73 rfl).trans <|
  R_invV mc_106 dX6_countOfColor_74 mo_106 ct_6_117 af_106_105 rfl rfl rfl ⟨Nat.le_of_ble_eq_true rfl, Nat.le_of_ble_eq_true rfl⟩
theorem B_X6_countOfColor_77 (sc : Nat × (Nat → Int)) (iv : Nat → Nat → Int) (k : Nat) (hk : k < 6) (x1 : Int) (x2 : Int) : Run sc 106 77 [some (Rf 1), some (I x1), some (I x2)] [(Rf (8 + 6 * k))] (hp iv) = aBind (Run sc 40 0 [some (Rf (8 + 6 * k)), none, none] [] (hp iv)) (fun v h2 => Run sc 106 80 [some (Rf 1), some (I x1), some (I x2)] (pushR v []) h2) :=
  R_invV mc_106 dX6_countOfColor_77 mo_106 ct_6_235 af_106_40 rfl (kCR hk) rfl ⟨Nat.le_of_ble_eq_true rfl, Nat.le_of_ble_eq_true rfl⟩
theorem B_X6_countOfColor_80 (sc : Nat × (Nat → Int)) (iv : Nat → Nat → Int) (x1 : Int) (x2 : Int) (s0 : Int) : Run sc 106 80 [some (Rf 1), some (I x1), some (I x2)] [(I s0)] (hp iv) = some (some (I s0), (hp iv)) :=
  R_ireturn mc_106 dX6_countOfColor_80 rfl
theorem B_X6_countOfColor_81 (sc : Nat × (Nat → Int)) (iv : Nat → Nat → Int) (x1 : Int) (x2 : Int) : Run sc 106 81 [some (Rf 1), some (I x1), some (I x2)] [] (hp iv) = some (some (I 0), (hp iv)) :=
  (R_iconst mc_106 dX6_countOfColor_81 ⟨by decide, by decide⟩).trans <|
  R_ireturn mc_106 dX6_countOfColor_82 rfl
theorem B_X6_countOfColorOnPage_0 (sc : Nat × (Nat → Int)) (iv : Nat → Nat → Int) (x1 : Int) (x2 : Int) (x3 : Int) : Run sc 107 0 [some (Rf 1), some (I x1), some (I x2), some (I x3), none] [] (hp iv) = aBind (Run sc 72 0 [some (Rf 49), some (I x1), some (I 1), some (I x2), some (I x2), none, none, none, none, none, none, none, none] [] (hp iv)) (fun v h2 => Run sc 107 11 [some (Rf 1), some (I x1), some (I x2), some (I x3), none] (pushR v []) h2) :=
  (R_aload_n mc_107 dX6_countOfColorOnPage_0 rfl).trans <|
  (R_getR mc_107 dX6_countOfColorOnPage_1 mo_107 ft_6_44 rfl rfl (r := 49) rfl (by decide)).trans <|
  (R_iload_n mc_107 dX6_countOfColorOnPage_4 rfl).trans <|
  (R_iconst mc_107 dX6_countOfColorOnPage_5 ⟨by decide, by decide⟩).trans <|
  (R_iload_n mc_107 dX6_countOfColorOnPage_6 rfl).trans <|
  (R_iload_n mc_107 dX6_countOfColorOnPage_7 rfl).trans <|
  R_invV mc_107 dX6_countOfColorOnPage_8 mo_107 ct_6_209 af_107_72 rfl rfl rfl ⟨Nat.le_of_ble_eq_true rfl, Nat.le_of_ble_eq_true rfl⟩
theorem B_X6_countOfColorOnPage_11 (sc : Nat × (Nat → Int)) (iv : Nat → Nat → Int) (x1 : Int) (x2 : Int) (x3 : Int) (d4 : Option AV) (s0 : Int) : Run sc 107 11 [some (Rf 1), some (I x1), some (I x2), some (I x3), d4] [(I s0)] (hp iv) = if x3 = 0 then Run sc 107 40 [some (Rf 1), some (I x1), some (I x2), some (I x3), some (I s0)] [] (hp iv) else if x3 = 1 then Run sc 107 43 [some (Rf 1), some (I x1), some (I x2), some (I x3), some (I s0)] [] (hp iv) else if x3 = 2 then Run sc 107 57 [some (Rf 1), some (I x1), some (I x2), some (I x3), some (I s0)] [] (hp iv) else Run sc 107 77 [some (Rf 1), some (I x1), some (I x2), some (I x3), some (I s0)] [] (hp iv) :=
  (R_istore mc_107 dX6_countOfColorOnPage_11 (Nat.le_of_ble_eq_true rfl)).trans <|
  (R_iload_n mc_107 dX6_countOfColorOnPage_13 rfl).trans <|
  (by
    by_cases z0 : x3 = 0
    · rw [if_pos z0]; exact R_switchIn mc_107 dX6_countOfColorOnPage_14 (by omega) (by omega) (by rw [z0]; rfl) (t := 40) rfl
    rw [if_neg z0]
    by_cases z1 : x3 = 1
    · rw [if_pos z1]; exact R_switchIn mc_107 dX6_countOfColorOnPage_14 (by omega) (by omega) (by rw [z1]; rfl) (t := 43) rfl
    rw [if_neg z1]
    by_cases z2 : x3 = 2
    · rw [if_pos z2]; exact R_switchIn mc_107 dX6_countOfColorOnPage_14 (by omega) (by omega) (by rw [z2]; rfl) (t := 57) rfl
    rw [if_neg z2]
    exact R_switchOut mc_107 dX6_countOfColorOnPage_14 (by omega) (t := 77) rfl)
theorem B_X6_countOfColorOnPage_40 (sc : Nat × (Nat → Int)) (iv : Nat → Nat → Int) (x1 : Int) (x2 : Int) (x3 : Int) (x4 : Int) : Run sc 107 40 [some (Rf 1), some (I x1), some (I x2), some (I x3), some (I x4)] [] (hp iv) = some (some (I x4), (hp iv)) :=
  (R_iload mc_107 dX6_countOfColorOnPage_40 rfl).trans <|
  R_ireturn mc_107 dX6_countOfColorOnPage_42 rfl
theorem B_X6_countOfColorOnPage_43 (sc : Nat × (Nat → Int)) (iv : Nat → Nat → Int) (x1 : Int) (x2 : Int) (x3 : Int) (x4 : Int) : Run sc 107 43 [some (Rf 1), some (I x1), some (I x2), some (I x3), some (I x4)] [] (hp iv) = aBind (Run sc 105 0 [some (Rf 1), some (I x2), none, none] [] (hp iv)) (fun v h2 => Run sc 107 48 [some (Rf 1), some (I x1), some (I x2), some (I x3), some (I x4)] (pushR v []) h2) :=
  (R_aload_n mc_107 dX6_countOfColorOnPage_43 rfl).trans <|
  (R_iload_n mc_107 dX6_countOfColorOnPage_44 rfl).trans <|
  R_invV mc_107 dX6_countOfColorOnPage_45 mo_107 ct_6_117 af_107_105 rfl rfl rfl ⟨Nat.le_of_ble_eq_true rfl, Nat.le_of_ble_eq_true rfl⟩
theorem B_X6_countOfColorOnPage_48 (sc : Nat × (Nat → Int)) (iv : Nat → Nat → Int) (k : Nat) (hk : k < 6) (x1 : Int) (x2 : Int) (x3 : Int) (x4 : Int) : Run sc 107 48 [some (Rf 1), some (I x1), some (I x2), some (I x3), some (I x4)] [(Rf (8 + 6 * k))] (hp iv) = aBind (Run sc 46 0 [some (Rf (8 + 6 * k)), some (Rf 49), some (I x1), none, none] [] (hp iv)) (fun v h2 => Run sc 107 56 [some (Rf 1), some (I x1), some (I x2), some (I x3), some (I x4)] (pushR v []) h2) :=
  (R_aload_n mc_107 dX6_countOfColorOnPage_48 rfl).trans <|
  (R_getR mc_107 dX6_countOfColorOnPage_49 mo_107 ft_6_44 rfl rfl (r := 49) rfl (by decide)).trans <|
  (R_iload_n mc_107 dX6_countOfColorOnPage_52 rfl).trans <|
  R_invV mc_107 dX6_countOfColorOnPage_53 mo_107 ct_6_238 af_107_46 rfl (kCR hk) rfl ⟨Nat.le_of_ble_eq_true rfl, Nat.le_of_ble_eq_true rfl⟩
theorem B_X6_countOfColorOnPage_56 (sc : Nat × (Nat → Int)) (iv : Nat → Nat → Int) (x1 : Int) (x2 : Int) (x3 : Int) (x4 : Int) (s0 : Int) : Run sc 107 56 [some (Rf 1), some (I x1), some (I x2), some (I x3), some (I x4)] [(I s0)] (hp iv) = some (some (I s0), (hp iv)) :=
  R_ireturn mc_107 dX6_countOfColorOnPage_56 rfl
theorem B_X6_countOfColorOnPage_57 (sc : Nat × (Nat → Int)) (iv : Nat → Nat → Int) (x1 : Int) (x2 : Int) (x3 : Int) (x4 : Int) : Run sc 107 57 [some (Rf 1), some (I x1), some (I x2), some (I x3), some (I x4)] [] (hp iv) = chk (48 * x4) (aBind (Run sc 105 0 [some (Rf 1), some (I x2), none, none] [] (hp iv)) (fun v h2 => Run sc 107 67 [some (Rf 1), some (I x1), some (I x2), some (I x3), some (I x4)] (pushR v [(I (48 * x4))]) h2)) :=
  (R_bipush mc_107 dX6_countOfColorOnPage_57 ⟨by decide, by decide⟩).trans <|
  (R_iload mc_107 dX6_countOfColorOnPage_59 rfl).trans <|
  (R_imul mc_107 dX6_countOfColorOnPage_61).trans <| chk_congr <|
  (R_aload_n mc_107 dX6_countOfColorOnPage_62 rfl).trans <|
  (R_iload_n mc_107 dX6_countOfColorOnPage_63 rfl).trans <|
  R_invV mc_107 dX6_countOfColorOnPage_64 mo_107 ct_6_117 af_107_105 rfl rfl rfl ⟨Nat.le_of_ble_eq_true rfl, Nat.le_of_ble_eq_true rfl⟩
theorem B_X6_countOfColorOnPage_67 (sc : Nat × (Nat → Int)) (iv : Nat → Nat → Int) (k : Nat) (hk : k < 6) (x1 : Int) (x2 : Int) (x3 : Int) (x4 : Int) (s1 : Int) : Run sc 107 67 [some (Rf 1), some (I x1), some (I x2), some (I x3), some (I x4)] [(Rf (8 + 6 * k)), (I s1)] (hp iv) = aBind (Run sc 47 0 [some (Rf (8 + 6 * k)), some (Rf 49), some (I x1), none, none, none] [] (hp iv)) (fun v h2 => Run sc 107 75 [some (Rf 1), some (I x1), some (I x2), some (I x3), some (I x4)] (pushR v [(I s1)]) h2) :=
  (R_aload_n mc_107 dX6_countOfColorOnPage_67 rfl).trans <|
  (R_getR mc_107 dX6_countOfColorOnPage_68 mo_107 ft_6_44 rfl rfl (r := 49) rfl (by decide)).trans <|
  (R_iload_n mc_107 dX6_countOfColorOnPage_71 rfl).trans <|
  R_invV mc_107 dX6_countOfColorOnPage_72 mo_107 ct_6_242 af_107_47 rfl (kCR hk) rfl ⟨Nat.le_of_ble_eq_true rfl, Nat.le_of_ble_eq_true rfl⟩
theorem B_X6_countOfColorOnPage_75 (sc : Nat × (Nat → Int)) (iv : Nat → Nat → Int) (x1 : Int) (x2 : Int) (x3 : Int) (x4 : Int) (s0 : Int) (s1 : Int) : Run sc 107 75 [some (Rf 1), some (I x1), some (I x2), some (I x3), some (I x4)] [(I s0), (I s1)] (hp iv) = chk (s1 + s0) (some (some (I (s1 + s0)), (hp iv))) :=
  (R_iadd mc_107 dX6_countOfColorOnPage_75).trans <| chk_congr <|
  R_ireturn mc_107 dX6_countOfColorOnPage_76 rfl
theorem B_X6_countOfColorOnPage_77 (sc : Nat × (Nat → Int)) (iv : Nat → Nat → Int) (x1 : Int) (x2 : Int) (x3 : Int) (x4 : Int) : Run sc 107 77 [some (Rf 1), some (I x1), some (I x2), some (I x3), some (I x4)] [] (hp iv) = some (some (I 0), (hp iv)) :=
  (R_iconst mc_107 dX6_countOfColorOnPage_77 ⟨by decide, by decide⟩).trans <|
  R_ireturn mc_107 dX6_countOfColorOnPage_78 rfl
