theorem B_X7_in_0 (sc : Nat × (Nat → Int)) (iv : Nat → Nat → Int) (x0 : Int) (x1 : Int) (x2 : Int) : Run sc 109 0 [some (I x0), some (I x1), some (I x2)] [] (hp iv) = if x0 < x1 then Run sc 109 14 [some (I x0), some (I x1), some (I x2)] [] (hp iv) else if x2 < x0 then Run sc 109 14 [some (I x0), some (I x1), some (I x2)] [] (hp iv) else Run sc 109 15 [some (I x0), some (I x1), some (I x2)] [(I 1)] (hp iv) :=
  (R_iload_n mc_109 dX7_in_0 rfl).trans <|
  (R_iload_n mc_109 dX7_in_1 rfl).trans <|
  (R_icmp_lt mc_109 dX7_in_2 (t := 14) rfl).trans <| ite_c2
  (rfl)
  ((R_iload_n mc_109 dX7_in_5 rfl).trans <|
  (R_iload_n mc_109 dX7_in_6 rfl).trans <|
  (R_icmp_gt mc_109 dX7_in_7 (t := 14) rfl).trans <| ite_c2
  (rfl)
  ((R_iconst mc_109 dX7_in_10 ⟨by decide, by decide⟩).trans <|
  R_goto mc_109 dX7_in_11 (t := 15) rfl))
theorem B_X7_in_14 (sc : Nat × (Nat → Int)) (iv : Nat → Nat → Int) (x0 : Int) (x1 : Int) (x2 : Int) : Run sc 109 14 [some (I x0), some (I x1), some (I x2)] [] (hp iv) = Run sc 109 15 [some (I x0), some (I x1), some (I x2)] [(I 0)] (hp iv) :=
  R_iconst mc_109 dX7_in_14 ⟨by decide, by decide⟩
theorem B_X7_in_15 (sc : Nat × (Nat → Int)) (iv : Nat → Nat → Int) (x0 : Int) (x1 : Int) (x2 : Int) (s0 : Int) : Run sc 109 15 [some (I x0), some (I x1), some (I x2)] [(I s0)] (hp iv) = bck 0 1 s0 (some (some (I s0), hp iv)) :=
  R_ireturnZ mc_109 dX7_in_15 rfl
theorem B_X7_begin_0 (sc : Nat × (Nat → Int)) (iv : Nat → Nat → Int) (x1 : Int) (x2 : Int) : Run sc 110 0 [some (Rf 52), some (I x1), some (I x2), none] [] (hp iv) = bck (-2147483648) 2147483647 x1 (Run sc 110 5 [some (Rf 52), some (I x1), some (I x2), none] [] (hp (setO iv 52 (upI (iv 52) 0 x1)))) :=
  (R_aload_n mc_110 dX7_begin_0 rfl).trans <|
  (R_iload_n mc_110 dX7_begin_1 rfl).trans <|
  (R_putI mc_110 dX7_begin_2 mo_110 ft_7_71 rfl rfl rfl (lo := (-2147483648)) (hi := 2147483647) rfl rfl).trans <| bck_congr <|
  rfl
theorem B_X7_begin_5 (sc : Nat × (Nat → Int)) (iv : Nat → Nat → Int) (x1 : Int) (x2 : Int) (d3 : Option AV) : Run sc 110 5 [some (Rf 52), some (I x1), some (I x2), d3] [] (hp iv) = bck (-2147483648) 2147483647 x2 (Run sc 110 10 [some (Rf 52), some (I x1), some (I x2), d3] [] (hp (setO iv 52 (upI (iv 52) 1 x2)))) :=
  (R_aload_n mc_110 dX7_begin_5 rfl).trans <|
  (R_iload_n mc_110 dX7_begin_6 rfl).trans <|
  (R_putI mc_110 dX7_begin_7 mo_110 ft_7_74 rfl rfl rfl (lo := (-2147483648)) (hi := 2147483647) rfl rfl).trans <| bck_congr <|
  rfl
theorem B_X7_begin_10 (sc : Nat × (Nat → Int)) (iv : Nat → Nat → Int) (x1 : Int) (x2 : Int) (d3 : Option AV) : Run sc 110 10 [some (Rf 52), some (I x1), some (I x2), d3] [] (hp iv) = Run sc 110 12 [some (Rf 52), some (I x1), some (I x2), some (I 0)] [] (hp iv) :=
  (R_iconst mc_110 dX7_begin_10 ⟨by decide, by decide⟩).trans <|
  R_istore_n mc_110 dX7_begin_11 (Nat.le_of_ble_eq_true rfl)
theorem B_X7_begin_12 (sc : Nat × (Nat → Int)) (iv : Nat → Nat → Int) (x1 : Int) (x2 : Int) (x3 : Int) : Run sc 110 12 [some (Rf 52), some (I x1), some (I x2), some (I x3)] [] (hp iv) = if x3 < 576 then bck 0 (((576 : Nat) : Int) - 1) x3 (bck (-2147483648) 2147483647 0 (Run sc 110 26 [some (Rf 52), some (I x1), some (I x2), some (I x3)] [] (hp (setO iv 53 (upI (iv 53) (Int.toNat x3) 0))))) else Run sc 110 32 [some (Rf 52), some (I x1), some (I x2), some (I x3)] [] (hp iv) :=
  (R_iload_n mc_110 dX7_begin_12 rfl).trans <|
  (R_sipush mc_110 dX7_begin_13 ⟨by decide, by decide⟩).trans <|
  (R_icmp_ge mc_110 dX7_begin_16 (t := 32) rfl).trans <| ite_c2
  ((R_aload_n mc_110 dX7_begin_19 rfl).trans <|
  (R_getR mc_110 dX7_begin_20 mo_110 ft_7_25 rfl rfl (r := 53) rfl (by decide)).trans <|
  (R_iload_n mc_110 dX7_begin_23 rfl).trans <|
  (R_iconst mc_110 dX7_begin_24 ⟨by decide, by decide⟩).trans <|
  (R_iastore mc_110 dX7_begin_25 rfl).trans <| bck_congr <| bck_congr <|
  rfl)
  (rfl)
theorem B_X7_begin_26 (sc : Nat × (Nat → Int)) (iv : Nat → Nat → Int) (x1 : Int) (x2 : Int) (x3 : Int) : Run sc 110 26 [some (Rf 52), some (I x1), some (I x2), some (I x3)] [] (hp iv) = chk (x3 + 1) (Run sc 110 12 [some (Rf 52), some (I x1), some (I x2), some (I (x3 + 1))] [] (hp iv)) :=
  (R_iinc mc_110 dX7_begin_26 rfl).trans <| chk_congr <|
  R_goto mc_110 dX7_begin_29 (t := 12) rfl
theorem B_X7_begin_32 (sc : Nat × (Nat → Int)) (iv : Nat → Nat → Int) (x1 : Int) (x2 : Int) (x3 : Int) : Run sc 110 32 [some (Rf 52), some (I x1), some (I x2), some (I x3)] [] (hp iv) = Run sc 110 34 [some (Rf 52), some (I x1), some (I x2), some (I 0)] [] (hp iv) :=
  (R_iconst mc_110 dX7_begin_32 ⟨by decide, by decide⟩).trans <|
  R_istore_n mc_110 dX7_begin_33 (Nat.le_of_ble_eq_true rfl)
theorem B_X7_begin_34 (sc : Nat × (Nat → Int)) (iv : Nat → Nat → Int) (x1 : Int) (x2 : Int) (x3 : Int) : Run sc 110 34 [some (Rf 52), some (I x1), some (I x2), some (I x3)] [] (hp iv) = if x3 < 625 then bck 0 (((625 : Nat) : Int) - 1) x3 (bck 0 1 0 (Run sc 110 48 [some (Rf 52), some (I x1), some (I x2), some (I x3)] [] (hp (setO iv 55 (upI (iv 55) (Int.toNat x3) 0))))) else Run sc 110 61 [some (Rf 52), some (I x1), some (I x2), some (I x3)] [] (hp iv) :=
  (R_iload_n mc_110 dX7_begin_34 rfl).trans <|
  (R_sipush mc_110 dX7_begin_35 ⟨by decide, by decide⟩).trans <|
  (R_icmp_ge mc_110 dX7_begin_38 (t := 61) rfl).trans <| ite_c2
  ((R_aload_n mc_110 dX7_begin_41 rfl).trans <|
  (R_getR mc_110 dX7_begin_42 mo_110 ft_7_32 rfl rfl (r := 55) rfl (by decide)).trans <|
  (R_iload_n mc_110 dX7_begin_45 rfl).trans <|
  (R_iconst mc_110 dX7_begin_46 ⟨by decide, by decide⟩).trans <|
  (R_bastore mc_110 dX7_begin_47 rfl).trans <| bck_congr <| bck_congr <|
  rfl)
  (rfl)
theorem B_X7_begin_48 (sc : Nat × (Nat → Int)) (iv : Nat → Nat → Int) (x1 : Int) (x2 : Int) (x3 : Int) : Run sc 110 48 [some (Rf 52), some (I x1), some (I x2), some (I x3)] [] (hp iv) = bck 0 (((625 : Nat) : Int) - 1) x3 (bck 0 1 0 (Run sc 110 55 [some (Rf 52), some (I x1), some (I x2), some (I x3)] [] (hp (setO iv 56 (upI (iv 56) (Int.toNat x3) 0))))) :=
  (R_aload_n mc_110 dX7_begin_48 rfl).trans <|
  (R_getR mc_110 dX7_begin_49 mo_110 ft_7_36 rfl rfl (r := 56) rfl (by decide)).trans <|
  (R_iload_n mc_110 dX7_begin_52 rfl).trans <|
  (R_iconst mc_110 dX7_begin_53 ⟨by decide, by decide⟩).trans <|
  (R_bastore mc_110 dX7_begin_54 rfl).trans <| bck_congr <| bck_congr <|
  rfl
theorem B_X7_begin_55 (sc : Nat × (Nat → Int)) (iv : Nat → Nat → Int) (x1 : Int) (x2 : Int) (x3 : Int) : Run sc 110 55 [some (Rf 52), some (I x1), some (I x2), some (I x3)] [] (hp iv) = chk (x3 + 1) (Run sc 110 34 [some (Rf 52), some (I x1), some (I x2), some (I (x3 + 1))] [] (hp iv)) :=
  (R_iinc mc_110 dX7_begin_55 rfl).trans <| chk_congr <|
  R_goto mc_110 dX7_begin_58 (t := 34) rfl
theorem B_X7_begin_61 (sc : Nat × (Nat → Int)) (iv : Nat → Nat → Int) (x1 : Int) (x2 : Int) (x3 : Int) : Run sc 110 61 [some (Rf 52), some (I x1), some (I x2), some (I x3)] [] (hp iv) = aBind (Run sc 114 0 [some (Rf 52), some (I 127), none, none, none, none] [] (hp iv)) (fun v h2 => Run sc 110 67 [some (Rf 52), some (I x1), some (I x2), some (I x3)] (pushR v []) h2) :=
  (R_aload_n mc_110 dX7_begin_61 rfl).trans <|
  (R_bipush mc_110 dX7_begin_62 ⟨by decide, by decide⟩).trans <|
  R_invV mc_110 dX7_begin_64 mo_110 ct_7_77 af_110_114 rfl rfl rfl ⟨Nat.le_of_ble_eq_true rfl, Nat.le_of_ble_eq_true rfl⟩
theorem B_X7_begin_67 (sc : Nat × (Nat → Int)) (iv : Nat → Nat → Int) (x1 : Int) (x2 : Int) (x3 : Int) : Run sc 110 67 [some (Rf 52), some (I x1), some (I x2), some (I x3)] [] (hp iv) = some (none, hp iv) :=
  R_return mc_110 dX7_begin_67 rfl
theorem B_X7_reset_0 (sc : Nat × (Nat → Int)) (iv : Nat → Nat → Int) (x1 : Int) (x2 : Int) : Run sc 111 0 [some (Rf 52), some (I x1), some (I x2)] [] (hp iv) = aBind (Run sc 109 0 [some (I x1), some (I 1), some (I 24)] [] (hp iv)) (fun v h2 => Run sc 111 7 [some (Rf 52), some (I x1), some (I x2)] (pushR v []) h2) :=
  (R_iload_n mc_111 dX7_reset_0 rfl).trans <|
  (R_iconst mc_111 dX7_reset_1 ⟨by decide, by decide⟩).trans <|
  (R_bipush mc_111 dX7_reset_2 ⟨by decide, by decide⟩).trans <|
  R_invS mc_111 dX7_reset_4 mo_111 ct_7_81 (Or.inl rfl) af_111_109 (Nat.le_of_ble_eq_true rfl) rfl rfl ⟨Nat.le_of_ble_eq_true rfl, Nat.le_of_ble_eq_true rfl⟩
theorem B_X7_reset_7 (sc : Nat × (Nat → Int)) (iv : Nat → Nat → Int) (x1 : Int) (x2 : Int) (s0 : Int) : Run sc 111 7 [some (Rf 52), some (I x1), some (I x2)] [(I s0)] (hp iv) = if s0 = 0 then Run sc 111 20 [some (Rf 52), some (I x1), some (I x2)] [] (hp iv) else aBind (Run sc 109 0 [some (I x2), some (I 1), some (I 24)] [] (hp iv)) (fun v h2 => Run sc 111 17 [some (Rf 52), some (I x1), some (I x2)] (pushR v []) h2) :=
  (R_if_eq mc_111 dX7_reset_7 (t := 20) rfl).trans <| ite_c2
  (rfl)
  ((R_iload_n mc_111 dX7_reset_10 rfl).trans <|
  (R_iconst mc_111 dX7_reset_11 ⟨by decide, by decide⟩).trans <|
  (R_bipush mc_111 dX7_reset_12 ⟨by decide, by decide⟩).trans <|
  R_invS mc_111 dX7_reset_14 mo_111 ct_7_81 (Or.inl rfl) af_111_109 (Nat.le_of_ble_eq_true rfl) rfl rfl ⟨Nat.le_of_ble_eq_true rfl, Nat.le_of_ble_eq_true rfl⟩)
theorem B_X7_reset_17 (sc : Nat × (Nat → Int)) (iv : Nat → Nat → Int) (x1 : Int) (x2 : Int) (s0 : Int) : Run sc 111 17 [some (Rf 52), some (I x1), some (I x2)] [(I s0)] (hp iv) = if s0 = 0 then Run sc 111 20 [some (Rf 52), some (I x1), some (I x2)] [] (hp iv) else Run sc 111 23 [some (Rf 52), some (I x1), some (I x2)] [] (hp iv) :=
  R_if_ne mc_111 dX7_reset_17 (t := 23) rfl
theorem B_X7_reset_20 (sc : Nat × (Nat → Int)) (iv : Nat → Nat → Int) (x1 : Int) (x2 : Int) : Run sc 111 20 [some (Rf 52), some (I x1), some (I x2)] [] (hp iv) = some (some (I (-2)), hp iv) :=
  (R_bipush mc_111 dX7_reset_20 ⟨by decide, by decide⟩).trans <|
  R_ireturn mc_111 dX7_reset_22 rfl
theorem B_X7_reset_23 (sc : Nat × (Nat → Int)) (iv : Nat → Nat → Int) (x1 : Int) (x2 : Int) : Run sc 111 23 [some (Rf 52), some (I x1), some (I x2)] [] (hp iv) = aBind (Run sc 110 0 [some (Rf 52), some (I x1), some (I x2), none] [] (hp iv)) (fun v h2 => Run sc 111 29 [some (Rf 52), some (I x1), some (I x2)] (pushR v []) h2) :=
  (R_aload_n mc_111 dX7_reset_23 rfl).trans <|
  (R_iload_n mc_111 dX7_reset_24 rfl).trans <|
  (R_iload_n mc_111 dX7_reset_25 rfl).trans <|
  R_invV mc_111 dX7_reset_26 mo_111 ct_7_67 af_111_110 rfl rfl rfl ⟨Nat.le_of_ble_eq_true rfl, Nat.le_of_ble_eq_true rfl⟩
theorem B_X7_reset_29 (sc : Nat × (Nat → Int)) (iv : Nat → Nat → Int) (x1 : Int) (x2 : Int) : Run sc 111 29 [some (Rf 52), some (I x1), some (I x2)] [] (hp iv) = chk (x1 * x2) (some (some (I (x1 * x2)), hp iv)) :=
  (R_iload_n mc_111 dX7_reset_29 rfl).trans <|
  (R_iload_n mc_111 dX7_reset_30 rfl).trans <|
  (R_imul mc_111 dX7_reset_31).trans <| chk_congr <|
  R_ireturn mc_111 dX7_reset_32 rfl
theorem B_X7_isCell_0 (sc : Nat × (Nat → Int)) (iv : Nat → Nat → Int) (x1 : Int) (x2 : Int) : Run sc 112 0 [some (Rf 52), some (I x1), some (I x2)] [] (hp iv) = chk ((iv 52 0) - 1) (aBind (Run sc 109 0 [some (I x1), some (I 0), some (I ((iv 52 0) - 1))] [] (hp iv)) (fun v h2 => Run sc 112 11 [some (Rf 52), some (I x1), some (I x2)] (pushR v []) h2)) :=
  (R_iload_n mc_112 dX7_isCell_0 rfl).trans <|
  (R_iconst mc_112 dX7_isCell_1 ⟨by decide, by decide⟩).trans <|
  (R_aload_n mc_112 dX7_isCell_2 rfl).trans <|
  (R_getI mc_112 dX7_isCell_3 mo_112 ft_7_71 rfl rfl).trans <|
  (R_iconst mc_112 dX7_isCell_6 ⟨by decide, by decide⟩).trans <|
  (R_isub mc_112 dX7_isCell_7).trans <| chk_congr <|
  R_invS mc_112 dX7_isCell_8 mo_112 ct_7_81 (Or.inl rfl) af_112_109 (Nat.le_of_ble_eq_true rfl) rfl rfl ⟨Nat.le_of_ble_eq_true rfl, Nat.le_of_ble_eq_true rfl⟩
theorem B_X7_isCell_11 (sc : Nat × (Nat → Int)) (iv : Nat → Nat → Int) (x1 : Int) (x2 : Int) (s0 : Int) : Run sc 112 11 [some (Rf 52), some (I x1), some (I x2)] [(I s0)] (hp iv) = if s0 = 0 then Run sc 112 32 [some (Rf 52), some (I x1), some (I x2)] [] (hp iv) else chk ((iv 52 1) - 1) (aBind (Run sc 109 0 [some (I x2), some (I 0), some (I ((iv 52 1) - 1))] [] (hp iv)) (fun v h2 => Run sc 112 25 [some (Rf 52), some (I x1), some (I x2)] (pushR v []) h2)) :=
  (R_if_eq mc_112 dX7_isCell_11 (t := 32) rfl).trans <| ite_c2
  (rfl)
  ((R_iload_n mc_112 dX7_isCell_14 rfl).trans <|
  (R_iconst mc_112 dX7_isCell_15 ⟨by decide, by decide⟩).trans <|
  (R_aload_n mc_112 dX7_isCell_16 rfl).trans <|
  (R_getI mc_112 dX7_isCell_17 mo_112 ft_7_74 rfl rfl).trans <|
  (R_iconst mc_112 dX7_isCell_20 ⟨by decide, by decide⟩).trans <|
  (R_isub mc_112 dX7_isCell_21).trans <| chk_congr <|
  R_invS mc_112 dX7_isCell_22 mo_112 ct_7_81 (Or.inl rfl) af_112_109 (Nat.le_of_ble_eq_true rfl) rfl rfl ⟨Nat.le_of_ble_eq_true rfl, Nat.le_of_ble_eq_true rfl⟩)
theorem B_X7_isCell_25 (sc : Nat × (Nat → Int)) (iv : Nat → Nat → Int) (x1 : Int) (x2 : Int) (s0 : Int) : Run sc 112 25 [some (Rf 52), some (I x1), some (I x2)] [(I s0)] (hp iv) = if s0 = 0 then Run sc 112 32 [some (Rf 52), some (I x1), some (I x2)] [] (hp iv) else Run sc 112 33 [some (Rf 52), some (I x1), some (I x2)] [(I 1)] (hp iv) :=
  (R_if_eq mc_112 dX7_isCell_25 (t := 32) rfl).trans <| ite_c2
  (rfl)
  ((R_iconst mc_112 dX7_isCell_28 ⟨by decide, by decide⟩).trans <|
  R_goto mc_112 dX7_isCell_29 (t := 33) rfl)
theorem B_X7_isCell_32 (sc : Nat × (Nat → Int)) (iv : Nat → Nat → Int) (x1 : Int) (x2 : Int) : Run sc 112 32 [some (Rf 52), some (I x1), some (I x2)] [] (hp iv) = Run sc 112 33 [some (Rf 52), some (I x1), some (I x2)] [(I 0)] (hp iv) :=
  R_iconst mc_112 dX7_isCell_32 ⟨by decide, by decide⟩
theorem B_X7_isCell_33 (sc : Nat × (Nat → Int)) (iv : Nat → Nat → Int) (x1 : Int) (x2 : Int) (s0 : Int) : Run sc 112 33 [some (Rf 52), some (I x1), some (I x2)] [(I s0)] (hp iv) = bck 0 1 s0 (some (some (I s0), hp iv)) :=
  R_ireturnZ mc_112 dX7_isCell_33 rfl
theorem B_X7_at_0 (sc : Nat × (Nat → Int)) (iv : Nat → Nat → Int) (x1 : Int) (x2 : Int) : Run sc 113 0 [some (Rf 52), some (I x1), some (I x2)] [] (hp iv) = aBind (Run sc 112 0 [some (Rf 52), some (I x1), some (I x2)] [] (hp iv)) (fun v h2 => Run sc 113 6 [some (Rf 52), some (I x1), some (I x2)] (pushR v []) h2) :=
  (R_aload_n mc_113 dX7_at_0 rfl).trans <|
  (R_iload_n mc_113 dX7_at_1 rfl).trans <|
  (R_iload_n mc_113 dX7_at_2 rfl).trans <|
  R_invV mc_113 dX7_at_3 mo_113 ct_7_85 af_113_112 rfl rfl rfl ⟨Nat.le_of_ble_eq_true rfl, Nat.le_of_ble_eq_true rfl⟩
theorem B_X7_at_6 (sc : Nat × (Nat → Int)) (iv : Nat → Nat → Int) (x1 : Int) (x2 : Int) (s0 : Int) : Run sc 113 6 [some (Rf 52), some (I x1), some (I x2)] [(I s0)] (hp iv) = if s0 = 0 then Run sc 113 23 [some (Rf 52), some (I x1), some (I x2)] [] (hp iv) else chk (24 * x2) (chk ((24 * x2) + x1) (bck 0 (((576 : Nat) : Int) - 1) ((24 * x2) + x1) (Run sc 113 25 [some (Rf 52), some (I x1), some (I x2)] [(I (iv 53 (Int.toNat ((24 * x2) + x1))))] (hp iv)))) :=
  (R_if_eq mc_113 dX7_at_6 (t := 23) rfl).trans <| ite_c2
  (rfl)
  ((R_aload_n mc_113 dX7_at_9 rfl).trans <|
  (R_getR mc_113 dX7_at_10 mo_113 ft_7_25 rfl rfl (r := 53) rfl (by decide)).trans <|
  (R_bipush mc_113 dX7_at_13 ⟨by decide, by decide⟩).trans <|
  (R_iload_n mc_113 dX7_at_15 rfl).trans <|
  (R_imul mc_113 dX7_at_16).trans <| chk_congr <|
  (R_iload_n mc_113 dX7_at_17 rfl).trans <|
  (R_iadd mc_113 dX7_at_18).trans <| chk_congr <|
  (R_iaload mc_113 dX7_at_19 rfl).trans <| bck_congr <|
  R_goto mc_113 dX7_at_20 (t := 25) rfl)
theorem B_X7_at_23 (sc : Nat × (Nat → Int)) (iv : Nat → Nat → Int) (x1 : Int) (x2 : Int) : Run sc 113 23 [some (Rf 52), some (I x1), some (I x2)] [] (hp iv) = Run sc 113 25 [some (Rf 52), some (I x1), some (I x2)] [(I (-4))] (hp iv) :=
  R_bipush mc_113 dX7_at_23 ⟨by decide, by decide⟩
theorem B_X7_at_25 (sc : Nat × (Nat → Int)) (iv : Nat → Nat → Int) (x1 : Int) (x2 : Int) (s0 : Int) : Run sc 113 25 [some (Rf 52), some (I x1), some (I x2)] [(I s0)] (hp iv) = some (some (I s0), hp iv) :=
  R_ireturn mc_113 dX7_at_25 rfl
theorem B_X7_lay_0 (sc : Nat × (Nat → Int)) (iv : Nat → Nat → Int) (x1 : Int) : Run sc 114 0 [some (Rf 52), some (I x1), none, none, none, none] [] (hp iv) = Run sc 114 2 [some (Rf 52), some (I x1), some (I 1), none, none, none] [] (hp iv) :=
  (R_iconst mc_114 dX7_lay_0 ⟨by decide, by decide⟩).trans <|
  R_istore_n mc_114 dX7_lay_1 (Nat.le_of_ble_eq_true rfl)
theorem B_X7_lay_2 (sc : Nat × (Nat → Int)) (iv : Nat → Nat → Int) (x1 : Int) (x2 : Int) (d3 : Option AV) (d4 : Option AV) (d5 : Option AV) : Run sc 114 2 [some (Rf 52), some (I x1), some (I x2), d3, d4, d5] [] (hp iv) = if 6 < x2 then Run sc 114 21 [some (Rf 52), some (I x1), some (I x2), d3, d4, d5] [] (hp iv) else bck 0 (((7 : Nat) : Int) - 1) x2 (bck (-2147483648) 2147483647 0 (Run sc 114 15 [some (Rf 52), some (I x1), some (I x2), d3, d4, d5] [] (hp (setO iv 57 (upI (iv 57) (Int.toNat x2) 0))))) :=
  (R_iload_n mc_114 dX7_lay_2 rfl).trans <|
  (R_bipush mc_114 dX7_lay_3 ⟨by decide, by decide⟩).trans <|
  (R_icmp_gt mc_114 dX7_lay_5 (t := 21) rfl).trans <| ite_c2
  (rfl)
  ((R_aload_n mc_114 dX7_lay_8 rfl).trans <|
  (R_getR mc_114 dX7_lay_9 mo_114 ft_7_39 rfl rfl (r := 57) rfl (by decide)).trans <|
  (R_iload_n mc_114 dX7_lay_12 rfl).trans <|
  (R_iconst mc_114 dX7_lay_13 ⟨by decide, by decide⟩).trans <|
  (R_iastore mc_114 dX7_lay_14 rfl).trans <| bck_congr <| bck_congr <|
  rfl)
theorem B_X7_lay_15 (sc : Nat × (Nat → Int)) (iv : Nat → Nat → Int) (x1 : Int) (x2 : Int) (d3 : Option AV) (d4 : Option AV) (d5 : Option AV) : Run sc 114 15 [some (Rf 52), some (I x1), some (I x2), d3, d4, d5] [] (hp iv) = chk (x2 + 1) (Run sc 114 2 [some (Rf 52), some (I x1), some (I (x2 + 1)), d3, d4, d5] [] (hp iv)) :=
  (R_iinc mc_114 dX7_lay_15 rfl).trans <| chk_congr <|
  R_goto mc_114 dX7_lay_18 (t := 2) rfl
theorem B_X7_lay_21 (sc : Nat × (Nat → Int)) (iv : Nat → Nat → Int) (x1 : Int) (x2 : Int) (d3 : Option AV) (d4 : Option AV) (d5 : Option AV) : Run sc 114 21 [some (Rf 52), some (I x1), some (I x2), d3, d4, d5] [] (hp iv) = Run sc 114 23 [some (Rf 52), some (I x1), some (I 0), d3, d4, d5] [] (hp iv) :=
  (R_iconst mc_114 dX7_lay_21 ⟨by decide, by decide⟩).trans <|
  R_istore_n mc_114 dX7_lay_22 (Nat.le_of_ble_eq_true rfl)
theorem B_X7_lay_23 (sc : Nat × (Nat → Int)) (iv : Nat → Nat → Int) (x1 : Int) (x2 : Int) (d3 : Option AV) (d4 : Option AV) (d5 : Option AV) : Run sc 114 23 [some (Rf 52), some (I x1), some (I x2), d3, d4, d5] [] (hp iv) = if x2 < (iv 52 1) then Run sc 114 33 [some (Rf 52), some (I x1), some (I x2), some (I 0), d4, d5] [] (hp iv) else Run sc 114 160 [some (Rf 52), some (I x1), some (I x2), d3, d4, d5] [] (hp iv) :=
  (R_iload_n mc_114 dX7_lay_23 rfl).trans <|
  (R_aload_n mc_114 dX7_lay_24 rfl).trans <|
  (R_getI mc_114 dX7_lay_25 mo_114 ft_7_74 rfl rfl).trans <|
  (R_icmp_ge mc_114 dX7_lay_28 (t := 160) rfl).trans <| ite_c2
  ((R_iconst mc_114 dX7_lay_31 ⟨by decide, by decide⟩).trans <|
  R_istore_n mc_114 dX7_lay_32 (Nat.le_of_ble_eq_true rfl))
  (rfl)
theorem B_X7_lay_33 (sc : Nat × (Nat → Int)) (iv : Nat → Nat → Int) (x1 : Int) (x2 : Int) (x3 : Int) (d4 : Option AV) (d5 : Option AV) : Run sc 114 33 [some (Rf 52), some (I x1), some (I x2), some (I x3), d4, d5] [] (hp iv) = if x3 < (iv 52 0) then aBind (Run sc 113 0 [some (Rf 52), some (I x3), some (I x2)] [] (hp iv)) (fun v h2 => Run sc 114 47 [some (Rf 52), some (I x1), some (I x2), some (I x3), d4, d5] (pushR v []) h2) else Run sc 114 154 [some (Rf 52), some (I x1), some (I x2), some (I x3), d4, d5] [] (hp iv) :=
  (R_iload_n mc_114 dX7_lay_33 rfl).trans <|
  (R_aload_n mc_114 dX7_lay_34 rfl).trans <|
  (R_getI mc_114 dX7_lay_35 mo_114 ft_7_71 rfl rfl).trans <|
  (R_icmp_ge mc_114 dX7_lay_38 (t := 154) rfl).trans <| ite_c2
  ((R_aload_n mc_114 dX7_lay_41 rfl).trans <|
  (R_iload_n mc_114 dX7_lay_42 rfl).trans <|
  (R_iload_n mc_114 dX7_lay_43 rfl).trans <|
  R_invV mc_114 dX7_lay_44 mo_114 ct_7_89 af_114_113 rfl rfl rfl ⟨Nat.le_of_ble_eq_true rfl, Nat.le_of_ble_eq_true rfl⟩)
  (rfl)
theorem B_X7_lay_47 (sc : Nat × (Nat → Int)) (iv : Nat → Nat → Int) (x1 : Int) (x2 : Int) (x3 : Int) (d4 : Option AV) (d5 : Option AV) (s0 : Int) : Run sc 114 47 [some (Rf 52), some (I x1), some (I x2), some (I x3), d4, d5] [(I s0)] (hp iv) = if 0 < s0 then chk (x3 - 1) (aBind (Run sc 113 0 [some (Rf 52), some (I (x3 - 1)), some (I x2)] [] (hp iv)) (fun v h2 => Run sc 114 62 [some (Rf 52), some (I x1), some (I x2), some (I x3), some (I s0), d5] (pushR v []) h2)) else Run sc 114 118 [some (Rf 52), some (I x1), some (I x2), some (I x3), some (I s0), d5] [] (hp iv) :=
  (R_istore mc_114 dX7_lay_47 (Nat.le_of_ble_eq_true rfl)).trans <|
  (R_iload mc_114 dX7_lay_49 rfl).trans <|
  (R_if_le mc_114 dX7_lay_51 (t := 118) rfl).trans <| ite_c2
  ((R_aload_n mc_114 dX7_lay_54 rfl).trans <|
  (R_iload_n mc_114 dX7_lay_55 rfl).trans <|
  (R_iconst mc_114 dX7_lay_56 ⟨by decide, by decide⟩).trans <|
  (R_isub mc_114 dX7_lay_57).trans <| chk_congr <|
  (R_iload_n mc_114 dX7_lay_58 rfl).trans <|
  R_invV mc_114 dX7_lay_59 mo_114 ct_7_89 af_114_113 rfl rfl rfl ⟨Nat.le_of_ble_eq_true rfl, Nat.le_of_ble_eq_true rfl⟩)
  (rfl)
theorem B_X7_lay_62 (sc : Nat × (Nat → Int)) (iv : Nat → Nat → Int) (x1 : Int) (x2 : Int) (x3 : Int) (x4 : Int) (d5 : Option AV) (s0 : Int) : Run sc 114 62 [some (Rf 52), some (I x1), some (I x2), some (I x3), some (I x4), d5] [(I s0)] (hp iv) = if s0 = x4 then Run sc 114 118 [some (Rf 52), some (I x1), some (I x2), some (I x3), some (I x4), d5] [] (hp iv) else chk (288 * x4) (bck 0 (((7 : Nat) : Int) - 1) x4 (chk ((288 * x4) + (iv 57 (Int.toNat x4))) (bck 0 (((2016 : Nat) : Int) - 1) ((288 * x4) + (iv 57 (Int.toNat x4))) (bck (-2147483648) 2147483647 x3 (Run sc 114 91 [some (Rf 52), some (I x1), some (I x2), some (I x3), some (I x4), some (I ((288 * x4) + (iv 57 (Int.toNat x4))))] [] (hp (setO iv 58 (upI (iv 58) (Int.toNat ((288 * x4) + (iv 57 (Int.toNat x4)))) x3)))))))) :=
  (R_iload mc_114 dX7_lay_62 rfl).trans <|
  (R_icmp_eq mc_114 dX7_lay_64 (t := 118) rfl).trans <| ite_c2
  (rfl)
  ((R_sipush mc_114 dX7_lay_67 ⟨by decide, by decide⟩).trans <|
  (R_iload mc_114 dX7_lay_70 rfl).trans <|
  (R_imul mc_114 dX7_lay_72).trans <| chk_congr <|
  (R_aload_n mc_114 dX7_lay_73 rfl).trans <|
  (R_getR mc_114 dX7_lay_74 mo_114 ft_7_39 rfl rfl (r := 57) rfl (by decide)).trans <|
  (R_iload mc_114 dX7_lay_77 rfl).trans <|
  (R_iaload mc_114 dX7_lay_79 rfl).trans <| bck_congr <|
  (R_iadd mc_114 dX7_lay_80).trans <| chk_congr <|
  (R_istore mc_114 dX7_lay_81 (Nat.le_of_ble_eq_true rfl)).trans <|
  (R_aload_n mc_114 dX7_lay_83 rfl).trans <|
  (R_getR mc_114 dX7_lay_84 mo_114 ft_7_42 rfl rfl (r := 58) rfl (by decide)).trans <|
  (R_iload mc_114 dX7_lay_87 rfl).trans <|
  (R_iload_n mc_114 dX7_lay_89 rfl).trans <|
  (R_iastore mc_114 dX7_lay_90 rfl).trans <| bck_congr <| bck_congr <|
  rfl)
theorem B_X7_lay_91 (sc : Nat × (Nat → Int)) (iv : Nat → Nat → Int) (x1 : Int) (x2 : Int) (x3 : Int) (x4 : Int) (x5 : Int) : Run sc 114 91 [some (Rf 52), some (I x1), some (I x2), some (I x3), some (I x4), some (I x5)] [] (hp iv) = bck 0 (((2016 : Nat) : Int) - 1) x5 (bck (-2147483648) 2147483647 x2 (Run sc 114 99 [some (Rf 52), some (I x1), some (I x2), some (I x3), some (I x4), some (I x5)] [] (hp (setO iv 59 (upI (iv 59) (Int.toNat x5) x2))))) :=
  (R_aload_n mc_114 dX7_lay_91 rfl).trans <|
  (R_getR mc_114 dX7_lay_92 mo_114 ft_7_45 rfl rfl (r := 59) rfl (by decide)).trans <|
  (R_iload mc_114 dX7_lay_95 rfl).trans <|
  (R_iload_n mc_114 dX7_lay_97 rfl).trans <|
  (R_iastore mc_114 dX7_lay_98 rfl).trans <| bck_congr <| bck_congr <|
  rfl
theorem B_X7_lay_99 (sc : Nat × (Nat → Int)) (iv : Nat → Nat → Int) (x1 : Int) (x2 : Int) (x3 : Int) (x4 : Int) (x5 : Int) : Run sc 114 99 [some (Rf 52), some (I x1), some (I x2), some (I x3), some (I x4), some (I x5)] [] (hp iv) = bck 0 (((2016 : Nat) : Int) - 1) x5 (bck (-2147483648) 2147483647 0 (Run sc 114 107 [some (Rf 52), some (I x1), some (I x2), some (I x3), some (I x4), some (I x5)] [] (hp (setO iv 60 (upI (iv 60) (Int.toNat x5) 0))))) :=
  (R_aload_n mc_114 dX7_lay_99 rfl).trans <|
  (R_getR mc_114 dX7_lay_100 mo_114 ft_7_48 rfl rfl (r := 60) rfl (by decide)).trans <|
  (R_iload mc_114 dX7_lay_103 rfl).trans <|
  (R_iconst mc_114 dX7_lay_105 ⟨by decide, by decide⟩).trans <|
  (R_iastore mc_114 dX7_lay_106 rfl).trans <| bck_congr <| bck_congr <|
  rfl
theorem B_X7_lay_107 (sc : Nat × (Nat → Int)) (iv : Nat → Nat → Int) (x1 : Int) (x2 : Int) (x3 : Int) (x4 : Int) (x5 : Int) : Run sc 114 107 [some (Rf 52), some (I x1), some (I x2), some (I x3), some (I x4), some (I x5)] [] (hp iv) = bck 0 (((7 : Nat) : Int) - 1) x4 (chk ((iv 57 (Int.toNat x4)) + 1) (bck 0 (((7 : Nat) : Int) - 1) x4 (bck (-2147483648) 2147483647 ((iv 57 (Int.toNat x4)) + 1) (Run sc 114 118 [some (Rf 52), some (I x1), some (I x2), some (I x3), some (I x4), some (I x5)] [] (hp (setO iv 57 (upI (iv 57) (Int.toNat x4) ((iv 57 (Int.toNat x4)) + 1)))))))) :=
  (R_aload_n mc_114 dX7_lay_107 rfl).trans <|
  (R_getR mc_114 dX7_lay_108 mo_114 ft_7_39 rfl rfl (r := 57) rfl (by decide)).trans <|
  (R_iload mc_114 dX7_lay_111 rfl).trans <|
  (R_dup2 mc_114 dX7_lay_113).trans <|
  (R_iaload mc_114 dX7_lay_114 rfl).trans <| bck_congr <|
  (R_iconst mc_114 dX7_lay_115 ⟨by decide, by decide⟩).trans <|
  (R_iadd mc_114 dX7_lay_116).trans <| chk_congr <|
  (R_iastore mc_114 dX7_lay_117 rfl).trans <| bck_congr <| bck_congr <|
  rfl
theorem B_X7_lay_118 (sc : Nat × (Nat → Int)) (iv : Nat → Nat → Int) (x1 : Int) (x2 : Int) (x3 : Int) (x4 : Int) (d5 : Option AV) : Run sc 114 118 [some (Rf 52), some (I x1), some (I x2), some (I x3), some (I x4), d5] [] (hp iv) = if 0 < x4 then chk (288 * x4) (bck 0 (((7 : Nat) : Int) - 1) x4 (chk ((288 * x4) + (iv 57 (Int.toNat x4))) (chk (((288 * x4) + (iv 57 (Int.toNat x4))) - 1) (bck 0 (((2016 : Nat) : Int) - 1) (((288 * x4) + (iv 57 (Int.toNat x4))) - 1) (chk ((iv 60 (Int.toNat (((288 * x4) + (iv 57 (Int.toNat x4))) - 1))) + 1) (bck 0 (((2016 : Nat) : Int) - 1) (((288 * x4) + (iv 57 (Int.toNat x4))) - 1) (bck (-2147483648) 2147483647 ((iv 60 (Int.toNat (((288 * x4) + (iv 57 (Int.toNat x4))) - 1))) + 1) (Run sc 114 148 [some (Rf 52), some (I x1), some (I x2), some (I x3), some (I x4), d5] [] (hp (setO iv 60 (upI (iv 60) (Int.toNat (((288 * x4) + (iv 57 (Int.toNat x4))) - 1)) ((iv 60 (Int.toNat (((288 * x4) + (iv 57 (Int.toNat x4))) - 1))) + 1)))))))))))) else Run sc 114 148 [some (Rf 52), some (I x1), some (I x2), some (I x3), some (I x4), d5] [] (hp iv) :=
  (R_iload mc_114 dX7_lay_118 rfl).trans <|
  (R_if_le mc_114 dX7_lay_120 (t := 148) rfl).trans <| ite_c2
  ((R_aload_n mc_114 dX7_lay_123 rfl).trans <|
  (R_getR mc_114 dX7_lay_124 mo_114 ft_7_48 rfl rfl (r := 60) rfl (by decide)).trans <|
  (R_sipush mc_114 dX7_lay_127 ⟨by decide, by decide⟩).trans <|
  (R_iload mc_114 dX7_lay_130 rfl).trans <|
  (R_imul mc_114 dX7_lay_132).trans <| chk_congr <|
  (R_aload_n mc_114 dX7_lay_133 rfl).trans <|
  (R_getR mc_114 dX7_lay_134 mo_114 ft_7_39 rfl rfl (r := 57) rfl (by decide)).trans <|
  (R_iload mc_114 dX7_lay_137 rfl).trans <|
  (R_iaload mc_114 dX7_lay_139 rfl).trans <| bck_congr <|
  (R_iadd mc_114 dX7_lay_140).trans <| chk_congr <|
  (R_iconst mc_114 dX7_lay_141 ⟨by decide, by decide⟩).trans <|
  (R_isub mc_114 dX7_lay_142).trans <| chk_congr <|
  (R_dup2 mc_114 dX7_lay_143).trans <|
  (R_iaload mc_114 dX7_lay_144 rfl).trans <| bck_congr <|
  (R_iconst mc_114 dX7_lay_145 ⟨by decide, by decide⟩).trans <|
  (R_iadd mc_114 dX7_lay_146).trans <| chk_congr <|
  (R_iastore mc_114 dX7_lay_147 rfl).trans <| bck_congr <| bck_congr <|
  rfl)
  (rfl)
theorem B_X7_lay_148 (sc : Nat × (Nat → Int)) (iv : Nat → Nat → Int) (x1 : Int) (x2 : Int) (x3 : Int) (x4 : Int) (d5 : Option AV) : Run sc 114 148 [some (Rf 52), some (I x1), some (I x2), some (I x3), some (I x4), d5] [] (hp iv) = chk (x3 + 1) (Run sc 114 33 [some (Rf 52), some (I x1), some (I x2), some (I (x3 + 1)), some (I x4), d5] [] (hp iv)) :=
  (R_iinc mc_114 dX7_lay_148 rfl).trans <| chk_congr <|
  R_goto mc_114 dX7_lay_151 (t := 33) rfl
theorem B_X7_lay_154 (sc : Nat × (Nat → Int)) (iv : Nat → Nat → Int) (x1 : Int) (x2 : Int) (x3 : Int) (d4 : Option AV) (d5 : Option AV) : Run sc 114 154 [some (Rf 52), some (I x1), some (I x2), some (I x3), d4, d5] [] (hp iv) = chk (x2 + 1) (Run sc 114 23 [some (Rf 52), some (I x1), some (I (x2 + 1)), some (I x3), d4, d5] [] (hp iv)) :=
  (R_iinc mc_114 dX7_lay_154 rfl).trans <| chk_congr <|
  R_goto mc_114 dX7_lay_157 (t := 23) rfl
theorem B_X7_lay_160 (sc : Nat × (Nat → Int)) (iv : Nat → Nat → Int) (x1 : Int) (x2 : Int) (d3 : Option AV) (d4 : Option AV) (d5 : Option AV) : Run sc 114 160 [some (Rf 52), some (I x1), some (I x2), d3, d4, d5] [] (hp iv) = Run sc 114 162 [some (Rf 52), some (I x1), some (I 1), d3, d4, d5] [] (hp iv) :=
  (R_iconst mc_114 dX7_lay_160 ⟨by decide, by decide⟩).trans <|
  R_istore_n mc_114 dX7_lay_161 (Nat.le_of_ble_eq_true rfl)
theorem B_X7_lay_162 (sc : Nat × (Nat → Int)) (iv : Nat → Nat → Int) (x1 : Int) (x2 : Int) (d3 : Option AV) (d4 : Option AV) (d5 : Option AV) : Run sc 114 162 [some (Rf 52), some (I x1), some (I x2), d3, d4, d5] [] (hp iv) = if 6 < x2 then Run sc 114 188 [some (Rf 52), some (I x1), some (I x2), d3, d4, d5] [] (hp iv) else bck 0 6 x2 (bck 0 127 x1 (if (((Int.toNat x1 / 2 ^ Int.toNat x2 : Nat) : Int) % (1 + 1)) = 1 then aBind (Run sc 117 0 [some (Rf 52), some (I x2), none, none, none, none] [] (hp iv)) (fun v h2 => Run sc 114 182 [some (Rf 52), some (I x1), some (I x2), d3, d4, d5] (pushR v []) h2) else Run sc 114 182 [some (Rf 52), some (I x1), some (I x2), d3, d4, d5] [] (hp iv))) :=
  (R_iload_n mc_114 dX7_lay_162 rfl).trans <|
  (R_bipush mc_114 dX7_lay_163 ⟨by decide, by decide⟩).trans <|
  (R_icmp_gt mc_114 dX7_lay_165 (t := 188) rfl).trans <| ite_c2
  (rfl)
  ((R_iload_n mc_114 dX7_lay_168 rfl).trans <|
  (R_iload_n mc_114 dX7_lay_169 rfl).trans <|
  (R_ishr mc_114 dX7_lay_170).trans <| bck_congr <| bck_congr <|
  (R_iconst mc_114 dX7_lay_171 ⟨by decide, by decide⟩).trans <|
  (R_iand mc_114 dX7_lay_172 (by decide)).trans <|
  (R_iconst mc_114 dX7_lay_173 ⟨by decide, by decide⟩).trans <|
  (R_icmp_ne mc_114 dX7_lay_174 (t := 182) rfl).trans <| ite_c2
  ((R_aload_n mc_114 dX7_lay_177 rfl).trans <|
  (R_iload_n mc_114 dX7_lay_178 rfl).trans <|
  R_invV mc_114 dX7_lay_179 mo_114 ct_7_93 af_114_117 rfl rfl rfl ⟨Nat.le_of_ble_eq_true rfl, Nat.le_of_ble_eq_true rfl⟩)
  (rfl))
theorem B_X7_lay_182 (sc : Nat × (Nat → Int)) (iv : Nat → Nat → Int) (x1 : Int) (x2 : Int) (d3 : Option AV) (d4 : Option AV) (d5 : Option AV) : Run sc 114 182 [some (Rf 52), some (I x1), some (I x2), d3, d4, d5] [] (hp iv) = chk (x2 + 1) (Run sc 114 162 [some (Rf 52), some (I x1), some (I (x2 + 1)), d3, d4, d5] [] (hp iv)) :=
  (R_iinc mc_114 dX7_lay_182 rfl).trans <| chk_congr <|
  R_goto mc_114 dX7_lay_185 (t := 162) rfl
theorem B_X7_lay_188 (sc : Nat × (Nat → Int)) (iv : Nat → Nat → Int) (x1 : Int) (x2 : Int) (d3 : Option AV) (d4 : Option AV) (d5 : Option AV) : Run sc 114 188 [some (Rf 52), some (I x1), some (I x2), d3, d4, d5] [] (hp iv) = some (none, hp iv) :=
  R_return mc_114 dX7_lay_188 rfl
theorem B_X7_way_0 (sc : Nat × (Nat → Int)) (iv : Nat → Nat → Int) (x1 : Int) (x2 : Int) (x3 : Int) : Run sc 115 0 [some (Rf 52), some (I x1), some (I x2), some (I x3), none, none] [] (hp iv) = chk (288 * x1) (chk ((288 * x1) + x2) (bck 0 (((2016 : Nat) : Int) - 1) ((288 * x1) + x2) (chk (288 * x1) (chk ((288 * x1) + x3) (bck 0 (((2016 : Nat) : Int) - 1) ((288 * x1) + x3) (chk ((iv 58 (Int.toNat ((288 * x1) + x2))) - (iv 58 (Int.toNat ((288 * x1) + x3)))) (chk (288 * x1) (chk ((288 * x1) + x2) (bck 0 (((2016 : Nat) : Int) - 1) ((288 * x1) + x2) (chk (288 * x1) (chk ((288 * x1) + x3) (bck 0 (((2016 : Nat) : Int) - 1) ((288 * x1) + x3) (chk ((iv 59 (Int.toNat ((288 * x1) + x2))) - (iv 59 (Int.toNat ((288 * x1) + x3)))) (if ((iv 58 (Int.toNat ((288 * x1) + x2))) - (iv 58 (Int.toNat ((288 * x1) + x3)))) < 0 then chk (-((iv 58 (Int.toNat ((288 * x1) + x2))) - (iv 58 (Int.toNat ((288 * x1) + x3))))) (Run sc 115 69 [some (Rf 52), some (I x1), some (I x2), some (I x3), some (I ((iv 58 (Int.toNat ((288 * x1) + x2))) - (iv 58 (Int.toNat ((288 * x1) + x3))))), some (I ((iv 59 (Int.toNat ((288 * x1) + x2))) - (iv 59 (Int.toNat ((288 * x1) + x3)))))] [(I (-((iv 58 (Int.toNat ((288 * x1) + x2))) - (iv 58 (Int.toNat ((288 * x1) + x3)))))), (I 10)] (hp iv)) else Run sc 115 67 [some (Rf 52), some (I x1), some (I x2), some (I x3), some (I ((iv 58 (Int.toNat ((288 * x1) + x2))) - (iv 58 (Int.toNat ((288 * x1) + x3))))), some (I ((iv 59 (Int.toNat ((288 * x1) + x2))) - (iv 59 (Int.toNat ((288 * x1) + x3)))))] [(I 10)] (hp iv))))))))))))))) :=
  (R_aload_n mc_115 dX7_way_0 rfl).trans <|
  (R_getR mc_115 dX7_way_1 mo_115 ft_7_42 rfl rfl (r := 58) rfl (by decide)).trans <|
  (R_sipush mc_115 dX7_way_4 ⟨by decide, by decide⟩).trans <|
  (R_iload_n mc_115 dX7_way_7 rfl).trans <|
  (R_imul mc_115 dX7_way_8).trans <| chk_congr <|
  (R_iload_n mc_115 dX7_way_9 rfl).trans <|
  (R_iadd mc_115 dX7_way_10).trans <| chk_congr <|
  (R_iaload mc_115 dX7_way_11 rfl).trans <| bck_congr <|
  (R_aload_n mc_115 dX7_way_12 rfl).trans <|
  (R_getR mc_115 dX7_way_13 mo_115 ft_7_42 rfl rfl (r := 58) rfl (by decide)).trans <|
  (R_sipush mc_115 dX7_way_16 ⟨by decide, by decide⟩).trans <|
  (R_iload_n mc_115 dX7_way_19 rfl).trans <|
  (R_imul mc_115 dX7_way_20).trans <| chk_congr <|
  (R_iload_n mc_115 dX7_way_21 rfl).trans <|
  (R_iadd mc_115 dX7_way_22).trans <| chk_congr <|
  (R_iaload mc_115 dX7_way_23 rfl).trans <| bck_congr <|
  (R_isub mc_115 dX7_way_24).trans <| chk_congr <|
  (R_istore mc_115 dX7_way_25 (Nat.le_of_ble_eq_true rfl)).trans <|
  (R_aload_n mc_115 dX7_way_27 rfl).trans <|
  (R_getR mc_115 dX7_way_28 mo_115 ft_7_45 rfl rfl (r := 59) rfl (by decide)).trans <|
  (R_sipush mc_115 dX7_way_31 ⟨by decide, by decide⟩).trans <|
  (R_iload_n mc_115 dX7_way_34 rfl).trans <|
  (R_imul mc_115 dX7_way_35).trans <| chk_congr <|
  (R_iload_n mc_115 dX7_way_36 rfl).trans <|
  (R_iadd mc_115 dX7_way_37).trans <| chk_congr <|
  (R_iaload mc_115 dX7_way_38 rfl).trans <| bck_congr <|
  (R_aload_n mc_115 dX7_way_39 rfl).trans <|
  (R_getR mc_115 dX7_way_40 mo_115 ft_7_45 rfl rfl (r := 59) rfl (by decide)).trans <|
  (R_sipush mc_115 dX7_way_43 ⟨by decide, by decide⟩).trans <|
  (R_iload_n mc_115 dX7_way_46 rfl).trans <|
  (R_imul mc_115 dX7_way_47).trans <| chk_congr <|
  (R_iload_n mc_115 dX7_way_48 rfl).trans <|
  (R_iadd mc_115 dX7_way_49).trans <| chk_congr <|
  (R_iaload mc_115 dX7_way_50 rfl).trans <| bck_congr <|
  (R_isub mc_115 dX7_way_51).trans <| chk_congr <|
  (R_istore mc_115 dX7_way_52 (Nat.le_of_ble_eq_true rfl)).trans <|
  (R_bipush mc_115 dX7_way_54 ⟨by decide, by decide⟩).trans <|
  (R_iload mc_115 dX7_way_56 rfl).trans <|
  (R_if_ge mc_115 dX7_way_58 (t := 67) rfl).trans <| ite_c2
  ((R_iload mc_115 dX7_way_61 rfl).trans <|
  (R_ineg mc_115 dX7_way_63).trans <| chk_congr <|
  R_goto mc_115 dX7_way_64 (t := 69) rfl)
  (rfl)
theorem B_X7_way_67 (sc : Nat × (Nat → Int)) (iv : Nat → Nat → Int) (x1 : Int) (x2 : Int) (x3 : Int) (x4 : Int) (x5 : Int) (s0 : Int) : Run sc 115 67 [some (Rf 52), some (I x1), some (I x2), some (I x3), some (I x4), some (I x5)] [(I s0)] (hp iv) = Run sc 115 69 [some (Rf 52), some (I x1), some (I x2), some (I x3), some (I x4), some (I x5)] [(I x4), (I s0)] (hp iv) :=
  R_iload mc_115 dX7_way_67 rfl
theorem B_X7_way_69 (sc : Nat × (Nat → Int)) (iv : Nat → Nat → Int) (x1 : Int) (x2 : Int) (x3 : Int) (x4 : Int) (x5 : Int) (s0 : Int) (s1 : Int) : Run sc 115 69 [some (Rf 52), some (I x1), some (I x2), some (I x3), some (I x4), some (I x5)] [(I s0), (I s1)] (hp iv) = if x5 < 0 then chk (-x5) (Run sc 115 82 [some (Rf 52), some (I x1), some (I x2), some (I x3), some (I x4), some (I x5)] [(I (-x5)), (I s0), (I s1)] (hp iv)) else Run sc 115 80 [some (Rf 52), some (I x1), some (I x2), some (I x3), some (I x4), some (I x5)] [(I s0), (I s1)] (hp iv) :=
  (R_iload mc_115 dX7_way_69 rfl).trans <|
  (R_if_ge mc_115 dX7_way_71 (t := 80) rfl).trans <| ite_c2
  ((R_iload mc_115 dX7_way_74 rfl).trans <|
  (R_ineg mc_115 dX7_way_76).trans <| chk_congr <|
  R_goto mc_115 dX7_way_77 (t := 82) rfl)
  (rfl)
theorem B_X7_way_80 (sc : Nat × (Nat → Int)) (iv : Nat → Nat → Int) (x1 : Int) (x2 : Int) (x3 : Int) (x4 : Int) (x5 : Int) (s0 : Int) (s1 : Int) : Run sc 115 80 [some (Rf 52), some (I x1), some (I x2), some (I x3), some (I x4), some (I x5)] [(I s0), (I s1)] (hp iv) = Run sc 115 82 [some (Rf 52), some (I x1), some (I x2), some (I x3), some (I x4), some (I x5)] [(I x5), (I s0), (I s1)] (hp iv) :=
  R_iload mc_115 dX7_way_80 rfl
theorem B_X7_way_82 (sc : Nat × (Nat → Int)) (iv : Nat → Nat → Int) (x1 : Int) (x2 : Int) (x3 : Int) (x4 : Int) (x5 : Int) (s0 : Int) (s1 : Int) (s2 : Int) : Run sc 115 82 [some (Rf 52), some (I x1), some (I x2), some (I x3), some (I x4), some (I x5)] [(I s0), (I s1), (I s2)] (hp iv) = chk (s1 + s0) (chk (s2 * (s1 + s0)) (some (some (I (s2 * (s1 + s0))), hp iv))) :=
  (R_iadd mc_115 dX7_way_82).trans <| chk_congr <|
  (R_imul mc_115 dX7_way_83).trans <| chk_congr <|
  R_ireturn mc_115 dX7_way_84 rfl
theorem B_X7_costs_0 (sc : Nat × (Nat → Int)) (iv : Nat → Nat → Int) (x1 : Int) (x2 : Int) (x3 : Int) : Run sc 116 0 [some (Rf 52), some (I x1), some (I x2), some (I x3)] [] (hp iv) = aBind (Run sc 115 0 [some (Rf 52), some (I x1), some (I x2), some (I x3), none, none] [] (hp iv)) (fun v h2 => Run sc 116 7 [some (Rf 52), some (I x1), some (I x2), some (I x3)] (pushR v []) h2) :=
  (R_aload_n mc_116 dX7_costs_0 rfl).trans <|
  (R_iload_n mc_116 dX7_costs_1 rfl).trans <|
  (R_iload_n mc_116 dX7_costs_2 rfl).trans <|
  (R_iload_n mc_116 dX7_costs_3 rfl).trans <|
  R_invV mc_116 dX7_costs_4 mo_116 ct_7_96 af_116_115 rfl rfl rfl ⟨Nat.le_of_ble_eq_true rfl, Nat.le_of_ble_eq_true rfl⟩
theorem B_X7_costs_7 (sc : Nat × (Nat → Int)) (iv : Nat → Nat → Int) (x1 : Int) (x2 : Int) (x3 : Int) (s0 : Int) : Run sc 116 7 [some (Rf 52), some (I x1), some (I x2), some (I x3)] [(I s0)] (hp iv) = if (iv 52 2) < s0 then Run sc 116 24 [some (Rf 52), some (I x1), some (I x2), some (I x3)] [] (hp iv) else aBind (Run sc 115 0 [some (Rf 52), some (I x1), some (I x2), some (I x3), none, none] [] (hp iv)) (fun v h2 => Run sc 116 21 [some (Rf 52), some (I x1), some (I x2), some (I x3)] (pushR v []) h2) :=
  (R_aload_n mc_116 dX7_costs_7 rfl).trans <|
  (R_getI mc_116 dX7_costs_8 mo_116 ft_7_7 rfl rfl).trans <|
  (R_icmp_gt mc_116 dX7_costs_11 (t := 24) rfl).trans <| ite_c2
  (rfl)
  ((R_aload_n mc_116 dX7_costs_14 rfl).trans <|
  (R_iload_n mc_116 dX7_costs_15 rfl).trans <|
  (R_iload_n mc_116 dX7_costs_16 rfl).trans <|
  (R_iload_n mc_116 dX7_costs_17 rfl).trans <|
  R_invV mc_116 dX7_costs_18 mo_116 ct_7_96 af_116_115 rfl rfl rfl ⟨Nat.le_of_ble_eq_true rfl, Nat.le_of_ble_eq_true rfl⟩)
theorem B_X7_costs_21 (sc : Nat × (Nat → Int)) (iv : Nat → Nat → Int) (x1 : Int) (x2 : Int) (x3 : Int) (s0 : Int) : Run sc 116 21 [some (Rf 52), some (I x1), some (I x2), some (I x3)] [(I s0)] (hp iv) = Run sc 116 30 [some (Rf 52), some (I x1), some (I x2), some (I x3)] [(I s0)] (hp iv) :=
  R_goto mc_116 dX7_costs_21 (t := 30) rfl
theorem B_X7_costs_24 (sc : Nat × (Nat → Int)) (iv : Nat → Nat → Int) (x1 : Int) (x2 : Int) (x3 : Int) : Run sc 116 24 [some (Rf 52), some (I x1), some (I x2), some (I x3)] [] (hp iv) = chk (2 * (iv 52 3)) (Run sc 116 30 [some (Rf 52), some (I x1), some (I x2), some (I x3)] [(I (2 * (iv 52 3)))] (hp iv)) :=
  (R_iconst mc_116 dX7_costs_24 ⟨by decide, by decide⟩).trans <|
  (R_aload_n mc_116 dX7_costs_25 rfl).trans <|
  (R_getI mc_116 dX7_costs_26 mo_116 ft_7_13 rfl rfl).trans <|
  (R_imul mc_116 dX7_costs_29).trans <| chk_congr <|
  rfl
theorem B_X7_costs_30 (sc : Nat × (Nat → Int)) (iv : Nat → Nat → Int) (x1 : Int) (x2 : Int) (x3 : Int) (s0 : Int) : Run sc 116 30 [some (Rf 52), some (I x1), some (I x2), some (I x3)] [(I s0)] (hp iv) = some (some (I s0), hp iv) :=
  R_ireturn mc_116 dX7_costs_30 rfl
theorem B_X7_layOrder_0 (sc : Nat × (Nat → Int)) (iv : Nat → Nat → Int) (x1 : Int) : Run sc 117 0 [some (Rf 52), some (I x1), none, none, none, none] [] (hp iv) = Run sc 117 2 [some (Rf 52), some (I x1), some (I 0), none, none, none] [] (hp iv) :=
  (R_iconst mc_117 dX7_layOrder_0 ⟨by decide, by decide⟩).trans <|
  R_istore_n mc_117 dX7_layOrder_1 (Nat.le_of_ble_eq_true rfl)
theorem B_X7_layOrder_2 (sc : Nat × (Nat → Int)) (iv : Nat → Nat → Int) (x1 : Int) (x2 : Int) (d3 : Option AV) (d4 : Option AV) (d5 : Option AV) : Run sc 117 2 [some (Rf 52), some (I x1), some (I x2), d3, d4, d5] [] (hp iv) = bck 0 (((7 : Nat) : Int) - 1) x1 (if x2 < (iv 57 (Int.toNat x1)) then bck 0 (((288 : Nat) : Int) - 1) x2 (bck 0 1 0 (Run sc 117 19 [some (Rf 52), some (I x1), some (I x2), d3, d4, d5] [] (hp (setO iv 62 (upI (iv 62) (Int.toNat x2) 0))))) else Run sc 117 25 [some (Rf 52), some (I x1), some (I x2), d3, d4, d5] [] (hp iv)) :=
  (R_iload_n mc_117 dX7_layOrder_2 rfl).trans <|
  (R_aload_n mc_117 dX7_layOrder_3 rfl).trans <|
  (R_getR mc_117 dX7_layOrder_4 mo_117 ft_7_39 rfl rfl (r := 57) rfl (by decide)).trans <|
  (R_iload_n mc_117 dX7_layOrder_7 rfl).trans <|
  (R_iaload mc_117 dX7_layOrder_8 rfl).trans <| bck_congr <|
  (R_icmp_ge mc_117 dX7_layOrder_9 (t := 25) rfl).trans <| ite_c2
  ((R_aload_n mc_117 dX7_layOrder_12 rfl).trans <|
  (R_getR mc_117 dX7_layOrder_13 mo_117 ft_7_54 rfl rfl (r := 62) rfl (by decide)).trans <|
  (R_iload_n mc_117 dX7_layOrder_16 rfl).trans <|
  (R_iconst mc_117 dX7_layOrder_17 ⟨by decide, by decide⟩).trans <|
  (R_bastore mc_117 dX7_layOrder_18 rfl).trans <| bck_congr <| bck_congr <|
  rfl)
  (rfl)
theorem B_X7_layOrder_19 (sc : Nat × (Nat → Int)) (iv : Nat → Nat → Int) (x1 : Int) (x2 : Int) (d3 : Option AV) (d4 : Option AV) (d5 : Option AV) : Run sc 117 19 [some (Rf 52), some (I x1), some (I x2), d3, d4, d5] [] (hp iv) = chk (x2 + 1) (Run sc 117 2 [some (Rf 52), some (I x1), some (I (x2 + 1)), d3, d4, d5] [] (hp iv)) :=
  (R_iinc mc_117 dX7_layOrder_19 rfl).trans <| chk_congr <|
  R_goto mc_117 dX7_layOrder_22 (t := 2) rfl
theorem B_X7_layOrder_25 (sc : Nat × (Nat → Int)) (iv : Nat → Nat → Int) (x1 : Int) (x2 : Int) (d3 : Option AV) (d4 : Option AV) (d5 : Option AV) : Run sc 117 25 [some (Rf 52), some (I x1), some (I x2), d3, d4, d5] [] (hp iv) = Run sc 117 29 [some (Rf 52), some (I x1), some (I 0), some (I 0), d4, d5] [] (hp iv) :=
  (R_iconst mc_117 dX7_layOrder_25 ⟨by decide, by decide⟩).trans <|
  (R_istore_n mc_117 dX7_layOrder_26 (Nat.le_of_ble_eq_true rfl)).trans <|
  (R_iconst mc_117 dX7_layOrder_27 ⟨by decide, by decide⟩).trans <|
  R_istore_n mc_117 dX7_layOrder_28 (Nat.le_of_ble_eq_true rfl)
theorem B_X7_layOrder_29 (sc : Nat × (Nat → Int)) (iv : Nat → Nat → Int) (x1 : Int) (x2 : Int) (x3 : Int) (d4 : Option AV) (d5 : Option AV) : Run sc 117 29 [some (Rf 52), some (I x1), some (I x2), some (I x3), d4, d5] [] (hp iv) = bck 0 (((7 : Nat) : Int) - 1) x1 (if x3 < (iv 57 (Int.toNat x1)) then Run sc 117 46 [some (Rf 52), some (I x1), some (I x2), some (I x3), some (I (-4)), some (I 0)] [] (hp iv) else Run sc 117 138 [some (Rf 52), some (I x1), some (I x2), some (I x3), d4, d5] [] (hp iv)) :=
  (R_iload_n mc_117 dX7_layOrder_29 rfl).trans <|
  (R_aload_n mc_117 dX7_layOrder_30 rfl).trans <|
  (R_getR mc_117 dX7_layOrder_31 mo_117 ft_7_39 rfl rfl (r := 57) rfl (by decide)).trans <|
  (R_iload_n mc_117 dX7_layOrder_34 rfl).trans <|
  (R_iaload mc_117 dX7_layOrder_35 rfl).trans <| bck_congr <|
  (R_icmp_ge mc_117 dX7_layOrder_36 (t := 138) rfl).trans <| ite_c2
  ((R_bipush mc_117 dX7_layOrder_39 ⟨by decide, by decide⟩).trans <|
  (R_istore mc_117 dX7_layOrder_41 (Nat.le_of_ble_eq_true rfl)).trans <|
  (R_iconst mc_117 dX7_layOrder_43 ⟨by decide, by decide⟩).trans <|
  R_istore mc_117 dX7_layOrder_44 (Nat.le_of_ble_eq_true rfl))
  (rfl)
theorem B_X7_layOrder_46 (sc : Nat × (Nat → Int)) (iv : Nat → Nat → Int) (x1 : Int) (x2 : Int) (x3 : Int) (x4 : Int) (x5 : Int) : Run sc 117 46 [some (Rf 52), some (I x1), some (I x2), some (I x3), some (I x4), some (I x5)] [] (hp iv) = bck 0 (((7 : Nat) : Int) - 1) x1 (if x5 < (iv 57 (Int.toNat x1)) then bck 0 (((288 : Nat) : Int) - 1) x5 (if (iv 62 (Int.toNat x5)) = 0 then if x4 < 0 then Run sc 117 91 [some (Rf 52), some (I x1), some (I x2), some (I x3), some (I x4), some (I x5)] [] (hp iv) else aBind (Run sc 115 0 [some (Rf 52), some (I x1), some (I x2), some (I x5), none, none] [] (hp iv)) (fun v h2 => Run sc 117 80 [some (Rf 52), some (I x1), some (I x2), some (I x3), some (I x4), some (I x5)] (pushR v []) h2) else Run sc 117 95 [some (Rf 52), some (I x1), some (I x2), some (I x3), some (I x4), some (I x5)] [] (hp iv)) else Run sc 117 101 [some (Rf 52), some (I x1), some (I x2), some (I x3), some (I x4), some (I x5)] [] (hp iv)) :=
  (R_iload mc_117 dX7_layOrder_46 rfl).trans <|
  (R_aload_n mc_117 dX7_layOrder_48 rfl).trans <|
  (R_getR mc_117 dX7_layOrder_49 mo_117 ft_7_39 rfl rfl (r := 57) rfl (by decide)).trans <|
  (R_iload_n mc_117 dX7_layOrder_52 rfl).trans <|
  (R_iaload mc_117 dX7_layOrder_53 rfl).trans <| bck_congr <|
  (R_icmp_ge mc_117 dX7_layOrder_54 (t := 101) rfl).trans <| ite_c2
  ((R_aload_n mc_117 dX7_layOrder_57 rfl).trans <|
  (R_getR mc_117 dX7_layOrder_58 mo_117 ft_7_54 rfl rfl (r := 62) rfl (by decide)).trans <|
  (R_iload mc_117 dX7_layOrder_61 rfl).trans <|
  (R_baload mc_117 dX7_layOrder_63 rfl).trans <| bck_congr <|
  (R_if_ne mc_117 dX7_layOrder_64 (t := 95) rfl).trans <| ite_c2
  ((R_iload mc_117 dX7_layOrder_67 rfl).trans <|
  (R_if_lt mc_117 dX7_layOrder_69 (t := 91) rfl).trans <| ite_c2
  (rfl)
  ((R_aload_n mc_117 dX7_layOrder_72 rfl).trans <|
  (R_iload_n mc_117 dX7_layOrder_73 rfl).trans <|
  (R_iload_n mc_117 dX7_layOrder_74 rfl).trans <|
  (R_iload mc_117 dX7_layOrder_75 rfl).trans <|
  R_invV mc_117 dX7_layOrder_77 mo_117 ct_7_96 af_117_115 rfl rfl rfl ⟨Nat.le_of_ble_eq_true rfl, Nat.le_of_ble_eq_true rfl⟩))
  (rfl))
  (rfl)
theorem B_X7_layOrder_80 (sc : Nat × (Nat → Int)) (iv : Nat → Nat → Int) (x1 : Int) (x2 : Int) (x3 : Int) (x4 : Int) (x5 : Int) (s0 : Int) : Run sc 117 80 [some (Rf 52), some (I x1), some (I x2), some (I x3), some (I x4), some (I x5)] [(I s0)] (hp iv) = aBind (Run sc 115 0 [some (Rf 52), some (I x1), some (I x2), some (I x4), none, none] [] (hp iv)) (fun v h2 => Run sc 117 88 [some (Rf 52), some (I x1), some (I x2), some (I x3), some (I x4), some (I x5)] (pushR v [(I s0)]) h2) :=
  (R_aload_n mc_117 dX7_layOrder_80 rfl).trans <|
  (R_iload_n mc_117 dX7_layOrder_81 rfl).trans <|
  (R_iload_n mc_117 dX7_layOrder_82 rfl).trans <|
  (R_iload mc_117 dX7_layOrder_83 rfl).trans <|
  R_invV mc_117 dX7_layOrder_85 mo_117 ct_7_96 af_117_115 rfl rfl rfl ⟨Nat.le_of_ble_eq_true rfl, Nat.le_of_ble_eq_true rfl⟩
theorem B_X7_layOrder_88 (sc : Nat × (Nat → Int)) (iv : Nat → Nat → Int) (x1 : Int) (x2 : Int) (x3 : Int) (x4 : Int) (x5 : Int) (s0 : Int) (s1 : Int) : Run sc 117 88 [some (Rf 52), some (I x1), some (I x2), some (I x3), some (I x4), some (I x5)] [(I s0), (I s1)] (hp iv) = if s1 < s0 then Run sc 117 91 [some (Rf 52), some (I x1), some (I x2), some (I x3), some (I x4), some (I x5)] [] (hp iv) else Run sc 117 95 [some (Rf 52), some (I x1), some (I x2), some (I x3), some (I x4), some (I x5)] [] (hp iv) :=
  R_icmp_ge mc_117 dX7_layOrder_88 (t := 95) rfl
theorem B_X7_layOrder_91 (sc : Nat × (Nat → Int)) (iv : Nat → Nat → Int) (x1 : Int) (x2 : Int) (x3 : Int) (x4 : Int) (x5 : Int) : Run sc 117 91 [some (Rf 52), some (I x1), some (I x2), some (I x3), some (I x4), some (I x5)] [] (hp iv) = Run sc 117 95 [some (Rf 52), some (I x1), some (I x2), some (I x3), some (I x5), some (I x5)] [] (hp iv) :=
  (R_iload mc_117 dX7_layOrder_91 rfl).trans <|
  R_istore mc_117 dX7_layOrder_93 (Nat.le_of_ble_eq_true rfl)
theorem B_X7_layOrder_95 (sc : Nat × (Nat → Int)) (iv : Nat → Nat → Int) (x1 : Int) (x2 : Int) (x3 : Int) (x4 : Int) (x5 : Int) : Run sc 117 95 [some (Rf 52), some (I x1), some (I x2), some (I x3), some (I x4), some (I x5)] [] (hp iv) = chk (x5 + 1) (Run sc 117 46 [some (Rf 52), some (I x1), some (I x2), some (I x3), some (I x4), some (I (x5 + 1))] [] (hp iv)) :=
  (R_iinc mc_117 dX7_layOrder_95 rfl).trans <| chk_congr <|
  R_goto mc_117 dX7_layOrder_98 (t := 46) rfl
theorem B_X7_layOrder_101 (sc : Nat × (Nat → Int)) (iv : Nat → Nat → Int) (x1 : Int) (x2 : Int) (x3 : Int) (x4 : Int) (x5 : Int) : Run sc 117 101 [some (Rf 52), some (I x1), some (I x2), some (I x3), some (I x4), some (I x5)] [] (hp iv) = if x3 = 0 then Run sc 117 111 [some (Rf 52), some (I x1), some (I x2), some (I x3), some (I x4), some (I x5)] [(I 0)] (hp iv) else Run sc 117 109 [some (Rf 52), some (I x1), some (I x2), some (I x3), some (I x4), some (I x5)] [] (hp iv) :=
  (R_iload_n mc_117 dX7_layOrder_101 rfl).trans <|
  (R_if_ne mc_117 dX7_layOrder_102 (t := 109) rfl).trans <| ite_c2
  ((R_iconst mc_117 dX7_layOrder_105 ⟨by decide, by decide⟩).trans <|
  R_goto mc_117 dX7_layOrder_106 (t := 111) rfl)
  (rfl)
theorem B_X7_layOrder_109 (sc : Nat × (Nat → Int)) (iv : Nat → Nat → Int) (x1 : Int) (x2 : Int) (x3 : Int) (x4 : Int) (x5 : Int) : Run sc 117 109 [some (Rf 52), some (I x1), some (I x2), some (I x3), some (I x4), some (I x5)] [] (hp iv) = Run sc 117 111 [some (Rf 52), some (I x1), some (I x2), some (I x3), some (I x4), some (I x5)] [(I x4)] (hp iv) :=
  R_iload mc_117 dX7_layOrder_109 rfl
theorem B_X7_layOrder_111 (sc : Nat × (Nat → Int)) (iv : Nat → Nat → Int) (x1 : Int) (x2 : Int) (x3 : Int) (x4 : Int) (x5 : Int) (s0 : Int) : Run sc 117 111 [some (Rf 52), some (I x1), some (I x2), some (I x3), some (I x4), some (I x5)] [(I s0)] (hp iv) = chk (288 * x1) (chk ((288 * x1) + x3) (bck 0 (((2016 : Nat) : Int) - 1) ((288 * x1) + x3) (bck (-2147483648) 2147483647 s0 (Run sc 117 125 [some (Rf 52), some (I x1), some (I s0), some (I x3), some (I x4), some (I x5)] [] (hp (setO iv 61 (upI (iv 61) (Int.toNat ((288 * x1) + x3)) s0))))))) :=
  (R_istore_n mc_117 dX7_layOrder_111 (Nat.le_of_ble_eq_true rfl)).trans <|
  (R_aload_n mc_117 dX7_layOrder_112 rfl).trans <|
  (R_getR mc_117 dX7_layOrder_113 mo_117 ft_7_51 rfl rfl (r := 61) rfl (by decide)).trans <|
  (R_sipush mc_117 dX7_layOrder_116 ⟨by decide, by decide⟩).trans <|
  (R_iload_n mc_117 dX7_layOrder_119 rfl).trans <|
  (R_imul mc_117 dX7_layOrder_120).trans <| chk_congr <|
  (R_iload_n mc_117 dX7_layOrder_121 rfl).trans <|
  (R_iadd mc_117 dX7_layOrder_122).trans <| chk_congr <|
  (R_iload_n mc_117 dX7_layOrder_123 rfl).trans <|
  (R_iastore mc_117 dX7_layOrder_124 rfl).trans <| bck_congr <| bck_congr <|
  rfl
theorem B_X7_layOrder_125 (sc : Nat × (Nat → Int)) (iv : Nat → Nat → Int) (x1 : Int) (x2 : Int) (x3 : Int) (x4 : Int) (x5 : Int) : Run sc 117 125 [some (Rf 52), some (I x1), some (I x2), some (I x3), some (I x4), some (I x5)] [] (hp iv) = bck 0 (((288 : Nat) : Int) - 1) x2 (bck 0 1 1 (Run sc 117 132 [some (Rf 52), some (I x1), some (I x2), some (I x3), some (I x4), some (I x5)] [] (hp (setO iv 62 (upI (iv 62) (Int.toNat x2) 1))))) :=
  (R_aload_n mc_117 dX7_layOrder_125 rfl).trans <|
  (R_getR mc_117 dX7_layOrder_126 mo_117 ft_7_54 rfl rfl (r := 62) rfl (by decide)).trans <|
  (R_iload_n mc_117 dX7_layOrder_129 rfl).trans <|
  (R_iconst mc_117 dX7_layOrder_130 ⟨by decide, by decide⟩).trans <|
  (R_bastore mc_117 dX7_layOrder_131 rfl).trans <| bck_congr <| bck_congr <|
  rfl
theorem B_X7_layOrder_132 (sc : Nat × (Nat → Int)) (iv : Nat → Nat → Int) (x1 : Int) (x2 : Int) (x3 : Int) (x4 : Int) (x5 : Int) : Run sc 117 132 [some (Rf 52), some (I x1), some (I x2), some (I x3), some (I x4), some (I x5)] [] (hp iv) = chk (x3 + 1) (Run sc 117 29 [some (Rf 52), some (I x1), some (I x2), some (I (x3 + 1)), some (I x4), some (I x5)] [] (hp iv)) :=
  (R_iinc mc_117 dX7_layOrder_132 rfl).trans <| chk_congr <|
  R_goto mc_117 dX7_layOrder_135 (t := 29) rfl
theorem B_X7_layOrder_138 (sc : Nat × (Nat → Int)) (iv : Nat → Nat → Int) (x1 : Int) (x2 : Int) (x3 : Int) (d4 : Option AV) (d5 : Option AV) : Run sc 117 138 [some (Rf 52), some (I x1), some (I x2), some (I x3), d4, d5] [] (hp iv) = some (none, hp iv) :=
  R_return mc_117 dX7_layOrder_138 rfl
theorem B_X7_placed_0 (sc : Nat × (Nat → Int)) (iv : Nat → Nat → Int) (x1 : Int) (x2 : Int) : Run sc 118 0 [some (Rf 52), some (I x1), some (I x2)] [] (hp iv) = chk (288 * x1) (chk ((288 * x1) + x2) (bck 0 (((2016 : Nat) : Int) - 1) ((288 * x1) + x2) (some (some (I (iv 61 (Int.toNat ((288 * x1) + x2)))), hp iv)))) :=
  (R_aload_n mc_118 dX7_placed_0 rfl).trans <|
  (R_getR mc_118 dX7_placed_1 mo_118 ft_7_51 rfl rfl (r := 61) rfl (by decide)).trans <|
  (R_sipush mc_118 dX7_placed_4 ⟨by decide, by decide⟩).trans <|
  (R_iload_n mc_118 dX7_placed_7 rfl).trans <|
  (R_imul mc_118 dX7_placed_8).trans <| chk_congr <|
  (R_iload_n mc_118 dX7_placed_9 rfl).trans <|
  (R_iadd mc_118 dX7_placed_10).trans <| chk_congr <|
  (R_iaload mc_118 dX7_placed_11 rfl).trans <| bck_congr <|
  R_ireturn mc_118 dX7_placed_12 rfl
theorem B_X7_threadOf_0 (sc : Nat × (Nat → Int)) (iv : Nat → Nat → Int) (x1 : Int) : Run sc 119 0 [some (Rf 52), some (I x1), none, none, none] [] (hp iv) = bck 0 (((7 : Nat) : Int) - 1) x1 (if (iv 57 (Int.toNat x1)) = 0 then Run sc 119 21 [some (Rf 52), some (I x1), some (I (iv 57 (Int.toNat x1))), none, none] [(I 0)] (hp iv) else Run sc 119 15 [some (Rf 52), some (I x1), some (I (iv 57 (Int.toNat x1))), none, none] [] (hp iv)) :=
  (R_aload_n mc_119 dX7_threadOf_0 rfl).trans <|
  (R_getR mc_119 dX7_threadOf_1 mo_119 ft_7_39 rfl rfl (r := 57) rfl (by decide)).trans <|
  (R_iload_n mc_119 dX7_threadOf_4 rfl).trans <|
  (R_iaload mc_119 dX7_threadOf_5 rfl).trans <| bck_congr <|
  (R_istore_n mc_119 dX7_threadOf_6 (Nat.le_of_ble_eq_true rfl)).trans <|
  (R_iload_n mc_119 dX7_threadOf_7 rfl).trans <|
  (R_if_ne mc_119 dX7_threadOf_8 (t := 15) rfl).trans <| ite_c2
  ((R_iconst mc_119 dX7_threadOf_11 ⟨by decide, by decide⟩).trans <|
  R_goto mc_119 dX7_threadOf_12 (t := 21) rfl)
  (rfl)
theorem B_X7_threadOf_15 (sc : Nat × (Nat → Int)) (iv : Nat → Nat → Int) (x1 : Int) (x2 : Int) (d3 : Option AV) (d4 : Option AV) : Run sc 119 15 [some (Rf 52), some (I x1), some (I x2), d3, d4] [] (hp iv) = chk (2 * (iv 52 3)) (Run sc 119 21 [some (Rf 52), some (I x1), some (I x2), d3, d4] [(I (2 * (iv 52 3)))] (hp iv)) :=
  (R_iconst mc_119 dX7_threadOf_15 ⟨by decide, by decide⟩).trans <|
  (R_aload_n mc_119 dX7_threadOf_16 rfl).trans <|
  (R_getI mc_119 dX7_threadOf_17 mo_119 ft_7_13 rfl rfl).trans <|
  (R_imul mc_119 dX7_threadOf_20).trans <| chk_congr <|
  rfl
theorem B_X7_threadOf_21 (sc : Nat × (Nat → Int)) (iv : Nat → Nat → Int) (x1 : Int) (x2 : Int) (d3 : Option AV) (d4 : Option AV) (s0 : Int) : Run sc 119 21 [some (Rf 52), some (I x1), some (I x2), d3, d4] [(I s0)] (hp iv) = Run sc 119 25 [some (Rf 52), some (I x1), some (I x2), some (I s0), some (I 0)] [] (hp iv) :=
  (R_istore_n mc_119 dX7_threadOf_21 (Nat.le_of_ble_eq_true rfl)).trans <|
  (R_iconst mc_119 dX7_threadOf_22 ⟨by decide, by decide⟩).trans <|
  R_istore mc_119 dX7_threadOf_23 (Nat.le_of_ble_eq_true rfl)
theorem B_X7_threadOf_25 (sc : Nat × (Nat → Int)) (iv : Nat → Nat → Int) (x1 : Int) (x2 : Int) (x3 : Int) (x4 : Int) : Run sc 119 25 [some (Rf 52), some (I x1), some (I x2), some (I x3), some (I x4)] [] (hp iv) = if x4 < x2 then chk (288 * x1) (chk ((288 * x1) + x4) (bck 0 (((2016 : Nat) : Int) - 1) ((288 * x1) + x4) (chk (48 * (iv 60 (Int.toNat ((288 * x1) + x4)))) (if 0 < x4 then chk (x4 - 1) (aBind (Run sc 118 0 [some (Rf 52), some (I x1), some (I (x4 - 1))] [] (hp iv)) (fun v h2 => Run sc 119 64 [some (Rf 52), some (I x1), some (I x2), some (I x3), some (I x4)] (pushR v [(I x1), (Rf 52), (I (48 * (iv 60 (Int.toNat ((288 * x1) + x4))))), (I x3)]) h2)) else Run sc 119 77 [some (Rf 52), some (I x1), some (I x2), some (I x3), some (I x4)] [(I (48 * (iv 60 (Int.toNat ((288 * x1) + x4))))), (I x3)] (hp iv))))) else Run sc 119 87 [some (Rf 52), some (I x1), some (I x2), some (I x3), some (I x4)] [] (hp iv) :=
  (R_iload mc_119 dX7_threadOf_25 rfl).trans <|
  (R_iload_n mc_119 dX7_threadOf_27 rfl).trans <|
  (R_icmp_ge mc_119 dX7_threadOf_28 (t := 87) rfl).trans <| ite_c2
  ((R_iload_n mc_119 dX7_threadOf_31 rfl).trans <|
  (R_bipush mc_119 dX7_threadOf_32 ⟨by decide, by decide⟩).trans <|
  (R_aload_n mc_119 dX7_threadOf_34 rfl).trans <|
  (R_getR mc_119 dX7_threadOf_35 mo_119 ft_7_48 rfl rfl (r := 60) rfl (by decide)).trans <|
  (R_sipush mc_119 dX7_threadOf_38 ⟨by decide, by decide⟩).trans <|
  (R_iload_n mc_119 dX7_threadOf_41 rfl).trans <|
  (R_imul mc_119 dX7_threadOf_42).trans <| chk_congr <|
  (R_iload mc_119 dX7_threadOf_43 rfl).trans <|
  (R_iadd mc_119 dX7_threadOf_45).trans <| chk_congr <|
  (R_iaload mc_119 dX7_threadOf_46 rfl).trans <| bck_congr <|
  (R_imul mc_119 dX7_threadOf_47).trans <| chk_congr <|
  (R_iload mc_119 dX7_threadOf_48 rfl).trans <|
  (R_if_le mc_119 dX7_threadOf_50 (t := 77) rfl).trans <| ite_c2
  ((R_aload_n mc_119 dX7_threadOf_53 rfl).trans <|
  (R_iload_n mc_119 dX7_threadOf_54 rfl).trans <|
  (R_aload_n mc_119 dX7_threadOf_55 rfl).trans <|
  (R_iload_n mc_119 dX7_threadOf_56 rfl).trans <|
  (R_iload mc_119 dX7_threadOf_57 rfl).trans <|
  (R_iconst mc_119 dX7_threadOf_59 ⟨by decide, by decide⟩).trans <|
  (R_isub mc_119 dX7_threadOf_60).trans <| chk_congr <|
  R_invV mc_119 dX7_threadOf_61 mo_119 ct_7_100 af_119_118 rfl rfl rfl ⟨Nat.le_of_ble_eq_true rfl, Nat.le_of_ble_eq_true rfl⟩)
  (rfl))
  (rfl)
theorem B_X7_threadOf_64 (sc : Nat × (Nat → Int)) (iv : Nat → Nat → Int) (x1 : Int) (x2 : Int) (x3 : Int) (x4 : Int) (s0 : Int) (s1 : Int) (s3 : Int) (s4 : Int) : Run sc 119 64 [some (Rf 52), some (I x1), some (I x2), some (I x3), some (I x4)] [(I s0), (I s1), (Rf 52), (I s3), (I s4)] (hp iv) = aBind (Run sc 118 0 [some (Rf 52), some (I x1), some (I x4)] [] (hp iv)) (fun v h2 => Run sc 119 71 [some (Rf 52), some (I x1), some (I x2), some (I x3), some (I x4)] (pushR v [(I s0), (I s1), (Rf 52), (I s3), (I s4)]) h2) :=
  (R_aload_n mc_119 dX7_threadOf_64 rfl).trans <|
  (R_iload_n mc_119 dX7_threadOf_65 rfl).trans <|
  (R_iload mc_119 dX7_threadOf_66 rfl).trans <|
  R_invV mc_119 dX7_threadOf_68 mo_119 ct_7_100 af_119_118 rfl rfl rfl ⟨Nat.le_of_ble_eq_true rfl, Nat.le_of_ble_eq_true rfl⟩
theorem B_X7_threadOf_71 (sc : Nat × (Nat → Int)) (iv : Nat → Nat → Int) (x1 : Int) (x2 : Int) (x3 : Int) (x4 : Int) (s0 : Int) (s1 : Int) (s2 : Int) (s4 : Int) (s5 : Int) : Run sc 119 71 [some (Rf 52), some (I x1), some (I x2), some (I x3), some (I x4)] [(I s0), (I s1), (I s2), (Rf 52), (I s4), (I s5)] (hp iv) = aBind (Run sc 116 0 [some (Rf 52), some (I s2), some (I s1), some (I s0)] [] (hp iv)) (fun v h2 => Run sc 119 74 [some (Rf 52), some (I x1), some (I x2), some (I x3), some (I x4)] (pushR v [(I s4), (I s5)]) h2) :=
  R_invV mc_119 dX7_threadOf_71 mo_119 ct_7_103 af_119_116 rfl rfl rfl ⟨Nat.le_of_ble_eq_true rfl, Nat.le_of_ble_eq_true rfl⟩
theorem B_X7_threadOf_74 (sc : Nat × (Nat → Int)) (iv : Nat → Nat → Int) (x1 : Int) (x2 : Int) (x3 : Int) (x4 : Int) (s0 : Int) (s1 : Int) (s2 : Int) : Run sc 119 74 [some (Rf 52), some (I x1), some (I x2), some (I x3), some (I x4)] [(I s0), (I s1), (I s2)] (hp iv) = Run sc 119 78 [some (Rf 52), some (I x1), some (I x2), some (I x3), some (I x4)] [(I s0), (I s1), (I s2)] (hp iv) :=
  R_goto mc_119 dX7_threadOf_74 (t := 78) rfl
theorem B_X7_threadOf_77 (sc : Nat × (Nat → Int)) (iv : Nat → Nat → Int) (x1 : Int) (x2 : Int) (x3 : Int) (x4 : Int) (s0 : Int) (s1 : Int) : Run sc 119 77 [some (Rf 52), some (I x1), some (I x2), some (I x3), some (I x4)] [(I s0), (I s1)] (hp iv) = Run sc 119 78 [some (Rf 52), some (I x1), some (I x2), some (I x3), some (I x4)] [(I 0), (I s0), (I s1)] (hp iv) :=
  R_iconst mc_119 dX7_threadOf_77 ⟨by decide, by decide⟩
theorem B_X7_threadOf_78 (sc : Nat × (Nat → Int)) (iv : Nat → Nat → Int) (x1 : Int) (x2 : Int) (x3 : Int) (x4 : Int) (s0 : Int) (s1 : Int) (s2 : Int) : Run sc 119 78 [some (Rf 52), some (I x1), some (I x2), some (I x3), some (I x4)] [(I s0), (I s1), (I s2)] (hp iv) = chk (s1 + s0) (chk (s2 + (s1 + s0)) (chk (x4 + 1) (Run sc 119 25 [some (Rf 52), some (I x1), some (I x2), some (I (s2 + (s1 + s0))), some (I (x4 + 1))] [] (hp iv)))) :=
  (R_iadd mc_119 dX7_threadOf_78).trans <| chk_congr <|
  (R_iadd mc_119 dX7_threadOf_79).trans <| chk_congr <|
  (R_istore_n mc_119 dX7_threadOf_80 (Nat.le_of_ble_eq_true rfl)).trans <|
  (R_iinc mc_119 dX7_threadOf_81 rfl).trans <| chk_congr <|
  R_goto mc_119 dX7_threadOf_84 (t := 25) rfl
theorem B_X7_threadOf_87 (sc : Nat × (Nat → Int)) (iv : Nat → Nat → Int) (x1 : Int) (x2 : Int) (x3 : Int) (x4 : Int) : Run sc 119 87 [some (Rf 52), some (I x1), some (I x2), some (I x3), some (I x4)] [] (hp iv) = some (some (I x3), hp iv) :=
  (R_iload_n mc_119 dX7_threadOf_87 rfl).trans <|
  R_ireturn mc_119 dX7_threadOf_88 rfl
theorem B_X7_startsOf_0 (sc : Nat × (Nat → Int)) (iv : Nat → Nat → Int) (x1 : Int) : Run sc 120 0 [some (Rf 52), some (I x1), none, none] [] (hp iv) = bck 0 (((7 : Nat) : Int) - 1) x1 (if (iv 57 (Int.toNat x1)) = 0 then Run sc 120 14 [some (Rf 52), some (I x1), none, none] [(I 0)] (hp iv) else Run sc 120 13 [some (Rf 52), some (I x1), none, none] [] (hp iv)) :=
  (R_aload_n mc_120 dX7_startsOf_0 rfl).trans <|
  (R_getR mc_120 dX7_startsOf_1 mo_120 ft_7_39 rfl rfl (r := 57) rfl (by decide)).trans <|
  (R_iload_n mc_120 dX7_startsOf_4 rfl).trans <|
  (R_iaload mc_120 dX7_startsOf_5 rfl).trans <| bck_congr <|
  (R_if_ne mc_120 dX7_startsOf_6 (t := 13) rfl).trans <| ite_c2
  ((R_iconst mc_120 dX7_startsOf_9 ⟨by decide, by decide⟩).trans <|
  R_goto mc_120 dX7_startsOf_10 (t := 14) rfl)
  (rfl)
theorem B_X7_startsOf_13 (sc : Nat × (Nat → Int)) (iv : Nat → Nat → Int) (x1 : Int) (d2 : Option AV) (d3 : Option AV) : Run sc 120 13 [some (Rf 52), some (I x1), d2, d3] [] (hp iv) = Run sc 120 14 [some (Rf 52), some (I x1), d2, d3] [(I 1)] (hp iv) :=
  R_iconst mc_120 dX7_startsOf_13 ⟨by decide, by decide⟩
theorem B_X7_startsOf_14 (sc : Nat × (Nat → Int)) (iv : Nat → Nat → Int) (x1 : Int) (d2 : Option AV) (d3 : Option AV) (s0 : Int) : Run sc 120 14 [some (Rf 52), some (I x1), d2, d3] [(I s0)] (hp iv) = Run sc 120 17 [some (Rf 52), some (I x1), some (I s0), some (I 1)] [] (hp iv) :=
  (R_istore_n mc_120 dX7_startsOf_14 (Nat.le_of_ble_eq_true rfl)).trans <|
  (R_iconst mc_120 dX7_startsOf_15 ⟨by decide, by decide⟩).trans <|
  R_istore_n mc_120 dX7_startsOf_16 (Nat.le_of_ble_eq_true rfl)
theorem B_X7_startsOf_17 (sc : Nat × (Nat → Int)) (iv : Nat → Nat → Int) (x1 : Int) (x2 : Int) (x3 : Int) : Run sc 120 17 [some (Rf 52), some (I x1), some (I x2), some (I x3)] [] (hp iv) = bck 0 (((7 : Nat) : Int) - 1) x1 (if x3 < (iv 57 (Int.toNat x1)) then chk (x3 - 1) (aBind (Run sc 118 0 [some (Rf 52), some (I x1), some (I (x3 - 1))] [] (hp iv)) (fun v h2 => Run sc 120 38 [some (Rf 52), some (I x1), some (I x2), some (I x3)] (pushR v [(I x1), (Rf 52), (I x2)]) h2)) else Run sc 120 67 [some (Rf 52), some (I x1), some (I x2), some (I x3)] [] (hp iv)) :=
  (R_iload_n mc_120 dX7_startsOf_17 rfl).trans <|
  (R_aload_n mc_120 dX7_startsOf_18 rfl).trans <|
  (R_getR mc_120 dX7_startsOf_19 mo_120 ft_7_39 rfl rfl (r := 57) rfl (by decide)).trans <|
  (R_iload_n mc_120 dX7_startsOf_22 rfl).trans <|
  (R_iaload mc_120 dX7_startsOf_23 rfl).trans <| bck_congr <|
  (R_icmp_ge mc_120 dX7_startsOf_24 (t := 67) rfl).trans <| ite_c2
  ((R_iload_n mc_120 dX7_startsOf_27 rfl).trans <|
  (R_aload_n mc_120 dX7_startsOf_28 rfl).trans <|
  (R_iload_n mc_120 dX7_startsOf_29 rfl).trans <|
  (R_aload_n mc_120 dX7_startsOf_30 rfl).trans <|
  (R_iload_n mc_120 dX7_startsOf_31 rfl).trans <|
  (R_iload_n mc_120 dX7_startsOf_32 rfl).trans <|
  (R_iconst mc_120 dX7_startsOf_33 ⟨by decide, by decide⟩).trans <|
  (R_isub mc_120 dX7_startsOf_34).trans <| chk_congr <|
  R_invV mc_120 dX7_startsOf_35 mo_120 ct_7_100 af_120_118 rfl rfl rfl ⟨Nat.le_of_ble_eq_true rfl, Nat.le_of_ble_eq_true rfl⟩)
  (rfl)
theorem B_X7_startsOf_38 (sc : Nat × (Nat → Int)) (iv : Nat → Nat → Int) (x1 : Int) (x2 : Int) (x3 : Int) (s0 : Int) (s1 : Int) (s3 : Int) : Run sc 120 38 [some (Rf 52), some (I x1), some (I x2), some (I x3)] [(I s0), (I s1), (Rf 52), (I s3)] (hp iv) = aBind (Run sc 118 0 [some (Rf 52), some (I x1), some (I x3)] [] (hp iv)) (fun v h2 => Run sc 120 44 [some (Rf 52), some (I x1), some (I x2), some (I x3)] (pushR v [(I s0), (I s1), (Rf 52), (I s3)]) h2) :=
  (R_aload_n mc_120 dX7_startsOf_38 rfl).trans <|
  (R_iload_n mc_120 dX7_startsOf_39 rfl).trans <|
  (R_iload_n mc_120 dX7_startsOf_40 rfl).trans <|
  R_invV mc_120 dX7_startsOf_41 mo_120 ct_7_100 af_120_118 rfl rfl rfl ⟨Nat.le_of_ble_eq_true rfl, Nat.le_of_ble_eq_true rfl⟩
theorem B_X7_startsOf_44 (sc : Nat × (Nat → Int)) (iv : Nat → Nat → Int) (x1 : Int) (x2 : Int) (x3 : Int) (s0 : Int) (s1 : Int) (s2 : Int) (s4 : Int) : Run sc 120 44 [some (Rf 52), some (I x1), some (I x2), some (I x3)] [(I s0), (I s1), (I s2), (Rf 52), (I s4)] (hp iv) = aBind (Run sc 115 0 [some (Rf 52), some (I s2), some (I s1), some (I s0), none, none] [] (hp iv)) (fun v h2 => Run sc 120 47 [some (Rf 52), some (I x1), some (I x2), some (I x3)] (pushR v [(I s4)]) h2) :=
  R_invV mc_120 dX7_startsOf_44 mo_120 ct_7_96 af_120_115 rfl rfl rfl ⟨Nat.le_of_ble_eq_true rfl, Nat.le_of_ble_eq_true rfl⟩
theorem B_X7_startsOf_47 (sc : Nat × (Nat → Int)) (iv : Nat → Nat → Int) (x1 : Int) (x2 : Int) (x3 : Int) (s0 : Int) (s1 : Int) : Run sc 120 47 [some (Rf 52), some (I x1), some (I x2), some (I x3)] [(I s0), (I s1)] (hp iv) = if (iv 52 2) < s0 then Run sc 120 59 [some (Rf 52), some (I x1), some (I x2), some (I x3)] [(I 1), (I s1)] (hp iv) else Run sc 120 58 [some (Rf 52), some (I x1), some (I x2), some (I x3)] [(I s1)] (hp iv) :=
  (R_aload_n mc_120 dX7_startsOf_47 rfl).trans <|
  (R_getI mc_120 dX7_startsOf_48 mo_120 ft_7_7 rfl rfl).trans <|
  (R_icmp_le mc_120 dX7_startsOf_51 (t := 58) rfl).trans <| ite_c2
  ((R_iconst mc_120 dX7_startsOf_54 ⟨by decide, by decide⟩).trans <|
  R_goto mc_120 dX7_startsOf_55 (t := 59) rfl)
  (rfl)
theorem B_X7_startsOf_58 (sc : Nat × (Nat → Int)) (iv : Nat → Nat → Int) (x1 : Int) (x2 : Int) (x3 : Int) (s0 : Int) : Run sc 120 58 [some (Rf 52), some (I x1), some (I x2), some (I x3)] [(I s0)] (hp iv) = Run sc 120 59 [some (Rf 52), some (I x1), some (I x2), some (I x3)] [(I 0), (I s0)] (hp iv) :=
  R_iconst mc_120 dX7_startsOf_58 ⟨by decide, by decide⟩
theorem B_X7_startsOf_59 (sc : Nat × (Nat → Int)) (iv : Nat → Nat → Int) (x1 : Int) (x2 : Int) (x3 : Int) (s0 : Int) (s1 : Int) : Run sc 120 59 [some (Rf 52), some (I x1), some (I x2), some (I x3)] [(I s0), (I s1)] (hp iv) = chk (s1 + s0) (chk (x3 + 1) (Run sc 120 17 [some (Rf 52), some (I x1), some (I (s1 + s0)), some (I (x3 + 1))] [] (hp iv))) :=
  (R_iadd mc_120 dX7_startsOf_59).trans <| chk_congr <|
  (R_istore_n mc_120 dX7_startsOf_60 (Nat.le_of_ble_eq_true rfl)).trans <|
  (R_iinc mc_120 dX7_startsOf_61 rfl).trans <| chk_congr <|
  R_goto mc_120 dX7_startsOf_64 (t := 17) rfl
theorem B_X7_startsOf_67 (sc : Nat × (Nat → Int)) (iv : Nat → Nat → Int) (x1 : Int) (x2 : Int) (x3 : Int) : Run sc 120 67 [some (Rf 52), some (I x1), some (I x2), some (I x3)] [] (hp iv) = some (some (I x2), hp iv) :=
  (R_iload_n mc_120 dX7_startsOf_67 rfl).trans <|
  R_ireturn mc_120 dX7_startsOf_68 rfl
theorem B_X7_type_0 (sc : Nat × (Nat → Int)) (iv : Nat → Nat → Int) (x1 : Int) : Run sc 121 0 [some (Rf 52), some (I x1)] [] (hp iv) = if (iv 52 17) = 120 then some (some (I (-3)), hp iv) else Run sc 121 12 [some (Rf 52), some (I x1)] [] (hp iv) :=
  (R_aload_n mc_121 dX7_type_0 rfl).trans <|
  (R_getI mc_121 dX7_type_1 mo_121 ft_7_106 rfl rfl).trans <|
  (R_bipush mc_121 dX7_type_4 ⟨by decide, by decide⟩).trans <|
  (R_icmp_ne mc_121 dX7_type_6 (t := 12) rfl).trans <| ite_c2
  ((R_bipush mc_121 dX7_type_9 ⟨by decide, by decide⟩).trans <|
  R_ireturn mc_121 dX7_type_11 rfl)
  (rfl)
theorem B_X7_type_12 (sc : Nat × (Nat → Int)) (iv : Nat → Nat → Int) (x1 : Int) : Run sc 121 12 [some (Rf 52), some (I x1)] [] (hp iv) = bck 0 (((120 : Nat) : Int) - 1) (iv 52 17) (bck 0 65535 x1 (Run sc 121 22 [some (Rf 52), some (I x1)] [] (hp (setO iv 63 (upI (iv 63) (Int.toNat (iv 52 17)) x1))))) :=
  (R_aload_n mc_121 dX7_type_12 rfl).trans <|
  (R_getR mc_121 dX7_type_13 mo_121 ft_7_57 rfl rfl (r := 63) rfl (by decide)).trans <|
  (R_aload_n mc_121 dX7_type_16 rfl).trans <|
  (R_getI mc_121 dX7_type_17 mo_121 ft_7_106 rfl rfl).trans <|
  (R_iload_n mc_121 dX7_type_20 rfl).trans <|
  (R_castore mc_121 dX7_type_21 rfl).trans <| bck_congr <| bck_congr <|
  rfl
theorem B_X7_type_22 (sc : Nat × (Nat → Int)) (iv : Nat → Nat → Int) (x1 : Int) : Run sc 121 22 [some (Rf 52), some (I x1)] [] (hp iv) = chk ((iv 52 17) + 1) (bck (-2147483648) 2147483647 ((iv 52 17) + 1) (Run sc 121 32 [some (Rf 52), some (I x1)] [] (hp (setO iv 52 (upI (iv 52) 17 ((iv 52 17) + 1)))))) :=
  (R_aload_n mc_121 dX7_type_22 rfl).trans <|
  (R_dup mc_121 dX7_type_23).trans <|
  (R_getI mc_121 dX7_type_24 mo_121 ft_7_106 rfl rfl).trans <|
  (R_iconst mc_121 dX7_type_27 ⟨by decide, by decide⟩).trans <|
  (R_iadd mc_121 dX7_type_28).trans <| chk_congr <|
  (R_putI mc_121 dX7_type_29 mo_121 ft_7_106 rfl rfl rfl (lo := (-2147483648)) (hi := 2147483647) rfl rfl).trans <| bck_congr <|
  rfl
theorem B_X7_type_32 (sc : Nat × (Nat → Int)) (iv : Nat → Nat → Int) (x1 : Int) : Run sc 121 32 [some (Rf 52), some (I x1)] [] (hp iv) = some (some (I (iv 52 17)), hp iv) :=
  (R_aload_n mc_121 dX7_type_32 rfl).trans <|
  (R_getI mc_121 dX7_type_33 mo_121 ft_7_106 rfl rfl).trans <|
  R_ireturn mc_121 dX7_type_36 rfl
theorem B_X7_clearText_0 (sc : Nat × (Nat → Int)) (iv : Nat → Nat → Int)  : Run sc 122 0 [some (Rf 52), none] [] (hp iv) = bck (-2147483648) 2147483647 0 (Run sc 122 10 [some (Rf 52), some (I (iv 52 17))] [] (hp (setO iv 52 (upI (iv 52) 17 0)))) :=
  (R_aload_n mc_122 dX7_clearText_0 rfl).trans <|
  (R_getI mc_122 dX7_clearText_1 mo_122 ft_7_106 rfl rfl).trans <|
  (R_istore_n mc_122 dX7_clearText_4 (Nat.le_of_ble_eq_true rfl)).trans <|
  (R_aload_n mc_122 dX7_clearText_5 rfl).trans <|
  (R_iconst mc_122 dX7_clearText_6 ⟨by decide, by decide⟩).trans <|
  (R_putI mc_122 dX7_clearText_7 mo_122 ft_7_106 rfl rfl rfl (lo := (-2147483648)) (hi := 2147483647) rfl rfl).trans <| bck_congr <|
  rfl
theorem B_X7_clearText_10 (sc : Nat × (Nat → Int)) (iv : Nat → Nat → Int) (x1 : Int) : Run sc 122 10 [some (Rf 52), some (I x1)] [] (hp iv) = some (some (I x1), hp iv) :=
  (R_iload_n mc_122 dX7_clearText_10 rfl).trans <|
  R_ireturn mc_122 dX7_clearText_11 rfl
theorem B_X7_isDigit_0 (sc : Nat × (Nat → Int)) (iv : Nat → Nat → Int)  : Run sc 123 0 [some (Rf 52)] [] (hp iv) = if (iv 52 19) < (iv 52 17) then bck 0 (((120 : Nat) : Int) - 1) (iv 52 19) (if (iv 63 (Int.toNat (iv 52 19))) < 48 then Run sc 123 43 [some (Rf 52)] [] (hp iv) else bck 0 (((120 : Nat) : Int) - 1) (iv 52 19) (if 57 < (iv 63 (Int.toNat (iv 52 19))) then Run sc 123 43 [some (Rf 52)] [] (hp iv) else Run sc 123 44 [some (Rf 52)] [(I 1)] (hp iv))) else Run sc 123 43 [some (Rf 52)] [] (hp iv) :=
  (R_aload_n mc_123 dX7_isDigit_0 rfl).trans <|
  (R_getI mc_123 dX7_isDigit_1 mo_123 ft_7_109 rfl rfl).trans <|
  (R_aload_n mc_123 dX7_isDigit_4 rfl).trans <|
  (R_getI mc_123 dX7_isDigit_5 mo_123 ft_7_106 rfl rfl).trans <|
  (R_icmp_ge mc_123 dX7_isDigit_8 (t := 43) rfl).trans <| ite_c2
  ((R_aload_n mc_123 dX7_isDigit_11 rfl).trans <|
  (R_getR mc_123 dX7_isDigit_12 mo_123 ft_7_57 rfl rfl (r := 63) rfl (by decide)).trans <|
  (R_aload_n mc_123 dX7_isDigit_15 rfl).trans <|
  (R_getI mc_123 dX7_isDigit_16 mo_123 ft_7_109 rfl rfl).trans <|
  (R_caload mc_123 dX7_isDigit_19 rfl).trans <| bck_congr <|
  (R_bipush mc_123 dX7_isDigit_20 ⟨by decide, by decide⟩).trans <|
  (R_icmp_lt mc_123 dX7_isDigit_22 (t := 43) rfl).trans <| ite_c2
  (rfl)
  ((R_aload_n mc_123 dX7_isDigit_25 rfl).trans <|
  (R_getR mc_123 dX7_isDigit_26 mo_123 ft_7_57 rfl rfl (r := 63) rfl (by decide)).trans <|
  (R_aload_n mc_123 dX7_isDigit_29 rfl).trans <|
  (R_getI mc_123 dX7_isDigit_30 mo_123 ft_7_109 rfl rfl).trans <|
  (R_caload mc_123 dX7_isDigit_33 rfl).trans <| bck_congr <|
  (R_bipush mc_123 dX7_isDigit_34 ⟨by decide, by decide⟩).trans <|
  (R_icmp_gt mc_123 dX7_isDigit_36 (t := 43) rfl).trans <| ite_c2
  (rfl)
  ((R_iconst mc_123 dX7_isDigit_39 ⟨by decide, by decide⟩).trans <|
  R_goto mc_123 dX7_isDigit_40 (t := 44) rfl)))
  (rfl)
theorem B_X7_isDigit_43 (sc : Nat × (Nat → Int)) (iv : Nat → Nat → Int)  : Run sc 123 43 [some (Rf 52)] [] (hp iv) = Run sc 123 44 [some (Rf 52)] [(I 0)] (hp iv) :=
  R_iconst mc_123 dX7_isDigit_43 ⟨by decide, by decide⟩
theorem B_X7_isDigit_44 (sc : Nat × (Nat → Int)) (iv : Nat → Nat → Int) (s0 : Int) : Run sc 123 44 [some (Rf 52)] [(I s0)] (hp iv) = bck 0 1 s0 (some (some (I s0), hp iv)) :=
  R_ireturnZ mc_123 dX7_isDigit_44 rfl
theorem B_X7_readNumber_0 (sc : Nat × (Nat → Int)) (iv : Nat → Nat → Int)  : Run sc 124 0 [some (Rf 52), none, none] [] (hp iv) = Run sc 124 7 [some (Rf 52), some (I (iv 52 19)), some (I 0)] [] (hp iv) :=
  (R_aload_n mc_124 dX7_readNumber_0 rfl).trans <|
  (R_getI mc_124 dX7_readNumber_1 mo_124 ft_7_109 rfl rfl).trans <|
  (R_istore_n mc_124 dX7_readNumber_4 (Nat.le_of_ble_eq_true rfl)).trans <|
  (R_iconst mc_124 dX7_readNumber_5 ⟨by decide, by decide⟩).trans <|
  R_istore_n mc_124 dX7_readNumber_6 (Nat.le_of_ble_eq_true rfl)
theorem B_X7_readNumber_7 (sc : Nat × (Nat → Int)) (iv : Nat → Nat → Int) (x1 : Int) (x2 : Int) : Run sc 124 7 [some (Rf 52), some (I x1), some (I x2)] [] (hp iv) = chk (x1 + 2) (if (iv 52 19) < (x1 + 2) then aBind (Run sc 123 0 [some (Rf 52)] [] (hp iv)) (fun v h2 => Run sc 124 21 [some (Rf 52), some (I x1), some (I x2)] (pushR v []) h2) else Run sc 124 55 [some (Rf 52), some (I x1), some (I x2)] [] (hp iv)) :=
  (R_aload_n mc_124 dX7_readNumber_7 rfl).trans <|
  (R_getI mc_124 dX7_readNumber_8 mo_124 ft_7_109 rfl rfl).trans <|
  (R_iload_n mc_124 dX7_readNumber_11 rfl).trans <|
  (R_iconst mc_124 dX7_readNumber_12 ⟨by decide, by decide⟩).trans <|
  (R_iadd mc_124 dX7_readNumber_13).trans <| chk_congr <|
  (R_icmp_ge mc_124 dX7_readNumber_14 (t := 55) rfl).trans <| ite_c2
  ((R_aload_n mc_124 dX7_readNumber_17 rfl).trans <|
  R_invV mc_124 dX7_readNumber_18 mo_124 ct_7_112 af_124_123 rfl rfl rfl ⟨Nat.le_of_ble_eq_true rfl, Nat.le_of_ble_eq_true rfl⟩)
  (rfl)
theorem B_X7_readNumber_21 (sc : Nat × (Nat → Int)) (iv : Nat → Nat → Int) (x1 : Int) (x2 : Int) (s0 : Int) : Run sc 124 21 [some (Rf 52), some (I x1), some (I x2)] [(I s0)] (hp iv) = if s0 = 0 then Run sc 124 55 [some (Rf 52), some (I x1), some (I x2)] [] (hp iv) else chk (10 * x2) (bck 0 (((120 : Nat) : Int) - 1) (iv 52 19) (chk ((10 * x2) + (iv 63 (Int.toNat (iv 52 19)))) (chk (((10 * x2) + (iv 63 (Int.toNat (iv 52 19)))) - 48) (chk ((iv 52 19) + 1) (bck (-2147483648) 2147483647 ((iv 52 19) + 1) (Run sc 124 52 [some (Rf 52), some (I x1), some (I (((10 * x2) + (iv 63 (Int.toNat (iv 52 19)))) - 48))] [] (hp (setO iv 52 (upI (iv 52) 19 ((iv 52 19) + 1)))))))))) :=
  (R_if_eq mc_124 dX7_readNumber_21 (t := 55) rfl).trans <| ite_c2
  (rfl)
  ((R_bipush mc_124 dX7_readNumber_24 ⟨by decide, by decide⟩).trans <|
  (R_iload_n mc_124 dX7_readNumber_26 rfl).trans <|
  (R_imul mc_124 dX7_readNumber_27).trans <| chk_congr <|
  (R_aload_n mc_124 dX7_readNumber_28 rfl).trans <|
  (R_getR mc_124 dX7_readNumber_29 mo_124 ft_7_57 rfl rfl (r := 63) rfl (by decide)).trans <|
  (R_aload_n mc_124 dX7_readNumber_32 rfl).trans <|
  (R_getI mc_124 dX7_readNumber_33 mo_124 ft_7_109 rfl rfl).trans <|
  (R_caload mc_124 dX7_readNumber_36 rfl).trans <| bck_congr <|
  (R_iadd mc_124 dX7_readNumber_37).trans <| chk_congr <|
  (R_bipush mc_124 dX7_readNumber_38 ⟨by decide, by decide⟩).trans <|
  (R_isub mc_124 dX7_readNumber_40).trans <| chk_congr <|
  (R_istore_n mc_124 dX7_readNumber_41 (Nat.le_of_ble_eq_true rfl)).trans <|
  (R_aload_n mc_124 dX7_readNumber_42 rfl).trans <|
  (R_dup mc_124 dX7_readNumber_43).trans <|
  (R_getI mc_124 dX7_readNumber_44 mo_124 ft_7_109 rfl rfl).trans <|
  (R_iconst mc_124 dX7_readNumber_47 ⟨by decide, by decide⟩).trans <|
  (R_iadd mc_124 dX7_readNumber_48).trans <| chk_congr <|
  (R_putI mc_124 dX7_readNumber_49 mo_124 ft_7_109 rfl rfl rfl (lo := (-2147483648)) (hi := 2147483647) rfl rfl).trans <| bck_congr <|
  rfl)
theorem B_X7_readNumber_52 (sc : Nat × (Nat → Int)) (iv : Nat → Nat → Int) (x1 : Int) (x2 : Int) : Run sc 124 52 [some (Rf 52), some (I x1), some (I x2)] [] (hp iv) = Run sc 124 7 [some (Rf 52), some (I x1), some (I x2)] [] (hp iv) :=
  R_goto mc_124 dX7_readNumber_52 (t := 7) rfl
theorem B_X7_readNumber_55 (sc : Nat × (Nat → Int)) (iv : Nat → Nat → Int) (x1 : Int) (x2 : Int) : Run sc 124 55 [some (Rf 52), some (I x1), some (I x2)] [] (hp iv) = if (iv 52 19) = x1 then some (some (I 1), hp iv) else Run sc 124 65 [some (Rf 52), some (I x1), some (I x2)] [] (hp iv) :=
  (R_aload_n mc_124 dX7_readNumber_55 rfl).trans <|
  (R_getI mc_124 dX7_readNumber_56 mo_124 ft_7_109 rfl rfl).trans <|
  (R_iload_n mc_124 dX7_readNumber_59 rfl).trans <|
  (R_icmp_ne mc_124 dX7_readNumber_60 (t := 65) rfl).trans <| ite_c2
  ((R_iconst mc_124 dX7_readNumber_63 ⟨by decide, by decide⟩).trans <|
  R_ireturn mc_124 dX7_readNumber_64 rfl)
  (rfl)
theorem B_X7_readNumber_65 (sc : Nat × (Nat → Int)) (iv : Nat → Nat → Int) (x1 : Int) (x2 : Int) : Run sc 124 65 [some (Rf 52), some (I x1), some (I x2)] [] (hp iv) = aBind (Run sc 123 0 [some (Rf 52)] [] (hp iv)) (fun v h2 => Run sc 124 69 [some (Rf 52), some (I x1), some (I x2)] (pushR v []) h2) :=
  (R_aload_n mc_124 dX7_readNumber_65 rfl).trans <|
  R_invV mc_124 dX7_readNumber_66 mo_124 ct_7_112 af_124_123 rfl rfl rfl ⟨Nat.le_of_ble_eq_true rfl, Nat.le_of_ble_eq_true rfl⟩
theorem B_X7_readNumber_69 (sc : Nat × (Nat → Int)) (iv : Nat → Nat → Int) (x1 : Int) (x2 : Int) (s0 : Int) : Run sc 124 69 [some (Rf 52), some (I x1), some (I x2)] [(I s0)] (hp iv) = if s0 = 0 then Run sc 124 80 [some (Rf 52), some (I x1), some (I x2)] [] (hp iv) else bck 0 1 0 (Run sc 124 77 [some (Rf 52), some (I x1), some (I x2)] [] (hp (setO iv 52 (upI (iv 52) 20 0)))) :=
  (R_if_eq mc_124 dX7_readNumber_69 (t := 80) rfl).trans <| ite_c2
  (rfl)
  ((R_aload_n mc_124 dX7_readNumber_72 rfl).trans <|
  (R_iconst mc_124 dX7_readNumber_73 ⟨by decide, by decide⟩).trans <|
  (R_putI mc_124 dX7_readNumber_74 mo_124 ft_7_116 rfl rfl rfl (lo := 0) (hi := 1) rfl rfl).trans <| bck_congr <|
  rfl)
theorem B_X7_readNumber_77 (sc : Nat × (Nat → Int)) (iv : Nat → Nat → Int) (x1 : Int) (x2 : Int) : Run sc 124 77 [some (Rf 52), some (I x1), some (I x2)] [] (hp iv) = Run sc 124 100 [some (Rf 52), some (I x1), some (I x2)] [] (hp iv) :=
  R_goto mc_124 dX7_readNumber_77 (t := 100) rfl
theorem B_X7_readNumber_80 (sc : Nat × (Nat → Int)) (iv : Nat → Nat → Int) (x1 : Int) (x2 : Int) : Run sc 124 80 [some (Rf 52), some (I x1), some (I x2)] [] (hp iv) = aBind (Run sc 109 0 [some (I x2), some (I 1), some (I 24)] [] (hp iv)) (fun v h2 => Run sc 124 87 [some (Rf 52), some (I x1), some (I x2)] (pushR v []) h2) :=
  (R_iload_n mc_124 dX7_readNumber_80 rfl).trans <|
  (R_iconst mc_124 dX7_readNumber_81 ⟨by decide, by decide⟩).trans <|
  (R_bipush mc_124 dX7_readNumber_82 ⟨by decide, by decide⟩).trans <|
  R_invS mc_124 dX7_readNumber_84 mo_124 ct_7_81 (Or.inl rfl) af_124_109 (Nat.le_of_ble_eq_true rfl) rfl rfl ⟨Nat.le_of_ble_eq_true rfl, Nat.le_of_ble_eq_true rfl⟩
theorem B_X7_readNumber_87 (sc : Nat × (Nat → Int)) (iv : Nat → Nat → Int) (x1 : Int) (x2 : Int) (s0 : Int) : Run sc 124 87 [some (Rf 52), some (I x1), some (I x2)] [(I s0)] (hp iv) = if s0 = 0 then bck 0 1 0 (Run sc 124 95 [some (Rf 52), some (I x1), some (I x2)] [] (hp (setO iv 52 (upI (iv 52) 20 0)))) else Run sc 124 100 [some (Rf 52), some (I x1), some (I x2)] [] (hp iv) :=
  (R_if_ne mc_124 dX7_readNumber_87 (t := 100) rfl).trans <| ite_c2
  ((R_aload_n mc_124 dX7_readNumber_90 rfl).trans <|
  (R_iconst mc_124 dX7_readNumber_91 ⟨by decide, by decide⟩).trans <|
  (R_putI mc_124 dX7_readNumber_92 mo_124 ft_7_116 rfl rfl rfl (lo := 0) (hi := 1) rfl rfl).trans <| bck_congr <|
  rfl)
  (rfl)
theorem B_X7_readNumber_95 (sc : Nat × (Nat → Int)) (iv : Nat → Nat → Int) (x1 : Int) (x2 : Int) : Run sc 124 95 [some (Rf 52), some (I x1), some (I x2)] [] (hp iv) = bck (-2147483648) 2147483647 x1 (Run sc 124 100 [some (Rf 52), some (I x1), some (I x2)] [] (hp (setO iv 52 (upI (iv 52) 19 x1)))) :=
  (R_aload_n mc_124 dX7_readNumber_95 rfl).trans <|
  (R_iload_n mc_124 dX7_readNumber_96 rfl).trans <|
  (R_putI mc_124 dX7_readNumber_97 mo_124 ft_7_109 rfl rfl rfl (lo := (-2147483648)) (hi := 2147483647) rfl rfl).trans <| bck_congr <|
  rfl
theorem B_X7_readNumber_100 (sc : Nat × (Nat → Int)) (iv : Nat → Nat → Int) (x1 : Int) (x2 : Int) : Run sc 124 100 [some (Rf 52), some (I x1), some (I x2)] [] (hp iv) = some (some (I x2), hp iv) :=
  (R_iload_n mc_124 dX7_readNumber_100 rfl).trans <|
  R_ireturn mc_124 dX7_readNumber_101 rfl
theorem B_X7_readEntry_0 (sc : Nat × (Nat → Int)) (iv : Nat → Nat → Int)  : Run sc 125 0 [some (Rf 52), none, none, none, none] [] (hp iv) = aBind (Run sc 124 0 [some (Rf 52), none, none] [] (hp iv)) (fun v h2 => Run sc 125 4 [some (Rf 52), none, none, none, none] (pushR v []) h2) :=
  (R_aload_n mc_125 dX7_readEntry_0 rfl).trans <|
  R_invV mc_125 dX7_readEntry_1 mo_125 ct_7_120 af_125_124 rfl rfl rfl ⟨Nat.le_of_ble_eq_true rfl, Nat.le_of_ble_eq_true rfl⟩
theorem B_X7_readEntry_4 (sc : Nat × (Nat → Int)) (iv : Nat → Nat → Int) (d1 : Option AV) (d2 : Option AV) (d3 : Option AV) (d4 : Option AV) (s0 : Int) : Run sc 125 4 [some (Rf 52), d1, d2, d3, d4] [(I s0)] (hp iv) = if (iv 52 20) = 0 then some (none, hp iv) else Run sc 125 13 [some (Rf 52), some (I s0), d2, d3, d4] [] (hp iv) :=
  (R_istore_n mc_125 dX7_readEntry_4 (Nat.le_of_ble_eq_true rfl)).trans <|
  (R_aload_n mc_125 dX7_readEntry_5 rfl).trans <|
  (R_getI mc_125 dX7_readEntry_6 mo_125 ft_7_116 rfl rfl).trans <|
  (R_if_ne mc_125 dX7_readEntry_9 (t := 13) rfl).trans <| ite_c2
  (R_return mc_125 dX7_readEntry_12 rfl)
  (rfl)
theorem B_X7_readEntry_13 (sc : Nat × (Nat → Int)) (iv : Nat → Nat → Int) (x1 : Int) (d2 : Option AV) (d3 : Option AV) (d4 : Option AV) : Run sc 125 13 [some (Rf 52), some (I x1), d2, d3, d4] [] (hp iv) = if (iv 52 19) < (iv 52 17) then bck 0 (((120 : Nat) : Int) - 1) (iv 52 19) (if (iv 63 (Int.toNat (iv 52 19))) = 46 then Run sc 125 66 [some (Rf 52), some (I x1), d2, d3, d4] [] (hp iv) else bck 0 (((120 : Nat) : Int) - 1) (iv 52 19) (if (iv 63 (Int.toNat (iv 52 19))) < 97 then Run sc 125 70 [some (Rf 52), some (I x1), d2, d3, d4] [] (hp iv) else bck 0 (((120 : Nat) : Int) - 1) (iv 52 19) (if 102 < (iv 63 (Int.toNat (iv 52 19))) then Run sc 125 70 [some (Rf 52), some (I x1), d2, d3, d4] [] (hp iv) else Run sc 125 66 [some (Rf 52), some (I x1), d2, d3, d4] [] (hp iv)))) else Run sc 125 70 [some (Rf 52), some (I x1), d2, d3, d4] [] (hp iv) :=
  (R_aload_n mc_125 dX7_readEntry_13 rfl).trans <|
  (R_getI mc_125 dX7_readEntry_14 mo_125 ft_7_109 rfl rfl).trans <|
  (R_aload_n mc_125 dX7_readEntry_17 rfl).trans <|
  (R_getI mc_125 dX7_readEntry_18 mo_125 ft_7_106 rfl rfl).trans <|
  (R_icmp_ge mc_125 dX7_readEntry_21 (t := 70) rfl).trans <| ite_c2
  ((R_aload_n mc_125 dX7_readEntry_24 rfl).trans <|
  (R_getR mc_125 dX7_readEntry_25 mo_125 ft_7_57 rfl rfl (r := 63) rfl (by decide)).trans <|
  (R_aload_n mc_125 dX7_readEntry_28 rfl).trans <|
  (R_getI mc_125 dX7_readEntry_29 mo_125 ft_7_109 rfl rfl).trans <|
  (R_caload mc_125 dX7_readEntry_32 rfl).trans <| bck_congr <|
  (R_bipush mc_125 dX7_readEntry_33 ⟨by decide, by decide⟩).trans <|
  (R_icmp_eq mc_125 dX7_readEntry_35 (t := 66) rfl).trans <| ite_c2
  (rfl)
  ((R_aload_n mc_125 dX7_readEntry_38 rfl).trans <|
  (R_getR mc_125 dX7_readEntry_39 mo_125 ft_7_57 rfl rfl (r := 63) rfl (by decide)).trans <|
  (R_aload_n mc_125 dX7_readEntry_42 rfl).trans <|
  (R_getI mc_125 dX7_readEntry_43 mo_125 ft_7_109 rfl rfl).trans <|
  (R_caload mc_125 dX7_readEntry_46 rfl).trans <| bck_congr <|
  (R_bipush mc_125 dX7_readEntry_47 ⟨by decide, by decide⟩).trans <|
  (R_icmp_lt mc_125 dX7_readEntry_49 (t := 70) rfl).trans <| ite_c2
  (rfl)
  ((R_aload_n mc_125 dX7_readEntry_52 rfl).trans <|
  (R_getR mc_125 dX7_readEntry_53 mo_125 ft_7_57 rfl rfl (r := 63) rfl (by decide)).trans <|
  (R_aload_n mc_125 dX7_readEntry_56 rfl).trans <|
  (R_getI mc_125 dX7_readEntry_57 mo_125 ft_7_109 rfl rfl).trans <|
  (R_caload mc_125 dX7_readEntry_60 rfl).trans <| bck_congr <|
  (R_bipush mc_125 dX7_readEntry_61 ⟨by decide, by decide⟩).trans <|
  R_icmp_gt mc_125 dX7_readEntry_63 (t := 70) rfl)))
  (rfl)
theorem B_X7_readEntry_66 (sc : Nat × (Nat → Int)) (iv : Nat → Nat → Int) (x1 : Int) (d2 : Option AV) (d3 : Option AV) (d4 : Option AV) : Run sc 125 66 [some (Rf 52), some (I x1), d2, d3, d4] [] (hp iv) = Run sc 125 71 [some (Rf 52), some (I x1), d2, d3, d4] [(I 1)] (hp iv) :=
  (R_iconst mc_125 dX7_readEntry_66 ⟨by decide, by decide⟩).trans <|
  R_goto mc_125 dX7_readEntry_67 (t := 71) rfl
theorem B_X7_readEntry_70 (sc : Nat × (Nat → Int)) (iv : Nat → Nat → Int) (x1 : Int) (d2 : Option AV) (d3 : Option AV) (d4 : Option AV) : Run sc 125 70 [some (Rf 52), some (I x1), d2, d3, d4] [] (hp iv) = Run sc 125 71 [some (Rf 52), some (I x1), d2, d3, d4] [(I 0)] (hp iv) :=
  R_iconst mc_125 dX7_readEntry_70 ⟨by decide, by decide⟩
theorem B_X7_readEntry_71 (sc : Nat × (Nat → Int)) (iv : Nat → Nat → Int) (x1 : Int) (d2 : Option AV) (d3 : Option AV) (d4 : Option AV) (s0 : Int) : Run sc 125 71 [some (Rf 52), some (I x1), d2, d3, d4] [(I s0)] (hp iv) = if s0 = 0 then bck 0 1 0 (Run sc 125 81 [some (Rf 52), some (I x1), some (I s0), d3, d4] [] (hp (setO iv 52 (upI (iv 52) 20 0)))) else Run sc 125 82 [some (Rf 52), some (I x1), some (I s0), d3, d4] [] (hp iv) :=
  (R_istore_n mc_125 dX7_readEntry_71 (Nat.le_of_ble_eq_true rfl)).trans <|
  (R_iload_n mc_125 dX7_readEntry_72 rfl).trans <|
  (R_if_ne mc_125 dX7_readEntry_73 (t := 82) rfl).trans <| ite_c2
  ((R_aload_n mc_125 dX7_readEntry_76 rfl).trans <|
  (R_iconst mc_125 dX7_readEntry_77 ⟨by decide, by decide⟩).trans <|
  (R_putI mc_125 dX7_readEntry_78 mo_125 ft_7_116 rfl rfl rfl (lo := 0) (hi := 1) rfl rfl).trans <| bck_congr <|
  rfl)
  (rfl)
theorem B_X7_readEntry_81 (sc : Nat × (Nat → Int)) (iv : Nat → Nat → Int) (x1 : Int) (x2 : Int) (d3 : Option AV) (d4 : Option AV) : Run sc 125 81 [some (Rf 52), some (I x1), some (I x2), d3, d4] [] (hp iv) = some (none, hp iv) :=
  R_return mc_125 dX7_readEntry_81 rfl
theorem B_X7_readEntry_82 (sc : Nat × (Nat → Int)) (iv : Nat → Nat → Int) (x1 : Int) (x2 : Int) (d3 : Option AV) (d4 : Option AV) : Run sc 125 82 [some (Rf 52), some (I x1), some (I x2), d3, d4] [] (hp iv) = bck 0 (((120 : Nat) : Int) - 1) (iv 52 19) (if (iv 63 (Int.toNat (iv 52 19))) = 46 then Run sc 125 114 [some (Rf 52), some (I x1), some (I x2), d3, d4] [(I 0)] (hp iv) else Run sc 125 100 [some (Rf 52), some (I x1), some (I x2), d3, d4] [] (hp iv)) :=
  (R_aload_n mc_125 dX7_readEntry_82 rfl).trans <|
  (R_getR mc_125 dX7_readEntry_83 mo_125 ft_7_57 rfl rfl (r := 63) rfl (by decide)).trans <|
  (R_aload_n mc_125 dX7_readEntry_86 rfl).trans <|
  (R_getI mc_125 dX7_readEntry_87 mo_125 ft_7_109 rfl rfl).trans <|
  (R_caload mc_125 dX7_readEntry_90 rfl).trans <| bck_congr <|
  (R_bipush mc_125 dX7_readEntry_91 ⟨by decide, by decide⟩).trans <|
  (R_icmp_ne mc_125 dX7_readEntry_93 (t := 100) rfl).trans <| ite_c2
  ((R_iconst mc_125 dX7_readEntry_96 ⟨by decide, by decide⟩).trans <|
  R_goto mc_125 dX7_readEntry_97 (t := 114) rfl)
  (rfl)
theorem B_X7_readEntry_100 (sc : Nat × (Nat → Int)) (iv : Nat → Nat → Int) (x1 : Int) (x2 : Int) (d3 : Option AV) (d4 : Option AV) : Run sc 125 100 [some (Rf 52), some (I x1), some (I x2), d3, d4] [] (hp iv) = bck 0 (((120 : Nat) : Int) - 1) (iv 52 19) (chk ((iv 63 (Int.toNat (iv 52 19))) - 97) (chk (((iv 63 (Int.toNat (iv 52 19))) - 97) + 1) (Run sc 125 114 [some (Rf 52), some (I x1), some (I x2), d3, d4] [(I (((iv 63 (Int.toNat (iv 52 19))) - 97) + 1))] (hp iv)))) :=
  (R_aload_n mc_125 dX7_readEntry_100 rfl).trans <|
  (R_getR mc_125 dX7_readEntry_101 mo_125 ft_7_57 rfl rfl (r := 63) rfl (by decide)).trans <|
  (R_aload_n mc_125 dX7_readEntry_104 rfl).trans <|
  (R_getI mc_125 dX7_readEntry_105 mo_125 ft_7_109 rfl rfl).trans <|
  (R_caload mc_125 dX7_readEntry_108 rfl).trans <| bck_congr <|
  (R_bipush mc_125 dX7_readEntry_109 ⟨by decide, by decide⟩).trans <|
  (R_isub mc_125 dX7_readEntry_111).trans <| chk_congr <|
  (R_iconst mc_125 dX7_readEntry_112 ⟨by decide, by decide⟩).trans <|
  (R_iadd mc_125 dX7_readEntry_113).trans <| chk_congr <|
  rfl
theorem B_X7_readEntry_114 (sc : Nat × (Nat → Int)) (iv : Nat → Nat → Int) (x1 : Int) (x2 : Int) (d3 : Option AV) (d4 : Option AV) (s0 : Int) : Run sc 125 114 [some (Rf 52), some (I x1), some (I x2), d3, d4] [(I s0)] (hp iv) = chk ((iv 52 19) + 1) (bck (-2147483648) 2147483647 ((iv 52 19) + 1) (Run sc 125 125 [some (Rf 52), some (I x1), some (I x2), some (I s0), d4] [] (hp (setO iv 52 (upI (iv 52) 19 ((iv 52 19) + 1)))))) :=
  (R_istore_n mc_125 dX7_readEntry_114 (Nat.le_of_ble_eq_true rfl)).trans <|
  (R_aload_n mc_125 dX7_readEntry_115 rfl).trans <|
  (R_dup mc_125 dX7_readEntry_116).trans <|
  (R_getI mc_125 dX7_readEntry_117 mo_125 ft_7_109 rfl rfl).trans <|
  (R_iconst mc_125 dX7_readEntry_120 ⟨by decide, by decide⟩).trans <|
  (R_iadd mc_125 dX7_readEntry_121).trans <| chk_congr <|
  (R_putI mc_125 dX7_readEntry_122 mo_125 ft_7_109 rfl rfl rfl (lo := (-2147483648)) (hi := 2147483647) rfl rfl).trans <| bck_congr <|
  rfl
theorem B_X7_readEntry_125 (sc : Nat × (Nat → Int)) (iv : Nat → Nat → Int) (x1 : Int) (x2 : Int) (x3 : Int) (d4 : Option AV) : Run sc 125 125 [some (Rf 52), some (I x1), some (I x2), some (I x3), d4] [] (hp iv) = Run sc 125 128 [some (Rf 52), some (I x1), some (I x2), some (I x3), some (I 0)] [] (hp iv) :=
  (R_iconst mc_125 dX7_readEntry_125 ⟨by decide, by decide⟩).trans <|
  R_istore mc_125 dX7_readEntry_126 (Nat.le_of_ble_eq_true rfl)
theorem B_X7_readEntry_128 (sc : Nat × (Nat → Int)) (iv : Nat → Nat → Int) (x1 : Int) (x2 : Int) (x3 : Int) (x4 : Int) : Run sc 125 128 [some (Rf 52), some (I x1), some (I x2), some (I x3), some (I x4)] [] (hp iv) = if x4 < x1 then aBind (Run sc 112 0 [some (Rf 52), some (I (iv 52 21)), some (I (iv 52 22))] [] (hp iv)) (fun v h2 => Run sc 125 146 [some (Rf 52), some (I x1), some (I x2), some (I x3), some (I x4)] (pushR v []) h2) else Run sc 125 191 [some (Rf 52), some (I x1), some (I x2), some (I x3), some (I x4)] [] (hp iv) :=
  (R_iload mc_125 dX7_readEntry_128 rfl).trans <|
  (R_iload_n mc_125 dX7_readEntry_130 rfl).trans <|
  (R_icmp_ge mc_125 dX7_readEntry_131 (t := 191) rfl).trans <| ite_c2
  ((R_aload_n mc_125 dX7_readEntry_134 rfl).trans <|
  (R_aload_n mc_125 dX7_readEntry_135 rfl).trans <|
  (R_getI mc_125 dX7_readEntry_136 mo_125 ft_7_124 rfl rfl).trans <|
  (R_aload_n mc_125 dX7_readEntry_139 rfl).trans <|
  (R_getI mc_125 dX7_readEntry_140 mo_125 ft_7_127 rfl rfl).trans <|
  R_invV mc_125 dX7_readEntry_143 mo_125 ct_7_85 af_125_112 rfl rfl rfl ⟨Nat.le_of_ble_eq_true rfl, Nat.le_of_ble_eq_true rfl⟩)
  (rfl)
theorem B_X7_readEntry_146 (sc : Nat × (Nat → Int)) (iv : Nat → Nat → Int) (x1 : Int) (x2 : Int) (x3 : Int) (x4 : Int) (s0 : Int) : Run sc 125 146 [some (Rf 52), some (I x1), some (I x2), some (I x3), some (I x4)] [(I s0)] (hp iv) = if s0 = 0 then Run sc 125 170 [some (Rf 52), some (I x1), some (I x2), some (I x3), some (I x4)] [] (hp iv) else chk (24 * (iv 52 22)) (chk ((24 * (iv 52 22)) + (iv 52 21)) (bck 0 (((576 : Nat) : Int) - 1) ((24 * (iv 52 22)) + (iv 52 21)) (bck (-2147483648) 2147483647 x3 (Run sc 125 167 [some (Rf 52), some (I x1), some (I x2), some (I x3), some (I x4)] [] (hp (setO iv 54 (upI (iv 54) (Int.toNat ((24 * (iv 52 22)) + (iv 52 21))) x3))))))) :=
  (R_if_eq mc_125 dX7_readEntry_146 (t := 170) rfl).trans <| ite_c2
  (rfl)
  ((R_aload_n mc_125 dX7_readEntry_149 rfl).trans <|
  (R_getR mc_125 dX7_readEntry_150 mo_125 ft_7_29 rfl rfl (r := 54) rfl (by decide)).trans <|
  (R_bipush mc_125 dX7_readEntry_153 ⟨by decide, by decide⟩).trans <|
  (R_aload_n mc_125 dX7_readEntry_155 rfl).trans <|
  (R_getI mc_125 dX7_readEntry_156 mo_125 ft_7_127 rfl rfl).trans <|
  (R_imul mc_125 dX7_readEntry_159).trans <| chk_congr <|
  (R_aload_n mc_125 dX7_readEntry_160 rfl).trans <|
  (R_getI mc_125 dX7_readEntry_161 mo_125 ft_7_124 rfl rfl).trans <|
  (R_iadd mc_125 dX7_readEntry_164).trans <| chk_congr <|
  (R_iload_n mc_125 dX7_readEntry_165 rfl).trans <|
  (R_iastore mc_125 dX7_readEntry_166 rfl).trans <| bck_congr <| bck_congr <|
  rfl)
theorem B_X7_readEntry_167 (sc : Nat × (Nat → Int)) (iv : Nat → Nat → Int) (x1 : Int) (x2 : Int) (x3 : Int) (x4 : Int) : Run sc 125 167 [some (Rf 52), some (I x1), some (I x2), some (I x3), some (I x4)] [] (hp iv) = Run sc 125 175 [some (Rf 52), some (I x1), some (I x2), some (I x3), some (I x4)] [] (hp iv) :=
  R_goto mc_125 dX7_readEntry_167 (t := 175) rfl
theorem B_X7_readEntry_170 (sc : Nat × (Nat → Int)) (iv : Nat → Nat → Int) (x1 : Int) (x2 : Int) (x3 : Int) (x4 : Int) : Run sc 125 170 [some (Rf 52), some (I x1), some (I x2), some (I x3), some (I x4)] [] (hp iv) = bck 0 1 1 (Run sc 125 175 [some (Rf 52), some (I x1), some (I x2), some (I x3), some (I x4)] [] (hp (setO iv 52 (upI (iv 52) 23 1)))) :=
  (R_aload_n mc_125 dX7_readEntry_170 rfl).trans <|
  (R_iconst mc_125 dX7_readEntry_171 ⟨by decide, by decide⟩).trans <|
  (R_putI mc_125 dX7_readEntry_172 mo_125 ft_7_130 rfl rfl rfl (lo := 0) (hi := 1) rfl rfl).trans <| bck_congr <|
  rfl
theorem B_X7_readEntry_175 (sc : Nat × (Nat → Int)) (iv : Nat → Nat → Int) (x1 : Int) (x2 : Int) (x3 : Int) (x4 : Int) : Run sc 125 175 [some (Rf 52), some (I x1), some (I x2), some (I x3), some (I x4)] [] (hp iv) = chk ((iv 52 21) + 1) (bck (-2147483648) 2147483647 ((iv 52 21) + 1) (Run sc 125 185 [some (Rf 52), some (I x1), some (I x2), some (I x3), some (I x4)] [] (hp (setO iv 52 (upI (iv 52) 21 ((iv 52 21) + 1)))))) :=
  (R_aload_n mc_125 dX7_readEntry_175 rfl).trans <|
  (R_dup mc_125 dX7_readEntry_176).trans <|
  (R_getI mc_125 dX7_readEntry_177 mo_125 ft_7_124 rfl rfl).trans <|
  (R_iconst mc_125 dX7_readEntry_180 ⟨by decide, by decide⟩).trans <|
  (R_iadd mc_125 dX7_readEntry_181).trans <| chk_congr <|
  (R_putI mc_125 dX7_readEntry_182 mo_125 ft_7_124 rfl rfl rfl (lo := (-2147483648)) (hi := 2147483647) rfl rfl).trans <| bck_congr <|
  rfl
theorem B_X7_readEntry_185 (sc : Nat × (Nat → Int)) (iv : Nat → Nat → Int) (x1 : Int) (x2 : Int) (x3 : Int) (x4 : Int) : Run sc 125 185 [some (Rf 52), some (I x1), some (I x2), some (I x3), some (I x4)] [] (hp iv) = chk (x4 + 1) (Run sc 125 128 [some (Rf 52), some (I x1), some (I x2), some (I x3), some (I (x4 + 1))] [] (hp iv)) :=
  (R_iinc mc_125 dX7_readEntry_185 rfl).trans <| chk_congr <|
  R_goto mc_125 dX7_readEntry_188 (t := 128) rfl
theorem B_X7_readEntry_191 (sc : Nat × (Nat → Int)) (iv : Nat → Nat → Int) (x1 : Int) (x2 : Int) (x3 : Int) (x4 : Int) : Run sc 125 191 [some (Rf 52), some (I x1), some (I x2), some (I x3), some (I x4)] [] (hp iv) = some (none, hp iv) :=
  R_return mc_125 dX7_readEntry_191 rfl
theorem B_X7_takeOver_0 (sc : Nat × (Nat → Int)) (iv : Nat → Nat → Int)  : Run sc 126 0 [some (Rf 52), none] [] (hp iv) = Run sc 126 2 [some (Rf 52), some (I 0)] [] (hp iv) :=
  (R_iconst mc_126 dX7_takeOver_0 ⟨by decide, by decide⟩).trans <|
  R_istore_n mc_126 dX7_takeOver_1 (Nat.le_of_ble_eq_true rfl)
theorem B_X7_takeOver_2 (sc : Nat × (Nat → Int)) (iv : Nat → Nat → Int) (x1 : Int) : Run sc 126 2 [some (Rf 52), some (I x1)] [] (hp iv) = if x1 < 576 then bck 0 (((576 : Nat) : Int) - 1) x1 (bck 0 (((576 : Nat) : Int) - 1) x1 (bck (-2147483648) 2147483647 (iv 53 (Int.toNat x1)) (Run sc 126 21 [some (Rf 52), some (I x1)] [] (hp (setO iv 54 (upI (iv 54) (Int.toNat x1) (iv 53 (Int.toNat x1)))))))) else Run sc 126 27 [some (Rf 52), some (I x1)] [] (hp iv) :=
  (R_iload_n mc_126 dX7_takeOver_2 rfl).trans <|
  (R_sipush mc_126 dX7_takeOver_3 ⟨by decide, by decide⟩).trans <|
  (R_icmp_ge mc_126 dX7_takeOver_6 (t := 27) rfl).trans <| ite_c2
  ((R_aload_n mc_126 dX7_takeOver_9 rfl).trans <|
  (R_getR mc_126 dX7_takeOver_10 mo_126 ft_7_29 rfl rfl (r := 54) rfl (by decide)).trans <|
  (R_iload_n mc_126 dX7_takeOver_13 rfl).trans <|
  (R_aload_n mc_126 dX7_takeOver_14 rfl).trans <|
  (R_getR mc_126 dX7_takeOver_15 mo_126 ft_7_25 rfl rfl (r := 53) rfl (by decide)).trans <|
  (R_iload_n mc_126 dX7_takeOver_18 rfl).trans <|
  (R_iaload mc_126 dX7_takeOver_19 rfl).trans <| bck_congr <|
  (R_iastore mc_126 dX7_takeOver_20 rfl).trans <| bck_congr <| bck_congr <|
  rfl)
  (rfl)
theorem B_X7_takeOver_21 (sc : Nat × (Nat → Int)) (iv : Nat → Nat → Int) (x1 : Int) : Run sc 126 21 [some (Rf 52), some (I x1)] [] (hp iv) = chk (x1 + 1) (Run sc 126 2 [some (Rf 52), some (I (x1 + 1))] [] (hp iv)) :=
  (R_iinc mc_126 dX7_takeOver_21 rfl).trans <| chk_congr <|
  R_goto mc_126 dX7_takeOver_24 (t := 2) rfl
theorem B_X7_takeOver_27 (sc : Nat × (Nat → Int)) (iv : Nat → Nat → Int) (x1 : Int) : Run sc 126 27 [some (Rf 52), some (I x1)] [] (hp iv) = some (none, hp iv) :=
  R_return mc_126 dX7_takeOver_27 rfl
theorem B_X7_change_0 (sc : Nat × (Nat → Int)) (iv : Nat → Nat → Int)  : Run sc 127 0 [some (Rf 52), none, none] [] (hp iv) = Run sc 127 4 [some (Rf 52), some (I 0), some (I 0)] [] (hp iv) :=
  (R_iconst mc_127 dX7_change_0 ⟨by decide, by decide⟩).trans <|
  (R_istore_n mc_127 dX7_change_1 (Nat.le_of_ble_eq_true rfl)).trans <|
  (R_iconst mc_127 dX7_change_2 ⟨by decide, by decide⟩).trans <|
  R_istore_n mc_127 dX7_change_3 (Nat.le_of_ble_eq_true rfl)
theorem B_X7_change_4 (sc : Nat × (Nat → Int)) (iv : Nat → Nat → Int) (x1 : Int) (x2 : Int) : Run sc 127 4 [some (Rf 52), some (I x1), some (I x2)] [] (hp iv) = if x2 < 576 then bck 0 (((576 : Nat) : Int) - 1) x2 (bck 0 (((576 : Nat) : Int) - 1) x2 (if (iv 54 (Int.toNat x2)) = (iv 53 (Int.toNat x2)) then Run sc 127 67 [some (Rf 52), some (I x1), some (I x2)] [] (hp iv) else chk (x1 + 1) (bck 0 (((576 : Nat) : Int) - 1) x2 (bck 0 6 (iv 53 (Int.toNat x2)) (bck 0 (((576 : Nat) : Int) - 1) x2 (bck 0 6 (iv 54 (Int.toNat x2)) (bck 0 127 ((2 ^ Int.toNat (iv 54 (Int.toNat x2)) : Nat) : Int) (bck 0 127 ((2 ^ Int.toNat (iv 53 (Int.toNat x2)) : Nat) : Int) (bck 0 127 ((Int.toNat ((2 ^ Int.toNat (iv 53 (Int.toNat x2)) : Nat) : Int) ||| Int.toNat ((2 ^ Int.toNat (iv 54 (Int.toNat x2)) : Nat) : Int) : Nat) : Int) (bck 0 127 (iv 52 24) (bck (-2147483648) 2147483647 ((Int.toNat (iv 52 24) ||| Int.toNat ((Int.toNat ((2 ^ Int.toNat (iv 53 (Int.toNat x2)) : Nat) : Int) ||| Int.toNat ((2 ^ Int.toNat (iv 54 (Int.toNat x2)) : Nat) : Int) : Nat) : Int) : Nat) : Int) (Run sc 127 55 [some (Rf 52), some (I (x1 + 1)), some (I x2)] [] (hp (setO iv 52 (upI (iv 52) 24 ((Int.toNat (iv 52 24) ||| Int.toNat ((Int.toNat ((2 ^ Int.toNat (iv 53 (Int.toNat x2)) : Nat) : Int) ||| Int.toNat ((2 ^ Int.toNat (iv 54 (Int.toNat x2)) : Nat) : Int) : Nat) : Int) : Nat) : Int)))))))))))))))) else Run sc 127 73 [some (Rf 52), some (I x1), some (I x2)] [] (hp iv) :=
  (R_iload_n mc_127 dX7_change_4 rfl).trans <|
  (R_sipush mc_127 dX7_change_5 ⟨by decide, by decide⟩).trans <|
  (R_icmp_ge mc_127 dX7_change_8 (t := 73) rfl).trans <| ite_c2
  ((R_aload_n mc_127 dX7_change_11 rfl).trans <|
  (R_getR mc_127 dX7_change_12 mo_127 ft_7_29 rfl rfl (r := 54) rfl (by decide)).trans <|
  (R_iload_n mc_127 dX7_change_15 rfl).trans <|
  (R_iaload mc_127 dX7_change_16 rfl).trans <| bck_congr <|
  (R_aload_n mc_127 dX7_change_17 rfl).trans <|
  (R_getR mc_127 dX7_change_18 mo_127 ft_7_25 rfl rfl (r := 53) rfl (by decide)).trans <|
  (R_iload_n mc_127 dX7_change_21 rfl).trans <|
  (R_iaload mc_127 dX7_change_22 rfl).trans <| bck_congr <|
  (R_icmp_eq mc_127 dX7_change_23 (t := 67) rfl).trans <| ite_c2
  (rfl)
  ((R_iinc mc_127 dX7_change_26 rfl).trans <| chk_congr <|
  (R_aload_n mc_127 dX7_change_29 rfl).trans <|
  (R_dup mc_127 dX7_change_30).trans <|
  (R_getI mc_127 dX7_change_31 mo_127 ft_7_133 rfl rfl).trans <|
  (R_iconst mc_127 dX7_change_34 ⟨by decide, by decide⟩).trans <|
  (R_aload_n mc_127 dX7_change_35 rfl).trans <|
  (R_getR mc_127 dX7_change_36 mo_127 ft_7_25 rfl rfl (r := 53) rfl (by decide)).trans <|
  (R_iload_n mc_127 dX7_change_39 rfl).trans <|
  (R_iaload mc_127 dX7_change_40 rfl).trans <| bck_congr <|
  (R_ishl mc_127 dX7_change_41).trans <| bck_congr <|
  (R_iconst mc_127 dX7_change_42 ⟨by decide, by decide⟩).trans <|
  (R_aload_n mc_127 dX7_change_43 rfl).trans <|
  (R_getR mc_127 dX7_change_44 mo_127 ft_7_29 rfl rfl (r := 54) rfl (by decide)).trans <|
  (R_iload_n mc_127 dX7_change_47 rfl).trans <|
  (R_iaload mc_127 dX7_change_48 rfl).trans <| bck_congr <|
  (R_ishl mc_127 dX7_change_49).trans <| bck_congr <|
  (R_ior mc_127 dX7_change_50).trans <| bck_congr <| bck_congr <|
  (R_ior mc_127 dX7_change_51).trans <| bck_congr <| bck_congr <|
  (R_putI mc_127 dX7_change_52 mo_127 ft_7_133 rfl rfl rfl (lo := (-2147483648)) (hi := 2147483647) rfl rfl).trans <| bck_congr <|
  rfl))
  (rfl)
theorem B_X7_change_55 (sc : Nat × (Nat → Int)) (iv : Nat → Nat → Int) (x1 : Int) (x2 : Int) : Run sc 127 55 [some (Rf 52), some (I x1), some (I x2)] [] (hp iv) = bck 0 (((576 : Nat) : Int) - 1) x2 (bck 0 (((576 : Nat) : Int) - 1) x2 (bck (-2147483648) 2147483647 (iv 54 (Int.toNat x2)) (Run sc 127 67 [some (Rf 52), some (I x1), some (I x2)] [] (hp (setO iv 53 (upI (iv 53) (Int.toNat x2) (iv 54 (Int.toNat x2)))))))) :=
  (R_aload_n mc_127 dX7_change_55 rfl).trans <|
  (R_getR mc_127 dX7_change_56 mo_127 ft_7_25 rfl rfl (r := 53) rfl (by decide)).trans <|
  (R_iload_n mc_127 dX7_change_59 rfl).trans <|
  (R_aload_n mc_127 dX7_change_60 rfl).trans <|
  (R_getR mc_127 dX7_change_61 mo_127 ft_7_29 rfl rfl (r := 54) rfl (by decide)).trans <|
  (R_iload_n mc_127 dX7_change_64 rfl).trans <|
  (R_iaload mc_127 dX7_change_65 rfl).trans <| bck_congr <|
  (R_iastore mc_127 dX7_change_66 rfl).trans <| bck_congr <| bck_congr <|
  rfl
theorem B_X7_change_67 (sc : Nat × (Nat → Int)) (iv : Nat → Nat → Int) (x1 : Int) (x2 : Int) : Run sc 127 67 [some (Rf 52), some (I x1), some (I x2)] [] (hp iv) = chk (x2 + 1) (Run sc 127 4 [some (Rf 52), some (I x1), some (I (x2 + 1))] [] (hp iv)) :=
  (R_iinc mc_127 dX7_change_67 rfl).trans <| chk_congr <|
  R_goto mc_127 dX7_change_70 (t := 4) rfl
theorem B_X7_change_73 (sc : Nat × (Nat → Int)) (iv : Nat → Nat → Int) (x1 : Int) (x2 : Int) : Run sc 127 73 [some (Rf 52), some (I x1), some (I x2)] [] (hp iv) = some (some (I x1), hp iv) :=
  (R_iload_n mc_127 dX7_change_73 rfl).trans <|
  R_ireturn mc_127 dX7_change_74 rfl
theorem B_X7_readChart_0 (sc : Nat × (Nat → Int)) (iv : Nat → Nat → Int)  : Run sc 128 0 [some (Rf 52), none] [] (hp iv) = aBind (Run sc 126 0 [some (Rf 52), none] [] (hp iv)) (fun v h2 => Run sc 128 4 [some (Rf 52), none] (pushR v []) h2) :=
  (R_aload_n mc_128 dX7_readChart_0 rfl).trans <|
  R_invV mc_128 dX7_readChart_1 mo_128 ct_7_136 af_128_126 rfl rfl rfl ⟨Nat.le_of_ble_eq_true rfl, Nat.le_of_ble_eq_true rfl⟩
theorem B_X7_readChart_4 (sc : Nat × (Nat → Int)) (iv : Nat → Nat → Int) (d1 : Option AV) : Run sc 128 4 [some (Rf 52), d1] [] (hp iv) = bck (-2147483648) 2147483647 0 (Run sc 128 9 [some (Rf 52), d1] [] (hp (setO iv 52 (upI (iv 52) 19 0)))) :=
  (R_aload_n mc_128 dX7_readChart_4 rfl).trans <|
  (R_iconst mc_128 dX7_readChart_5 ⟨by decide, by decide⟩).trans <|
  (R_putI mc_128 dX7_readChart_6 mo_128 ft_7_109 rfl rfl rfl (lo := (-2147483648)) (hi := 2147483647) rfl rfl).trans <| bck_congr <|
  rfl
theorem B_X7_readChart_9 (sc : Nat × (Nat → Int)) (iv : Nat → Nat → Int) (d1 : Option AV) : Run sc 128 9 [some (Rf 52), d1] [] (hp iv) = bck (-2147483648) 2147483647 0 (Run sc 128 14 [some (Rf 52), d1] [] (hp (setO iv 52 (upI (iv 52) 21 0)))) :=
  (R_aload_n mc_128 dX7_readChart_9 rfl).trans <|
  (R_iconst mc_128 dX7_readChart_10 ⟨by decide, by decide⟩).trans <|
  (R_putI mc_128 dX7_readChart_11 mo_128 ft_7_124 rfl rfl rfl (lo := (-2147483648)) (hi := 2147483647) rfl rfl).trans <| bck_congr <|
  rfl
theorem B_X7_readChart_14 (sc : Nat × (Nat → Int)) (iv : Nat → Nat → Int) (d1 : Option AV) : Run sc 128 14 [some (Rf 52), d1] [] (hp iv) = bck (-2147483648) 2147483647 0 (Run sc 128 19 [some (Rf 52), d1] [] (hp (setO iv 52 (upI (iv 52) 22 0)))) :=
  (R_aload_n mc_128 dX7_readChart_14 rfl).trans <|
  (R_iconst mc_128 dX7_readChart_15 ⟨by decide, by decide⟩).trans <|
  (R_putI mc_128 dX7_readChart_16 mo_128 ft_7_127 rfl rfl rfl (lo := (-2147483648)) (hi := 2147483647) rfl rfl).trans <| bck_congr <|
  rfl
theorem B_X7_readChart_19 (sc : Nat × (Nat → Int)) (iv : Nat → Nat → Int) (d1 : Option AV) : Run sc 128 19 [some (Rf 52), d1] [] (hp iv) = bck 0 1 1 (Run sc 128 24 [some (Rf 52), d1] [] (hp (setO iv 52 (upI (iv 52) 20 1)))) :=
  (R_aload_n mc_128 dX7_readChart_19 rfl).trans <|
  (R_iconst mc_128 dX7_readChart_20 ⟨by decide, by decide⟩).trans <|
  (R_putI mc_128 dX7_readChart_21 mo_128 ft_7_116 rfl rfl rfl (lo := 0) (hi := 1) rfl rfl).trans <| bck_congr <|
  rfl
theorem B_X7_readChart_24 (sc : Nat × (Nat → Int)) (iv : Nat → Nat → Int) (d1 : Option AV) : Run sc 128 24 [some (Rf 52), d1] [] (hp iv) = bck 0 1 0 (Run sc 128 29 [some (Rf 52), d1] [] (hp (setO iv 52 (upI (iv 52) 23 0)))) :=
  (R_aload_n mc_128 dX7_readChart_24 rfl).trans <|
  (R_iconst mc_128 dX7_readChart_25 ⟨by decide, by decide⟩).trans <|
  (R_putI mc_128 dX7_readChart_26 mo_128 ft_7_130 rfl rfl rfl (lo := 0) (hi := 1) rfl rfl).trans <| bck_congr <|
  rfl
theorem B_X7_readChart_29 (sc : Nat × (Nat → Int)) (iv : Nat → Nat → Int) (d1 : Option AV) : Run sc 128 29 [some (Rf 52), d1] [] (hp iv) = if (iv 52 20) = 0 then Run sc 128 96 [some (Rf 52), d1] [] (hp iv) else if (iv 52 19) < (iv 52 17) then bck 0 (((120 : Nat) : Int) - 1) (iv 52 19) (if (iv 63 (Int.toNat (iv 52 19))) = 47 then chk ((iv 52 19) + 1) (bck (-2147483648) 2147483647 ((iv 52 19) + 1) (Run sc 128 71 [some (Rf 52), d1] [] (hp (setO iv 52 (upI (iv 52) 19 ((iv 52 19) + 1)))))) else Run sc 128 89 [some (Rf 52), d1] [] (hp iv)) else Run sc 128 96 [some (Rf 52), d1] [] (hp iv) :=
  (R_aload_n mc_128 dX7_readChart_29 rfl).trans <|
  (R_getI mc_128 dX7_readChart_30 mo_128 ft_7_116 rfl rfl).trans <|
  (R_if_eq mc_128 dX7_readChart_33 (t := 96) rfl).trans <| ite_c2
  (rfl)
  ((R_aload_n mc_128 dX7_readChart_36 rfl).trans <|
  (R_getI mc_128 dX7_readChart_37 mo_128 ft_7_109 rfl rfl).trans <|
  (R_aload_n mc_128 dX7_readChart_40 rfl).trans <|
  (R_getI mc_128 dX7_readChart_41 mo_128 ft_7_106 rfl rfl).trans <|
  (R_icmp_ge mc_128 dX7_readChart_44 (t := 96) rfl).trans <| ite_c2
  ((R_aload_n mc_128 dX7_readChart_47 rfl).trans <|
  (R_getR mc_128 dX7_readChart_48 mo_128 ft_7_57 rfl rfl (r := 63) rfl (by decide)).trans <|
  (R_aload_n mc_128 dX7_readChart_51 rfl).trans <|
  (R_getI mc_128 dX7_readChart_52 mo_128 ft_7_109 rfl rfl).trans <|
  (R_caload mc_128 dX7_readChart_55 rfl).trans <| bck_congr <|
  (R_bipush mc_128 dX7_readChart_56 ⟨by decide, by decide⟩).trans <|
  (R_icmp_ne mc_128 dX7_readChart_58 (t := 89) rfl).trans <| ite_c2
  ((R_aload_n mc_128 dX7_readChart_61 rfl).trans <|
  (R_dup mc_128 dX7_readChart_62).trans <|
  (R_getI mc_128 dX7_readChart_63 mo_128 ft_7_109 rfl rfl).trans <|
  (R_iconst mc_128 dX7_readChart_66 ⟨by decide, by decide⟩).trans <|
  (R_iadd mc_128 dX7_readChart_67).trans <| chk_congr <|
  (R_putI mc_128 dX7_readChart_68 mo_128 ft_7_109 rfl rfl rfl (lo := (-2147483648)) (hi := 2147483647) rfl rfl).trans <| bck_congr <|
  rfl)
  (rfl))
  (rfl))
theorem B_X7_readChart_71 (sc : Nat × (Nat → Int)) (iv : Nat → Nat → Int) (d1 : Option AV) : Run sc 128 71 [some (Rf 52), d1] [] (hp iv) = bck (-2147483648) 2147483647 0 (Run sc 128 76 [some (Rf 52), d1] [] (hp (setO iv 52 (upI (iv 52) 21 0)))) :=
  (R_aload_n mc_128 dX7_readChart_71 rfl).trans <|
  (R_iconst mc_128 dX7_readChart_72 ⟨by decide, by decide⟩).trans <|
  (R_putI mc_128 dX7_readChart_73 mo_128 ft_7_124 rfl rfl rfl (lo := (-2147483648)) (hi := 2147483647) rfl rfl).trans <| bck_congr <|
  rfl
theorem B_X7_readChart_76 (sc : Nat × (Nat → Int)) (iv : Nat → Nat → Int) (d1 : Option AV) : Run sc 128 76 [some (Rf 52), d1] [] (hp iv) = chk ((iv 52 22) + 1) (bck (-2147483648) 2147483647 ((iv 52 22) + 1) (Run sc 128 86 [some (Rf 52), d1] [] (hp (setO iv 52 (upI (iv 52) 22 ((iv 52 22) + 1)))))) :=
  (R_aload_n mc_128 dX7_readChart_76 rfl).trans <|
  (R_dup mc_128 dX7_readChart_77).trans <|
  (R_getI mc_128 dX7_readChart_78 mo_128 ft_7_127 rfl rfl).trans <|
  (R_iconst mc_128 dX7_readChart_81 ⟨by decide, by decide⟩).trans <|
  (R_iadd mc_128 dX7_readChart_82).trans <| chk_congr <|
  (R_putI mc_128 dX7_readChart_83 mo_128 ft_7_127 rfl rfl rfl (lo := (-2147483648)) (hi := 2147483647) rfl rfl).trans <| bck_congr <|
  rfl
theorem B_X7_readChart_86 (sc : Nat × (Nat → Int)) (iv : Nat → Nat → Int) (d1 : Option AV) : Run sc 128 86 [some (Rf 52), d1] [] (hp iv) = Run sc 128 29 [some (Rf 52), d1] [] (hp iv) :=
  R_goto mc_128 dX7_readChart_86 (t := 29) rfl
theorem B_X7_readChart_89 (sc : Nat × (Nat → Int)) (iv : Nat → Nat → Int) (d1 : Option AV) : Run sc 128 89 [some (Rf 52), d1] [] (hp iv) = aBind (Run sc 125 0 [some (Rf 52), none, none, none, none] [] (hp iv)) (fun v h2 => Run sc 128 93 [some (Rf 52), d1] (pushR v []) h2) :=
  (R_aload_n mc_128 dX7_readChart_89 rfl).trans <|
  R_invV mc_128 dX7_readChart_90 mo_128 ct_7_139 af_128_125 rfl rfl rfl ⟨Nat.le_of_ble_eq_true rfl, Nat.le_of_ble_eq_true rfl⟩
theorem B_X7_readChart_93 (sc : Nat × (Nat → Int)) (iv : Nat → Nat → Int) (d1 : Option AV) : Run sc 128 93 [some (Rf 52), d1] [] (hp iv) = Run sc 128 29 [some (Rf 52), d1] [] (hp iv) :=
  R_goto mc_128 dX7_readChart_93 (t := 29) rfl
theorem B_X7_readChart_96 (sc : Nat × (Nat → Int)) (iv : Nat → Nat → Int) (d1 : Option AV) : Run sc 128 96 [some (Rf 52), d1] [] (hp iv) = if (iv 52 20) = 0 then chk ((-100) - (iv 52 19)) (some (some (I ((-100) - (iv 52 19))), hp iv)) else Run sc 128 111 [some (Rf 52), d1] [] (hp iv) :=
  (R_aload_n mc_128 dX7_readChart_96 rfl).trans <|
  (R_getI mc_128 dX7_readChart_97 mo_128 ft_7_116 rfl rfl).trans <|
  (R_if_ne mc_128 dX7_readChart_100 (t := 111) rfl).trans <| ite_c2
  ((R_bipush mc_128 dX7_readChart_103 ⟨by decide, by decide⟩).trans <|
  (R_aload_n mc_128 dX7_readChart_105 rfl).trans <|
  (R_getI mc_128 dX7_readChart_106 mo_128 ft_7_109 rfl rfl).trans <|
  (R_isub mc_128 dX7_readChart_109).trans <| chk_congr <|
  R_ireturn mc_128 dX7_readChart_110 rfl)
  (rfl)
theorem B_X7_readChart_111 (sc : Nat × (Nat → Int)) (iv : Nat → Nat → Int) (d1 : Option AV) : Run sc 128 111 [some (Rf 52), d1] [] (hp iv) = if (iv 52 23) = 0 then if (iv 52 22) < (iv 52 1) then Run sc 128 133 [some (Rf 52), d1] [] (hp iv) else Run sc 128 129 [some (Rf 52), d1] [] (hp iv) else Run sc 128 129 [some (Rf 52), d1] [] (hp iv) :=
  (R_aload_n mc_128 dX7_readChart_111 rfl).trans <|
  (R_getI mc_128 dX7_readChart_112 mo_128 ft_7_130 rfl rfl).trans <|
  (R_if_ne mc_128 dX7_readChart_115 (t := 129) rfl).trans <| ite_c2
  ((R_aload_n mc_128 dX7_readChart_118 rfl).trans <|
  (R_getI mc_128 dX7_readChart_119 mo_128 ft_7_127 rfl rfl).trans <|
  (R_aload_n mc_128 dX7_readChart_122 rfl).trans <|
  (R_getI mc_128 dX7_readChart_123 mo_128 ft_7_74 rfl rfl).trans <|
  R_icmp_lt mc_128 dX7_readChart_126 (t := 133) rfl)
  (rfl)
theorem B_X7_readChart_129 (sc : Nat × (Nat → Int)) (iv : Nat → Nat → Int) (d1 : Option AV) : Run sc 128 129 [some (Rf 52), d1] [] (hp iv) = some (some (I (-220)), hp iv) :=
  (R_sipush mc_128 dX7_readChart_129 ⟨by decide, by decide⟩).trans <|
  R_ireturn mc_128 dX7_readChart_132 rfl
theorem B_X7_readChart_133 (sc : Nat × (Nat → Int)) (iv : Nat → Nat → Int) (d1 : Option AV) : Run sc 128 133 [some (Rf 52), d1] [] (hp iv) = bck (-2147483648) 2147483647 0 (Run sc 128 138 [some (Rf 52), d1] [] (hp (setO iv 52 (upI (iv 52) 24 0)))) :=
  (R_aload_n mc_128 dX7_readChart_133 rfl).trans <|
  (R_iconst mc_128 dX7_readChart_134 ⟨by decide, by decide⟩).trans <|
  (R_putI mc_128 dX7_readChart_135 mo_128 ft_7_133 rfl rfl rfl (lo := (-2147483648)) (hi := 2147483647) rfl rfl).trans <| bck_congr <|
  rfl
theorem B_X7_readChart_138 (sc : Nat × (Nat → Int)) (iv : Nat → Nat → Int) (d1 : Option AV) : Run sc 128 138 [some (Rf 52), d1] [] (hp iv) = aBind (Run sc 127 0 [some (Rf 52), none, none] [] (hp iv)) (fun v h2 => Run sc 128 142 [some (Rf 52), d1] (pushR v []) h2) :=
  (R_aload_n mc_128 dX7_readChart_138 rfl).trans <|
  R_invV mc_128 dX7_readChart_139 mo_128 ct_7_142 af_128_127 rfl rfl rfl ⟨Nat.le_of_ble_eq_true rfl, Nat.le_of_ble_eq_true rfl⟩
theorem B_X7_readChart_142 (sc : Nat × (Nat → Int)) (iv : Nat → Nat → Int) (d1 : Option AV) (s0 : Int) : Run sc 128 142 [some (Rf 52), d1] [(I s0)] (hp iv) = aBind (Run sc 114 0 [some (Rf 52), some (I (iv 52 24)), none, none, none, none] [] (hp iv)) (fun v h2 => Run sc 128 151 [some (Rf 52), some (I s0)] (pushR v []) h2) :=
  (R_istore_n mc_128 dX7_readChart_142 (Nat.le_of_ble_eq_true rfl)).trans <|
  (R_aload_n mc_128 dX7_readChart_143 rfl).trans <|
  (R_aload_n mc_128 dX7_readChart_144 rfl).trans <|
  (R_getI mc_128 dX7_readChart_145 mo_128 ft_7_133 rfl rfl).trans <|
  R_invV mc_128 dX7_readChart_148 mo_128 ct_7_77 af_128_114 rfl rfl rfl ⟨Nat.le_of_ble_eq_true rfl, Nat.le_of_ble_eq_true rfl⟩
theorem B_X7_readChart_151 (sc : Nat × (Nat → Int)) (iv : Nat → Nat → Int) (x1 : Int) : Run sc 128 151 [some (Rf 52), some (I x1)] [] (hp iv) = some (some (I x1), hp iv) :=
  (R_iload_n mc_128 dX7_readChart_151 rfl).trans <|
  R_ireturn mc_128 dX7_readChart_152 rfl
theorem B_X7_isColor_0 (sc : Nat × (Nat → Int)) (iv : Nat → Nat → Int) (x0 : Int) : Run sc 129 0 [some (I x0)] [] (hp iv) = aBind (Run sc 109 0 [some (I x0), some (I 1), some (I 6)] [] (hp iv)) (fun v h2 => Run sc 129 7 [some (I x0)] (pushR v []) h2) :=
  (R_iload_n mc_129 dX7_isColor_0 rfl).trans <|
  (R_iconst mc_129 dX7_isColor_1 ⟨by decide, by decide⟩).trans <|
  (R_bipush mc_129 dX7_isColor_2 ⟨by decide, by decide⟩).trans <|
  R_invS mc_129 dX7_isColor_4 mo_129 ct_7_81 (Or.inl rfl) af_129_109 (Nat.le_of_ble_eq_true rfl) rfl rfl ⟨Nat.le_of_ble_eq_true rfl, Nat.le_of_ble_eq_true rfl⟩
theorem B_X7_isColor_7 (sc : Nat × (Nat → Int)) (iv : Nat → Nat → Int) (x0 : Int) (s0 : Int) : Run sc 129 7 [some (I x0)] [(I s0)] (hp iv) = bck 0 1 s0 (some (some (I s0), hp iv)) :=
  R_ireturnZ mc_129 dX7_isColor_7 rfl
theorem B_X7_setCell_0 (sc : Nat × (Nat → Int)) (iv : Nat → Nat → Int) (x1 : Int) (x2 : Int) (x3 : Int) : Run sc 130 0 [some (Rf 52), some (I x1), some (I x2), some (I x3), none] [] (hp iv) = aBind (Run sc 112 0 [some (Rf 52), some (I x1), some (I x2)] [] (hp iv)) (fun v h2 => Run sc 130 6 [some (Rf 52), some (I x1), some (I x2), some (I x3), none] (pushR v []) h2) :=
  (R_aload_n mc_130 dX7_setCell_0 rfl).trans <|
  (R_iload_n mc_130 dX7_setCell_1 rfl).trans <|
  (R_iload_n mc_130 dX7_setCell_2 rfl).trans <|
  R_invV mc_130 dX7_setCell_3 mo_130 ct_7_85 af_130_112 rfl rfl rfl ⟨Nat.le_of_ble_eq_true rfl, Nat.le_of_ble_eq_true rfl⟩
theorem B_X7_setCell_6 (sc : Nat × (Nat → Int)) (iv : Nat → Nat → Int) (x1 : Int) (x2 : Int) (x3 : Int) (d4 : Option AV) (s0 : Int) : Run sc 130 6 [some (Rf 52), some (I x1), some (I x2), some (I x3), d4] [(I s0)] (hp iv) = if s0 = 0 then some (some (I (-1)), hp iv) else Run sc 130 11 [some (Rf 52), some (I x1), some (I x2), some (I x3), d4] [] (hp iv) :=
  (R_if_ne mc_130 dX7_setCell_6 (t := 11) rfl).trans <| ite_c2
  ((R_iconst mc_130 dX7_setCell_9 ⟨by decide, by decide⟩).trans <|
  R_ireturn mc_130 dX7_setCell_10 rfl)
  (rfl)
theorem B_X7_setCell_11 (sc : Nat × (Nat → Int)) (iv : Nat → Nat → Int) (x1 : Int) (x2 : Int) (x3 : Int) (d4 : Option AV) : Run sc 130 11 [some (Rf 52), some (I x1), some (I x2), some (I x3), d4] [] (hp iv) = aBind (Run sc 109 0 [some (I x3), some (I 0), some (I 6)] [] (hp iv)) (fun v h2 => Run sc 130 18 [some (Rf 52), some (I x1), some (I x2), some (I x3), d4] (pushR v []) h2) :=
  (R_iload_n mc_130 dX7_setCell_11 rfl).trans <|
  (R_iconst mc_130 dX7_setCell_12 ⟨by decide, by decide⟩).trans <|
  (R_bipush mc_130 dX7_setCell_13 ⟨by decide, by decide⟩).trans <|
  R_invS mc_130 dX7_setCell_15 mo_130 ct_7_81 (Or.inl rfl) af_130_109 (Nat.le_of_ble_eq_true rfl) rfl rfl ⟨Nat.le_of_ble_eq_true rfl, Nat.le_of_ble_eq_true rfl⟩
theorem B_X7_setCell_18 (sc : Nat × (Nat → Int)) (iv : Nat → Nat → Int) (x1 : Int) (x2 : Int) (x3 : Int) (d4 : Option AV) (s0 : Int) : Run sc 130 18 [some (Rf 52), some (I x1), some (I x2), some (I x3), d4] [(I s0)] (hp iv) = if s0 = 0 then some (some (I (-2)), hp iv) else Run sc 130 24 [some (Rf 52), some (I x1), some (I x2), some (I x3), d4] [] (hp iv) :=
  (R_if_ne mc_130 dX7_setCell_18 (t := 24) rfl).trans <| ite_c2
  ((R_bipush mc_130 dX7_setCell_21 ⟨by decide, by decide⟩).trans <|
  R_ireturn mc_130 dX7_setCell_23 rfl)
  (rfl)
theorem B_X7_setCell_24 (sc : Nat × (Nat → Int)) (iv : Nat → Nat → Int) (x1 : Int) (x2 : Int) (x3 : Int) (d4 : Option AV) : Run sc 130 24 [some (Rf 52), some (I x1), some (I x2), some (I x3), d4] [] (hp iv) = aBind (Run sc 113 0 [some (Rf 52), some (I x1), some (I x2)] [] (hp iv)) (fun v h2 => Run sc 130 30 [some (Rf 52), some (I x1), some (I x2), some (I x3), d4] (pushR v []) h2) :=
  (R_aload_n mc_130 dX7_setCell_24 rfl).trans <|
  (R_iload_n mc_130 dX7_setCell_25 rfl).trans <|
  (R_iload_n mc_130 dX7_setCell_26 rfl).trans <|
  R_invV mc_130 dX7_setCell_27 mo_130 ct_7_89 af_130_113 rfl rfl rfl ⟨Nat.le_of_ble_eq_true rfl, Nat.le_of_ble_eq_true rfl⟩
theorem B_X7_setCell_30 (sc : Nat × (Nat → Int)) (iv : Nat → Nat → Int) (x1 : Int) (x2 : Int) (x3 : Int) (d4 : Option AV) (s0 : Int) : Run sc 130 30 [some (Rf 52), some (I x1), some (I x2), some (I x3), d4] [(I s0)] (hp iv) = aBind (Run sc 126 0 [some (Rf 52), none] [] (hp iv)) (fun v h2 => Run sc 130 36 [some (Rf 52), some (I x1), some (I x2), some (I x3), some (I s0)] (pushR v []) h2) :=
  (R_istore mc_130 dX7_setCell_30 (Nat.le_of_ble_eq_true rfl)).trans <|
  (R_aload_n mc_130 dX7_setCell_32 rfl).trans <|
  R_invV mc_130 dX7_setCell_33 mo_130 ct_7_136 af_130_126 rfl rfl rfl ⟨Nat.le_of_ble_eq_true rfl, Nat.le_of_ble_eq_true rfl⟩
theorem B_X7_setCell_36 (sc : Nat × (Nat → Int)) (iv : Nat → Nat → Int) (x1 : Int) (x2 : Int) (x3 : Int) (x4 : Int) : Run sc 130 36 [some (Rf 52), some (I x1), some (I x2), some (I x3), some (I x4)] [] (hp iv) = chk (24 * x2) (chk ((24 * x2) + x1) (bck 0 (((576 : Nat) : Int) - 1) ((24 * x2) + x1) (bck (-2147483648) 2147483647 x3 (Run sc 130 48 [some (Rf 52), some (I x1), some (I x2), some (I x3), some (I x4)] [] (hp (setO iv 54 (upI (iv 54) (Int.toNat ((24 * x2) + x1)) x3))))))) :=
  (R_aload_n mc_130 dX7_setCell_36 rfl).trans <|
  (R_getR mc_130 dX7_setCell_37 mo_130 ft_7_29 rfl rfl (r := 54) rfl (by decide)).trans <|
  (R_bipush mc_130 dX7_setCell_40 ⟨by decide, by decide⟩).trans <|
  (R_iload_n mc_130 dX7_setCell_42 rfl).trans <|
  (R_imul mc_130 dX7_setCell_43).trans <| chk_congr <|
  (R_iload_n mc_130 dX7_setCell_44 rfl).trans <|
  (R_iadd mc_130 dX7_setCell_45).trans <| chk_congr <|
  (R_iload_n mc_130 dX7_setCell_46 rfl).trans <|
  (R_iastore mc_130 dX7_setCell_47 rfl).trans <| bck_congr <| bck_congr <|
  rfl
theorem B_X7_setCell_48 (sc : Nat × (Nat → Int)) (iv : Nat → Nat → Int) (x1 : Int) (x2 : Int) (x3 : Int) (x4 : Int) : Run sc 130 48 [some (Rf 52), some (I x1), some (I x2), some (I x3), some (I x4)] [] (hp iv) = bck (-2147483648) 2147483647 0 (Run sc 130 53 [some (Rf 52), some (I x1), some (I x2), some (I x3), some (I x4)] [] (hp (setO iv 52 (upI (iv 52) 24 0)))) :=
  (R_aload_n mc_130 dX7_setCell_48 rfl).trans <|
  (R_iconst mc_130 dX7_setCell_49 ⟨by decide, by decide⟩).trans <|
  (R_putI mc_130 dX7_setCell_50 mo_130 ft_7_133 rfl rfl rfl (lo := (-2147483648)) (hi := 2147483647) rfl rfl).trans <| bck_congr <|
  rfl
theorem B_X7_setCell_53 (sc : Nat × (Nat → Int)) (iv : Nat → Nat → Int) (x1 : Int) (x2 : Int) (x3 : Int) (x4 : Int) : Run sc 130 53 [some (Rf 52), some (I x1), some (I x2), some (I x3), some (I x4)] [] (hp iv) = aBind (Run sc 127 0 [some (Rf 52), none, none] [] (hp iv)) (fun v h2 => Run sc 130 57 [some (Rf 52), some (I x1), some (I x2), some (I x3), some (I x4)] (pushR v []) h2) :=
  (R_aload_n mc_130 dX7_setCell_53 rfl).trans <|
  R_invV mc_130 dX7_setCell_54 mo_130 ct_7_142 af_130_127 rfl rfl rfl ⟨Nat.le_of_ble_eq_true rfl, Nat.le_of_ble_eq_true rfl⟩
theorem B_X7_setCell_57 (sc : Nat × (Nat → Int)) (iv : Nat → Nat → Int) (x1 : Int) (x2 : Int) (x3 : Int) (x4 : Int) (s0 : Int) : Run sc 130 57 [some (Rf 52), some (I x1), some (I x2), some (I x3), some (I x4)] [(I s0)] (hp iv) = aBind (Run sc 114 0 [some (Rf 52), some (I (iv 52 24)), none, none, none, none] [] (hp iv)) (fun v h2 => Run sc 130 66 [some (Rf 52), some (I x1), some (I x2), some (I x3), some (I x4)] (pushR v []) h2) :=
  (R_pop mc_130 dX7_setCell_57).trans <|
  (R_aload_n mc_130 dX7_setCell_58 rfl).trans <|
  (R_aload_n mc_130 dX7_setCell_59 rfl).trans <|
  (R_getI mc_130 dX7_setCell_60 mo_130 ft_7_133 rfl rfl).trans <|
  R_invV mc_130 dX7_setCell_63 mo_130 ct_7_77 af_130_114 rfl rfl rfl ⟨Nat.le_of_ble_eq_true rfl, Nat.le_of_ble_eq_true rfl⟩
theorem B_X7_setCell_66 (sc : Nat × (Nat → Int)) (iv : Nat → Nat → Int) (x1 : Int) (x2 : Int) (x3 : Int) (x4 : Int) : Run sc 130 66 [some (Rf 52), some (I x1), some (I x2), some (I x3), some (I x4)] [] (hp iv) = some (some (I x4), hp iv) :=
  (R_iload mc_130 dX7_setCell_66 rfl).trans <|
  R_ireturn mc_130 dX7_setCell_68 rfl
theorem B_X7_fill_0 (sc : Nat × (Nat → Int)) (iv : Nat → Nat → Int) (x1 : Int) (x2 : Int) (x3 : Int) (x4 : Int) (x5 : Int) : Run sc 131 0 [some (Rf 52), some (I x1), some (I x2), some (I x3), some (I x4), some (I x5), none, none] [] (hp iv) = aBind (Run sc 112 0 [some (Rf 52), some (I x1), some (I x2)] [] (hp iv)) (fun v h2 => Run sc 131 6 [some (Rf 52), some (I x1), some (I x2), some (I x3), some (I x4), some (I x5), none, none] (pushR v []) h2) :=
  (R_aload_n mc_131 dX7_fill_0 rfl).trans <|
  (R_iload_n mc_131 dX7_fill_1 rfl).trans <|
  (R_iload_n mc_131 dX7_fill_2 rfl).trans <|
  R_invV mc_131 dX7_fill_3 mo_131 ct_7_85 af_131_112 rfl rfl rfl ⟨Nat.le_of_ble_eq_true rfl, Nat.le_of_ble_eq_true rfl⟩
theorem B_X7_fill_6 (sc : Nat × (Nat → Int)) (iv : Nat → Nat → Int) (x1 : Int) (x2 : Int) (x3 : Int) (x4 : Int) (x5 : Int) (d6 : Option AV) (d7 : Option AV) (s0 : Int) : Run sc 131 6 [some (Rf 52), some (I x1), some (I x2), some (I x3), some (I x4), some (I x5), d6, d7] [(I s0)] (hp iv) = if s0 = 0 then some (some (I (-1)), hp iv) else Run sc 131 11 [some (Rf 52), some (I x1), some (I x2), some (I x3), some (I x4), some (I x5), d6, d7] [] (hp iv) :=
  (R_if_ne mc_131 dX7_fill_6 (t := 11) rfl).trans <| ite_c2
  ((R_iconst mc_131 dX7_fill_9 ⟨by decide, by decide⟩).trans <|
  R_ireturn mc_131 dX7_fill_10 rfl)
  (rfl)
theorem B_X7_fill_11 (sc : Nat × (Nat → Int)) (iv : Nat → Nat → Int) (x1 : Int) (x2 : Int) (x3 : Int) (x4 : Int) (x5 : Int) (d6 : Option AV) (d7 : Option AV) : Run sc 131 11 [some (Rf 52), some (I x1), some (I x2), some (I x3), some (I x4), some (I x5), d6, d7] [] (hp iv) = chk ((iv 52 0) - x1) (aBind (Run sc 109 0 [some (I x3), some (I 1), some (I ((iv 52 0) - x1))] [] (hp iv)) (fun v h2 => Run sc 131 22 [some (Rf 52), some (I x1), some (I x2), some (I x3), some (I x4), some (I x5), d6, d7] (pushR v []) h2)) :=
  (R_iload_n mc_131 dX7_fill_11 rfl).trans <|
  (R_iconst mc_131 dX7_fill_12 ⟨by decide, by decide⟩).trans <|
  (R_aload_n mc_131 dX7_fill_13 rfl).trans <|
  (R_getI mc_131 dX7_fill_14 mo_131 ft_7_71 rfl rfl).trans <|
  (R_iload_n mc_131 dX7_fill_17 rfl).trans <|
  (R_isub mc_131 dX7_fill_18).trans <| chk_congr <|
  R_invS mc_131 dX7_fill_19 mo_131 ct_7_81 (Or.inl rfl) af_131_109 (Nat.le_of_ble_eq_true rfl) rfl rfl ⟨Nat.le_of_ble_eq_true rfl, Nat.le_of_ble_eq_true rfl⟩
theorem B_X7_fill_22 (sc : Nat × (Nat → Int)) (iv : Nat → Nat → Int) (x1 : Int) (x2 : Int) (x3 : Int) (x4 : Int) (x5 : Int) (d6 : Option AV) (d7 : Option AV) (s0 : Int) : Run sc 131 22 [some (Rf 52), some (I x1), some (I x2), some (I x3), some (I x4), some (I x5), d6, d7] [(I s0)] (hp iv) = if s0 = 0 then Run sc 131 51 [some (Rf 52), some (I x1), some (I x2), some (I x3), some (I x4), some (I x5), d6, d7] [] (hp iv) else chk ((iv 52 1) - x2) (aBind (Run sc 109 0 [some (I x4), some (I 1), some (I ((iv 52 1) - x2))] [] (hp iv)) (fun v h2 => Run sc 131 37 [some (Rf 52), some (I x1), some (I x2), some (I x3), some (I x4), some (I x5), d6, d7] (pushR v []) h2)) :=
  (R_if_eq mc_131 dX7_fill_22 (t := 51) rfl).trans <| ite_c2
  (rfl)
  ((R_iload mc_131 dX7_fill_25 rfl).trans <|
  (R_iconst mc_131 dX7_fill_27 ⟨by decide, by decide⟩).trans <|
  (R_aload_n mc_131 dX7_fill_28 rfl).trans <|
  (R_getI mc_131 dX7_fill_29 mo_131 ft_7_74 rfl rfl).trans <|
  (R_iload_n mc_131 dX7_fill_32 rfl).trans <|
  (R_isub mc_131 dX7_fill_33).trans <| chk_congr <|
  R_invS mc_131 dX7_fill_34 mo_131 ct_7_81 (Or.inl rfl) af_131_109 (Nat.le_of_ble_eq_true rfl) rfl rfl ⟨Nat.le_of_ble_eq_true rfl, Nat.le_of_ble_eq_true rfl⟩)
theorem B_X7_fill_37 (sc : Nat × (Nat → Int)) (iv : Nat → Nat → Int) (x1 : Int) (x2 : Int) (x3 : Int) (x4 : Int) (x5 : Int) (d6 : Option AV) (d7 : Option AV) (s0 : Int) : Run sc 131 37 [some (Rf 52), some (I x1), some (I x2), some (I x3), some (I x4), some (I x5), d6, d7] [(I s0)] (hp iv) = if s0 = 0 then Run sc 131 51 [some (Rf 52), some (I x1), some (I x2), some (I x3), some (I x4), some (I x5), d6, d7] [] (hp iv) else aBind (Run sc 109 0 [some (I x5), some (I 0), some (I 6)] [] (hp iv)) (fun v h2 => Run sc 131 48 [some (Rf 52), some (I x1), some (I x2), some (I x3), some (I x4), some (I x5), d6, d7] (pushR v []) h2) :=
  (R_if_eq mc_131 dX7_fill_37 (t := 51) rfl).trans <| ite_c2
  (rfl)
  ((R_iload mc_131 dX7_fill_40 rfl).trans <|
  (R_iconst mc_131 dX7_fill_42 ⟨by decide, by decide⟩).trans <|
  (R_bipush mc_131 dX7_fill_43 ⟨by decide, by decide⟩).trans <|
  R_invS mc_131 dX7_fill_45 mo_131 ct_7_81 (Or.inl rfl) af_131_109 (Nat.le_of_ble_eq_true rfl) rfl rfl ⟨Nat.le_of_ble_eq_true rfl, Nat.le_of_ble_eq_true rfl⟩)
theorem B_X7_fill_48 (sc : Nat × (Nat → Int)) (iv : Nat → Nat → Int) (x1 : Int) (x2 : Int) (x3 : Int) (x4 : Int) (x5 : Int) (d6 : Option AV) (d7 : Option AV) (s0 : Int) : Run sc 131 48 [some (Rf 52), some (I x1), some (I x2), some (I x3), some (I x4), some (I x5), d6, d7] [(I s0)] (hp iv) = if s0 = 0 then Run sc 131 51 [some (Rf 52), some (I x1), some (I x2), some (I x3), some (I x4), some (I x5), d6, d7] [] (hp iv) else Run sc 131 54 [some (Rf 52), some (I x1), some (I x2), some (I x3), some (I x4), some (I x5), d6, d7] [] (hp iv) :=
  R_if_ne mc_131 dX7_fill_48 (t := 54) rfl
theorem B_X7_fill_51 (sc : Nat × (Nat → Int)) (iv : Nat → Nat → Int) (x1 : Int) (x2 : Int) (x3 : Int) (x4 : Int) (x5 : Int) (d6 : Option AV) (d7 : Option AV) : Run sc 131 51 [some (Rf 52), some (I x1), some (I x2), some (I x3), some (I x4), some (I x5), d6, d7] [] (hp iv) = some (some (I (-2)), hp iv) :=
  (R_bipush mc_131 dX7_fill_51 ⟨by decide, by decide⟩).trans <|
  R_ireturn mc_131 dX7_fill_53 rfl
theorem B_X7_fill_54 (sc : Nat × (Nat → Int)) (iv : Nat → Nat → Int) (x1 : Int) (x2 : Int) (x3 : Int) (x4 : Int) (x5 : Int) (d6 : Option AV) (d7 : Option AV) : Run sc 131 54 [some (Rf 52), some (I x1), some (I x2), some (I x3), some (I x4), some (I x5), d6, d7] [] (hp iv) = aBind (Run sc 126 0 [some (Rf 52), none] [] (hp iv)) (fun v h2 => Run sc 131 58 [some (Rf 52), some (I x1), some (I x2), some (I x3), some (I x4), some (I x5), d6, d7] (pushR v []) h2) :=
  (R_aload_n mc_131 dX7_fill_54 rfl).trans <|
  R_invV mc_131 dX7_fill_55 mo_131 ct_7_136 af_131_126 rfl rfl rfl ⟨Nat.le_of_ble_eq_true rfl, Nat.le_of_ble_eq_true rfl⟩
theorem B_X7_fill_58 (sc : Nat × (Nat → Int)) (iv : Nat → Nat → Int) (x1 : Int) (x2 : Int) (x3 : Int) (x4 : Int) (x5 : Int) (d6 : Option AV) (d7 : Option AV) : Run sc 131 58 [some (Rf 52), some (I x1), some (I x2), some (I x3), some (I x4), some (I x5), d6, d7] [] (hp iv) = Run sc 131 61 [some (Rf 52), some (I x1), some (I x2), some (I x3), some (I x4), some (I x5), some (I x2), d7] [] (hp iv) :=
  (R_iload_n mc_131 dX7_fill_58 rfl).trans <|
  R_istore mc_131 dX7_fill_59 (Nat.le_of_ble_eq_true rfl)
theorem B_X7_fill_61 (sc : Nat × (Nat → Int)) (iv : Nat → Nat → Int) (x1 : Int) (x2 : Int) (x3 : Int) (x4 : Int) (x5 : Int) (x6 : Int) (d7 : Option AV) : Run sc 131 61 [some (Rf 52), some (I x1), some (I x2), some (I x3), some (I x4), some (I x5), some (I x6), d7] [] (hp iv) = chk (x2 + x4) (if x6 < (x2 + x4) then Run sc 131 73 [some (Rf 52), some (I x1), some (I x2), some (I x3), some (I x4), some (I x5), some (I x6), some (I x1)] [] (hp iv) else Run sc 131 108 [some (Rf 52), some (I x1), some (I x2), some (I x3), some (I x4), some (I x5), some (I x6), d7] [] (hp iv)) :=
  (R_iload mc_131 dX7_fill_61 rfl).trans <|
  (R_iload_n mc_131 dX7_fill_63 rfl).trans <|
  (R_iload mc_131 dX7_fill_64 rfl).trans <|
  (R_iadd mc_131 dX7_fill_66).trans <| chk_congr <|
  (R_icmp_ge mc_131 dX7_fill_67 (t := 108) rfl).trans <| ite_c2
  ((R_iload_n mc_131 dX7_fill_70 rfl).trans <|
  R_istore mc_131 dX7_fill_71 (Nat.le_of_ble_eq_true rfl))
  (rfl)
theorem B_X7_fill_73 (sc : Nat × (Nat → Int)) (iv : Nat → Nat → Int) (x1 : Int) (x2 : Int) (x3 : Int) (x4 : Int) (x5 : Int) (x6 : Int) (x7 : Int) : Run sc 131 73 [some (Rf 52), some (I x1), some (I x2), some (I x3), some (I x4), some (I x5), some (I x6), some (I x7)] [] (hp iv) = chk (x1 + x3) (if x7 < (x1 + x3) then chk (24 * x6) (chk ((24 * x6) + x7) (bck 0 (((576 : Nat) : Int) - 1) ((24 * x6) + x7) (bck (-2147483648) 2147483647 x5 (Run sc 131 96 [some (Rf 52), some (I x1), some (I x2), some (I x3), some (I x4), some (I x5), some (I x6), some (I x7)] [] (hp (setO iv 54 (upI (iv 54) (Int.toNat ((24 * x6) + x7)) x5))))))) else Run sc 131 102 [some (Rf 52), some (I x1), some (I x2), some (I x3), some (I x4), some (I x5), some (I x6), some (I x7)] [] (hp iv)) :=
  (R_iload mc_131 dX7_fill_73 rfl).trans <|
  (R_iload_n mc_131 dX7_fill_75 rfl).trans <|
  (R_iload_n mc_131 dX7_fill_76 rfl).trans <|
  (R_iadd mc_131 dX7_fill_77).trans <| chk_congr <|
  (R_icmp_ge mc_131 dX7_fill_78 (t := 102) rfl).trans <| ite_c2
  ((R_aload_n mc_131 dX7_fill_81 rfl).trans <|
  (R_getR mc_131 dX7_fill_82 mo_131 ft_7_29 rfl rfl (r := 54) rfl (by decide)).trans <|
  (R_bipush mc_131 dX7_fill_85 ⟨by decide, by decide⟩).trans <|
  (R_iload mc_131 dX7_fill_87 rfl).trans <|
  (R_imul mc_131 dX7_fill_89).trans <| chk_congr <|
  (R_iload mc_131 dX7_fill_90 rfl).trans <|
  (R_iadd mc_131 dX7_fill_92).trans <| chk_congr <|
  (R_iload mc_131 dX7_fill_93 rfl).trans <|
  (R_iastore mc_131 dX7_fill_95 rfl).trans <| bck_congr <| bck_congr <|
  rfl)
  (rfl)
theorem B_X7_fill_96 (sc : Nat × (Nat → Int)) (iv : Nat → Nat → Int) (x1 : Int) (x2 : Int) (x3 : Int) (x4 : Int) (x5 : Int) (x6 : Int) (x7 : Int) : Run sc 131 96 [some (Rf 52), some (I x1), some (I x2), some (I x3), some (I x4), some (I x5), some (I x6), some (I x7)] [] (hp iv) = chk (x7 + 1) (Run sc 131 73 [some (Rf 52), some (I x1), some (I x2), some (I x3), some (I x4), some (I x5), some (I x6), some (I (x7 + 1))] [] (hp iv)) :=
  (R_iinc mc_131 dX7_fill_96 rfl).trans <| chk_congr <|
  R_goto mc_131 dX7_fill_99 (t := 73) rfl
theorem B_X7_fill_102 (sc : Nat × (Nat → Int)) (iv : Nat → Nat → Int) (x1 : Int) (x2 : Int) (x3 : Int) (x4 : Int) (x5 : Int) (x6 : Int) (x7 : Int) : Run sc 131 102 [some (Rf 52), some (I x1), some (I x2), some (I x3), some (I x4), some (I x5), some (I x6), some (I x7)] [] (hp iv) = chk (x6 + 1) (Run sc 131 61 [some (Rf 52), some (I x1), some (I x2), some (I x3), some (I x4), some (I x5), some (I (x6 + 1)), some (I x7)] [] (hp iv)) :=
  (R_iinc mc_131 dX7_fill_102 rfl).trans <| chk_congr <|
  R_goto mc_131 dX7_fill_105 (t := 61) rfl
theorem B_X7_fill_108 (sc : Nat × (Nat → Int)) (iv : Nat → Nat → Int) (x1 : Int) (x2 : Int) (x3 : Int) (x4 : Int) (x5 : Int) (x6 : Int) (d7 : Option AV) : Run sc 131 108 [some (Rf 52), some (I x1), some (I x2), some (I x3), some (I x4), some (I x5), some (I x6), d7] [] (hp iv) = bck (-2147483648) 2147483647 0 (Run sc 131 113 [some (Rf 52), some (I x1), some (I x2), some (I x3), some (I x4), some (I x5), some (I x6), d7] [] (hp (setO iv 52 (upI (iv 52) 24 0)))) :=
  (R_aload_n mc_131 dX7_fill_108 rfl).trans <|
  (R_iconst mc_131 dX7_fill_109 ⟨by decide, by decide⟩).trans <|
  (R_putI mc_131 dX7_fill_110 mo_131 ft_7_133 rfl rfl rfl (lo := (-2147483648)) (hi := 2147483647) rfl rfl).trans <| bck_congr <|
  rfl
theorem B_X7_fill_113 (sc : Nat × (Nat → Int)) (iv : Nat → Nat → Int) (x1 : Int) (x2 : Int) (x3 : Int) (x4 : Int) (x5 : Int) (x6 : Int) (d7 : Option AV) : Run sc 131 113 [some (Rf 52), some (I x1), some (I x2), some (I x3), some (I x4), some (I x5), some (I x6), d7] [] (hp iv) = aBind (Run sc 127 0 [some (Rf 52), none, none] [] (hp iv)) (fun v h2 => Run sc 131 117 [some (Rf 52), some (I x1), some (I x2), some (I x3), some (I x4), some (I x5), some (I x6), d7] (pushR v []) h2) :=
  (R_aload_n mc_131 dX7_fill_113 rfl).trans <|
  R_invV mc_131 dX7_fill_114 mo_131 ct_7_142 af_131_127 rfl rfl rfl ⟨Nat.le_of_ble_eq_true rfl, Nat.le_of_ble_eq_true rfl⟩
theorem B_X7_fill_117 (sc : Nat × (Nat → Int)) (iv : Nat → Nat → Int) (x1 : Int) (x2 : Int) (x3 : Int) (x4 : Int) (x5 : Int) (x6 : Int) (d7 : Option AV) (s0 : Int) : Run sc 131 117 [some (Rf 52), some (I x1), some (I x2), some (I x3), some (I x4), some (I x5), some (I x6), d7] [(I s0)] (hp iv) = aBind (Run sc 114 0 [some (Rf 52), some (I (iv 52 24)), none, none, none, none] [] (hp iv)) (fun v h2 => Run sc 131 127 [some (Rf 52), some (I x1), some (I x2), some (I x3), some (I x4), some (I x5), some (I s0), d7] (pushR v []) h2) :=
  (R_istore mc_131 dX7_fill_117 (Nat.le_of_ble_eq_true rfl)).trans <|
  (R_aload_n mc_131 dX7_fill_119 rfl).trans <|
  (R_aload_n mc_131 dX7_fill_120 rfl).trans <|
  (R_getI mc_131 dX7_fill_121 mo_131 ft_7_133 rfl rfl).trans <|
  R_invV mc_131 dX7_fill_124 mo_131 ct_7_77 af_131_114 rfl rfl rfl ⟨Nat.le_of_ble_eq_true rfl, Nat.le_of_ble_eq_true rfl⟩
theorem B_X7_fill_127 (sc : Nat × (Nat → Int)) (iv : Nat → Nat → Int) (x1 : Int) (x2 : Int) (x3 : Int) (x4 : Int) (x5 : Int) (x6 : Int) (d7 : Option AV) : Run sc 131 127 [some (Rf 52), some (I x1), some (I x2), some (I x3), some (I x4), some (I x5), some (I x6), d7] [] (hp iv) = some (some (I x6), hp iv) :=
  (R_iload mc_131 dX7_fill_127 rfl).trans <|
  R_ireturn mc_131 dX7_fill_129 rfl
theorem B_X7_cell_0 (sc : Nat × (Nat → Int)) (iv : Nat → Nat → Int) (x1 : Int) (x2 : Int) : Run sc 132 0 [some (Rf 52), some (I x1), some (I x2)] [] (hp iv) = aBind (Run sc 112 0 [some (Rf 52), some (I x1), some (I x2)] [] (hp iv)) (fun v h2 => Run sc 132 6 [some (Rf 52), some (I x1), some (I x2)] (pushR v []) h2) :=
  (R_aload_n mc_132 dX7_cell_0 rfl).trans <|
  (R_iload_n mc_132 dX7_cell_1 rfl).trans <|
  (R_iload_n mc_132 dX7_cell_2 rfl).trans <|
  R_invV mc_132 dX7_cell_3 mo_132 ct_7_85 af_132_112 rfl rfl rfl ⟨Nat.le_of_ble_eq_true rfl, Nat.le_of_ble_eq_true rfl⟩
theorem B_X7_cell_6 (sc : Nat × (Nat → Int)) (iv : Nat → Nat → Int) (x1 : Int) (x2 : Int) (s0 : Int) : Run sc 132 6 [some (Rf 52), some (I x1), some (I x2)] [(I s0)] (hp iv) = if s0 = 0 then Run sc 132 18 [some (Rf 52), some (I x1), some (I x2)] [] (hp iv) else aBind (Run sc 113 0 [some (Rf 52), some (I x1), some (I x2)] [] (hp iv)) (fun v h2 => Run sc 132 15 [some (Rf 52), some (I x1), some (I x2)] (pushR v []) h2) :=
  (R_if_eq mc_132 dX7_cell_6 (t := 18) rfl).trans <| ite_c2
  (rfl)
  ((R_aload_n mc_132 dX7_cell_9 rfl).trans <|
  (R_iload_n mc_132 dX7_cell_10 rfl).trans <|
  (R_iload_n mc_132 dX7_cell_11 rfl).trans <|
  R_invV mc_132 dX7_cell_12 mo_132 ct_7_89 af_132_113 rfl rfl rfl ⟨Nat.le_of_ble_eq_true rfl, Nat.le_of_ble_eq_true rfl⟩)
theorem B_X7_cell_15 (sc : Nat × (Nat → Int)) (iv : Nat → Nat → Int) (x1 : Int) (x2 : Int) (s0 : Int) : Run sc 132 15 [some (Rf 52), some (I x1), some (I x2)] [(I s0)] (hp iv) = Run sc 132 19 [some (Rf 52), some (I x1), some (I x2)] [(I s0)] (hp iv) :=
  R_goto mc_132 dX7_cell_15 (t := 19) rfl
theorem B_X7_cell_18 (sc : Nat × (Nat → Int)) (iv : Nat → Nat → Int) (x1 : Int) (x2 : Int) : Run sc 132 18 [some (Rf 52), some (I x1), some (I x2)] [] (hp iv) = Run sc 132 19 [some (Rf 52), some (I x1), some (I x2)] [(I (-1))] (hp iv) :=
  R_iconst mc_132 dX7_cell_18 ⟨by decide, by decide⟩
theorem B_X7_cell_19 (sc : Nat × (Nat → Int)) (iv : Nat → Nat → Int) (x1 : Int) (x2 : Int) (s0 : Int) : Run sc 132 19 [some (Rf 52), some (I x1), some (I x2)] [(I s0)] (hp iv) = some (some (I s0), hp iv) :=
  R_ireturn mc_132 dX7_cell_19 rfl
theorem B_X7_around_0 (sc : Nat × (Nat → Int)) (iv : Nat → Nat → Int) (x1 : Int) (x2 : Int) (x3 : Int) : Run sc 133 0 [some (Rf 52), some (I x1), some (I x2), some (I x3), none, none] [] (hp iv) = Run sc 133 6 [some (Rf 52), some (I x1), some (I x2), some (I x3), some (I 0), some (I 0)] [] (hp iv) :=
  (R_iconst mc_133 dX7_around_0 ⟨by decide, by decide⟩).trans <|
  (R_istore mc_133 dX7_around_1 (Nat.le_of_ble_eq_true rfl)).trans <|
  (R_iconst mc_133 dX7_around_3 ⟨by decide, by decide⟩).trans <|
  R_istore mc_133 dX7_around_4 (Nat.le_of_ble_eq_true rfl)
theorem B_X7_around_6 (sc : Nat × (Nat → Int)) (iv : Nat → Nat → Int) (x1 : Int) (x2 : Int) (x3 : Int) (x4 : Int) (x5 : Int) : Run sc 133 6 [some (Rf 52), some (I x1), some (I x2), some (I x3), some (I x4), some (I x5)] [] (hp iv) = if x5 < 9 then if x5 = 4 then Run sc 133 49 [some (Rf 52), some (I x1), some (I x2), some (I x3), some (I x4), some (I x5)] [(I x4)] (hp iv) else bck 1 2147483647 3 (bck 0 2147483647 x5 (chk (x1 + (x5 % 3)) (chk ((x1 + (x5 % 3)) - 1) (bck 1 2147483647 3 (bck 0 2147483647 x5 (chk (x2 + (x5 / 3)) (chk ((x2 + (x5 / 3)) - 1) (aBind (Run sc 113 0 [some (Rf 52), some (I ((x1 + (x5 % 3)) - 1)), some (I ((x2 + (x5 / 3)) - 1))] [] (hp iv)) (fun v h2 => Run sc 133 41 [some (Rf 52), some (I x1), some (I x2), some (I x3), some (I x4), some (I x5)] (pushR v [(I x4)]) h2))))))))) else Run sc 133 59 [some (Rf 52), some (I x1), some (I x2), some (I x3), some (I x4), some (I x5)] [] (hp iv) :=
  (R_iload mc_133 dX7_around_6 rfl).trans <|
  (R_bipush mc_133 dX7_around_8 ⟨by decide, by decide⟩).trans <|
  (R_icmp_ge mc_133 dX7_around_10 (t := 59) rfl).trans <| ite_c2
  ((R_iload mc_133 dX7_around_13 rfl).trans <|
  (R_iload mc_133 dX7_around_15 rfl).trans <|
  (R_iconst mc_133 dX7_around_17 ⟨by decide, by decide⟩).trans <|
  (R_icmp_eq mc_133 dX7_around_18 (t := 49) rfl).trans <| ite_c2
  (rfl)
  ((R_aload_n mc_133 dX7_around_21 rfl).trans <|
  (R_iload_n mc_133 dX7_around_22 rfl).trans <|
  (R_iload mc_133 dX7_around_23 rfl).trans <|
  (R_iconst mc_133 dX7_around_25 ⟨by decide, by decide⟩).trans <|
  (R_irem mc_133 dX7_around_26).trans <| bck_congr <| bck_congr <|
  (R_iadd mc_133 dX7_around_27).trans <| chk_congr <|
  (R_iconst mc_133 dX7_around_28 ⟨by decide, by decide⟩).trans <|
  (R_isub mc_133 dX7_around_29).trans <| chk_congr <|
  (R_iload_n mc_133 dX7_around_30 rfl).trans <|
  (R_iload mc_133 dX7_around_31 rfl).trans <|
  (R_iconst mc_133 dX7_around_33 ⟨by decide, by decide⟩).trans <|
  (R_idiv mc_133 dX7_around_34).trans <| bck_congr <| bck_congr <|
  (R_iadd mc_133 dX7_around_35).trans <| chk_congr <|
  (R_iconst mc_133 dX7_around_36 ⟨by decide, by decide⟩).trans <|
  (R_isub mc_133 dX7_around_37).trans <| chk_congr <|
  R_invV mc_133 dX7_around_38 mo_133 ct_7_89 af_133_113 rfl rfl rfl ⟨Nat.le_of_ble_eq_true rfl, Nat.le_of_ble_eq_true rfl⟩))
  (rfl)
theorem B_X7_around_41 (sc : Nat × (Nat → Int)) (iv : Nat → Nat → Int) (x1 : Int) (x2 : Int) (x3 : Int) (x4 : Int) (x5 : Int) (s0 : Int) (s1 : Int) : Run sc 133 41 [some (Rf 52), some (I x1), some (I x2), some (I x3), some (I x4), some (I x5)] [(I s0), (I s1)] (hp iv) = if s0 = x3 then Run sc 133 50 [some (Rf 52), some (I x1), some (I x2), some (I x3), some (I x4), some (I x5)] [(I 1), (I s1)] (hp iv) else Run sc 133 49 [some (Rf 52), some (I x1), some (I x2), some (I x3), some (I x4), some (I x5)] [(I s1)] (hp iv) :=
  (R_iload_n mc_133 dX7_around_41 rfl).trans <|
  (R_icmp_ne mc_133 dX7_around_42 (t := 49) rfl).trans <| ite_c2
  ((R_iconst mc_133 dX7_around_45 ⟨by decide, by decide⟩).trans <|
  R_goto mc_133 dX7_around_46 (t := 50) rfl)
  (rfl)
theorem B_X7_around_49 (sc : Nat × (Nat → Int)) (iv : Nat → Nat → Int) (x1 : Int) (x2 : Int) (x3 : Int) (x4 : Int) (x5 : Int) (s0 : Int) : Run sc 133 49 [some (Rf 52), some (I x1), some (I x2), some (I x3), some (I x4), some (I x5)] [(I s0)] (hp iv) = Run sc 133 50 [some (Rf 52), some (I x1), some (I x2), some (I x3), some (I x4), some (I x5)] [(I 0), (I s0)] (hp iv) :=
  R_iconst mc_133 dX7_around_49 ⟨by decide, by decide⟩
theorem B_X7_around_50 (sc : Nat × (Nat → Int)) (iv : Nat → Nat → Int) (x1 : Int) (x2 : Int) (x3 : Int) (x4 : Int) (x5 : Int) (s0 : Int) (s1 : Int) : Run sc 133 50 [some (Rf 52), some (I x1), some (I x2), some (I x3), some (I x4), some (I x5)] [(I s0), (I s1)] (hp iv) = chk (s1 + s0) (chk (x5 + 1) (Run sc 133 6 [some (Rf 52), some (I x1), some (I x2), some (I x3), some (I (s1 + s0)), some (I (x5 + 1))] [] (hp iv))) :=
  (R_iadd mc_133 dX7_around_50).trans <| chk_congr <|
  (R_istore mc_133 dX7_around_51 (Nat.le_of_ble_eq_true rfl)).trans <|
  (R_iinc mc_133 dX7_around_53 rfl).trans <| chk_congr <|
  R_goto mc_133 dX7_around_56 (t := 6) rfl
theorem B_X7_around_59 (sc : Nat × (Nat → Int)) (iv : Nat → Nat → Int) (x1 : Int) (x2 : Int) (x3 : Int) (x4 : Int) (x5 : Int) : Run sc 133 59 [some (Rf 52), some (I x1), some (I x2), some (I x3), some (I x4), some (I x5)] [] (hp iv) = some (some (I x4), hp iv) :=
  (R_iload mc_133 dX7_around_59 rfl).trans <|
  R_ireturn mc_133 dX7_around_61 rfl
theorem B_X7_stands_0 (sc : Nat × (Nat → Int)) (iv : Nat → Nat → Int) (x1 : Int) (x2 : Int) : Run sc 134 0 [some (Rf 52), some (I x1), some (I x2)] [] (hp iv) = aBind (Run sc 113 0 [some (Rf 52), some (I x1), some (I x2)] [] (hp iv)) (fun v h2 => Run sc 134 6 [some (Rf 52), some (I x1), some (I x2)] (pushR v []) h2) :=
  (R_aload_n mc_134 dX7_stands_0 rfl).trans <|
  (R_iload_n mc_134 dX7_stands_1 rfl).trans <|
  (R_iload_n mc_134 dX7_stands_2 rfl).trans <|
  R_invV mc_134 dX7_stands_3 mo_134 ct_7_89 af_134_113 rfl rfl rfl ⟨Nat.le_of_ble_eq_true rfl, Nat.le_of_ble_eq_true rfl⟩
theorem B_X7_stands_6 (sc : Nat × (Nat → Int)) (iv : Nat → Nat → Int) (x1 : Int) (x2 : Int) (s0 : Int) : Run sc 134 6 [some (Rf 52), some (I x1), some (I x2)] [(I s0)] (hp iv) = if 0 < s0 then aBind (Run sc 113 0 [some (Rf 52), some (I x1), some (I x2)] [] (hp iv)) (fun v h2 => Run sc 134 18 [some (Rf 52), some (I x1), some (I x2)] (pushR v [(I x2), (I x1), (Rf 52)]) h2) else Run sc 134 28 [some (Rf 52), some (I x1), some (I x2)] [] (hp iv) :=
  (R_if_le mc_134 dX7_stands_6 (t := 28) rfl).trans <| ite_c2
  ((R_aload_n mc_134 dX7_stands_9 rfl).trans <|
  (R_iload_n mc_134 dX7_stands_10 rfl).trans <|
  (R_iload_n mc_134 dX7_stands_11 rfl).trans <|
  (R_aload_n mc_134 dX7_stands_12 rfl).trans <|
  (R_iload_n mc_134 dX7_stands_13 rfl).trans <|
  (R_iload_n mc_134 dX7_stands_14 rfl).trans <|
  R_invV mc_134 dX7_stands_15 mo_134 ct_7_89 af_134_113 rfl rfl rfl ⟨Nat.le_of_ble_eq_true rfl, Nat.le_of_ble_eq_true rfl⟩)
  (rfl)
theorem B_X7_stands_18 (sc : Nat × (Nat → Int)) (iv : Nat → Nat → Int) (x1 : Int) (x2 : Int) (s0 : Int) (s1 : Int) (s2 : Int) : Run sc 134 18 [some (Rf 52), some (I x1), some (I x2)] [(I s0), (I s1), (I s2), (Rf 52)] (hp iv) = aBind (Run sc 133 0 [some (Rf 52), some (I s2), some (I s1), some (I s0), none, none] [] (hp iv)) (fun v h2 => Run sc 134 21 [some (Rf 52), some (I x1), some (I x2)] (pushR v []) h2) :=
  R_invV mc_134 dX7_stands_18 mo_134 ct_7_145 af_134_133 rfl rfl rfl ⟨Nat.le_of_ble_eq_true rfl, Nat.le_of_ble_eq_true rfl⟩
theorem B_X7_stands_21 (sc : Nat × (Nat → Int)) (iv : Nat → Nat → Int) (x1 : Int) (x2 : Int) (s0 : Int) : Run sc 134 21 [some (Rf 52), some (I x1), some (I x2)] [(I s0)] (hp iv) = if s0 = 0 then Run sc 134 29 [some (Rf 52), some (I x1), some (I x2)] [(I 1)] (hp iv) else Run sc 134 28 [some (Rf 52), some (I x1), some (I x2)] [] (hp iv) :=
  (R_if_ne mc_134 dX7_stands_21 (t := 28) rfl).trans <| ite_c2
  ((R_iconst mc_134 dX7_stands_24 ⟨by decide, by decide⟩).trans <|
  R_goto mc_134 dX7_stands_25 (t := 29) rfl)
  (rfl)
theorem B_X7_stands_28 (sc : Nat × (Nat → Int)) (iv : Nat → Nat → Int) (x1 : Int) (x2 : Int) : Run sc 134 28 [some (Rf 52), some (I x1), some (I x2)] [] (hp iv) = Run sc 134 29 [some (Rf 52), some (I x1), some (I x2)] [(I 0)] (hp iv) :=
  R_iconst mc_134 dX7_stands_28 ⟨by decide, by decide⟩
theorem B_X7_stands_29 (sc : Nat × (Nat → Int)) (iv : Nat → Nat → Int) (x1 : Int) (x2 : Int) (s0 : Int) : Run sc 134 29 [some (Rf 52), some (I x1), some (I x2)] [(I s0)] (hp iv) = bck 0 1 s0 (some (some (I s0), hp iv)) :=
  R_ireturnZ mc_134 dX7_stands_29 rfl
theorem B_X7_isLone_0 (sc : Nat × (Nat → Int)) (iv : Nat → Nat → Int) (x1 : Int) (x2 : Int) : Run sc 135 0 [some (Rf 52), some (I x1), some (I x2)] [] (hp iv) = aBind (Run sc 112 0 [some (Rf 52), some (I x1), some (I x2)] [] (hp iv)) (fun v h2 => Run sc 135 6 [some (Rf 52), some (I x1), some (I x2)] (pushR v []) h2) :=
  (R_aload_n mc_135 dX7_isLone_0 rfl).trans <|
  (R_iload_n mc_135 dX7_isLone_1 rfl).trans <|
  (R_iload_n mc_135 dX7_isLone_2 rfl).trans <|
  R_invV mc_135 dX7_isLone_3 mo_135 ct_7_85 af_135_112 rfl rfl rfl ⟨Nat.le_of_ble_eq_true rfl, Nat.le_of_ble_eq_true rfl⟩
theorem B_X7_isLone_6 (sc : Nat × (Nat → Int)) (iv : Nat → Nat → Int) (x1 : Int) (x2 : Int) (s0 : Int) : Run sc 135 6 [some (Rf 52), some (I x1), some (I x2)] [(I s0)] (hp iv) = if s0 = 0 then some (some (I (-1)), hp iv) else Run sc 135 11 [some (Rf 52), some (I x1), some (I x2)] [] (hp iv) :=
  (R_if_ne mc_135 dX7_isLone_6 (t := 11) rfl).trans <| ite_c2
  ((R_iconst mc_135 dX7_isLone_9 ⟨by decide, by decide⟩).trans <|
  R_ireturn mc_135 dX7_isLone_10 rfl)
  (rfl)
theorem B_X7_isLone_11 (sc : Nat × (Nat → Int)) (iv : Nat → Nat → Int) (x1 : Int) (x2 : Int) : Run sc 135 11 [some (Rf 52), some (I x1), some (I x2)] [] (hp iv) = aBind (Run sc 134 0 [some (Rf 52), some (I x1), some (I x2)] [] (hp iv)) (fun v h2 => Run sc 135 17 [some (Rf 52), some (I x1), some (I x2)] (pushR v []) h2) :=
  (R_aload_n mc_135 dX7_isLone_11 rfl).trans <|
  (R_iload_n mc_135 dX7_isLone_12 rfl).trans <|
  (R_iload_n mc_135 dX7_isLone_13 rfl).trans <|
  R_invV mc_135 dX7_isLone_14 mo_135 ct_7_148 af_135_134 rfl rfl rfl ⟨Nat.le_of_ble_eq_true rfl, Nat.le_of_ble_eq_true rfl⟩
theorem B_X7_isLone_17 (sc : Nat × (Nat → Int)) (iv : Nat → Nat → Int) (x1 : Int) (x2 : Int) (s0 : Int) : Run sc 135 17 [some (Rf 52), some (I x1), some (I x2)] [(I s0)] (hp iv) = if s0 = 0 then Run sc 135 24 [some (Rf 52), some (I x1), some (I x2)] [] (hp iv) else Run sc 135 25 [some (Rf 52), some (I x1), some (I x2)] [(I 1)] (hp iv) :=
  (R_if_eq mc_135 dX7_isLone_17 (t := 24) rfl).trans <| ite_c2
  (rfl)
  ((R_iconst mc_135 dX7_isLone_20 ⟨by decide, by decide⟩).trans <|
  R_goto mc_135 dX7_isLone_21 (t := 25) rfl)
theorem B_X7_isLone_24 (sc : Nat × (Nat → Int)) (iv : Nat → Nat → Int) (x1 : Int) (x2 : Int) : Run sc 135 24 [some (Rf 52), some (I x1), some (I x2)] [] (hp iv) = Run sc 135 25 [some (Rf 52), some (I x1), some (I x2)] [(I 0)] (hp iv) :=
  R_iconst mc_135 dX7_isLone_24 ⟨by decide, by decide⟩
theorem B_X7_isLone_25 (sc : Nat × (Nat → Int)) (iv : Nat → Nat → Int) (x1 : Int) (x2 : Int) (s0 : Int) : Run sc 135 25 [some (Rf 52), some (I x1), some (I x2)] [(I s0)] (hp iv) = some (some (I s0), hp iv) :=
  R_ireturn mc_135 dX7_isLone_25 rfl
theorem B_X7_count_0 (sc : Nat × (Nat → Int)) (iv : Nat → Nat → Int) (x1 : Int) (x2 : Int) : Run sc 136 0 [some (Rf 52), some (I x1), some (I x2), none, none, none, none] [] (hp iv) = aBind (Run sc 109 0 [some (I x1), some (I 0), some (I 6)] [] (hp iv)) (fun v h2 => Run sc 136 7 [some (Rf 52), some (I x1), some (I x2), none, none, none, none] (pushR v []) h2) :=
  (R_iload_n mc_136 dX7_count_0 rfl).trans <|
  (R_iconst mc_136 dX7_count_1 ⟨by decide, by decide⟩).trans <|
  (R_bipush mc_136 dX7_count_2 ⟨by decide, by decide⟩).trans <|
  R_invS mc_136 dX7_count_4 mo_136 ct_7_81 (Or.inl rfl) af_136_109 (Nat.le_of_ble_eq_true rfl) rfl rfl ⟨Nat.le_of_ble_eq_true rfl, Nat.le_of_ble_eq_true rfl⟩
theorem B_X7_count_7 (sc : Nat × (Nat → Int)) (iv : Nat → Nat → Int) (x1 : Int) (x2 : Int) (d3 : Option AV) (d4 : Option AV) (d5 : Option AV) (d6 : Option AV) (s0 : Int) : Run sc 136 7 [some (Rf 52), some (I x1), some (I x2), d3, d4, d5, d6] [(I s0)] (hp iv) = if s0 = 0 then Run sc 136 19 [some (Rf 52), some (I x1), some (I x2), d3, d4, d5, d6] [] (hp iv) else aBind (Run sc 109 0 [some (I x2), some (I 0), some (I 4)] [] (hp iv)) (fun v h2 => Run sc 136 16 [some (Rf 52), some (I x1), some (I x2), d3, d4, d5, d6] (pushR v []) h2) :=
  (R_if_eq mc_136 dX7_count_7 (t := 19) rfl).trans <| ite_c2
  (rfl)
  ((R_iload_n mc_136 dX7_count_10 rfl).trans <|
  (R_iconst mc_136 dX7_count_11 ⟨by decide, by decide⟩).trans <|
  (R_iconst mc_136 dX7_count_12 ⟨by decide, by decide⟩).trans <|
  R_invS mc_136 dX7_count_13 mo_136 ct_7_81 (Or.inl rfl) af_136_109 (Nat.le_of_ble_eq_true rfl) rfl rfl ⟨Nat.le_of_ble_eq_true rfl, Nat.le_of_ble_eq_true rfl⟩)
theorem B_X7_count_16 (sc : Nat × (Nat → Int)) (iv : Nat → Nat → Int) (x1 : Int) (x2 : Int) (d3 : Option AV) (d4 : Option AV) (d5 : Option AV) (d6 : Option AV) (s0 : Int) : Run sc 136 16 [some (Rf 52), some (I x1), some (I x2), d3, d4, d5, d6] [(I s0)] (hp iv) = if s0 = 0 then Run sc 136 19 [some (Rf 52), some (I x1), some (I x2), d3, d4, d5, d6] [] (hp iv) else Run sc 136 22 [some (Rf 52), some (I x1), some (I x2), d3, d4, d5, d6] [] (hp iv) :=
  R_if_ne mc_136 dX7_count_16 (t := 22) rfl
theorem B_X7_count_19 (sc : Nat × (Nat → Int)) (iv : Nat → Nat → Int) (x1 : Int) (x2 : Int) (d3 : Option AV) (d4 : Option AV) (d5 : Option AV) (d6 : Option AV) : Run sc 136 19 [some (Rf 52), some (I x1), some (I x2), d3, d4, d5, d6] [] (hp iv) = some (some (I (-2)), hp iv) :=
  (R_bipush mc_136 dX7_count_19 ⟨by decide, by decide⟩).trans <|
  R_ireturn mc_136 dX7_count_21 rfl
theorem B_X7_count_22 (sc : Nat × (Nat → Int)) (iv : Nat → Nat → Int) (x1 : Int) (x2 : Int) (d3 : Option AV) (d4 : Option AV) (d5 : Option AV) (d6 : Option AV) : Run sc 136 22 [some (Rf 52), some (I x1), some (I x2), d3, d4, d5, d6] [] (hp iv) = Run sc 136 27 [some (Rf 52), some (I x1), some (I x2), some (I 0), some (I 0), d5, d6] [] (hp iv) :=
  (R_iconst mc_136 dX7_count_22 ⟨by decide, by decide⟩).trans <|
  (R_istore_n mc_136 dX7_count_23 (Nat.le_of_ble_eq_true rfl)).trans <|
  (R_iconst mc_136 dX7_count_24 ⟨by decide, by decide⟩).trans <|
  R_istore mc_136 dX7_count_25 (Nat.le_of_ble_eq_true rfl)
theorem B_X7_count_27 (sc : Nat × (Nat → Int)) (iv : Nat → Nat → Int) (x1 : Int) (x2 : Int) (x3 : Int) (x4 : Int) (d5 : Option AV) (d6 : Option AV) : Run sc 136 27 [some (Rf 52), some (I x1), some (I x2), some (I x3), some (I x4), d5, d6] [] (hp iv) = if x4 < (iv 52 0) then if x2 < 2 then Run sc 136 44 [some (Rf 52), some (I x1), some (I x2), some (I x3), some (I x4), some (I 0), d6] [] (hp iv) else Run sc 136 127 [some (Rf 52), some (I x1), some (I x2), some (I x3), some (I x4), d5, d6] [] (hp iv) else Run sc 136 127 [some (Rf 52), some (I x1), some (I x2), some (I x3), some (I x4), d5, d6] [] (hp iv) :=
  (R_iload mc_136 dX7_count_27 rfl).trans <|
  (R_aload_n mc_136 dX7_count_29 rfl).trans <|
  (R_getI mc_136 dX7_count_30 mo_136 ft_7_71 rfl rfl).trans <|
  (R_icmp_ge mc_136 dX7_count_33 (t := 127) rfl).trans <| ite_c2
  ((R_iload_n mc_136 dX7_count_36 rfl).trans <|
  (R_iconst mc_136 dX7_count_37 ⟨by decide, by decide⟩).trans <|
  (R_icmp_ge mc_136 dX7_count_38 (t := 127) rfl).trans <| ite_c2
  ((R_iconst mc_136 dX7_count_41 ⟨by decide, by decide⟩).trans <|
  R_istore mc_136 dX7_count_42 (Nat.le_of_ble_eq_true rfl))
  (rfl))
  (rfl)
theorem B_X7_count_44 (sc : Nat × (Nat → Int)) (iv : Nat → Nat → Int) (x1 : Int) (x2 : Int) (x3 : Int) (x4 : Int) (x5 : Int) (d6 : Option AV) : Run sc 136 44 [some (Rf 52), some (I x1), some (I x2), some (I x3), some (I x4), some (I x5), d6] [] (hp iv) = if x5 < (iv 52 1) then aBind (Run sc 113 0 [some (Rf 52), some (I x4), some (I x5)] [] (hp iv)) (fun v h2 => Run sc 136 61 [some (Rf 52), some (I x1), some (I x2), some (I x3), some (I x4), some (I x5), d6] (pushR v []) h2) else Run sc 136 121 [some (Rf 52), some (I x1), some (I x2), some (I x3), some (I x4), some (I x5), d6] [] (hp iv) :=
  (R_iload mc_136 dX7_count_44 rfl).trans <|
  (R_aload_n mc_136 dX7_count_46 rfl).trans <|
  (R_getI mc_136 dX7_count_47 mo_136 ft_7_74 rfl rfl).trans <|
  (R_icmp_ge mc_136 dX7_count_50 (t := 121) rfl).trans <| ite_c2
  ((R_aload_n mc_136 dX7_count_53 rfl).trans <|
  (R_iload mc_136 dX7_count_54 rfl).trans <|
  (R_iload mc_136 dX7_count_56 rfl).trans <|
  R_invV mc_136 dX7_count_58 mo_136 ct_7_89 af_136_113 rfl rfl rfl ⟨Nat.le_of_ble_eq_true rfl, Nat.le_of_ble_eq_true rfl⟩)
  (rfl)
theorem B_X7_count_61 (sc : Nat × (Nat → Int)) (iv : Nat → Nat → Int) (x1 : Int) (x2 : Int) (x3 : Int) (x4 : Int) (x5 : Int) (d6 : Option AV) (s0 : Int) : Run sc 136 61 [some (Rf 52), some (I x1), some (I x2), some (I x3), some (I x4), some (I x5), d6] [(I s0)] (hp iv) = if 0 < s0 then if x1 = 0 then Run sc 136 80 [some (Rf 52), some (I x1), some (I x2), some (I x3), some (I x4), some (I x5), d6] [] (hp iv) else aBind (Run sc 113 0 [some (Rf 52), some (I x4), some (I x5)] [] (hp iv)) (fun v h2 => Run sc 136 76 [some (Rf 52), some (I x1), some (I x2), some (I x3), some (I x4), some (I x5), d6] (pushR v []) h2) else Run sc 136 84 [some (Rf 52), some (I x1), some (I x2), some (I x3), some (I x4), some (I x5), d6] [] (hp iv) :=
  (R_if_le mc_136 dX7_count_61 (t := 84) rfl).trans <| ite_c2
  ((R_iload_n mc_136 dX7_count_64 rfl).trans <|
  (R_if_eq mc_136 dX7_count_65 (t := 80) rfl).trans <| ite_c2
  (rfl)
  ((R_aload_n mc_136 dX7_count_68 rfl).trans <|
  (R_iload mc_136 dX7_count_69 rfl).trans <|
  (R_iload mc_136 dX7_count_71 rfl).trans <|
  R_invV mc_136 dX7_count_73 mo_136 ct_7_89 af_136_113 rfl rfl rfl ⟨Nat.le_of_ble_eq_true rfl, Nat.le_of_ble_eq_true rfl⟩))
  (rfl)
theorem B_X7_count_76 (sc : Nat × (Nat → Int)) (iv : Nat → Nat → Int) (x1 : Int) (x2 : Int) (x3 : Int) (x4 : Int) (x5 : Int) (d6 : Option AV) (s0 : Int) : Run sc 136 76 [some (Rf 52), some (I x1), some (I x2), some (I x3), some (I x4), some (I x5), d6] [(I s0)] (hp iv) = if s0 = x1 then Run sc 136 80 [some (Rf 52), some (I x1), some (I x2), some (I x3), some (I x4), some (I x5), d6] [] (hp iv) else Run sc 136 84 [some (Rf 52), some (I x1), some (I x2), some (I x3), some (I x4), some (I x5), d6] [] (hp iv) :=
  (R_iload_n mc_136 dX7_count_76 rfl).trans <|
  R_icmp_ne mc_136 dX7_count_77 (t := 84) rfl
theorem B_X7_count_80 (sc : Nat × (Nat → Int)) (iv : Nat → Nat → Int) (x1 : Int) (x2 : Int) (x3 : Int) (x4 : Int) (x5 : Int) (d6 : Option AV) : Run sc 136 80 [some (Rf 52), some (I x1), some (I x2), some (I x3), some (I x4), some (I x5), d6] [] (hp iv) = Run sc 136 85 [some (Rf 52), some (I x1), some (I x2), some (I x3), some (I x4), some (I x5), d6] [(I 1)] (hp iv) :=
  (R_iconst mc_136 dX7_count_80 ⟨by decide, by decide⟩).trans <|
  R_goto mc_136 dX7_count_81 (t := 85) rfl
theorem B_X7_count_84 (sc : Nat × (Nat → Int)) (iv : Nat → Nat → Int) (x1 : Int) (x2 : Int) (x3 : Int) (x4 : Int) (x5 : Int) (d6 : Option AV) : Run sc 136 84 [some (Rf 52), some (I x1), some (I x2), some (I x3), some (I x4), some (I x5), d6] [] (hp iv) = Run sc 136 85 [some (Rf 52), some (I x1), some (I x2), some (I x3), some (I x4), some (I x5), d6] [(I 0)] (hp iv) :=
  R_iconst mc_136 dX7_count_84 ⟨by decide, by decide⟩
theorem B_X7_count_85 (sc : Nat × (Nat → Int)) (iv : Nat → Nat → Int) (x1 : Int) (x2 : Int) (x3 : Int) (x4 : Int) (x5 : Int) (d6 : Option AV) (s0 : Int) : Run sc 136 85 [some (Rf 52), some (I x1), some (I x2), some (I x3), some (I x4), some (I x5), d6] [(I s0)] (hp iv) = if s0 = 0 then Run sc 136 112 [some (Rf 52), some (I x1), some (I x2), some (I x3), some (I x4), some (I x5), some (I s0)] [(I x3)] (hp iv) else if x2 = 0 then Run sc 136 108 [some (Rf 52), some (I x1), some (I x2), some (I x3), some (I x4), some (I x5), some (I s0)] [(I x3)] (hp iv) else aBind (Run sc 134 0 [some (Rf 52), some (I x4), some (I x5)] [] (hp iv)) (fun v h2 => Run sc 136 105 [some (Rf 52), some (I x1), some (I x2), some (I x3), some (I x4), some (I x5), some (I s0)] (pushR v [(I x3)]) h2) :=
  (R_istore mc_136 dX7_count_85 (Nat.le_of_ble_eq_true rfl)).trans <|
  (R_iload_n mc_136 dX7_count_87 rfl).trans <|
  (R_iload mc_136 dX7_count_88 rfl).trans <|
  (R_if_eq mc_136 dX7_count_90 (t := 112) rfl).trans <| ite_c2
  (rfl)
  ((R_iload_n mc_136 dX7_count_93 rfl).trans <|
  (R_if_eq mc_136 dX7_count_94 (t := 108) rfl).trans <| ite_c2
  (rfl)
  ((R_aload_n mc_136 dX7_count_97 rfl).trans <|
  (R_iload mc_136 dX7_count_98 rfl).trans <|
  (R_iload mc_136 dX7_count_100 rfl).trans <|
  R_invV mc_136 dX7_count_102 mo_136 ct_7_148 af_136_134 rfl rfl rfl ⟨Nat.le_of_ble_eq_true rfl, Nat.le_of_ble_eq_true rfl⟩))
theorem B_X7_count_105 (sc : Nat × (Nat → Int)) (iv : Nat → Nat → Int) (x1 : Int) (x2 : Int) (x3 : Int) (x4 : Int) (x5 : Int) (x6 : Int) (s0 : Int) (s1 : Int) : Run sc 136 105 [some (Rf 52), some (I x1), some (I x2), some (I x3), some (I x4), some (I x5), some (I x6)] [(I s0), (I s1)] (hp iv) = if s0 = 0 then Run sc 136 112 [some (Rf 52), some (I x1), some (I x2), some (I x3), some (I x4), some (I x5), some (I x6)] [(I s1)] (hp iv) else Run sc 136 108 [some (Rf 52), some (I x1), some (I x2), some (I x3), some (I x4), some (I x5), some (I x6)] [(I s1)] (hp iv) :=
  R_if_eq mc_136 dX7_count_105 (t := 112) rfl
theorem B_X7_count_108 (sc : Nat × (Nat → Int)) (iv : Nat → Nat → Int) (x1 : Int) (x2 : Int) (x3 : Int) (x4 : Int) (x5 : Int) (x6 : Int) (s0 : Int) : Run sc 136 108 [some (Rf 52), some (I x1), some (I x2), some (I x3), some (I x4), some (I x5), some (I x6)] [(I s0)] (hp iv) = Run sc 136 113 [some (Rf 52), some (I x1), some (I x2), some (I x3), some (I x4), some (I x5), some (I x6)] [(I 1), (I s0)] (hp iv) :=
  (R_iconst mc_136 dX7_count_108 ⟨by decide, by decide⟩).trans <|
  R_goto mc_136 dX7_count_109 (t := 113) rfl
theorem B_X7_count_112 (sc : Nat × (Nat → Int)) (iv : Nat → Nat → Int) (x1 : Int) (x2 : Int) (x3 : Int) (x4 : Int) (x5 : Int) (x6 : Int) (s0 : Int) : Run sc 136 112 [some (Rf 52), some (I x1), some (I x2), some (I x3), some (I x4), some (I x5), some (I x6)] [(I s0)] (hp iv) = Run sc 136 113 [some (Rf 52), some (I x1), some (I x2), some (I x3), some (I x4), some (I x5), some (I x6)] [(I 0), (I s0)] (hp iv) :=
  R_iconst mc_136 dX7_count_112 ⟨by decide, by decide⟩
theorem B_X7_count_113 (sc : Nat × (Nat → Int)) (iv : Nat → Nat → Int) (x1 : Int) (x2 : Int) (x3 : Int) (x4 : Int) (x5 : Int) (x6 : Int) (s0 : Int) (s1 : Int) : Run sc 136 113 [some (Rf 52), some (I x1), some (I x2), some (I x3), some (I x4), some (I x5), some (I x6)] [(I s0), (I s1)] (hp iv) = chk (s1 + s0) (chk (x5 + 1) (Run sc 136 44 [some (Rf 52), some (I x1), some (I x2), some (I (s1 + s0)), some (I x4), some (I (x5 + 1)), some (I x6)] [] (hp iv))) :=
  (R_iadd mc_136 dX7_count_113).trans <| chk_congr <|
  (R_istore_n mc_136 dX7_count_114 (Nat.le_of_ble_eq_true rfl)).trans <|
  (R_iinc mc_136 dX7_count_115 rfl).trans <| chk_congr <|
  R_goto mc_136 dX7_count_118 (t := 44) rfl
theorem B_X7_count_121 (sc : Nat × (Nat → Int)) (iv : Nat → Nat → Int) (x1 : Int) (x2 : Int) (x3 : Int) (x4 : Int) (x5 : Int) (d6 : Option AV) : Run sc 136 121 [some (Rf 52), some (I x1), some (I x2), some (I x3), some (I x4), some (I x5), d6] [] (hp iv) = chk (x4 + 1) (Run sc 136 27 [some (Rf 52), some (I x1), some (I x2), some (I x3), some (I (x4 + 1)), some (I x5), d6] [] (hp iv)) :=
  (R_iinc mc_136 dX7_count_121 rfl).trans <| chk_congr <|
  R_goto mc_136 dX7_count_124 (t := 27) rfl
theorem B_X7_count_127 (sc : Nat × (Nat → Int)) (iv : Nat → Nat → Int) (x1 : Int) (x2 : Int) (x3 : Int) (x4 : Int) (d5 : Option AV) (d6 : Option AV) : Run sc 136 127 [some (Rf 52), some (I x1), some (I x2), some (I x3), some (I x4), d5, d6] [] (hp iv) = Run sc 136 130 [some (Rf 52), some (I x1), some (I x2), some (I x3), some (I 1), d5, d6] [] (hp iv) :=
  (R_iconst mc_136 dX7_count_127 ⟨by decide, by decide⟩).trans <|
  R_istore mc_136 dX7_count_128 (Nat.le_of_ble_eq_true rfl)
theorem B_X7_count_130 (sc : Nat × (Nat → Int)) (iv : Nat → Nat → Int) (x1 : Int) (x2 : Int) (x3 : Int) (x4 : Int) (d5 : Option AV) (d6 : Option AV) : Run sc 136 130 [some (Rf 52), some (I x1), some (I x2), some (I x3), some (I x4), d5, d6] [] (hp iv) = if 6 < x4 then Run sc 136 196 [some (Rf 52), some (I x1), some (I x2), some (I x3), some (I x4), d5, d6] [] (hp iv) else if 1 < x2 then if x1 = 0 then Run sc 136 152 [some (Rf 52), some (I x1), some (I x2), some (I x3), some (I x4), d5, d6] [] (hp iv) else if x4 = x1 then Run sc 136 152 [some (Rf 52), some (I x1), some (I x2), some (I x3), some (I x4), d5, d6] [] (hp iv) else Run sc 136 190 [some (Rf 52), some (I x1), some (I x2), some (I x3), some (I x4), d5, d6] [] (hp iv) else Run sc 136 196 [some (Rf 52), some (I x1), some (I x2), some (I x3), some (I x4), d5, d6] [] (hp iv) :=
  (R_iload mc_136 dX7_count_130 rfl).trans <|
  (R_bipush mc_136 dX7_count_132 ⟨by decide, by decide⟩).trans <|
  (R_icmp_gt mc_136 dX7_count_134 (t := 196) rfl).trans <| ite_c2
  (rfl)
  ((R_iload_n mc_136 dX7_count_137 rfl).trans <|
  (R_iconst mc_136 dX7_count_138 ⟨by decide, by decide⟩).trans <|
  (R_icmp_le mc_136 dX7_count_139 (t := 196) rfl).trans <| ite_c2
  ((R_iload_n mc_136 dX7_count_142 rfl).trans <|
  (R_if_eq mc_136 dX7_count_143 (t := 152) rfl).trans <| ite_c2
  (rfl)
  ((R_iload mc_136 dX7_count_146 rfl).trans <|
  (R_iload_n mc_136 dX7_count_148 rfl).trans <|
  R_icmp_ne mc_136 dX7_count_149 (t := 190) rfl))
  (rfl))
theorem B_X7_count_152 (sc : Nat × (Nat → Int)) (iv : Nat → Nat → Int) (x1 : Int) (x2 : Int) (x3 : Int) (x4 : Int) (d5 : Option AV) (d6 : Option AV) : Run sc 136 152 [some (Rf 52), some (I x1), some (I x2), some (I x3), some (I x4), d5, d6] [] (hp iv) = if x2 = 2 then bck 0 (((7 : Nat) : Int) - 1) x4 (Run sc 136 188 [some (Rf 52), some (I x1), some (I x2), some (I x3), some (I x4), d5, d6] [(I (iv 57 (Int.toNat x4))), (I x3)] (hp iv)) else Run sc 136 168 [some (Rf 52), some (I x1), some (I x2), some (I x3), some (I x4), d5, d6] [(I x3)] (hp iv) :=
  (R_iload_n mc_136 dX7_count_152 rfl).trans <|
  (R_iload_n mc_136 dX7_count_153 rfl).trans <|
  (R_iconst mc_136 dX7_count_154 ⟨by decide, by decide⟩).trans <|
  (R_icmp_ne mc_136 dX7_count_155 (t := 168) rfl).trans <| ite_c2
  ((R_aload_n mc_136 dX7_count_158 rfl).trans <|
  (R_getR mc_136 dX7_count_159 mo_136 ft_7_39 rfl rfl (r := 57) rfl (by decide)).trans <|
  (R_iload mc_136 dX7_count_162 rfl).trans <|
  (R_iaload mc_136 dX7_count_164 rfl).trans <| bck_congr <|
  R_goto mc_136 dX7_count_165 (t := 188) rfl)
  (rfl)
theorem B_X7_count_168 (sc : Nat × (Nat → Int)) (iv : Nat → Nat → Int) (x1 : Int) (x2 : Int) (x3 : Int) (x4 : Int) (d5 : Option AV) (d6 : Option AV) (s0 : Int) : Run sc 136 168 [some (Rf 52), some (I x1), some (I x2), some (I x3), some (I x4), d5, d6] [(I s0)] (hp iv) = if x2 = 3 then aBind (Run sc 119 0 [some (Rf 52), some (I x4), none, none, none] [] (hp iv)) (fun v h2 => Run sc 136 179 [some (Rf 52), some (I x1), some (I x2), some (I x3), some (I x4), d5, d6] (pushR v [(I s0)]) h2) else Run sc 136 182 [some (Rf 52), some (I x1), some (I x2), some (I x3), some (I x4), d5, d6] [(I s0)] (hp iv) :=
  (R_iload_n mc_136 dX7_count_168 rfl).trans <|
  (R_iconst mc_136 dX7_count_169 ⟨by decide, by decide⟩).trans <|
  (R_icmp_ne mc_136 dX7_count_170 (t := 182) rfl).trans <| ite_c2
  ((R_aload_n mc_136 dX7_count_173 rfl).trans <|
  (R_iload mc_136 dX7_count_174 rfl).trans <|
  R_invV mc_136 dX7_count_176 mo_136 ct_7_151 af_136_119 rfl rfl rfl ⟨Nat.le_of_ble_eq_true rfl, Nat.le_of_ble_eq_true rfl⟩)
  (rfl)
theorem B_X7_count_179 (sc : Nat × (Nat → Int)) (iv : Nat → Nat → Int) (x1 : Int) (x2 : Int) (x3 : Int) (x4 : Int) (d5 : Option AV) (d6 : Option AV) (s0 : Int) (s1 : Int) : Run sc 136 179 [some (Rf 52), some (I x1), some (I x2), some (I x3), some (I x4), d5, d6] [(I s0), (I s1)] (hp iv) = Run sc 136 188 [some (Rf 52), some (I x1), some (I x2), some (I x3), some (I x4), d5, d6] [(I s0), (I s1)] (hp iv) :=
  R_goto mc_136 dX7_count_179 (t := 188) rfl
theorem B_X7_count_182 (sc : Nat × (Nat → Int)) (iv : Nat → Nat → Int) (x1 : Int) (x2 : Int) (x3 : Int) (x4 : Int) (d5 : Option AV) (d6 : Option AV) (s0 : Int) : Run sc 136 182 [some (Rf 52), some (I x1), some (I x2), some (I x3), some (I x4), d5, d6] [(I s0)] (hp iv) = aBind (Run sc 120 0 [some (Rf 52), some (I x4), none, none] [] (hp iv)) (fun v h2 => Run sc 136 188 [some (Rf 52), some (I x1), some (I x2), some (I x3), some (I x4), d5, d6] (pushR v [(I s0)]) h2) :=
  (R_aload_n mc_136 dX7_count_182 rfl).trans <|
  (R_iload mc_136 dX7_count_183 rfl).trans <|
  R_invV mc_136 dX7_count_185 mo_136 ct_7_155 af_136_120 rfl rfl rfl ⟨Nat.le_of_ble_eq_true rfl, Nat.le_of_ble_eq_true rfl⟩
theorem B_X7_count_188 (sc : Nat × (Nat → Int)) (iv : Nat → Nat → Int) (x1 : Int) (x2 : Int) (x3 : Int) (x4 : Int) (d5 : Option AV) (d6 : Option AV) (s0 : Int) (s1 : Int) : Run sc 136 188 [some (Rf 52), some (I x1), some (I x2), some (I x3), some (I x4), d5, d6] [(I s0), (I s1)] (hp iv) = chk (s1 + s0) (Run sc 136 190 [some (Rf 52), some (I x1), some (I x2), some (I (s1 + s0)), some (I x4), d5, d6] [] (hp iv)) :=
  (R_iadd mc_136 dX7_count_188).trans <| chk_congr <|
  R_istore_n mc_136 dX7_count_189 (Nat.le_of_ble_eq_true rfl)
theorem B_X7_count_190 (sc : Nat × (Nat → Int)) (iv : Nat → Nat → Int) (x1 : Int) (x2 : Int) (x3 : Int) (x4 : Int) (d5 : Option AV) (d6 : Option AV) : Run sc 136 190 [some (Rf 52), some (I x1), some (I x2), some (I x3), some (I x4), d5, d6] [] (hp iv) = chk (x4 + 1) (Run sc 136 130 [some (Rf 52), some (I x1), some (I x2), some (I x3), some (I (x4 + 1)), d5, d6] [] (hp iv)) :=
  (R_iinc mc_136 dX7_count_190 rfl).trans <| chk_congr <|
  R_goto mc_136 dX7_count_193 (t := 130) rfl
theorem B_X7_count_196 (sc : Nat × (Nat → Int)) (iv : Nat → Nat → Int) (x1 : Int) (x2 : Int) (x3 : Int) (x4 : Int) (d5 : Option AV) (d6 : Option AV) : Run sc 136 196 [some (Rf 52), some (I x1), some (I x2), some (I x3), some (I x4), d5, d6] [] (hp iv) = some (some (I x3), hp iv) :=
  (R_iload_n mc_136 dX7_count_196 rfl).trans <|
  R_ireturn mc_136 dX7_count_197 rfl
theorem B_X7_merged_0 (sc : Nat × (Nat → Int)) (iv : Nat → Nat → Int) (x1 : Int) (x2 : Int) : Run sc 137 0 [some (Rf 52), some (I x1), some (I x2), none, none, none, none] [] (hp iv) = aBind (Run sc 113 0 [some (Rf 52), some (I x1), some (I x2)] [] (hp iv)) (fun v h2 => Run sc 137 6 [some (Rf 52), some (I x1), some (I x2), none, none, none, none] (pushR v []) h2) :=
  (R_aload_n mc_137 dX7_merged_0 rfl).trans <|
  (R_iload_n mc_137 dX7_merged_1 rfl).trans <|
  (R_iload_n mc_137 dX7_merged_2 rfl).trans <|
  R_invV mc_137 dX7_merged_3 mo_137 ct_7_89 af_137_113 rfl rfl rfl ⟨Nat.le_of_ble_eq_true rfl, Nat.le_of_ble_eq_true rfl⟩
theorem B_X7_merged_6 (sc : Nat × (Nat → Int)) (iv : Nat → Nat → Int) (x1 : Int) (x2 : Int) (d3 : Option AV) (d4 : Option AV) (d5 : Option AV) (d6 : Option AV) (s0 : Int) : Run sc 137 6 [some (Rf 52), some (I x1), some (I x2), d3, d4, d5, d6] [(I s0)] (hp iv) = Run sc 137 13 [some (Rf 52), some (I x1), some (I x2), some (I s0), some (I 0), some (I 1), d6] [] (hp iv) :=
  (R_istore_n mc_137 dX7_merged_6 (Nat.le_of_ble_eq_true rfl)).trans <|
  (R_iconst mc_137 dX7_merged_7 ⟨by decide, by decide⟩).trans <|
  (R_istore mc_137 dX7_merged_8 (Nat.le_of_ble_eq_true rfl)).trans <|
  (R_iconst mc_137 dX7_merged_10 ⟨by decide, by decide⟩).trans <|
  R_istore mc_137 dX7_merged_11 (Nat.le_of_ble_eq_true rfl)
theorem B_X7_merged_13 (sc : Nat × (Nat → Int)) (iv : Nat → Nat → Int) (x1 : Int) (x2 : Int) (x3 : Int) (x4 : Int) (x5 : Int) (d6 : Option AV) : Run sc 137 13 [some (Rf 52), some (I x1), some (I x2), some (I x3), some (I x4), some (I x5), d6] [] (hp iv) = if 6 < x5 then Run sc 137 66 [some (Rf 52), some (I x1), some (I x2), some (I x3), some (I x4), some (I x5), d6] [] (hp iv) else aBind (Run sc 133 0 [some (Rf 52), some (I x1), some (I x2), some (I x5), none, none] [] (hp iv)) (fun v h2 => Run sc 137 28 [some (Rf 52), some (I x1), some (I x2), some (I x3), some (I x4), some (I x5), d6] (pushR v []) h2) :=
  (R_iload mc_137 dX7_merged_13 rfl).trans <|
  (R_bipush mc_137 dX7_merged_15 ⟨by decide, by decide⟩).trans <|
  (R_icmp_gt mc_137 dX7_merged_17 (t := 66) rfl).trans <| ite_c2
  (rfl)
  ((R_aload_n mc_137 dX7_merged_20 rfl).trans <|
  (R_iload_n mc_137 dX7_merged_21 rfl).trans <|
  (R_iload_n mc_137 dX7_merged_22 rfl).trans <|
  (R_iload mc_137 dX7_merged_23 rfl).trans <|
  R_invV mc_137 dX7_merged_25 mo_137 ct_7_145 af_137_133 rfl rfl rfl ⟨Nat.le_of_ble_eq_true rfl, Nat.le_of_ble_eq_true rfl⟩)
theorem B_X7_merged_28 (sc : Nat × (Nat → Int)) (iv : Nat → Nat → Int) (x1 : Int) (x2 : Int) (x3 : Int) (x4 : Int) (x5 : Int) (d6 : Option AV) (s0 : Int) : Run sc 137 28 [some (Rf 52), some (I x1), some (I x2), some (I x3), some (I x4), some (I x5), d6] [(I s0)] (hp iv) = if x4 < s0 then Run sc 137 43 [some (Rf 52), some (I x1), some (I x2), some (I x3), some (I x4), some (I x5), some (I s0)] [(I x5)] (hp iv) else Run sc 137 42 [some (Rf 52), some (I x1), some (I x2), some (I x3), some (I x4), some (I x5), some (I s0)] [] (hp iv) :=
  (R_istore mc_137 dX7_merged_28 (Nat.le_of_ble_eq_true rfl)).trans <|
  (R_iload mc_137 dX7_merged_30 rfl).trans <|
  (R_iload mc_137 dX7_merged_32 rfl).trans <|
  (R_icmp_le mc_137 dX7_merged_34 (t := 42) rfl).trans <| ite_c2
  ((R_iload mc_137 dX7_merged_37 rfl).trans <|
  R_goto mc_137 dX7_merged_39 (t := 43) rfl)
  (rfl)
theorem B_X7_merged_42 (sc : Nat × (Nat → Int)) (iv : Nat → Nat → Int) (x1 : Int) (x2 : Int) (x3 : Int) (x4 : Int) (x5 : Int) (x6 : Int) : Run sc 137 42 [some (Rf 52), some (I x1), some (I x2), some (I x3), some (I x4), some (I x5), some (I x6)] [] (hp iv) = Run sc 137 43 [some (Rf 52), some (I x1), some (I x2), some (I x3), some (I x4), some (I x5), some (I x6)] [(I x3)] (hp iv) :=
  R_iload_n mc_137 dX7_merged_42 rfl
theorem B_X7_merged_43 (sc : Nat × (Nat → Int)) (iv : Nat → Nat → Int) (x1 : Int) (x2 : Int) (x3 : Int) (x4 : Int) (x5 : Int) (x6 : Int) (s0 : Int) : Run sc 137 43 [some (Rf 52), some (I x1), some (I x2), some (I x3), some (I x4), some (I x5), some (I x6)] [(I s0)] (hp iv) = if x4 < x6 then Run sc 137 58 [some (Rf 52), some (I x1), some (I x2), some (I s0), some (I x4), some (I x5), some (I x6)] [(I x6)] (hp iv) else Run sc 137 56 [some (Rf 52), some (I x1), some (I x2), some (I s0), some (I x4), some (I x5), some (I x6)] [] (hp iv) :=
  (R_istore_n mc_137 dX7_merged_43 (Nat.le_of_ble_eq_true rfl)).trans <|
  (R_iload mc_137 dX7_merged_44 rfl).trans <|
  (R_iload mc_137 dX7_merged_46 rfl).trans <|
  (R_icmp_le mc_137 dX7_merged_48 (t := 56) rfl).trans <| ite_c2
  ((R_iload mc_137 dX7_merged_51 rfl).trans <|
  R_goto mc_137 dX7_merged_53 (t := 58) rfl)
  (rfl)
theorem B_X7_merged_56 (sc : Nat × (Nat → Int)) (iv : Nat → Nat → Int) (x1 : Int) (x2 : Int) (x3 : Int) (x4 : Int) (x5 : Int) (x6 : Int) : Run sc 137 56 [some (Rf 52), some (I x1), some (I x2), some (I x3), some (I x4), some (I x5), some (I x6)] [] (hp iv) = Run sc 137 58 [some (Rf 52), some (I x1), some (I x2), some (I x3), some (I x4), some (I x5), some (I x6)] [(I x4)] (hp iv) :=
  R_iload mc_137 dX7_merged_56 rfl
theorem B_X7_merged_58 (sc : Nat × (Nat → Int)) (iv : Nat → Nat → Int) (x1 : Int) (x2 : Int) (x3 : Int) (x4 : Int) (x5 : Int) (x6 : Int) (s0 : Int) : Run sc 137 58 [some (Rf 52), some (I x1), some (I x2), some (I x3), some (I x4), some (I x5), some (I x6)] [(I s0)] (hp iv) = chk (x5 + 1) (Run sc 137 13 [some (Rf 52), some (I x1), some (I x2), some (I x3), some (I s0), some (I (x5 + 1)), some (I x6)] [] (hp iv)) :=
  (R_istore mc_137 dX7_merged_58 (Nat.le_of_ble_eq_true rfl)).trans <|
  (R_iinc mc_137 dX7_merged_60 rfl).trans <| chk_congr <|
  R_goto mc_137 dX7_merged_63 (t := 13) rfl
theorem B_X7_merged_66 (sc : Nat × (Nat → Int)) (iv : Nat → Nat → Int) (x1 : Int) (x2 : Int) (x3 : Int) (x4 : Int) (x5 : Int) (d6 : Option AV) : Run sc 137 66 [some (Rf 52), some (I x1), some (I x2), some (I x3), some (I x4), some (I x5), d6] [] (hp iv) = some (some (I x3), hp iv) :=
  (R_iload_n mc_137 dX7_merged_66 rfl).trans <|
  R_ireturn mc_137 dX7_merged_67 rfl
theorem B_X7_merge_0 (sc : Nat × (Nat → Int)) (iv : Nat → Nat → Int) (x1 : Int) : Run sc 138 0 [some (Rf 52), some (I x1), none, none, none, none, none] [] (hp iv) = aBind (Run sc 109 0 [some (I x1), some (I 1), some (I 20)] [] (hp iv)) (fun v h2 => Run sc 138 7 [some (Rf 52), some (I x1), none, none, none, none, none] (pushR v []) h2) :=
  (R_iload_n mc_138 dX7_merge_0 rfl).trans <|
  (R_iconst mc_138 dX7_merge_1 ⟨by decide, by decide⟩).trans <|
  (R_bipush mc_138 dX7_merge_2 ⟨by decide, by decide⟩).trans <|
  R_invS mc_138 dX7_merge_4 mo_138 ct_7_81 (Or.inl rfl) af_138_109 (Nat.le_of_ble_eq_true rfl) rfl rfl ⟨Nat.le_of_ble_eq_true rfl, Nat.le_of_ble_eq_true rfl⟩
theorem B_X7_merge_7 (sc : Nat × (Nat → Int)) (iv : Nat → Nat → Int) (x1 : Int) (d2 : Option AV) (d3 : Option AV) (d4 : Option AV) (d5 : Option AV) (d6 : Option AV) (s0 : Int) : Run sc 138 7 [some (Rf 52), some (I x1), d2, d3, d4, d5, d6] [(I s0)] (hp iv) = if s0 = 0 then some (some (I (-2)), hp iv) else Run sc 138 13 [some (Rf 52), some (I x1), d2, d3, d4, d5, d6] [] (hp iv) :=
  (R_if_ne mc_138 dX7_merge_7 (t := 13) rfl).trans <| ite_c2
  ((R_bipush mc_138 dX7_merge_10 ⟨by decide, by decide⟩).trans <|
  R_ireturn mc_138 dX7_merge_12 rfl)
  (rfl)
theorem B_X7_merge_13 (sc : Nat × (Nat → Int)) (iv : Nat → Nat → Int) (x1 : Int) (d2 : Option AV) (d3 : Option AV) (d4 : Option AV) (d5 : Option AV) (d6 : Option AV) : Run sc 138 13 [some (Rf 52), some (I x1), d2, d3, d4, d5, d6] [] (hp iv) = bck (-2147483648) 2147483647 0 (Run sc 138 18 [some (Rf 52), some (I x1), d2, d3, d4, d5, d6] [] (hp (setO iv 52 (upI (iv 52) 24 0)))) :=
  (R_aload_n mc_138 dX7_merge_13 rfl).trans <|
  (R_iconst mc_138 dX7_merge_14 ⟨by decide, by decide⟩).trans <|
  (R_putI mc_138 dX7_merge_15 mo_138 ft_7_133 rfl rfl rfl (lo := (-2147483648)) (hi := 2147483647) rfl rfl).trans <| bck_congr <|
  rfl
theorem B_X7_merge_18 (sc : Nat × (Nat → Int)) (iv : Nat → Nat → Int) (x1 : Int) (d2 : Option AV) (d3 : Option AV) (d4 : Option AV) (d5 : Option AV) (d6 : Option AV) : Run sc 138 18 [some (Rf 52), some (I x1), d2, d3, d4, d5, d6] [] (hp iv) = Run sc 138 25 [some (Rf 52), some (I x1), some (I 0), some (I 1), some (I 0), d5, d6] [] (hp iv) :=
  (R_iconst mc_138 dX7_merge_18 ⟨by decide, by decide⟩).trans <|
  (R_istore_n mc_138 dX7_merge_19 (Nat.le_of_ble_eq_true rfl)).trans <|
  (R_iconst mc_138 dX7_merge_20 ⟨by decide, by decide⟩).trans <|
  (R_istore_n mc_138 dX7_merge_21 (Nat.le_of_ble_eq_true rfl)).trans <|
  (R_iconst mc_138 dX7_merge_22 ⟨by decide, by decide⟩).trans <|
  R_istore mc_138 dX7_merge_23 (Nat.le_of_ble_eq_true rfl)
theorem B_X7_merge_25 (sc : Nat × (Nat → Int)) (iv : Nat → Nat → Int) (x1 : Int) (x2 : Int) (x3 : Int) (x4 : Int) (d5 : Option AV) (d6 : Option AV) : Run sc 138 25 [some (Rf 52), some (I x1), some (I x2), some (I x3), some (I x4), d5, d6] [] (hp iv) = if x4 < x1 then if 0 < x3 then aBind (Run sc 126 0 [some (Rf 52), none] [] (hp iv)) (fun v h2 => Run sc 138 39 [some (Rf 52), some (I x1), some (I x2), some (I x3), some (I x4), d5, d6] (pushR v []) h2) else Run sc 138 133 [some (Rf 52), some (I x1), some (I x2), some (I x3), some (I x4), d5, d6] [] (hp iv) else Run sc 138 133 [some (Rf 52), some (I x1), some (I x2), some (I x3), some (I x4), d5, d6] [] (hp iv) :=
  (R_iload mc_138 dX7_merge_25 rfl).trans <|
  (R_iload_n mc_138 dX7_merge_27 rfl).trans <|
  (R_icmp_ge mc_138 dX7_merge_28 (t := 133) rfl).trans <| ite_c2
  ((R_iload_n mc_138 dX7_merge_31 rfl).trans <|
  (R_if_le mc_138 dX7_merge_32 (t := 133) rfl).trans <| ite_c2
  ((R_aload_n mc_138 dX7_merge_35 rfl).trans <|
  R_invV mc_138 dX7_merge_36 mo_138 ct_7_136 af_138_126 rfl rfl rfl ⟨Nat.le_of_ble_eq_true rfl, Nat.le_of_ble_eq_true rfl⟩)
  (rfl))
  (rfl)
theorem B_X7_merge_39 (sc : Nat × (Nat → Int)) (iv : Nat → Nat → Int) (x1 : Int) (x2 : Int) (x3 : Int) (x4 : Int) (d5 : Option AV) (d6 : Option AV) : Run sc 138 39 [some (Rf 52), some (I x1), some (I x2), some (I x3), some (I x4), d5, d6] [] (hp iv) = Run sc 138 42 [some (Rf 52), some (I x1), some (I x2), some (I x3), some (I x4), some (I 0), d6] [] (hp iv) :=
  (R_iconst mc_138 dX7_merge_39 ⟨by decide, by decide⟩).trans <|
  R_istore mc_138 dX7_merge_40 (Nat.le_of_ble_eq_true rfl)
theorem B_X7_merge_42 (sc : Nat × (Nat → Int)) (iv : Nat → Nat → Int) (x1 : Int) (x2 : Int) (x3 : Int) (x4 : Int) (x5 : Int) (d6 : Option AV) : Run sc 138 42 [some (Rf 52), some (I x1), some (I x2), some (I x3), some (I x4), some (I x5), d6] [] (hp iv) = if x5 < (iv 52 0) then Run sc 138 54 [some (Rf 52), some (I x1), some (I x2), some (I x3), some (I x4), some (I x5), some (I 0)] [] (hp iv) else Run sc 138 118 [some (Rf 52), some (I x1), some (I x2), some (I x3), some (I x4), some (I x5), d6] [] (hp iv) :=
  (R_iload mc_138 dX7_merge_42 rfl).trans <|
  (R_aload_n mc_138 dX7_merge_44 rfl).trans <|
  (R_getI mc_138 dX7_merge_45 mo_138 ft_7_71 rfl rfl).trans <|
  (R_icmp_ge mc_138 dX7_merge_48 (t := 118) rfl).trans <| ite_c2
  ((R_iconst mc_138 dX7_merge_51 ⟨by decide, by decide⟩).trans <|
  R_istore mc_138 dX7_merge_52 (Nat.le_of_ble_eq_true rfl))
  (rfl)
theorem B_X7_merge_54 (sc : Nat × (Nat → Int)) (iv : Nat → Nat → Int) (x1 : Int) (x2 : Int) (x3 : Int) (x4 : Int) (x5 : Int) (x6 : Int) : Run sc 138 54 [some (Rf 52), some (I x1), some (I x2), some (I x3), some (I x4), some (I x5), some (I x6)] [] (hp iv) = if x6 < (iv 52 1) then chk (24 * x6) (chk ((24 * x6) + x5) (aBind (Run sc 134 0 [some (Rf 52), some (I x5), some (I x6)] [] (hp iv)) (fun v h2 => Run sc 138 83 [some (Rf 52), some (I x1), some (I x2), some (I x3), some (I x4), some (I x5), some (I x6)] (pushR v [(I ((24 * x6) + x5)), (Rf 54)]) h2))) else Run sc 138 112 [some (Rf 52), some (I x1), some (I x2), some (I x3), some (I x4), some (I x5), some (I x6)] [] (hp iv) :=
  (R_iload mc_138 dX7_merge_54 rfl).trans <|
  (R_aload_n mc_138 dX7_merge_56 rfl).trans <|
  (R_getI mc_138 dX7_merge_57 mo_138 ft_7_74 rfl rfl).trans <|
  (R_icmp_ge mc_138 dX7_merge_60 (t := 112) rfl).trans <| ite_c2
  ((R_aload_n mc_138 dX7_merge_63 rfl).trans <|
  (R_getR mc_138 dX7_merge_64 mo_138 ft_7_29 rfl rfl (r := 54) rfl (by decide)).trans <|
  (R_bipush mc_138 dX7_merge_67 ⟨by decide, by decide⟩).trans <|
  (R_iload mc_138 dX7_merge_69 rfl).trans <|
  (R_imul mc_138 dX7_merge_71).trans <| chk_congr <|
  (R_iload mc_138 dX7_merge_72 rfl).trans <|
  (R_iadd mc_138 dX7_merge_74).trans <| chk_congr <|
  (R_aload_n mc_138 dX7_merge_75 rfl).trans <|
  (R_iload mc_138 dX7_merge_76 rfl).trans <|
  (R_iload mc_138 dX7_merge_78 rfl).trans <|
  R_invV mc_138 dX7_merge_80 mo_138 ct_7_148 af_138_134 rfl rfl rfl ⟨Nat.le_of_ble_eq_true rfl, Nat.le_of_ble_eq_true rfl⟩)
  (rfl)
theorem B_X7_merge_83 (sc : Nat × (Nat → Int)) (iv : Nat → Nat → Int) (x1 : Int) (x2 : Int) (x3 : Int) (x4 : Int) (x5 : Int) (x6 : Int) (s0 : Int) (s1 : Int) : Run sc 138 83 [some (Rf 52), some (I x1), some (I x2), some (I x3), some (I x4), some (I x5), some (I x6)] [(I s0), (I s1), (Rf 54)] (hp iv) = if s0 = 0 then Run sc 138 97 [some (Rf 52), some (I x1), some (I x2), some (I x3), some (I x4), some (I x5), some (I x6)] [(I s1), (Rf 54)] (hp iv) else aBind (Run sc 137 0 [some (Rf 52), some (I x5), some (I x6), none, none, none, none] [] (hp iv)) (fun v h2 => Run sc 138 94 [some (Rf 52), some (I x1), some (I x2), some (I x3), some (I x4), some (I x5), some (I x6)] (pushR v [(I s1), (Rf 54)]) h2) :=
  (R_if_eq mc_138 dX7_merge_83 (t := 97) rfl).trans <| ite_c2
  (rfl)
  ((R_aload_n mc_138 dX7_merge_86 rfl).trans <|
  (R_iload mc_138 dX7_merge_87 rfl).trans <|
  (R_iload mc_138 dX7_merge_89 rfl).trans <|
  R_invV mc_138 dX7_merge_91 mo_138 ct_7_158 af_138_137 rfl rfl rfl ⟨Nat.le_of_ble_eq_true rfl, Nat.le_of_ble_eq_true rfl⟩)
theorem B_X7_merge_94 (sc : Nat × (Nat → Int)) (iv : Nat → Nat → Int) (x1 : Int) (x2 : Int) (x3 : Int) (x4 : Int) (x5 : Int) (x6 : Int) (s0 : Int) (s1 : Int) : Run sc 138 94 [some (Rf 52), some (I x1), some (I x2), some (I x3), some (I x4), some (I x5), some (I x6)] [(I s0), (I s1), (Rf 54)] (hp iv) = Run sc 138 105 [some (Rf 52), some (I x1), some (I x2), some (I x3), some (I x4), some (I x5), some (I x6)] [(I s0), (I s1), (Rf 54)] (hp iv) :=
  R_goto mc_138 dX7_merge_94 (t := 105) rfl
theorem B_X7_merge_97 (sc : Nat × (Nat → Int)) (iv : Nat → Nat → Int) (x1 : Int) (x2 : Int) (x3 : Int) (x4 : Int) (x5 : Int) (x6 : Int) (s0 : Int) : Run sc 138 97 [some (Rf 52), some (I x1), some (I x2), some (I x3), some (I x4), some (I x5), some (I x6)] [(I s0), (Rf 54)] (hp iv) = aBind (Run sc 113 0 [some (Rf 52), some (I x5), some (I x6)] [] (hp iv)) (fun v h2 => Run sc 138 105 [some (Rf 52), some (I x1), some (I x2), some (I x3), some (I x4), some (I x5), some (I x6)] (pushR v [(I s0), (Rf 54)]) h2) :=
  (R_aload_n mc_138 dX7_merge_97 rfl).trans <|
  (R_iload mc_138 dX7_merge_98 rfl).trans <|
  (R_iload mc_138 dX7_merge_100 rfl).trans <|
  R_invV mc_138 dX7_merge_102 mo_138 ct_7_89 af_138_113 rfl rfl rfl ⟨Nat.le_of_ble_eq_true rfl, Nat.le_of_ble_eq_true rfl⟩
theorem B_X7_merge_105 (sc : Nat × (Nat → Int)) (iv : Nat → Nat → Int) (x1 : Int) (x2 : Int) (x3 : Int) (x4 : Int) (x5 : Int) (x6 : Int) (s0 : Int) (s1 : Int) : Run sc 138 105 [some (Rf 52), some (I x1), some (I x2), some (I x3), some (I x4), some (I x5), some (I x6)] [(I s0), (I s1), (Rf 54)] (hp iv) = bck 0 (((576 : Nat) : Int) - 1) s1 (bck (-2147483648) 2147483647 s0 (Run sc 138 106 [some (Rf 52), some (I x1), some (I x2), some (I x3), some (I x4), some (I x5), some (I x6)] [] (hp (setO iv 54 (upI (iv 54) (Int.toNat s1) s0))))) :=
  (R_iastore mc_138 dX7_merge_105 rfl).trans <| bck_congr <| bck_congr <|
  rfl
theorem B_X7_merge_106 (sc : Nat × (Nat → Int)) (iv : Nat → Nat → Int) (x1 : Int) (x2 : Int) (x3 : Int) (x4 : Int) (x5 : Int) (x6 : Int) : Run sc 138 106 [some (Rf 52), some (I x1), some (I x2), some (I x3), some (I x4), some (I x5), some (I x6)] [] (hp iv) = chk (x6 + 1) (Run sc 138 54 [some (Rf 52), some (I x1), some (I x2), some (I x3), some (I x4), some (I x5), some (I (x6 + 1))] [] (hp iv)) :=
  (R_iinc mc_138 dX7_merge_106 rfl).trans <| chk_congr <|
  R_goto mc_138 dX7_merge_109 (t := 54) rfl
theorem B_X7_merge_112 (sc : Nat × (Nat → Int)) (iv : Nat → Nat → Int) (x1 : Int) (x2 : Int) (x3 : Int) (x4 : Int) (x5 : Int) (x6 : Int) : Run sc 138 112 [some (Rf 52), some (I x1), some (I x2), some (I x3), some (I x4), some (I x5), some (I x6)] [] (hp iv) = chk (x5 + 1) (Run sc 138 42 [some (Rf 52), some (I x1), some (I x2), some (I x3), some (I x4), some (I (x5 + 1)), some (I x6)] [] (hp iv)) :=
  (R_iinc mc_138 dX7_merge_112 rfl).trans <| chk_congr <|
  R_goto mc_138 dX7_merge_115 (t := 42) rfl
theorem B_X7_merge_118 (sc : Nat × (Nat → Int)) (iv : Nat → Nat → Int) (x1 : Int) (x2 : Int) (x3 : Int) (x4 : Int) (x5 : Int) (d6 : Option AV) : Run sc 138 118 [some (Rf 52), some (I x1), some (I x2), some (I x3), some (I x4), some (I x5), d6] [] (hp iv) = aBind (Run sc 127 0 [some (Rf 52), none, none] [] (hp iv)) (fun v h2 => Run sc 138 122 [some (Rf 52), some (I x1), some (I x2), some (I x3), some (I x4), some (I x5), d6] (pushR v []) h2) :=
  (R_aload_n mc_138 dX7_merge_118 rfl).trans <|
  R_invV mc_138 dX7_merge_119 mo_138 ct_7_142 af_138_127 rfl rfl rfl ⟨Nat.le_of_ble_eq_true rfl, Nat.le_of_ble_eq_true rfl⟩
theorem B_X7_merge_122 (sc : Nat × (Nat → Int)) (iv : Nat → Nat → Int) (x1 : Int) (x2 : Int) (x3 : Int) (x4 : Int) (x5 : Int) (d6 : Option AV) (s0 : Int) : Run sc 138 122 [some (Rf 52), some (I x1), some (I x2), some (I x3), some (I x4), some (I x5), d6] [(I s0)] (hp iv) = chk (x2 + s0) (chk (x4 + 1) (Run sc 138 25 [some (Rf 52), some (I x1), some (I (x2 + s0)), some (I s0), some (I (x4 + 1)), some (I x5), d6] [] (hp iv))) :=
  (R_istore_n mc_138 dX7_merge_122 (Nat.le_of_ble_eq_true rfl)).trans <|
  (R_iload_n mc_138 dX7_merge_123 rfl).trans <|
  (R_iload_n mc_138 dX7_merge_124 rfl).trans <|
  (R_iadd mc_138 dX7_merge_125).trans <| chk_congr <|
  (R_istore_n mc_138 dX7_merge_126 (Nat.le_of_ble_eq_true rfl)).trans <|
  (R_iinc mc_138 dX7_merge_127 rfl).trans <| chk_congr <|
  R_goto mc_138 dX7_merge_130 (t := 25) rfl
theorem B_X7_merge_133 (sc : Nat × (Nat → Int)) (iv : Nat → Nat → Int) (x1 : Int) (x2 : Int) (x3 : Int) (x4 : Int) (d5 : Option AV) (d6 : Option AV) : Run sc 138 133 [some (Rf 52), some (I x1), some (I x2), some (I x3), some (I x4), d5, d6] [] (hp iv) = aBind (Run sc 114 0 [some (Rf 52), some (I (iv 52 24)), none, none, none, none] [] (hp iv)) (fun v h2 => Run sc 138 141 [some (Rf 52), some (I x1), some (I x2), some (I x3), some (I x4), d5, d6] (pushR v []) h2) :=
  (R_aload_n mc_138 dX7_merge_133 rfl).trans <|
  (R_aload_n mc_138 dX7_merge_134 rfl).trans <|
  (R_getI mc_138 dX7_merge_135 mo_138 ft_7_133 rfl rfl).trans <|
  R_invV mc_138 dX7_merge_138 mo_138 ct_7_77 af_138_114 rfl rfl rfl ⟨Nat.le_of_ble_eq_true rfl, Nat.le_of_ble_eq_true rfl⟩
theorem B_X7_merge_141 (sc : Nat × (Nat → Int)) (iv : Nat → Nat → Int) (x1 : Int) (x2 : Int) (x3 : Int) (x4 : Int) (d5 : Option AV) (d6 : Option AV) : Run sc 138 141 [some (Rf 52), some (I x1), some (I x2), some (I x3), some (I x4), d5, d6] [] (hp iv) = some (some (I x2), hp iv) :=
  (R_iload_n mc_138 dX7_merge_141 rfl).trans <|
  R_ireturn mc_138 dX7_merge_142 rfl
theorem B_X7_whereIs_0 (sc : Nat × (Nat → Int)) (iv : Nat → Nat → Int) (x1 : Int) (x2 : Int) : Run sc 139 0 [some (Rf 52), some (I x1), some (I x2), none] [] (hp iv) = Run sc 139 2 [some (Rf 52), some (I x1), some (I x2), some (I 0)] [] (hp iv) :=
  (R_iconst mc_139 dX7_whereIs_0 ⟨by decide, by decide⟩).trans <|
  R_istore_n mc_139 dX7_whereIs_1 (Nat.le_of_ble_eq_true rfl)
theorem B_X7_whereIs_2 (sc : Nat × (Nat → Int)) (iv : Nat → Nat → Int) (x1 : Int) (x2 : Int) (x3 : Int) : Run sc 139 2 [some (Rf 52), some (I x1), some (I x2), some (I x3)] [] (hp iv) = aBind (Run sc 118 0 [some (Rf 52), some (I x1), some (I x3)] [] (hp iv)) (fun v h2 => Run sc 139 8 [some (Rf 52), some (I x1), some (I x2), some (I x3)] (pushR v []) h2) :=
  (R_aload_n mc_139 dX7_whereIs_2 rfl).trans <|
  (R_iload_n mc_139 dX7_whereIs_3 rfl).trans <|
  (R_iload_n mc_139 dX7_whereIs_4 rfl).trans <|
  R_invV mc_139 dX7_whereIs_5 mo_139 ct_7_100 af_139_118 rfl rfl rfl ⟨Nat.le_of_ble_eq_true rfl, Nat.le_of_ble_eq_true rfl⟩
theorem B_X7_whereIs_8 (sc : Nat × (Nat → Int)) (iv : Nat → Nat → Int) (x1 : Int) (x2 : Int) (x3 : Int) (s0 : Int) : Run sc 139 8 [some (Rf 52), some (I x1), some (I x2), some (I x3)] [(I s0)] (hp iv) = if s0 = x2 then Run sc 139 18 [some (Rf 52), some (I x1), some (I x2), some (I x3)] [] (hp iv) else chk (x3 + 1) (Run sc 139 2 [some (Rf 52), some (I x1), some (I x2), some (I (x3 + 1))] [] (hp iv)) :=
  (R_iload_n mc_139 dX7_whereIs_8 rfl).trans <|
  (R_icmp_eq mc_139 dX7_whereIs_9 (t := 18) rfl).trans <| ite_c2
  (rfl)
  ((R_iinc mc_139 dX7_whereIs_12 rfl).trans <| chk_congr <|
  R_goto mc_139 dX7_whereIs_15 (t := 2) rfl)
theorem B_X7_whereIs_18 (sc : Nat × (Nat → Int)) (iv : Nat → Nat → Int) (x1 : Int) (x2 : Int) (x3 : Int) : Run sc 139 18 [some (Rf 52), some (I x1), some (I x2), some (I x3)] [] (hp iv) = some (some (I x3), hp iv) :=
  (R_iload_n mc_139 dX7_whereIs_18 rfl).trans <|
  R_ireturn mc_139 dX7_whereIs_19 rfl
theorem B_X7_run_0 (sc : Nat × (Nat → Int)) (iv : Nat → Nat → Int) (x1 : Int) (x2 : Int) (x3 : Int) : Run sc 140 0 [some (Rf 52), some (I x1), some (I x2), some (I x3)] [] (hp iv) = aBind (Run sc 129 0 [some (I x1)] [] (hp iv)) (fun v h2 => Run sc 140 4 [some (Rf 52), some (I x1), some (I x2), some (I x3)] (pushR v []) h2) :=
  (R_iload_n mc_140 dX7_run_0 rfl).trans <|
  R_invS mc_140 dX7_run_1 mo_140 ct_7_161 (Or.inl rfl) af_140_129 (Nat.le_of_ble_eq_true rfl) rfl rfl ⟨Nat.le_of_ble_eq_true rfl, Nat.le_of_ble_eq_true rfl⟩
theorem B_X7_run_4 (sc : Nat × (Nat → Int)) (iv : Nat → Nat → Int) (x1 : Int) (x2 : Int) (x3 : Int) (s0 : Int) : Run sc 140 4 [some (Rf 52), some (I x1), some (I x2), some (I x3)] [(I s0)] (hp iv) = if s0 = 0 then some (some (I (-2)), hp iv) else Run sc 140 10 [some (Rf 52), some (I x1), some (I x2), some (I x3)] [] (hp iv) :=
  (R_if_ne mc_140 dX7_run_4 (t := 10) rfl).trans <| ite_c2
  ((R_bipush mc_140 dX7_run_7 ⟨by decide, by decide⟩).trans <|
  R_ireturn mc_140 dX7_run_9 rfl)
  (rfl)
theorem B_X7_run_10 (sc : Nat × (Nat → Int)) (iv : Nat → Nat → Int) (x1 : Int) (x2 : Int) (x3 : Int) : Run sc 140 10 [some (Rf 52), some (I x1), some (I x2), some (I x3)] [] (hp iv) = bck 0 (((7 : Nat) : Int) - 1) x1 (chk ((iv 57 (Int.toNat x1)) - 1) (aBind (Run sc 109 0 [some (I x2), some (I 0), some (I ((iv 57 (Int.toNat x1)) - 1))] [] (hp iv)) (fun v h2 => Run sc 140 23 [some (Rf 52), some (I x1), some (I x2), some (I x3)] (pushR v []) h2))) :=
  (R_iload_n mc_140 dX7_run_10 rfl).trans <|
  (R_iconst mc_140 dX7_run_11 ⟨by decide, by decide⟩).trans <|
  (R_aload_n mc_140 dX7_run_12 rfl).trans <|
  (R_getR mc_140 dX7_run_13 mo_140 ft_7_39 rfl rfl (r := 57) rfl (by decide)).trans <|
  (R_iload_n mc_140 dX7_run_16 rfl).trans <|
  (R_iaload mc_140 dX7_run_17 rfl).trans <| bck_congr <|
  (R_iconst mc_140 dX7_run_18 ⟨by decide, by decide⟩).trans <|
  (R_isub mc_140 dX7_run_19).trans <| chk_congr <|
  R_invS mc_140 dX7_run_20 mo_140 ct_7_81 (Or.inl rfl) af_140_109 (Nat.le_of_ble_eq_true rfl) rfl rfl ⟨Nat.le_of_ble_eq_true rfl, Nat.le_of_ble_eq_true rfl⟩
theorem B_X7_run_23 (sc : Nat × (Nat → Int)) (iv : Nat → Nat → Int) (x1 : Int) (x2 : Int) (x3 : Int) (s0 : Int) : Run sc 140 23 [some (Rf 52), some (I x1), some (I x2), some (I x3)] [(I s0)] (hp iv) = if s0 = 0 then some (some (I (-1)), hp iv) else Run sc 140 28 [some (Rf 52), some (I x1), some (I x2), some (I x3)] [] (hp iv) :=
  (R_if_ne mc_140 dX7_run_23 (t := 28) rfl).trans <| ite_c2
  ((R_iconst mc_140 dX7_run_26 ⟨by decide, by decide⟩).trans <|
  R_ireturn mc_140 dX7_run_27 rfl)
  (rfl)
theorem B_X7_run_28 (sc : Nat × (Nat → Int)) (iv : Nat → Nat → Int) (x1 : Int) (x2 : Int) (x3 : Int) : Run sc 140 28 [some (Rf 52), some (I x1), some (I x2), some (I x3)] [] (hp iv) = if x3 = 0 then Run sc 140 60 [some (Rf 52), some (I x1), some (I x2), some (I x3)] [] (hp iv) else if x3 = 1 then Run sc 140 73 [some (Rf 52), some (I x1), some (I x2), some (I x3)] [] (hp iv) else if x3 = 2 then Run sc 140 86 [some (Rf 52), some (I x1), some (I x2), some (I x3)] [] (hp iv) else if x3 = 3 then Run sc 140 99 [some (Rf 52), some (I x1), some (I x2), some (I x3)] [] (hp iv) else Run sc 140 106 [some (Rf 52), some (I x1), some (I x2), some (I x3)] [] (hp iv) :=
  (R_iload_n mc_140 dX7_run_28 rfl).trans <|
  (by
    by_cases z0 : x3 = 0
    · rw [if_pos z0]; exact R_switchIn mc_140 dX7_run_29 (by omega) (by omega) (by rw [z0]; rfl) (t := 60) rfl
    rw [if_neg z0]
    by_cases z1 : x3 = 1
    · rw [if_pos z1]; exact R_switchIn mc_140 dX7_run_29 (by omega) (by omega) (by rw [z1]; rfl) (t := 73) rfl
    rw [if_neg z1]
    by_cases z2 : x3 = 2
    · rw [if_pos z2]; exact R_switchIn mc_140 dX7_run_29 (by omega) (by omega) (by rw [z2]; rfl) (t := 86) rfl
    rw [if_neg z2]
    by_cases z3 : x3 = 3
    · rw [if_pos z3]; exact R_switchIn mc_140 dX7_run_29 (by omega) (by omega) (by rw [z3]; rfl) (t := 99) rfl
    rw [if_neg z3]
    exact R_switchOut mc_140 dX7_run_29 (by omega) (t := 106) rfl)
theorem B_X7_run_60 (sc : Nat × (Nat → Int)) (iv : Nat → Nat → Int) (x1 : Int) (x2 : Int) (x3 : Int) : Run sc 140 60 [some (Rf 52), some (I x1), some (I x2), some (I x3)] [] (hp iv) = chk (288 * x1) (chk ((288 * x1) + x2) (bck 0 (((2016 : Nat) : Int) - 1) ((288 * x1) + x2) (some (some (I (iv 58 (Int.toNat ((288 * x1) + x2)))), hp iv)))) :=
  (R_aload_n mc_140 dX7_run_60 rfl).trans <|
  (R_getR mc_140 dX7_run_61 mo_140 ft_7_42 rfl rfl (r := 58) rfl (by decide)).trans <|
  (R_sipush mc_140 dX7_run_64 ⟨by decide, by decide⟩).trans <|
  (R_iload_n mc_140 dX7_run_67 rfl).trans <|
  (R_imul mc_140 dX7_run_68).trans <| chk_congr <|
  (R_iload_n mc_140 dX7_run_69 rfl).trans <|
  (R_iadd mc_140 dX7_run_70).trans <| chk_congr <|
  (R_iaload mc_140 dX7_run_71 rfl).trans <| bck_congr <|
  R_ireturn mc_140 dX7_run_72 rfl
theorem B_X7_run_73 (sc : Nat × (Nat → Int)) (iv : Nat → Nat → Int) (x1 : Int) (x2 : Int) (x3 : Int) : Run sc 140 73 [some (Rf 52), some (I x1), some (I x2), some (I x3)] [] (hp iv) = chk (288 * x1) (chk ((288 * x1) + x2) (bck 0 (((2016 : Nat) : Int) - 1) ((288 * x1) + x2) (some (some (I (iv 59 (Int.toNat ((288 * x1) + x2)))), hp iv)))) :=
  (R_aload_n mc_140 dX7_run_73 rfl).trans <|
  (R_getR mc_140 dX7_run_74 mo_140 ft_7_45 rfl rfl (r := 59) rfl (by decide)).trans <|
  (R_sipush mc_140 dX7_run_77 ⟨by decide, by decide⟩).trans <|
  (R_iload_n mc_140 dX7_run_80 rfl).trans <|
  (R_imul mc_140 dX7_run_81).trans <| chk_congr <|
  (R_iload_n mc_140 dX7_run_82 rfl).trans <|
  (R_iadd mc_140 dX7_run_83).trans <| chk_congr <|
  (R_iaload mc_140 dX7_run_84 rfl).trans <| bck_congr <|
  R_ireturn mc_140 dX7_run_85 rfl
theorem B_X7_run_86 (sc : Nat × (Nat → Int)) (iv : Nat → Nat → Int) (x1 : Int) (x2 : Int) (x3 : Int) : Run sc 140 86 [some (Rf 52), some (I x1), some (I x2), some (I x3)] [] (hp iv) = chk (288 * x1) (chk ((288 * x1) + x2) (bck 0 (((2016 : Nat) : Int) - 1) ((288 * x1) + x2) (some (some (I (iv 60 (Int.toNat ((288 * x1) + x2)))), hp iv)))) :=
  (R_aload_n mc_140 dX7_run_86 rfl).trans <|
  (R_getR mc_140 dX7_run_87 mo_140 ft_7_48 rfl rfl (r := 60) rfl (by decide)).trans <|
  (R_sipush mc_140 dX7_run_90 ⟨by decide, by decide⟩).trans <|
  (R_iload_n mc_140 dX7_run_93 rfl).trans <|
  (R_imul mc_140 dX7_run_94).trans <| chk_congr <|
  (R_iload_n mc_140 dX7_run_95 rfl).trans <|
  (R_iadd mc_140 dX7_run_96).trans <| chk_congr <|
  (R_iaload mc_140 dX7_run_97 rfl).trans <| bck_congr <|
  R_ireturn mc_140 dX7_run_98 rfl
theorem B_X7_run_99 (sc : Nat × (Nat → Int)) (iv : Nat → Nat → Int) (x1 : Int) (x2 : Int) (x3 : Int) : Run sc 140 99 [some (Rf 52), some (I x1), some (I x2), some (I x3)] [] (hp iv) = aBind (Run sc 139 0 [some (Rf 52), some (I x1), some (I x2), none] [] (hp iv)) (fun v h2 => Run sc 140 105 [some (Rf 52), some (I x1), some (I x2), some (I x3)] (pushR v []) h2) :=
  (R_aload_n mc_140 dX7_run_99 rfl).trans <|
  (R_iload_n mc_140 dX7_run_100 rfl).trans <|
  (R_iload_n mc_140 dX7_run_101 rfl).trans <|
  R_invV mc_140 dX7_run_102 mo_140 ct_7_165 af_140_139 rfl rfl rfl ⟨Nat.le_of_ble_eq_true rfl, Nat.le_of_ble_eq_true rfl⟩
theorem B_X7_run_105 (sc : Nat × (Nat → Int)) (iv : Nat → Nat → Int) (x1 : Int) (x2 : Int) (x3 : Int) (s0 : Int) : Run sc 140 105 [some (Rf 52), some (I x1), some (I x2), some (I x3)] [(I s0)] (hp iv) = some (some (I s0), hp iv) :=
  R_ireturn mc_140 dX7_run_105 rfl
theorem B_X7_run_106 (sc : Nat × (Nat → Int)) (iv : Nat → Nat → Int) (x1 : Int) (x2 : Int) (x3 : Int) : Run sc 140 106 [some (Rf 52), some (I x1), some (I x2), some (I x3)] [] (hp iv) = some (some (I (-2)), hp iv) :=
  (R_bipush mc_140 dX7_run_106 ⟨by decide, by decide⟩).trans <|
  R_ireturn mc_140 dX7_run_108 rfl
theorem B_X7_runAt_0 (sc : Nat × (Nat → Int)) (iv : Nat → Nat → Int) (x1 : Int) (x2 : Int) : Run sc 141 0 [some (Rf 52), some (I x1), some (I x2)] [] (hp iv) = aBind (Run sc 129 0 [some (I x1)] [] (hp iv)) (fun v h2 => Run sc 141 4 [some (Rf 52), some (I x1), some (I x2)] (pushR v []) h2) :=
  (R_iload_n mc_141 dX7_runAt_0 rfl).trans <|
  R_invS mc_141 dX7_runAt_1 mo_141 ct_7_161 (Or.inl rfl) af_141_129 (Nat.le_of_ble_eq_true rfl) rfl rfl ⟨Nat.le_of_ble_eq_true rfl, Nat.le_of_ble_eq_true rfl⟩
theorem B_X7_runAt_4 (sc : Nat × (Nat → Int)) (iv : Nat → Nat → Int) (x1 : Int) (x2 : Int) (s0 : Int) : Run sc 141 4 [some (Rf 52), some (I x1), some (I x2)] [(I s0)] (hp iv) = if s0 = 0 then Run sc 141 11 [some (Rf 52), some (I x1), some (I x2)] [] (hp iv) else if x2 < 0 then Run sc 141 11 [some (Rf 52), some (I x1), some (I x2)] [] (hp iv) else Run sc 141 14 [some (Rf 52), some (I x1), some (I x2)] [] (hp iv) :=
  (R_if_eq mc_141 dX7_runAt_4 (t := 11) rfl).trans <| ite_c2
  (rfl)
  ((R_iload_n mc_141 dX7_runAt_7 rfl).trans <|
  R_if_ge mc_141 dX7_runAt_8 (t := 14) rfl)
theorem B_X7_runAt_11 (sc : Nat × (Nat → Int)) (iv : Nat → Nat → Int) (x1 : Int) (x2 : Int) : Run sc 141 11 [some (Rf 52), some (I x1), some (I x2)] [] (hp iv) = some (some (I (-2)), hp iv) :=
  (R_bipush mc_141 dX7_runAt_11 ⟨by decide, by decide⟩).trans <|
  R_ireturn mc_141 dX7_runAt_13 rfl
theorem B_X7_runAt_14 (sc : Nat × (Nat → Int)) (iv : Nat → Nat → Int) (x1 : Int) (x2 : Int) : Run sc 141 14 [some (Rf 52), some (I x1), some (I x2)] [] (hp iv) = bck 0 (((7 : Nat) : Int) - 1) x1 (if x2 < (iv 57 (Int.toNat x1)) then aBind (Run sc 118 0 [some (Rf 52), some (I x1), some (I x2)] [] (hp iv)) (fun v h2 => Run sc 141 30 [some (Rf 52), some (I x1), some (I x2)] (pushR v []) h2) else Run sc 141 33 [some (Rf 52), some (I x1), some (I x2)] [] (hp iv)) :=
  (R_iload_n mc_141 dX7_runAt_14 rfl).trans <|
  (R_aload_n mc_141 dX7_runAt_15 rfl).trans <|
  (R_getR mc_141 dX7_runAt_16 mo_141 ft_7_39 rfl rfl (r := 57) rfl (by decide)).trans <|
  (R_iload_n mc_141 dX7_runAt_19 rfl).trans <|
  (R_iaload mc_141 dX7_runAt_20 rfl).trans <| bck_congr <|
  (R_icmp_ge mc_141 dX7_runAt_21 (t := 33) rfl).trans <| ite_c2
  ((R_aload_n mc_141 dX7_runAt_24 rfl).trans <|
  (R_iload_n mc_141 dX7_runAt_25 rfl).trans <|
  (R_iload_n mc_141 dX7_runAt_26 rfl).trans <|
  R_invV mc_141 dX7_runAt_27 mo_141 ct_7_100 af_141_118 rfl rfl rfl ⟨Nat.le_of_ble_eq_true rfl, Nat.le_of_ble_eq_true rfl⟩)
  (rfl)
theorem B_X7_runAt_30 (sc : Nat × (Nat → Int)) (iv : Nat → Nat → Int) (x1 : Int) (x2 : Int) (s0 : Int) : Run sc 141 30 [some (Rf 52), some (I x1), some (I x2)] [(I s0)] (hp iv) = Run sc 141 35 [some (Rf 52), some (I x1), some (I x2)] [(I s0)] (hp iv) :=
  R_goto mc_141 dX7_runAt_30 (t := 35) rfl
theorem B_X7_runAt_33 (sc : Nat × (Nat → Int)) (iv : Nat → Nat → Int) (x1 : Int) (x2 : Int) : Run sc 141 33 [some (Rf 52), some (I x1), some (I x2)] [] (hp iv) = Run sc 141 35 [some (Rf 52), some (I x1), some (I x2)] [(I (-4))] (hp iv) :=
  R_bipush mc_141 dX7_runAt_33 ⟨by decide, by decide⟩
theorem B_X7_runAt_35 (sc : Nat × (Nat → Int)) (iv : Nat → Nat → Int) (x1 : Int) (x2 : Int) (s0 : Int) : Run sc 141 35 [some (Rf 52), some (I x1), some (I x2)] [(I s0)] (hp iv) = some (some (I s0), hp iv) :=
  R_ireturn mc_141 dX7_runAt_35 rfl
theorem B_X7_shift_0 (sc : Nat × (Nat → Int)) (iv : Nat → Nat → Int) (x1 : Int) (x2 : Int) (x3 : Int) : Run sc 142 0 [some (Rf 52), some (I x1), some (I x2), some (I x3), none, none] [] (hp iv) = aBind (Run sc 118 0 [some (Rf 52), some (I x1), some (I x2)] [] (hp iv)) (fun v h2 => Run sc 142 6 [some (Rf 52), some (I x1), some (I x2), some (I x3), none, none] (pushR v []) h2) :=
  (R_aload_n mc_142 dX7_shift_0 rfl).trans <|
  (R_iload_n mc_142 dX7_shift_1 rfl).trans <|
  (R_iload_n mc_142 dX7_shift_2 rfl).trans <|
  R_invV mc_142 dX7_shift_3 mo_142 ct_7_100 af_142_118 rfl rfl rfl ⟨Nat.le_of_ble_eq_true rfl, Nat.le_of_ble_eq_true rfl⟩
theorem B_X7_shift_6 (sc : Nat × (Nat → Int)) (iv : Nat → Nat → Int) (x1 : Int) (x2 : Int) (x3 : Int) (d4 : Option AV) (d5 : Option AV) (s0 : Int) : Run sc 142 6 [some (Rf 52), some (I x1), some (I x2), some (I x3), d4, d5] [(I s0)] (hp iv) = Run sc 142 11 [some (Rf 52), some (I x1), some (I x2), some (I x3), some (I s0), some (I x2)] [] (hp iv) :=
  (R_istore mc_142 dX7_shift_6 (Nat.le_of_ble_eq_true rfl)).trans <|
  (R_iload_n mc_142 dX7_shift_8 rfl).trans <|
  R_istore mc_142 dX7_shift_9 (Nat.le_of_ble_eq_true rfl)
theorem B_X7_shift_11 (sc : Nat × (Nat → Int)) (iv : Nat → Nat → Int) (x1 : Int) (x2 : Int) (x3 : Int) (x4 : Int) (x5 : Int) : Run sc 142 11 [some (Rf 52), some (I x1), some (I x2), some (I x3), some (I x4), some (I x5)] [] (hp iv) = if x5 < x3 then chk (288 * x1) (chk ((288 * x1) + x5) (chk (288 * x1) (chk ((288 * x1) + x5) (chk (((288 * x1) + x5) + 1) (bck 0 (((2016 : Nat) : Int) - 1) (((288 * x1) + x5) + 1) (bck 0 (((2016 : Nat) : Int) - 1) ((288 * x1) + x5) (bck (-2147483648) 2147483647 (iv 61 (Int.toNat (((288 * x1) + x5) + 1))) (Run sc 142 45 [some (Rf 52), some (I x1), some (I x2), some (I x3), some (I x4), some (I x5)] [] (hp (setO iv 61 (upI (iv 61) (Int.toNat ((288 * x1) + x5)) (iv 61 (Int.toNat (((288 * x1) + x5) + 1)))))))))))))) else Run sc 142 51 [some (Rf 52), some (I x1), some (I x2), some (I x3), some (I x4), some (I x5)] [] (hp iv) :=
  (R_iload mc_142 dX7_shift_11 rfl).trans <|
  (R_iload_n mc_142 dX7_shift_13 rfl).trans <|
  (R_icmp_ge mc_142 dX7_shift_14 (t := 51) rfl).trans <| ite_c2
  ((R_aload_n mc_142 dX7_shift_17 rfl).trans <|
  (R_getR mc_142 dX7_shift_18 mo_142 ft_7_51 rfl rfl (r := 61) rfl (by decide)).trans <|
  (R_sipush mc_142 dX7_shift_21 ⟨by decide, by decide⟩).trans <|
  (R_iload_n mc_142 dX7_shift_24 rfl).trans <|
  (R_imul mc_142 dX7_shift_25).trans <| chk_congr <|
  (R_iload mc_142 dX7_shift_26 rfl).trans <|
  (R_iadd mc_142 dX7_shift_28).trans <| chk_congr <|
  (R_aload_n mc_142 dX7_shift_29 rfl).trans <|
  (R_getR mc_142 dX7_shift_30 mo_142 ft_7_51 rfl rfl (r := 61) rfl (by decide)).trans <|
  (R_sipush mc_142 dX7_shift_33 ⟨by decide, by decide⟩).trans <|
  (R_iload_n mc_142 dX7_shift_36 rfl).trans <|
  (R_imul mc_142 dX7_shift_37).trans <| chk_congr <|
  (R_iload mc_142 dX7_shift_38 rfl).trans <|
  (R_iadd mc_142 dX7_shift_40).trans <| chk_congr <|
  (R_iconst mc_142 dX7_shift_41 ⟨by decide, by decide⟩).trans <|
  (R_iadd mc_142 dX7_shift_42).trans <| chk_congr <|
  (R_iaload mc_142 dX7_shift_43 rfl).trans <| bck_congr <|
  (R_iastore mc_142 dX7_shift_44 rfl).trans <| bck_congr <| bck_congr <|
  rfl)
  (rfl)
theorem B_X7_shift_45 (sc : Nat × (Nat → Int)) (iv : Nat → Nat → Int) (x1 : Int) (x2 : Int) (x3 : Int) (x4 : Int) (x5 : Int) : Run sc 142 45 [some (Rf 52), some (I x1), some (I x2), some (I x3), some (I x4), some (I x5)] [] (hp iv) = chk (x5 + 1) (Run sc 142 11 [some (Rf 52), some (I x1), some (I x2), some (I x3), some (I x4), some (I (x5 + 1))] [] (hp iv)) :=
  (R_iinc mc_142 dX7_shift_45 rfl).trans <| chk_congr <|
  R_goto mc_142 dX7_shift_48 (t := 11) rfl
theorem B_X7_shift_51 (sc : Nat × (Nat → Int)) (iv : Nat → Nat → Int) (x1 : Int) (x2 : Int) (x3 : Int) (x4 : Int) (x5 : Int) : Run sc 142 51 [some (Rf 52), some (I x1), some (I x2), some (I x3), some (I x4), some (I x5)] [] (hp iv) = Run sc 142 54 [some (Rf 52), some (I x1), some (I x2), some (I x3), some (I x4), some (I x2)] [] (hp iv) :=
  (R_iload_n mc_142 dX7_shift_51 rfl).trans <|
  R_istore mc_142 dX7_shift_52 (Nat.le_of_ble_eq_true rfl)
theorem B_X7_shift_54 (sc : Nat × (Nat → Int)) (iv : Nat → Nat → Int) (x1 : Int) (x2 : Int) (x3 : Int) (x4 : Int) (x5 : Int) : Run sc 142 54 [some (Rf 52), some (I x1), some (I x2), some (I x3), some (I x4), some (I x5)] [] (hp iv) = if x3 < x5 then chk (288 * x1) (chk ((288 * x1) + x5) (chk (288 * x1) (chk ((288 * x1) + x5) (chk (((288 * x1) + x5) - 1) (bck 0 (((2016 : Nat) : Int) - 1) (((288 * x1) + x5) - 1) (bck 0 (((2016 : Nat) : Int) - 1) ((288 * x1) + x5) (bck (-2147483648) 2147483647 (iv 61 (Int.toNat (((288 * x1) + x5) - 1))) (Run sc 142 88 [some (Rf 52), some (I x1), some (I x2), some (I x3), some (I x4), some (I x5)] [] (hp (setO iv 61 (upI (iv 61) (Int.toNat ((288 * x1) + x5)) (iv 61 (Int.toNat (((288 * x1) + x5) - 1)))))))))))))) else Run sc 142 94 [some (Rf 52), some (I x1), some (I x2), some (I x3), some (I x4), some (I x5)] [] (hp iv) :=
  (R_iload mc_142 dX7_shift_54 rfl).trans <|
  (R_iload_n mc_142 dX7_shift_56 rfl).trans <|
  (R_icmp_le mc_142 dX7_shift_57 (t := 94) rfl).trans <| ite_c2
  ((R_aload_n mc_142 dX7_shift_60 rfl).trans <|
  (R_getR mc_142 dX7_shift_61 mo_142 ft_7_51 rfl rfl (r := 61) rfl (by decide)).trans <|
  (R_sipush mc_142 dX7_shift_64 ⟨by decide, by decide⟩).trans <|
  (R_iload_n mc_142 dX7_shift_67 rfl).trans <|
  (R_imul mc_142 dX7_shift_68).trans <| chk_congr <|
  (R_iload mc_142 dX7_shift_69 rfl).trans <|
  (R_iadd mc_142 dX7_shift_71).trans <| chk_congr <|
  (R_aload_n mc_142 dX7_shift_72 rfl).trans <|
  (R_getR mc_142 dX7_shift_73 mo_142 ft_7_51 rfl rfl (r := 61) rfl (by decide)).trans <|
  (R_sipush mc_142 dX7_shift_76 ⟨by decide, by decide⟩).trans <|
  (R_iload_n mc_142 dX7_shift_79 rfl).trans <|
  (R_imul mc_142 dX7_shift_80).trans <| chk_congr <|
  (R_iload mc_142 dX7_shift_81 rfl).trans <|
  (R_iadd mc_142 dX7_shift_83).trans <| chk_congr <|
  (R_iconst mc_142 dX7_shift_84 ⟨by decide, by decide⟩).trans <|
  (R_isub mc_142 dX7_shift_85).trans <| chk_congr <|
  (R_iaload mc_142 dX7_shift_86 rfl).trans <| bck_congr <|
  (R_iastore mc_142 dX7_shift_87 rfl).trans <| bck_congr <| bck_congr <|
  rfl)
  (rfl)
theorem B_X7_shift_88 (sc : Nat × (Nat → Int)) (iv : Nat → Nat → Int) (x1 : Int) (x2 : Int) (x3 : Int) (x4 : Int) (x5 : Int) : Run sc 142 88 [some (Rf 52), some (I x1), some (I x2), some (I x3), some (I x4), some (I x5)] [] (hp iv) = chk (x5 + (-1)) (Run sc 142 54 [some (Rf 52), some (I x1), some (I x2), some (I x3), some (I x4), some (I (x5 + (-1)))] [] (hp iv)) :=
  (R_iinc mc_142 dX7_shift_88 rfl).trans <| chk_congr <|
  R_goto mc_142 dX7_shift_91 (t := 54) rfl
theorem B_X7_shift_94 (sc : Nat × (Nat → Int)) (iv : Nat → Nat → Int) (x1 : Int) (x2 : Int) (x3 : Int) (x4 : Int) (x5 : Int) : Run sc 142 94 [some (Rf 52), some (I x1), some (I x2), some (I x3), some (I x4), some (I x5)] [] (hp iv) = chk (288 * x1) (chk ((288 * x1) + x3) (bck 0 (((2016 : Nat) : Int) - 1) ((288 * x1) + x3) (bck (-2147483648) 2147483647 x4 (Run sc 142 108 [some (Rf 52), some (I x1), some (I x2), some (I x3), some (I x4), some (I x5)] [] (hp (setO iv 61 (upI (iv 61) (Int.toNat ((288 * x1) + x3)) x4))))))) :=
  (R_aload_n mc_142 dX7_shift_94 rfl).trans <|
  (R_getR mc_142 dX7_shift_95 mo_142 ft_7_51 rfl rfl (r := 61) rfl (by decide)).trans <|
  (R_sipush mc_142 dX7_shift_98 ⟨by decide, by decide⟩).trans <|
  (R_iload_n mc_142 dX7_shift_101 rfl).trans <|
  (R_imul mc_142 dX7_shift_102).trans <| chk_congr <|
  (R_iload_n mc_142 dX7_shift_103 rfl).trans <|
  (R_iadd mc_142 dX7_shift_104).trans <| chk_congr <|
  (R_iload mc_142 dX7_shift_105 rfl).trans <|
  (R_iastore mc_142 dX7_shift_107 rfl).trans <| bck_congr <| bck_congr <|
  rfl
theorem B_X7_shift_108 (sc : Nat × (Nat → Int)) (iv : Nat → Nat → Int) (x1 : Int) (x2 : Int) (x3 : Int) (x4 : Int) (x5 : Int) : Run sc 142 108 [some (Rf 52), some (I x1), some (I x2), some (I x3), some (I x4), some (I x5)] [] (hp iv) = some (none, hp iv) :=
  R_return mc_142 dX7_shift_108 rfl
theorem B_X7_moveRun_0 (sc : Nat × (Nat → Int)) (iv : Nat → Nat → Int) (x1 : Int) (x2 : Int) (x3 : Int) : Run sc 143 0 [some (Rf 52), some (I x1), some (I x2), some (I x3)] [] (hp iv) = aBind (Run sc 129 0 [some (I x1)] [] (hp iv)) (fun v h2 => Run sc 143 4 [some (Rf 52), some (I x1), some (I x2), some (I x3)] (pushR v []) h2) :=
  (R_iload_n mc_143 dX7_moveRun_0 rfl).trans <|
  R_invS mc_143 dX7_moveRun_1 mo_143 ct_7_161 (Or.inl rfl) af_143_129 (Nat.le_of_ble_eq_true rfl) rfl rfl ⟨Nat.le_of_ble_eq_true rfl, Nat.le_of_ble_eq_true rfl⟩
theorem B_X7_moveRun_4 (sc : Nat × (Nat → Int)) (iv : Nat → Nat → Int) (x1 : Int) (x2 : Int) (x3 : Int) (s0 : Int) : Run sc 143 4 [some (Rf 52), some (I x1), some (I x2), some (I x3)] [(I s0)] (hp iv) = if s0 = 0 then Run sc 143 39 [some (Rf 52), some (I x1), some (I x2), some (I x3)] [] (hp iv) else bck 0 (((7 : Nat) : Int) - 1) x1 (chk ((iv 57 (Int.toNat x1)) - 1) (aBind (Run sc 109 0 [some (I x2), some (I 0), some (I ((iv 57 (Int.toNat x1)) - 1))] [] (hp iv)) (fun v h2 => Run sc 143 20 [some (Rf 52), some (I x1), some (I x2), some (I x3)] (pushR v []) h2))) :=
  (R_if_eq mc_143 dX7_moveRun_4 (t := 39) rfl).trans <| ite_c2
  (rfl)
  ((R_iload_n mc_143 dX7_moveRun_7 rfl).trans <|
  (R_iconst mc_143 dX7_moveRun_8 ⟨by decide, by decide⟩).trans <|
  (R_aload_n mc_143 dX7_moveRun_9 rfl).trans <|
  (R_getR mc_143 dX7_moveRun_10 mo_143 ft_7_39 rfl rfl (r := 57) rfl (by decide)).trans <|
  (R_iload_n mc_143 dX7_moveRun_13 rfl).trans <|
  (R_iaload mc_143 dX7_moveRun_14 rfl).trans <| bck_congr <|
  (R_iconst mc_143 dX7_moveRun_15 ⟨by decide, by decide⟩).trans <|
  (R_isub mc_143 dX7_moveRun_16).trans <| chk_congr <|
  R_invS mc_143 dX7_moveRun_17 mo_143 ct_7_81 (Or.inl rfl) af_143_109 (Nat.le_of_ble_eq_true rfl) rfl rfl ⟨Nat.le_of_ble_eq_true rfl, Nat.le_of_ble_eq_true rfl⟩)
theorem B_X7_moveRun_20 (sc : Nat × (Nat → Int)) (iv : Nat → Nat → Int) (x1 : Int) (x2 : Int) (x3 : Int) (s0 : Int) : Run sc 143 20 [some (Rf 52), some (I x1), some (I x2), some (I x3)] [(I s0)] (hp iv) = if s0 = 0 then Run sc 143 39 [some (Rf 52), some (I x1), some (I x2), some (I x3)] [] (hp iv) else bck 0 (((7 : Nat) : Int) - 1) x1 (chk ((iv 57 (Int.toNat x1)) - 1) (aBind (Run sc 109 0 [some (I x3), some (I 0), some (I ((iv 57 (Int.toNat x1)) - 1))] [] (hp iv)) (fun v h2 => Run sc 143 36 [some (Rf 52), some (I x1), some (I x2), some (I x3)] (pushR v []) h2))) :=
  (R_if_eq mc_143 dX7_moveRun_20 (t := 39) rfl).trans <| ite_c2
  (rfl)
  ((R_iload_n mc_143 dX7_moveRun_23 rfl).trans <|
  (R_iconst mc_143 dX7_moveRun_24 ⟨by decide, by decide⟩).trans <|
  (R_aload_n mc_143 dX7_moveRun_25 rfl).trans <|
  (R_getR mc_143 dX7_moveRun_26 mo_143 ft_7_39 rfl rfl (r := 57) rfl (by decide)).trans <|
  (R_iload_n mc_143 dX7_moveRun_29 rfl).trans <|
  (R_iaload mc_143 dX7_moveRun_30 rfl).trans <| bck_congr <|
  (R_iconst mc_143 dX7_moveRun_31 ⟨by decide, by decide⟩).trans <|
  (R_isub mc_143 dX7_moveRun_32).trans <| chk_congr <|
  R_invS mc_143 dX7_moveRun_33 mo_143 ct_7_81 (Or.inl rfl) af_143_109 (Nat.le_of_ble_eq_true rfl) rfl rfl ⟨Nat.le_of_ble_eq_true rfl, Nat.le_of_ble_eq_true rfl⟩)
theorem B_X7_moveRun_36 (sc : Nat × (Nat → Int)) (iv : Nat → Nat → Int) (x1 : Int) (x2 : Int) (x3 : Int) (s0 : Int) : Run sc 143 36 [some (Rf 52), some (I x1), some (I x2), some (I x3)] [(I s0)] (hp iv) = if s0 = 0 then Run sc 143 39 [some (Rf 52), some (I x1), some (I x2), some (I x3)] [] (hp iv) else Run sc 143 42 [some (Rf 52), some (I x1), some (I x2), some (I x3)] [] (hp iv) :=
  R_if_ne mc_143 dX7_moveRun_36 (t := 42) rfl
theorem B_X7_moveRun_39 (sc : Nat × (Nat → Int)) (iv : Nat → Nat → Int) (x1 : Int) (x2 : Int) (x3 : Int) : Run sc 143 39 [some (Rf 52), some (I x1), some (I x2), some (I x3)] [] (hp iv) = some (some (I (-2)), hp iv) :=
  (R_bipush mc_143 dX7_moveRun_39 ⟨by decide, by decide⟩).trans <|
  R_ireturn mc_143 dX7_moveRun_41 rfl
theorem B_X7_moveRun_42 (sc : Nat × (Nat → Int)) (iv : Nat → Nat → Int) (x1 : Int) (x2 : Int) (x3 : Int) : Run sc 143 42 [some (Rf 52), some (I x1), some (I x2), some (I x3)] [] (hp iv) = aBind (Run sc 142 0 [some (Rf 52), some (I x1), some (I x2), some (I x3), none, none] [] (hp iv)) (fun v h2 => Run sc 143 49 [some (Rf 52), some (I x1), some (I x2), some (I x3)] (pushR v []) h2) :=
  (R_aload_n mc_143 dX7_moveRun_42 rfl).trans <|
  (R_iload_n mc_143 dX7_moveRun_43 rfl).trans <|
  (R_iload_n mc_143 dX7_moveRun_44 rfl).trans <|
  (R_iload_n mc_143 dX7_moveRun_45 rfl).trans <|
  R_invV mc_143 dX7_moveRun_46 mo_143 ct_7_168 af_143_142 rfl rfl rfl ⟨Nat.le_of_ble_eq_true rfl, Nat.le_of_ble_eq_true rfl⟩
theorem B_X7_moveRun_49 (sc : Nat × (Nat → Int)) (iv : Nat → Nat → Int) (x1 : Int) (x2 : Int) (x3 : Int) : Run sc 143 49 [some (Rf 52), some (I x1), some (I x2), some (I x3)] [] (hp iv) = aBind (Run sc 119 0 [some (Rf 52), some (I x1), none, none, none] [] (hp iv)) (fun v h2 => Run sc 143 54 [some (Rf 52), some (I x1), some (I x2), some (I x3)] (pushR v []) h2) :=
  (R_aload_n mc_143 dX7_moveRun_49 rfl).trans <|
  (R_iload_n mc_143 dX7_moveRun_50 rfl).trans <|
  R_invV mc_143 dX7_moveRun_51 mo_143 ct_7_151 af_143_119 rfl rfl rfl ⟨Nat.le_of_ble_eq_true rfl, Nat.le_of_ble_eq_true rfl⟩
theorem B_X7_moveRun_54 (sc : Nat × (Nat → Int)) (iv : Nat → Nat → Int) (x1 : Int) (x2 : Int) (x3 : Int) (s0 : Int) : Run sc 143 54 [some (Rf 52), some (I x1), some (I x2), some (I x3)] [(I s0)] (hp iv) = some (some (I s0), hp iv) :=
  R_ireturn mc_143 dX7_moveRun_54 rfl
theorem B_X7_firstOrder_0 (sc : Nat × (Nat → Int)) (iv : Nat → Nat → Int) (x1 : Int) : Run sc 144 0 [some (Rf 52), some (I x1)] [] (hp iv) = aBind (Run sc 129 0 [some (I x1)] [] (hp iv)) (fun v h2 => Run sc 144 4 [some (Rf 52), some (I x1)] (pushR v []) h2) :=
  (R_iload_n mc_144 dX7_firstOrder_0 rfl).trans <|
  R_invS mc_144 dX7_firstOrder_1 mo_144 ct_7_161 (Or.inl rfl) af_144_129 (Nat.le_of_ble_eq_true rfl) rfl rfl ⟨Nat.le_of_ble_eq_true rfl, Nat.le_of_ble_eq_true rfl⟩
theorem B_X7_firstOrder_4 (sc : Nat × (Nat → Int)) (iv : Nat → Nat → Int) (x1 : Int) (s0 : Int) : Run sc 144 4 [some (Rf 52), some (I x1)] [(I s0)] (hp iv) = if s0 = 0 then some (some (I (-2)), hp iv) else Run sc 144 10 [some (Rf 52), some (I x1)] [] (hp iv) :=
  (R_if_ne mc_144 dX7_firstOrder_4 (t := 10) rfl).trans <| ite_c2
  ((R_bipush mc_144 dX7_firstOrder_7 ⟨by decide, by decide⟩).trans <|
  R_ireturn mc_144 dX7_firstOrder_9 rfl)
  (rfl)
theorem B_X7_firstOrder_10 (sc : Nat × (Nat → Int)) (iv : Nat → Nat → Int) (x1 : Int) : Run sc 144 10 [some (Rf 52), some (I x1)] [] (hp iv) = aBind (Run sc 117 0 [some (Rf 52), some (I x1), none, none, none, none] [] (hp iv)) (fun v h2 => Run sc 144 15 [some (Rf 52), some (I x1)] (pushR v []) h2) :=
  (R_aload_n mc_144 dX7_firstOrder_10 rfl).trans <|
  (R_iload_n mc_144 dX7_firstOrder_11 rfl).trans <|
  R_invV mc_144 dX7_firstOrder_12 mo_144 ct_7_93 af_144_117 rfl rfl rfl ⟨Nat.le_of_ble_eq_true rfl, Nat.le_of_ble_eq_true rfl⟩
theorem B_X7_firstOrder_15 (sc : Nat × (Nat → Int)) (iv : Nat → Nat → Int) (x1 : Int) : Run sc 144 15 [some (Rf 52), some (I x1)] [] (hp iv) = aBind (Run sc 119 0 [some (Rf 52), some (I x1), none, none, none] [] (hp iv)) (fun v h2 => Run sc 144 20 [some (Rf 52), some (I x1)] (pushR v []) h2) :=
  (R_aload_n mc_144 dX7_firstOrder_15 rfl).trans <|
  (R_iload_n mc_144 dX7_firstOrder_16 rfl).trans <|
  R_invV mc_144 dX7_firstOrder_17 mo_144 ct_7_151 af_144_119 rfl rfl rfl ⟨Nat.le_of_ble_eq_true rfl, Nat.le_of_ble_eq_true rfl⟩
theorem B_X7_firstOrder_20 (sc : Nat × (Nat → Int)) (iv : Nat → Nat → Int) (x1 : Int) (s0 : Int) : Run sc 144 20 [some (Rf 52), some (I x1)] [(I s0)] (hp iv) = some (some (I s0), hp iv) :=
  R_ireturn mc_144 dX7_firstOrder_20 rfl
theorem B_X7_placedWithout_0 (sc : Nat × (Nat → Int)) (iv : Nat → Nat → Int) (x1 : Int) (x2 : Int) (x3 : Int) : Run sc 145 0 [some (Rf 52), some (I x1), some (I x2), some (I x3)] [] (hp iv) = bck 0 (((7 : Nat) : Int) - 1) x1 (chk ((iv 57 (Int.toNat x1)) - 2) (aBind (Run sc 109 0 [some (I x2), some (I 0), some (I ((iv 57 (Int.toNat x1)) - 2))] [] (hp iv)) (fun v h2 => Run sc 145 13 [some (Rf 52), some (I x1), some (I x2), some (I x3)] (pushR v []) h2))) :=
  (R_iload_n mc_145 dX7_placedWithout_0 rfl).trans <|
  (R_iconst mc_145 dX7_placedWithout_1 ⟨by decide, by decide⟩).trans <|
  (R_aload_n mc_145 dX7_placedWithout_2 rfl).trans <|
  (R_getR mc_145 dX7_placedWithout_3 mo_145 ft_7_39 rfl rfl (r := 57) rfl (by decide)).trans <|
  (R_iload_n mc_145 dX7_placedWithout_6 rfl).trans <|
  (R_iaload mc_145 dX7_placedWithout_7 rfl).trans <| bck_congr <|
  (R_iconst mc_145 dX7_placedWithout_8 ⟨by decide, by decide⟩).trans <|
  (R_isub mc_145 dX7_placedWithout_9).trans <| chk_congr <|
  R_invS mc_145 dX7_placedWithout_10 mo_145 ct_7_81 (Or.inl rfl) af_145_109 (Nat.le_of_ble_eq_true rfl) rfl rfl ⟨Nat.le_of_ble_eq_true rfl, Nat.le_of_ble_eq_true rfl⟩
theorem B_X7_placedWithout_13 (sc : Nat × (Nat → Int)) (iv : Nat → Nat → Int) (x1 : Int) (x2 : Int) (x3 : Int) (s0 : Int) : Run sc 145 13 [some (Rf 52), some (I x1), some (I x2), some (I x3)] [(I s0)] (hp iv) = if s0 = 0 then Run sc 145 36 [some (Rf 52), some (I x1), some (I x2), some (I x3)] [] (hp iv) else if x2 < x3 then Run sc 145 30 [some (Rf 52), some (I x1), some (I x2), some (I x3)] [(I x2), (I x1), (Rf 52)] (hp iv) else Run sc 145 27 [some (Rf 52), some (I x1), some (I x2), some (I x3)] [(I x1), (Rf 52)] (hp iv) :=
  (R_if_eq mc_145 dX7_placedWithout_13 (t := 36) rfl).trans <| ite_c2
  (rfl)
  ((R_aload_n mc_145 dX7_placedWithout_16 rfl).trans <|
  (R_iload_n mc_145 dX7_placedWithout_17 rfl).trans <|
  (R_iload_n mc_145 dX7_placedWithout_18 rfl).trans <|
  (R_iload_n mc_145 dX7_placedWithout_19 rfl).trans <|
  (R_icmp_ge mc_145 dX7_placedWithout_20 (t := 27) rfl).trans <| ite_c2
  ((R_iload_n mc_145 dX7_placedWithout_23 rfl).trans <|
  R_goto mc_145 dX7_placedWithout_24 (t := 30) rfl)
  (rfl))
theorem B_X7_placedWithout_27 (sc : Nat × (Nat → Int)) (iv : Nat → Nat → Int) (x1 : Int) (x2 : Int) (x3 : Int) (s0 : Int) : Run sc 145 27 [some (Rf 52), some (I x1), some (I x2), some (I x3)] [(I s0), (Rf 52)] (hp iv) = chk (x2 + 1) (Run sc 145 30 [some (Rf 52), some (I x1), some (I x2), some (I x3)] [(I (x2 + 1)), (I s0), (Rf 52)] (hp iv)) :=
  (R_iload_n mc_145 dX7_placedWithout_27 rfl).trans <|
  (R_iconst mc_145 dX7_placedWithout_28 ⟨by decide, by decide⟩).trans <|
  (R_iadd mc_145 dX7_placedWithout_29).trans <| chk_congr <|
  rfl
theorem B_X7_placedWithout_30 (sc : Nat × (Nat → Int)) (iv : Nat → Nat → Int) (x1 : Int) (x2 : Int) (x3 : Int) (s0 : Int) (s1 : Int) : Run sc 145 30 [some (Rf 52), some (I x1), some (I x2), some (I x3)] [(I s0), (I s1), (Rf 52)] (hp iv) = aBind (Run sc 118 0 [some (Rf 52), some (I s1), some (I s0)] [] (hp iv)) (fun v h2 => Run sc 145 33 [some (Rf 52), some (I x1), some (I x2), some (I x3)] (pushR v []) h2) :=
  R_invV mc_145 dX7_placedWithout_30 mo_145 ct_7_100 af_145_118 rfl rfl rfl ⟨Nat.le_of_ble_eq_true rfl, Nat.le_of_ble_eq_true rfl⟩
theorem B_X7_placedWithout_33 (sc : Nat × (Nat → Int)) (iv : Nat → Nat → Int) (x1 : Int) (x2 : Int) (x3 : Int) (s0 : Int) : Run sc 145 33 [some (Rf 52), some (I x1), some (I x2), some (I x3)] [(I s0)] (hp iv) = Run sc 145 38 [some (Rf 52), some (I x1), some (I x2), some (I x3)] [(I s0)] (hp iv) :=
  R_goto mc_145 dX7_placedWithout_33 (t := 38) rfl
theorem B_X7_placedWithout_36 (sc : Nat × (Nat → Int)) (iv : Nat → Nat → Int) (x1 : Int) (x2 : Int) (x3 : Int) : Run sc 145 36 [some (Rf 52), some (I x1), some (I x2), some (I x3)] [] (hp iv) = Run sc 145 38 [some (Rf 52), some (I x1), some (I x2), some (I x3)] [(I (-4))] (hp iv) :=
  R_bipush mc_145 dX7_placedWithout_36 ⟨by decide, by decide⟩
theorem B_X7_placedWithout_38 (sc : Nat × (Nat → Int)) (iv : Nat → Nat → Int) (x1 : Int) (x2 : Int) (x3 : Int) (s0 : Int) : Run sc 145 38 [some (Rf 52), some (I x1), some (I x2), some (I x3)] [(I s0)] (hp iv) = some (some (I s0), hp iv) :=
  R_ireturn mc_145 dX7_placedWithout_38 rfl
theorem B_X7_costsIf_0 (sc : Nat × (Nat → Int)) (iv : Nat → Nat → Int) (x1 : Int) (x2 : Int) (x3 : Int) : Run sc 146 0 [some (Rf 52), some (I x1), some (I x2), some (I x3)] [] (hp iv) = if x2 < 0 then Run sc 146 8 [some (Rf 52), some (I x1), some (I x2), some (I x3)] [] (hp iv) else if x3 < 0 then Run sc 146 8 [some (Rf 52), some (I x1), some (I x2), some (I x3)] [] (hp iv) else Run sc 146 12 [some (Rf 52), some (I x1), some (I x2), some (I x3)] [] (hp iv) :=
  (R_iload_n mc_146 dX7_costsIf_0 rfl).trans <|
  (R_if_lt mc_146 dX7_costsIf_1 (t := 8) rfl).trans <| ite_c2
  (rfl)
  ((R_iload_n mc_146 dX7_costsIf_4 rfl).trans <|
  R_if_ge mc_146 dX7_costsIf_5 (t := 12) rfl)
theorem B_X7_costsIf_8 (sc : Nat × (Nat → Int)) (iv : Nat → Nat → Int) (x1 : Int) (x2 : Int) (x3 : Int) : Run sc 146 8 [some (Rf 52), some (I x1), some (I x2), some (I x3)] [] (hp iv) = Run sc 146 19 [some (Rf 52), some (I x1), some (I x2), some (I x3)] [(I 0)] (hp iv) :=
  (R_iconst mc_146 dX7_costsIf_8 ⟨by decide, by decide⟩).trans <|
  R_goto mc_146 dX7_costsIf_9 (t := 19) rfl
theorem B_X7_costsIf_12 (sc : Nat × (Nat → Int)) (iv : Nat → Nat → Int) (x1 : Int) (x2 : Int) (x3 : Int) : Run sc 146 12 [some (Rf 52), some (I x1), some (I x2), some (I x3)] [] (hp iv) = aBind (Run sc 116 0 [some (Rf 52), some (I x1), some (I x2), some (I x3)] [] (hp iv)) (fun v h2 => Run sc 146 19 [some (Rf 52), some (I x1), some (I x2), some (I x3)] (pushR v []) h2) :=
  (R_aload_n mc_146 dX7_costsIf_12 rfl).trans <|
  (R_iload_n mc_146 dX7_costsIf_13 rfl).trans <|
  (R_iload_n mc_146 dX7_costsIf_14 rfl).trans <|
  (R_iload_n mc_146 dX7_costsIf_15 rfl).trans <|
  R_invV mc_146 dX7_costsIf_16 mo_146 ct_7_103 af_146_116 rfl rfl rfl ⟨Nat.le_of_ble_eq_true rfl, Nat.le_of_ble_eq_true rfl⟩
theorem B_X7_costsIf_19 (sc : Nat × (Nat → Int)) (iv : Nat → Nat → Int) (x1 : Int) (x2 : Int) (x3 : Int) (s0 : Int) : Run sc 146 19 [some (Rf 52), some (I x1), some (I x2), some (I x3)] [(I s0)] (hp iv) = some (some (I s0), hp iv) :=
  R_ireturn mc_146 dX7_costsIf_19 rfl
theorem B_X7_gain_0 (sc : Nat × (Nat → Int)) (iv : Nat → Nat → Int) (x1 : Int) (x2 : Int) (x3 : Int) (x4 : Int) : Run sc 147 0 [some (Rf 52), some (I x1), some (I x2), some (I x3), some (I x4)] [] (hp iv) = aBind (Run sc 146 0 [some (Rf 52), some (I x1), some (I x3), some (I x2)] [] (hp iv)) (fun v h2 => Run sc 147 7 [some (Rf 52), some (I x1), some (I x2), some (I x3), some (I x4)] (pushR v []) h2) :=
  (R_aload_n mc_147 dX7_gain_0 rfl).trans <|
  (R_iload_n mc_147 dX7_gain_1 rfl).trans <|
  (R_iload_n mc_147 dX7_gain_2 rfl).trans <|
  (R_iload_n mc_147 dX7_gain_3 rfl).trans <|
  R_invV mc_147 dX7_gain_4 mo_147 ct_7_172 af_147_146 rfl rfl rfl ⟨Nat.le_of_ble_eq_true rfl, Nat.le_of_ble_eq_true rfl⟩
theorem B_X7_gain_7 (sc : Nat × (Nat → Int)) (iv : Nat → Nat → Int) (x1 : Int) (x2 : Int) (x3 : Int) (x4 : Int) (s0 : Int) : Run sc 147 7 [some (Rf 52), some (I x1), some (I x2), some (I x3), some (I x4)] [(I s0)] (hp iv) = aBind (Run sc 146 0 [some (Rf 52), some (I x1), some (I x2), some (I x4)] [] (hp iv)) (fun v h2 => Run sc 147 15 [some (Rf 52), some (I x1), some (I x2), some (I x3), some (I x4)] (pushR v [(I s0)]) h2) :=
  (R_aload_n mc_147 dX7_gain_7 rfl).trans <|
  (R_iload_n mc_147 dX7_gain_8 rfl).trans <|
  (R_iload_n mc_147 dX7_gain_9 rfl).trans <|
  (R_iload mc_147 dX7_gain_10 rfl).trans <|
  R_invV mc_147 dX7_gain_12 mo_147 ct_7_172 af_147_146 rfl rfl rfl ⟨Nat.le_of_ble_eq_true rfl, Nat.le_of_ble_eq_true rfl⟩
theorem B_X7_gain_15 (sc : Nat × (Nat → Int)) (iv : Nat → Nat → Int) (x1 : Int) (x2 : Int) (x3 : Int) (x4 : Int) (s0 : Int) (s1 : Int) : Run sc 147 15 [some (Rf 52), some (I x1), some (I x2), some (I x3), some (I x4)] [(I s0), (I s1)] (hp iv) = chk (s1 + s0) (aBind (Run sc 146 0 [some (Rf 52), some (I x1), some (I x3), some (I x4)] [] (hp iv)) (fun v h2 => Run sc 147 24 [some (Rf 52), some (I x1), some (I x2), some (I x3), some (I x4)] (pushR v [(I (s1 + s0))]) h2)) :=
  (R_iadd mc_147 dX7_gain_15).trans <| chk_congr <|
  (R_aload_n mc_147 dX7_gain_16 rfl).trans <|
  (R_iload_n mc_147 dX7_gain_17 rfl).trans <|
  (R_iload_n mc_147 dX7_gain_18 rfl).trans <|
  (R_iload mc_147 dX7_gain_19 rfl).trans <|
  R_invV mc_147 dX7_gain_21 mo_147 ct_7_172 af_147_146 rfl rfl rfl ⟨Nat.le_of_ble_eq_true rfl, Nat.le_of_ble_eq_true rfl⟩
theorem B_X7_gain_24 (sc : Nat × (Nat → Int)) (iv : Nat → Nat → Int) (x1 : Int) (x2 : Int) (x3 : Int) (x4 : Int) (s0 : Int) (s1 : Int) : Run sc 147 24 [some (Rf 52), some (I x1), some (I x2), some (I x3), some (I x4)] [(I s0), (I s1)] (hp iv) = chk (s1 - s0) (some (some (I (s1 - s0)), hp iv)) :=
  (R_isub mc_147 dX7_gain_24).trans <| chk_congr <|
  R_ireturn mc_147 dX7_gain_25 rfl
theorem B_X7_isBetter_0 (sc : Nat × (Nat → Int)) (iv : Nat → Nat → Int) (x1 : Int) (x2 : Int) (x3 : Int) : Run sc 148 0 [some (Rf 52), some (I x1), some (I x2), some (I x3), none, none] [] (hp iv) = aBind (Run sc 118 0 [some (Rf 52), some (I x1), some (I x2)] [] (hp iv)) (fun v h2 => Run sc 148 6 [some (Rf 52), some (I x1), some (I x2), some (I x3), none, none] (pushR v []) h2) :=
  (R_aload_n mc_148 dX7_isBetter_0 rfl).trans <|
  (R_iload_n mc_148 dX7_isBetter_1 rfl).trans <|
  (R_iload_n mc_148 dX7_isBetter_2 rfl).trans <|
  R_invV mc_148 dX7_isBetter_3 mo_148 ct_7_100 af_148_118 rfl rfl rfl ⟨Nat.le_of_ble_eq_true rfl, Nat.le_of_ble_eq_true rfl⟩
theorem B_X7_isBetter_6 (sc : Nat × (Nat → Int)) (iv : Nat → Nat → Int) (x1 : Int) (x2 : Int) (x3 : Int) (d4 : Option AV) (d5 : Option AV) (s0 : Int) : Run sc 148 6 [some (Rf 52), some (I x1), some (I x2), some (I x3), d4, d5] [(I s0)] (hp iv) = chk (x2 - 1) (aBind (Run sc 145 0 [some (Rf 52), some (I x1), some (I (x2 - 1)), some (I x2)] [] (hp iv)) (fun v h2 => Run sc 148 21 [some (Rf 52), some (I x1), some (I x2), some (I x3), some (I s0), d5] (pushR v [(I s0), (I x1), (Rf 52)]) h2)) :=
  (R_istore mc_148 dX7_isBetter_6 (Nat.le_of_ble_eq_true rfl)).trans <|
  (R_aload_n mc_148 dX7_isBetter_8 rfl).trans <|
  (R_iload_n mc_148 dX7_isBetter_9 rfl).trans <|
  (R_iload mc_148 dX7_isBetter_10 rfl).trans <|
  (R_aload_n mc_148 dX7_isBetter_12 rfl).trans <|
  (R_iload_n mc_148 dX7_isBetter_13 rfl).trans <|
  (R_iload_n mc_148 dX7_isBetter_14 rfl).trans <|
  (R_iconst mc_148 dX7_isBetter_15 ⟨by decide, by decide⟩).trans <|
  (R_isub mc_148 dX7_isBetter_16).trans <| chk_congr <|
  (R_iload_n mc_148 dX7_isBetter_17 rfl).trans <|
  R_invV mc_148 dX7_isBetter_18 mo_148 ct_7_175 af_148_145 rfl rfl rfl ⟨Nat.le_of_ble_eq_true rfl, Nat.le_of_ble_eq_true rfl⟩
theorem B_X7_isBetter_21 (sc : Nat × (Nat → Int)) (iv : Nat → Nat → Int) (x1 : Int) (x2 : Int) (x3 : Int) (x4 : Int) (d5 : Option AV) (s0 : Int) (s1 : Int) (s2 : Int) : Run sc 148 21 [some (Rf 52), some (I x1), some (I x2), some (I x3), some (I x4), d5] [(I s0), (I s1), (I s2), (Rf 52)] (hp iv) = aBind (Run sc 145 0 [some (Rf 52), some (I x1), some (I x2), some (I x2)] [] (hp iv)) (fun v h2 => Run sc 148 28 [some (Rf 52), some (I x1), some (I x2), some (I x3), some (I x4), d5] (pushR v [(I s0), (I s1), (I s2), (Rf 52)]) h2) :=
  (R_aload_n mc_148 dX7_isBetter_21 rfl).trans <|
  (R_iload_n mc_148 dX7_isBetter_22 rfl).trans <|
  (R_iload_n mc_148 dX7_isBetter_23 rfl).trans <|
  (R_iload_n mc_148 dX7_isBetter_24 rfl).trans <|
  R_invV mc_148 dX7_isBetter_25 mo_148 ct_7_175 af_148_145 rfl rfl rfl ⟨Nat.le_of_ble_eq_true rfl, Nat.le_of_ble_eq_true rfl⟩
theorem B_X7_isBetter_28 (sc : Nat × (Nat → Int)) (iv : Nat → Nat → Int) (x1 : Int) (x2 : Int) (x3 : Int) (x4 : Int) (d5 : Option AV) (s0 : Int) (s1 : Int) (s2 : Int) (s3 : Int) : Run sc 148 28 [some (Rf 52), some (I x1), some (I x2), some (I x3), some (I x4), d5] [(I s0), (I s1), (I s2), (I s3), (Rf 52)] (hp iv) = aBind (Run sc 147 0 [some (Rf 52), some (I s3), some (I s2), some (I s1), some (I s0)] [] (hp iv)) (fun v h2 => Run sc 148 31 [some (Rf 52), some (I x1), some (I x2), some (I x3), some (I x4), d5] (pushR v []) h2) :=
  R_invV mc_148 dX7_isBetter_28 mo_148 ct_7_178 af_148_147 rfl rfl rfl ⟨Nat.le_of_ble_eq_true rfl, Nat.le_of_ble_eq_true rfl⟩
theorem B_X7_isBetter_31 (sc : Nat × (Nat → Int)) (iv : Nat → Nat → Int) (x1 : Int) (x2 : Int) (x3 : Int) (x4 : Int) (d5 : Option AV) (s0 : Int) : Run sc 148 31 [some (Rf 52), some (I x1), some (I x2), some (I x3), some (I x4), d5] [(I s0)] (hp iv) = chk (x3 - 1) (aBind (Run sc 145 0 [some (Rf 52), some (I x1), some (I (x3 - 1)), some (I x2)] [] (hp iv)) (fun v h2 => Run sc 148 46 [some (Rf 52), some (I x1), some (I x2), some (I x3), some (I x4), some (I s0)] (pushR v [(I x4), (I x1), (Rf 52)]) h2)) :=
  (R_istore mc_148 dX7_isBetter_31 (Nat.le_of_ble_eq_true rfl)).trans <|
  (R_aload_n mc_148 dX7_isBetter_33 rfl).trans <|
  (R_iload_n mc_148 dX7_isBetter_34 rfl).trans <|
  (R_iload mc_148 dX7_isBetter_35 rfl).trans <|
  (R_aload_n mc_148 dX7_isBetter_37 rfl).trans <|
  (R_iload_n mc_148 dX7_isBetter_38 rfl).trans <|
  (R_iload_n mc_148 dX7_isBetter_39 rfl).trans <|
  (R_iconst mc_148 dX7_isBetter_40 ⟨by decide, by decide⟩).trans <|
  (R_isub mc_148 dX7_isBetter_41).trans <| chk_congr <|
  (R_iload_n mc_148 dX7_isBetter_42 rfl).trans <|
  R_invV mc_148 dX7_isBetter_43 mo_148 ct_7_175 af_148_145 rfl rfl rfl ⟨Nat.le_of_ble_eq_true rfl, Nat.le_of_ble_eq_true rfl⟩
theorem B_X7_isBetter_46 (sc : Nat × (Nat → Int)) (iv : Nat → Nat → Int) (x1 : Int) (x2 : Int) (x3 : Int) (x4 : Int) (x5 : Int) (s0 : Int) (s1 : Int) (s2 : Int) : Run sc 148 46 [some (Rf 52), some (I x1), some (I x2), some (I x3), some (I x4), some (I x5)] [(I s0), (I s1), (I s2), (Rf 52)] (hp iv) = aBind (Run sc 145 0 [some (Rf 52), some (I x1), some (I x3), some (I x2)] [] (hp iv)) (fun v h2 => Run sc 148 53 [some (Rf 52), some (I x1), some (I x2), some (I x3), some (I x4), some (I x5)] (pushR v [(I s0), (I s1), (I s2), (Rf 52)]) h2) :=
  (R_aload_n mc_148 dX7_isBetter_46 rfl).trans <|
  (R_iload_n mc_148 dX7_isBetter_47 rfl).trans <|
  (R_iload_n mc_148 dX7_isBetter_48 rfl).trans <|
  (R_iload_n mc_148 dX7_isBetter_49 rfl).trans <|
  R_invV mc_148 dX7_isBetter_50 mo_148 ct_7_175 af_148_145 rfl rfl rfl ⟨Nat.le_of_ble_eq_true rfl, Nat.le_of_ble_eq_true rfl⟩
theorem B_X7_isBetter_53 (sc : Nat × (Nat → Int)) (iv : Nat → Nat → Int) (x1 : Int) (x2 : Int) (x3 : Int) (x4 : Int) (x5 : Int) (s0 : Int) (s1 : Int) (s2 : Int) (s3 : Int) : Run sc 148 53 [some (Rf 52), some (I x1), some (I x2), some (I x3), some (I x4), some (I x5)] [(I s0), (I s1), (I s2), (I s3), (Rf 52)] (hp iv) = aBind (Run sc 147 0 [some (Rf 52), some (I s3), some (I s2), some (I s1), some (I s0)] [] (hp iv)) (fun v h2 => Run sc 148 56 [some (Rf 52), some (I x1), some (I x2), some (I x3), some (I x4), some (I x5)] (pushR v []) h2) :=
  R_invV mc_148 dX7_isBetter_53 mo_148 ct_7_178 af_148_147 rfl rfl rfl ⟨Nat.le_of_ble_eq_true rfl, Nat.le_of_ble_eq_true rfl⟩
theorem B_X7_isBetter_56 (sc : Nat × (Nat → Int)) (iv : Nat → Nat → Int) (x1 : Int) (x2 : Int) (x3 : Int) (x4 : Int) (x5 : Int) (s0 : Int) : Run sc 148 56 [some (Rf 52), some (I x1), some (I x2), some (I x3), some (I x4), some (I x5)] [(I s0)] (hp iv) = if s0 < x5 then Run sc 148 66 [some (Rf 52), some (I x1), some (I x2), some (I x3), some (I x4), some (I x5)] [(I 1)] (hp iv) else Run sc 148 65 [some (Rf 52), some (I x1), some (I x2), some (I x3), some (I x4), some (I x5)] [] (hp iv) :=
  (R_iload mc_148 dX7_isBetter_56 rfl).trans <|
  (R_icmp_ge mc_148 dX7_isBetter_58 (t := 65) rfl).trans <| ite_c2
  ((R_iconst mc_148 dX7_isBetter_61 ⟨by decide, by decide⟩).trans <|
  R_goto mc_148 dX7_isBetter_62 (t := 66) rfl)
  (rfl)
theorem B_X7_isBetter_65 (sc : Nat × (Nat → Int)) (iv : Nat → Nat → Int) (x1 : Int) (x2 : Int) (x3 : Int) (x4 : Int) (x5 : Int) : Run sc 148 65 [some (Rf 52), some (I x1), some (I x2), some (I x3), some (I x4), some (I x5)] [] (hp iv) = Run sc 148 66 [some (Rf 52), some (I x1), some (I x2), some (I x3), some (I x4), some (I x5)] [(I 0)] (hp iv) :=
  R_iconst mc_148 dX7_isBetter_65 ⟨by decide, by decide⟩
theorem B_X7_isBetter_66 (sc : Nat × (Nat → Int)) (iv : Nat → Nat → Int) (x1 : Int) (x2 : Int) (x3 : Int) (x4 : Int) (x5 : Int) (s0 : Int) : Run sc 148 66 [some (Rf 52), some (I x1), some (I x2), some (I x3), some (I x4), some (I x5)] [(I s0)] (hp iv) = bck 0 1 s0 (some (some (I s0), hp iv)) :=
  R_ireturnZ mc_148 dX7_isBetter_66 rfl
theorem B_X7_shorten_0 (sc : Nat × (Nat → Int)) (iv : Nat → Nat → Int) (x1 : Int) : Run sc 149 0 [some (Rf 52), some (I x1), none, none, none, none] [] (hp iv) = aBind (Run sc 129 0 [some (I x1)] [] (hp iv)) (fun v h2 => Run sc 149 4 [some (Rf 52), some (I x1), none, none, none, none] (pushR v []) h2) :=
  (R_iload_n mc_149 dX7_shorten_0 rfl).trans <|
  R_invS mc_149 dX7_shorten_1 mo_149 ct_7_161 (Or.inl rfl) af_149_129 (Nat.le_of_ble_eq_true rfl) rfl rfl ⟨Nat.le_of_ble_eq_true rfl, Nat.le_of_ble_eq_true rfl⟩
theorem B_X7_shorten_4 (sc : Nat × (Nat → Int)) (iv : Nat → Nat → Int) (x1 : Int) (d2 : Option AV) (d3 : Option AV) (d4 : Option AV) (d5 : Option AV) (s0 : Int) : Run sc 149 4 [some (Rf 52), some (I x1), d2, d3, d4, d5] [(I s0)] (hp iv) = if s0 = 0 then some (some (I (-2)), hp iv) else Run sc 149 10 [some (Rf 52), some (I x1), d2, d3, d4, d5] [] (hp iv) :=
  (R_if_ne mc_149 dX7_shorten_4 (t := 10) rfl).trans <| ite_c2
  ((R_bipush mc_149 dX7_shorten_7 ⟨by decide, by decide⟩).trans <|
  R_ireturn mc_149 dX7_shorten_9 rfl)
  (rfl)
theorem B_X7_shorten_10 (sc : Nat × (Nat → Int)) (iv : Nat → Nat → Int) (x1 : Int) (d2 : Option AV) (d3 : Option AV) (d4 : Option AV) (d5 : Option AV) : Run sc 149 10 [some (Rf 52), some (I x1), d2, d3, d4, d5] [] (hp iv) = Run sc 149 14 [some (Rf 52), some (I x1), some (I 0), some (I 1), d4, d5] [] (hp iv) :=
  (R_iconst mc_149 dX7_shorten_10 ⟨by decide, by decide⟩).trans <|
  (R_istore_n mc_149 dX7_shorten_11 (Nat.le_of_ble_eq_true rfl)).trans <|
  (R_iconst mc_149 dX7_shorten_12 ⟨by decide, by decide⟩).trans <|
  R_istore_n mc_149 dX7_shorten_13 (Nat.le_of_ble_eq_true rfl)
theorem B_X7_shorten_14 (sc : Nat × (Nat → Int)) (iv : Nat → Nat → Int) (x1 : Int) (x2 : Int) (x3 : Int) (d4 : Option AV) (d5 : Option AV) : Run sc 149 14 [some (Rf 52), some (I x1), some (I x2), some (I x3), d4, d5] [] (hp iv) = if x3 = 0 then Run sc 149 96 [some (Rf 52), some (I x1), some (I x2), some (I x3), d4, d5] [] (hp iv) else Run sc 149 23 [some (Rf 52), some (I x1), some (I x2), some (I 0), some (I 0), d5] [] (hp iv) :=
  (R_iload_n mc_149 dX7_shorten_14 rfl).trans <|
  (R_if_eq mc_149 dX7_shorten_15 (t := 96) rfl).trans <| ite_c2
  (rfl)
  ((R_iconst mc_149 dX7_shorten_18 ⟨by decide, by decide⟩).trans <|
  (R_istore_n mc_149 dX7_shorten_19 (Nat.le_of_ble_eq_true rfl)).trans <|
  (R_iconst mc_149 dX7_shorten_20 ⟨by decide, by decide⟩).trans <|
  R_istore mc_149 dX7_shorten_21 (Nat.le_of_ble_eq_true rfl))
theorem B_X7_shorten_23 (sc : Nat × (Nat → Int)) (iv : Nat → Nat → Int) (x1 : Int) (x2 : Int) (x3 : Int) (x4 : Int) (d5 : Option AV) : Run sc 149 23 [some (Rf 52), some (I x1), some (I x2), some (I x3), some (I x4), d5] [] (hp iv) = bck 0 (((7 : Nat) : Int) - 1) x1 (if x4 < (iv 57 (Int.toNat x1)) then Run sc 149 37 [some (Rf 52), some (I x1), some (I x2), some (I x3), some (I x4), some (I 0)] [] (hp iv) else Run sc 149 93 [some (Rf 52), some (I x1), some (I x2), some (I x3), some (I x4), d5] [] (hp iv)) :=
  (R_iload mc_149 dX7_shorten_23 rfl).trans <|
  (R_aload_n mc_149 dX7_shorten_25 rfl).trans <|
  (R_getR mc_149 dX7_shorten_26 mo_149 ft_7_39 rfl rfl (r := 57) rfl (by decide)).trans <|
  (R_iload_n mc_149 dX7_shorten_29 rfl).trans <|
  (R_iaload mc_149 dX7_shorten_30 rfl).trans <| bck_congr <|
  (R_icmp_ge mc_149 dX7_shorten_31 (t := 93) rfl).trans <| ite_c2
  ((R_iconst mc_149 dX7_shorten_34 ⟨by decide, by decide⟩).trans <|
  R_istore mc_149 dX7_shorten_35 (Nat.le_of_ble_eq_true rfl))
  (rfl)
theorem B_X7_shorten_37 (sc : Nat × (Nat → Int)) (iv : Nat → Nat → Int) (x1 : Int) (x2 : Int) (x3 : Int) (x4 : Int) (x5 : Int) : Run sc 149 37 [some (Rf 52), some (I x1), some (I x2), some (I x3), some (I x4), some (I x5)] [] (hp iv) = bck 0 (((7 : Nat) : Int) - 1) x1 (if x5 < (iv 57 (Int.toNat x1)) then if x5 = x4 then Run sc 149 81 [some (Rf 52), some (I x1), some (I x2), some (I x3), some (I x4), some (I x5)] [] (hp iv) else aBind (Run sc 148 0 [some (Rf 52), some (I x1), some (I x4), some (I x5), none, none] [] (hp iv)) (fun v h2 => Run sc 149 64 [some (Rf 52), some (I x1), some (I x2), some (I x3), some (I x4), some (I x5)] (pushR v []) h2) else Run sc 149 87 [some (Rf 52), some (I x1), some (I x2), some (I x3), some (I x4), some (I x5)] [] (hp iv)) :=
  (R_iload mc_149 dX7_shorten_37 rfl).trans <|
  (R_aload_n mc_149 dX7_shorten_39 rfl).trans <|
  (R_getR mc_149 dX7_shorten_40 mo_149 ft_7_39 rfl rfl (r := 57) rfl (by decide)).trans <|
  (R_iload_n mc_149 dX7_shorten_43 rfl).trans <|
  (R_iaload mc_149 dX7_shorten_44 rfl).trans <| bck_congr <|
  (R_icmp_ge mc_149 dX7_shorten_45 (t := 87) rfl).trans <| ite_c2
  ((R_iload mc_149 dX7_shorten_48 rfl).trans <|
  (R_iload mc_149 dX7_shorten_50 rfl).trans <|
  (R_icmp_eq mc_149 dX7_shorten_52 (t := 81) rfl).trans <| ite_c2
  (rfl)
  ((R_aload_n mc_149 dX7_shorten_55 rfl).trans <|
  (R_iload_n mc_149 dX7_shorten_56 rfl).trans <|
  (R_iload mc_149 dX7_shorten_57 rfl).trans <|
  (R_iload mc_149 dX7_shorten_59 rfl).trans <|
  R_invV mc_149 dX7_shorten_61 mo_149 ct_7_182 af_149_148 rfl rfl rfl ⟨Nat.le_of_ble_eq_true rfl, Nat.le_of_ble_eq_true rfl⟩))
  (rfl)
theorem B_X7_shorten_64 (sc : Nat × (Nat → Int)) (iv : Nat → Nat → Int) (x1 : Int) (x2 : Int) (x3 : Int) (x4 : Int) (x5 : Int) (s0 : Int) : Run sc 149 64 [some (Rf 52), some (I x1), some (I x2), some (I x3), some (I x4), some (I x5)] [(I s0)] (hp iv) = if s0 = 0 then Run sc 149 81 [some (Rf 52), some (I x1), some (I x2), some (I x3), some (I x4), some (I x5)] [] (hp iv) else aBind (Run sc 142 0 [some (Rf 52), some (I x1), some (I x4), some (I x5), none, none] [] (hp iv)) (fun v h2 => Run sc 149 76 [some (Rf 52), some (I x1), some (I x2), some (I x3), some (I x4), some (I x5)] (pushR v []) h2) :=
  (R_if_eq mc_149 dX7_shorten_64 (t := 81) rfl).trans <| ite_c2
  (rfl)
  ((R_aload_n mc_149 dX7_shorten_67 rfl).trans <|
  (R_iload_n mc_149 dX7_shorten_68 rfl).trans <|
  (R_iload mc_149 dX7_shorten_69 rfl).trans <|
  (R_iload mc_149 dX7_shorten_71 rfl).trans <|
  R_invV mc_149 dX7_shorten_73 mo_149 ct_7_168 af_149_142 rfl rfl rfl ⟨Nat.le_of_ble_eq_true rfl, Nat.le_of_ble_eq_true rfl⟩)
theorem B_X7_shorten_76 (sc : Nat × (Nat → Int)) (iv : Nat → Nat → Int) (x1 : Int) (x2 : Int) (x3 : Int) (x4 : Int) (x5 : Int) : Run sc 149 76 [some (Rf 52), some (I x1), some (I x2), some (I x3), some (I x4), some (I x5)] [] (hp iv) = chk (x2 + 1) (Run sc 149 81 [some (Rf 52), some (I x1), some (I (x2 + 1)), some (I 1), some (I x4), some (I x5)] [] (hp iv)) :=
  (R_iinc mc_149 dX7_shorten_76 rfl).trans <| chk_congr <|
  (R_iconst mc_149 dX7_shorten_79 ⟨by decide, by decide⟩).trans <|
  R_istore_n mc_149 dX7_shorten_80 (Nat.le_of_ble_eq_true rfl)
theorem B_X7_shorten_81 (sc : Nat × (Nat → Int)) (iv : Nat → Nat → Int) (x1 : Int) (x2 : Int) (x3 : Int) (x4 : Int) (x5 : Int) : Run sc 149 81 [some (Rf 52), some (I x1), some (I x2), some (I x3), some (I x4), some (I x5)] [] (hp iv) = chk (x5 + 1) (Run sc 149 37 [some (Rf 52), some (I x1), some (I x2), some (I x3), some (I x4), some (I (x5 + 1))] [] (hp iv)) :=
  (R_iinc mc_149 dX7_shorten_81 rfl).trans <| chk_congr <|
  R_goto mc_149 dX7_shorten_84 (t := 37) rfl
theorem B_X7_shorten_87 (sc : Nat × (Nat → Int)) (iv : Nat → Nat → Int) (x1 : Int) (x2 : Int) (x3 : Int) (x4 : Int) (x5 : Int) : Run sc 149 87 [some (Rf 52), some (I x1), some (I x2), some (I x3), some (I x4), some (I x5)] [] (hp iv) = chk (x4 + 1) (Run sc 149 23 [some (Rf 52), some (I x1), some (I x2), some (I x3), some (I (x4 + 1)), some (I x5)] [] (hp iv)) :=
  (R_iinc mc_149 dX7_shorten_87 rfl).trans <| chk_congr <|
  R_goto mc_149 dX7_shorten_90 (t := 23) rfl
theorem B_X7_shorten_93 (sc : Nat × (Nat → Int)) (iv : Nat → Nat → Int) (x1 : Int) (x2 : Int) (x3 : Int) (x4 : Int) (d5 : Option AV) : Run sc 149 93 [some (Rf 52), some (I x1), some (I x2), some (I x3), some (I x4), d5] [] (hp iv) = Run sc 149 14 [some (Rf 52), some (I x1), some (I x2), some (I x3), some (I x4), d5] [] (hp iv) :=
  R_goto mc_149 dX7_shorten_93 (t := 14) rfl
theorem B_X7_shorten_96 (sc : Nat × (Nat → Int)) (iv : Nat → Nat → Int) (x1 : Int) (x2 : Int) (x3 : Int) (d4 : Option AV) (d5 : Option AV) : Run sc 149 96 [some (Rf 52), some (I x1), some (I x2), some (I x3), d4, d5] [] (hp iv) = some (some (I x2), hp iv) :=
  (R_iload_n mc_149 dX7_shorten_96 rfl).trans <|
  R_ireturn mc_149 dX7_shorten_97 rfl
theorem B_X7_setThread_0 (sc : Nat × (Nat → Int)) (iv : Nat → Nat → Int) (x1 : Int) (x2 : Int) : Run sc 150 0 [some (Rf 52), some (I x1), some (I x2), none] [] (hp iv) = aBind (Run sc 109 0 [some (I x1), some (I 0), some (I 1000)] [] (hp iv)) (fun v h2 => Run sc 150 8 [some (Rf 52), some (I x1), some (I x2), none] (pushR v []) h2) :=
  (R_iload_n mc_150 dX7_setThread_0 rfl).trans <|
  (R_iconst mc_150 dX7_setThread_1 ⟨by decide, by decide⟩).trans <|
  (R_sipush mc_150 dX7_setThread_2 ⟨by decide, by decide⟩).trans <|
  R_invS mc_150 dX7_setThread_5 mo_150 ct_7_81 (Or.inl rfl) af_150_109 (Nat.le_of_ble_eq_true rfl) rfl rfl ⟨Nat.le_of_ble_eq_true rfl, Nat.le_of_ble_eq_true rfl⟩
theorem B_X7_setThread_8 (sc : Nat × (Nat → Int)) (iv : Nat → Nat → Int) (x1 : Int) (x2 : Int) (d3 : Option AV) (s0 : Int) : Run sc 150 8 [some (Rf 52), some (I x1), some (I x2), d3] [(I s0)] (hp iv) = if s0 = 0 then Run sc 150 22 [some (Rf 52), some (I x1), some (I x2), d3] [] (hp iv) else aBind (Run sc 109 0 [some (I x2), some (I 0), some (I 200)] [] (hp iv)) (fun v h2 => Run sc 150 19 [some (Rf 52), some (I x1), some (I x2), d3] (pushR v []) h2) :=
  (R_if_eq mc_150 dX7_setThread_8 (t := 22) rfl).trans <| ite_c2
  (rfl)
  ((R_iload_n mc_150 dX7_setThread_11 rfl).trans <|
  (R_iconst mc_150 dX7_setThread_12 ⟨by decide, by decide⟩).trans <|
  (R_sipush mc_150 dX7_setThread_13 ⟨by decide, by decide⟩).trans <|
  R_invS mc_150 dX7_setThread_16 mo_150 ct_7_81 (Or.inl rfl) af_150_109 (Nat.le_of_ble_eq_true rfl) rfl rfl ⟨Nat.le_of_ble_eq_true rfl, Nat.le_of_ble_eq_true rfl⟩)
theorem B_X7_setThread_19 (sc : Nat × (Nat → Int)) (iv : Nat → Nat → Int) (x1 : Int) (x2 : Int) (d3 : Option AV) (s0 : Int) : Run sc 150 19 [some (Rf 52), some (I x1), some (I x2), d3] [(I s0)] (hp iv) = if s0 = 0 then Run sc 150 22 [some (Rf 52), some (I x1), some (I x2), d3] [] (hp iv) else Run sc 150 25 [some (Rf 52), some (I x1), some (I x2), d3] [] (hp iv) :=
  R_if_ne mc_150 dX7_setThread_19 (t := 25) rfl
theorem B_X7_setThread_22 (sc : Nat × (Nat → Int)) (iv : Nat → Nat → Int) (x1 : Int) (x2 : Int) (d3 : Option AV) : Run sc 150 22 [some (Rf 52), some (I x1), some (I x2), d3] [] (hp iv) = some (some (I (-2)), hp iv) :=
  (R_bipush mc_150 dX7_setThread_22 ⟨by decide, by decide⟩).trans <|
  R_ireturn mc_150 dX7_setThread_24 rfl
theorem B_X7_setThread_25 (sc : Nat × (Nat → Int)) (iv : Nat → Nat → Int) (x1 : Int) (x2 : Int) (d3 : Option AV) : Run sc 150 25 [some (Rf 52), some (I x1), some (I x2), d3] [] (hp iv) = chk (1000 * (iv 52 3)) (chk ((1000 * (iv 52 3)) + (iv 52 2)) (bck (-2147483648) 2147483647 x1 (Run sc 150 44 [some (Rf 52), some (I x1), some (I x2), some (I ((1000 * (iv 52 3)) + (iv 52 2)))] [] (hp (setO iv 52 (upI (iv 52) 2 x1)))))) :=
  (R_sipush mc_150 dX7_setThread_25 ⟨by decide, by decide⟩).trans <|
  (R_aload_n mc_150 dX7_setThread_28 rfl).trans <|
  (R_getI mc_150 dX7_setThread_29 mo_150 ft_7_13 rfl rfl).trans <|
  (R_imul mc_150 dX7_setThread_32).trans <| chk_congr <|
  (R_aload_n mc_150 dX7_setThread_33 rfl).trans <|
  (R_getI mc_150 dX7_setThread_34 mo_150 ft_7_7 rfl rfl).trans <|
  (R_iadd mc_150 dX7_setThread_37).trans <| chk_congr <|
  (R_istore_n mc_150 dX7_setThread_38 (Nat.le_of_ble_eq_true rfl)).trans <|
  (R_aload_n mc_150 dX7_setThread_39 rfl).trans <|
  (R_iload_n mc_150 dX7_setThread_40 rfl).trans <|
  (R_putI mc_150 dX7_setThread_41 mo_150 ft_7_7 rfl rfl rfl (lo := (-2147483648)) (hi := 2147483647) rfl rfl).trans <| bck_congr <|
  rfl
theorem B_X7_setThread_44 (sc : Nat × (Nat → Int)) (iv : Nat → Nat → Int) (x1 : Int) (x2 : Int) (x3 : Int) : Run sc 150 44 [some (Rf 52), some (I x1), some (I x2), some (I x3)] [] (hp iv) = bck (-2147483648) 2147483647 x2 (Run sc 150 49 [some (Rf 52), some (I x1), some (I x2), some (I x3)] [] (hp (setO iv 52 (upI (iv 52) 3 x2)))) :=
  (R_aload_n mc_150 dX7_setThread_44 rfl).trans <|
  (R_iload_n mc_150 dX7_setThread_45 rfl).trans <|
  (R_putI mc_150 dX7_setThread_46 mo_150 ft_7_13 rfl rfl rfl (lo := (-2147483648)) (hi := 2147483647) rfl rfl).trans <| bck_congr <|
  rfl
theorem B_X7_setThread_49 (sc : Nat × (Nat → Int)) (iv : Nat → Nat → Int) (x1 : Int) (x2 : Int) (x3 : Int) : Run sc 150 49 [some (Rf 52), some (I x1), some (I x2), some (I x3)] [] (hp iv) = some (some (I x3), hp iv) :=
  (R_iload_n mc_150 dX7_setThread_49 rfl).trans <|
  R_ireturn mc_150 dX7_setThread_50 rfl
theorem B_X7_noEdge_0 (sc : Nat × (Nat → Int)) (iv : Nat → Nat → Int) (x1 : Int) (x2 : Int) (x3 : Int) : Run sc 151 0 [some (Rf 52), some (I x1), some (I x2), some (I x3)] [] (hp iv) = if x3 = 0 then Run sc 151 13 [some (Rf 52), some (I x1), some (I x2), some (I x3)] [(I 0), (I x1)] (hp iv) else Run sc 151 19 [some (Rf 52), some (I x1), some (I x2), some (I x3)] [(I (iv 52 0)), (I 0), (I x1)] (hp iv) :=
  (R_iload_n mc_151 dX7_noEdge_0 rfl).trans <|
  (R_iconst mc_151 dX7_noEdge_1 ⟨by decide, by decide⟩).trans <|
  (R_iload_n mc_151 dX7_noEdge_2 rfl).trans <|
  (R_if_eq mc_151 dX7_noEdge_3 (t := 13) rfl).trans <| ite_c2
  (rfl)
  ((R_aload_n mc_151 dX7_noEdge_6 rfl).trans <|
  (R_getI mc_151 dX7_noEdge_7 mo_151 ft_7_71 rfl rfl).trans <|
  R_goto mc_151 dX7_noEdge_10 (t := 19) rfl)
theorem B_X7_noEdge_13 (sc : Nat × (Nat → Int)) (iv : Nat → Nat → Int) (x1 : Int) (x2 : Int) (x3 : Int) (s0 : Int) (s1 : Int) : Run sc 151 13 [some (Rf 52), some (I x1), some (I x2), some (I x3)] [(I s0), (I s1)] (hp iv) = chk ((iv 52 0) - 1) (Run sc 151 19 [some (Rf 52), some (I x1), some (I x2), some (I x3)] [(I ((iv 52 0) - 1)), (I s0), (I s1)] (hp iv)) :=
  (R_aload_n mc_151 dX7_noEdge_13 rfl).trans <|
  (R_getI mc_151 dX7_noEdge_14 mo_151 ft_7_71 rfl rfl).trans <|
  (R_iconst mc_151 dX7_noEdge_17 ⟨by decide, by decide⟩).trans <|
  (R_isub mc_151 dX7_noEdge_18).trans <| chk_congr <|
  rfl
theorem B_X7_noEdge_19 (sc : Nat × (Nat → Int)) (iv : Nat → Nat → Int) (x1 : Int) (x2 : Int) (x3 : Int) (s0 : Int) (s1 : Int) (s2 : Int) : Run sc 151 19 [some (Rf 52), some (I x1), some (I x2), some (I x3)] [(I s0), (I s1), (I s2)] (hp iv) = aBind (Run sc 109 0 [some (I s2), some (I s1), some (I s0)] [] (hp iv)) (fun v h2 => Run sc 151 22 [some (Rf 52), some (I x1), some (I x2), some (I x3)] (pushR v []) h2) :=
  R_invS mc_151 dX7_noEdge_19 mo_151 ct_7_81 (Or.inl rfl) af_151_109 (Nat.le_of_ble_eq_true rfl) rfl rfl ⟨Nat.le_of_ble_eq_true rfl, Nat.le_of_ble_eq_true rfl⟩
theorem B_X7_noEdge_22 (sc : Nat × (Nat → Int)) (iv : Nat → Nat → Int) (x1 : Int) (x2 : Int) (x3 : Int) (s0 : Int) : Run sc 151 22 [some (Rf 52), some (I x1), some (I x2), some (I x3)] [(I s0)] (hp iv) = if s0 = 0 then Run sc 151 50 [some (Rf 52), some (I x1), some (I x2), some (I x3)] [] (hp iv) else if x3 = 0 then Run sc 151 40 [some (Rf 52), some (I x1), some (I x2), some (I x3)] [(I 0), (I x2)] (hp iv) else chk ((iv 52 1) - 1) (Run sc 151 44 [some (Rf 52), some (I x1), some (I x2), some (I x3)] [(I ((iv 52 1) - 1)), (I 0), (I x2)] (hp iv)) :=
  (R_if_eq mc_151 dX7_noEdge_22 (t := 50) rfl).trans <| ite_c2
  (rfl)
  ((R_iload_n mc_151 dX7_noEdge_25 rfl).trans <|
  (R_iconst mc_151 dX7_noEdge_26 ⟨by decide, by decide⟩).trans <|
  (R_iload_n mc_151 dX7_noEdge_27 rfl).trans <|
  (R_if_eq mc_151 dX7_noEdge_28 (t := 40) rfl).trans <| ite_c2
  (rfl)
  ((R_aload_n mc_151 dX7_noEdge_31 rfl).trans <|
  (R_getI mc_151 dX7_noEdge_32 mo_151 ft_7_74 rfl rfl).trans <|
  (R_iconst mc_151 dX7_noEdge_35 ⟨by decide, by decide⟩).trans <|
  (R_isub mc_151 dX7_noEdge_36).trans <| chk_congr <|
  R_goto mc_151 dX7_noEdge_37 (t := 44) rfl))
theorem B_X7_noEdge_40 (sc : Nat × (Nat → Int)) (iv : Nat → Nat → Int) (x1 : Int) (x2 : Int) (x3 : Int) (s0 : Int) (s1 : Int) : Run sc 151 40 [some (Rf 52), some (I x1), some (I x2), some (I x3)] [(I s0), (I s1)] (hp iv) = Run sc 151 44 [some (Rf 52), some (I x1), some (I x2), some (I x3)] [(I (iv 52 1)), (I s0), (I s1)] (hp iv) :=
  (R_aload_n mc_151 dX7_noEdge_40 rfl).trans <|
  R_getI mc_151 dX7_noEdge_41 mo_151 ft_7_74 rfl rfl
theorem B_X7_noEdge_44 (sc : Nat × (Nat → Int)) (iv : Nat → Nat → Int) (x1 : Int) (x2 : Int) (x3 : Int) (s0 : Int) (s1 : Int) (s2 : Int) : Run sc 151 44 [some (Rf 52), some (I x1), some (I x2), some (I x3)] [(I s0), (I s1), (I s2)] (hp iv) = aBind (Run sc 109 0 [some (I s2), some (I s1), some (I s0)] [] (hp iv)) (fun v h2 => Run sc 151 47 [some (Rf 52), some (I x1), some (I x2), some (I x3)] (pushR v []) h2) :=
  R_invS mc_151 dX7_noEdge_44 mo_151 ct_7_81 (Or.inl rfl) af_151_109 (Nat.le_of_ble_eq_true rfl) rfl rfl ⟨Nat.le_of_ble_eq_true rfl, Nat.le_of_ble_eq_true rfl⟩
theorem B_X7_noEdge_47 (sc : Nat × (Nat → Int)) (iv : Nat → Nat → Int) (x1 : Int) (x2 : Int) (x3 : Int) (s0 : Int) : Run sc 151 47 [some (Rf 52), some (I x1), some (I x2), some (I x3)] [(I s0)] (hp iv) = if s0 = 0 then Run sc 151 50 [some (Rf 52), some (I x1), some (I x2), some (I x3)] [] (hp iv) else Run sc 151 54 [some (Rf 52), some (I x1), some (I x2), some (I x3)] [] (hp iv) :=
  R_if_ne mc_151 dX7_noEdge_47 (t := 54) rfl
theorem B_X7_noEdge_50 (sc : Nat × (Nat → Int)) (iv : Nat → Nat → Int) (x1 : Int) (x2 : Int) (x3 : Int) : Run sc 151 50 [some (Rf 52), some (I x1), some (I x2), some (I x3)] [] (hp iv) = Run sc 151 55 [some (Rf 52), some (I x1), some (I x2), some (I x3)] [(I 1)] (hp iv) :=
  (R_iconst mc_151 dX7_noEdge_50 ⟨by decide, by decide⟩).trans <|
  R_goto mc_151 dX7_noEdge_51 (t := 55) rfl
theorem B_X7_noEdge_54 (sc : Nat × (Nat → Int)) (iv : Nat → Nat → Int) (x1 : Int) (x2 : Int) (x3 : Int) : Run sc 151 54 [some (Rf 52), some (I x1), some (I x2), some (I x3)] [] (hp iv) = Run sc 151 55 [some (Rf 52), some (I x1), some (I x2), some (I x3)] [(I 0)] (hp iv) :=
  R_iconst mc_151 dX7_noEdge_54 ⟨by decide, by decide⟩
theorem B_X7_noEdge_55 (sc : Nat × (Nat → Int)) (iv : Nat → Nat → Int) (x1 : Int) (x2 : Int) (x3 : Int) (s0 : Int) : Run sc 151 55 [some (Rf 52), some (I x1), some (I x2), some (I x3)] [(I s0)] (hp iv) = bck 0 1 s0 (some (some (I s0), hp iv)) :=
  R_ireturnZ mc_151 dX7_noEdge_55 rfl
theorem B_X7_edge_0 (sc : Nat × (Nat → Int)) (iv : Nat → Nat → Int) (x0 : Int) (x1 : Int) : Run sc 152 0 [some (I x0), some (I x1)] [] (hp iv) = chk (25 * x1) (chk ((25 * x1) + x0) (some (some (I ((25 * x1) + x0)), hp iv))) :=
  (R_bipush mc_152 dX7_edge_0 ⟨by decide, by decide⟩).trans <|
  (R_iload_n mc_152 dX7_edge_2 rfl).trans <|
  (R_imul mc_152 dX7_edge_3).trans <| chk_congr <|
  (R_iload_n mc_152 dX7_edge_4 rfl).trans <|
  (R_iadd mc_152 dX7_edge_5).trans <| chk_congr <|
  R_ireturn mc_152 dX7_edge_6 rfl
theorem B_X7_hasBack_0 (sc : Nat × (Nat → Int)) (iv : Nat → Nat → Int) (x1 : Int) (x2 : Int) (x3 : Int) : Run sc 153 0 [some (Rf 52), some (I x1), some (I x2), some (I x3)] [] (hp iv) = aBind (Run sc 151 0 [some (Rf 52), some (I x1), some (I x2), some (I x3)] [] (hp iv)) (fun v h2 => Run sc 153 7 [some (Rf 52), some (I x1), some (I x2), some (I x3)] (pushR v []) h2) :=
  (R_aload_n mc_153 dX7_hasBack_0 rfl).trans <|
  (R_iload_n mc_153 dX7_hasBack_1 rfl).trans <|
  (R_iload_n mc_153 dX7_hasBack_2 rfl).trans <|
  (R_iload_n mc_153 dX7_hasBack_3 rfl).trans <|
  R_invV mc_153 dX7_hasBack_4 mo_153 ct_7_185 af_153_151 rfl rfl rfl ⟨Nat.le_of_ble_eq_true rfl, Nat.le_of_ble_eq_true rfl⟩
theorem B_X7_hasBack_7 (sc : Nat × (Nat → Int)) (iv : Nat → Nat → Int) (x1 : Int) (x2 : Int) (x3 : Int) (s0 : Int) : Run sc 153 7 [some (Rf 52), some (I x1), some (I x2), some (I x3)] [(I s0)] (hp iv) = if s0 = 0 then if x3 = 0 then Run sc 153 30 [some (Rf 52), some (I x1), some (I x2), some (I x3)] [] (hp iv) else aBind (Run sc 152 0 [some (I x1), some (I x2)] [] (hp iv)) (fun v h2 => Run sc 153 23 [some (Rf 52), some (I x1), some (I x2), some (I x3)] (pushR v [(Rf 56)]) h2) else Run sc 153 47 [some (Rf 52), some (I x1), some (I x2), some (I x3)] [] (hp iv) :=
  (R_if_ne mc_153 dX7_hasBack_7 (t := 47) rfl).trans <| ite_c2
  ((R_iload_n mc_153 dX7_hasBack_10 rfl).trans <|
  (R_if_eq mc_153 dX7_hasBack_11 (t := 30) rfl).trans <| ite_c2
  (rfl)
  ((R_aload_n mc_153 dX7_hasBack_14 rfl).trans <|
  (R_getR mc_153 dX7_hasBack_15 mo_153 ft_7_36 rfl rfl (r := 56) rfl (by decide)).trans <|
  (R_iload_n mc_153 dX7_hasBack_18 rfl).trans <|
  (R_iload_n mc_153 dX7_hasBack_19 rfl).trans <|
  R_invS mc_153 dX7_hasBack_20 mo_153 ct_7_189 (Or.inl rfl) af_153_152 (Nat.le_of_ble_eq_true rfl) rfl rfl ⟨Nat.le_of_ble_eq_true rfl, Nat.le_of_ble_eq_true rfl⟩))
  (rfl)
theorem B_X7_hasBack_23 (sc : Nat × (Nat → Int)) (iv : Nat → Nat → Int) (x1 : Int) (x2 : Int) (x3 : Int) (s0 : Int) : Run sc 153 23 [some (Rf 52), some (I x1), some (I x2), some (I x3)] [(I s0), (Rf 56)] (hp iv) = bck 0 (((625 : Nat) : Int) - 1) s0 (if (iv 56 (Int.toNat s0)) = 0 then Run sc 153 47 [some (Rf 52), some (I x1), some (I x2), some (I x3)] [] (hp iv) else Run sc 153 43 [some (Rf 52), some (I x1), some (I x2), some (I x3)] [] (hp iv)) :=
  (R_baload mc_153 dX7_hasBack_23 rfl).trans <| bck_congr <|
  (R_if_eq mc_153 dX7_hasBack_24 (t := 47) rfl).trans <| ite_c2
  (rfl)
  (R_goto mc_153 dX7_hasBack_27 (t := 43) rfl)
theorem B_X7_hasBack_30 (sc : Nat × (Nat → Int)) (iv : Nat → Nat → Int) (x1 : Int) (x2 : Int) (x3 : Int) : Run sc 153 30 [some (Rf 52), some (I x1), some (I x2), some (I x3)] [] (hp iv) = aBind (Run sc 152 0 [some (I x1), some (I x2)] [] (hp iv)) (fun v h2 => Run sc 153 39 [some (Rf 52), some (I x1), some (I x2), some (I x3)] (pushR v [(Rf 55)]) h2) :=
  (R_aload_n mc_153 dX7_hasBack_30 rfl).trans <|
  (R_getR mc_153 dX7_hasBack_31 mo_153 ft_7_32 rfl rfl (r := 55) rfl (by decide)).trans <|
  (R_iload_n mc_153 dX7_hasBack_34 rfl).trans <|
  (R_iload_n mc_153 dX7_hasBack_35 rfl).trans <|
  R_invS mc_153 dX7_hasBack_36 mo_153 ct_7_189 (Or.inl rfl) af_153_152 (Nat.le_of_ble_eq_true rfl) rfl rfl ⟨Nat.le_of_ble_eq_true rfl, Nat.le_of_ble_eq_true rfl⟩
theorem B_X7_hasBack_39 (sc : Nat × (Nat → Int)) (iv : Nat → Nat → Int) (x1 : Int) (x2 : Int) (x3 : Int) (s0 : Int) : Run sc 153 39 [some (Rf 52), some (I x1), some (I x2), some (I x3)] [(I s0), (Rf 55)] (hp iv) = bck 0 (((625 : Nat) : Int) - 1) s0 (if (iv 55 (Int.toNat s0)) = 0 then Run sc 153 47 [some (Rf 52), some (I x1), some (I x2), some (I x3)] [] (hp iv) else Run sc 153 43 [some (Rf 52), some (I x1), some (I x2), some (I x3)] [] (hp iv)) :=
  (R_baload mc_153 dX7_hasBack_39 rfl).trans <| bck_congr <|
  R_if_eq mc_153 dX7_hasBack_40 (t := 47) rfl
theorem B_X7_hasBack_43 (sc : Nat × (Nat → Int)) (iv : Nat → Nat → Int) (x1 : Int) (x2 : Int) (x3 : Int) : Run sc 153 43 [some (Rf 52), some (I x1), some (I x2), some (I x3)] [] (hp iv) = Run sc 153 48 [some (Rf 52), some (I x1), some (I x2), some (I x3)] [(I 1)] (hp iv) :=
  (R_iconst mc_153 dX7_hasBack_43 ⟨by decide, by decide⟩).trans <|
  R_goto mc_153 dX7_hasBack_44 (t := 48) rfl
theorem B_X7_hasBack_47 (sc : Nat × (Nat → Int)) (iv : Nat → Nat → Int) (x1 : Int) (x2 : Int) (x3 : Int) : Run sc 153 47 [some (Rf 52), some (I x1), some (I x2), some (I x3)] [] (hp iv) = Run sc 153 48 [some (Rf 52), some (I x1), some (I x2), some (I x3)] [(I 0)] (hp iv) :=
  R_iconst mc_153 dX7_hasBack_47 ⟨by decide, by decide⟩
theorem B_X7_hasBack_48 (sc : Nat × (Nat → Int)) (iv : Nat → Nat → Int) (x1 : Int) (x2 : Int) (x3 : Int) (s0 : Int) : Run sc 153 48 [some (Rf 52), some (I x1), some (I x2), some (I x3)] [(I s0)] (hp iv) = bck 0 1 s0 (some (some (I s0), hp iv)) :=
  R_ireturnZ mc_153 dX7_hasBack_48 rfl
theorem B_X7_putBack_0 (sc : Nat × (Nat → Int)) (iv : Nat → Nat → Int) (x1 : Int) (x2 : Int) (x3 : Int) (x4 : Int) : Run sc 154 0 [some (Rf 52), some (I x1), some (I x2), some (I x3), some (I x4), none] [] (hp iv) = aBind (Run sc 153 0 [some (Rf 52), some (I x1), some (I x2), some (I x3)] [] (hp iv)) (fun v h2 => Run sc 154 7 [some (Rf 52), some (I x1), some (I x2), some (I x3), some (I x4), none] (pushR v []) h2) :=
  (R_aload_n mc_154 dX7_putBack_0 rfl).trans <|
  (R_iload_n mc_154 dX7_putBack_1 rfl).trans <|
  (R_iload_n mc_154 dX7_putBack_2 rfl).trans <|
  (R_iload_n mc_154 dX7_putBack_3 rfl).trans <|
  R_invV mc_154 dX7_putBack_4 mo_154 ct_7_192 af_154_153 rfl rfl rfl ⟨Nat.le_of_ble_eq_true rfl, Nat.le_of_ble_eq_true rfl⟩
theorem B_X7_putBack_7 (sc : Nat × (Nat → Int)) (iv : Nat → Nat → Int) (x1 : Int) (x2 : Int) (x3 : Int) (x4 : Int) (d5 : Option AV) (s0 : Int) : Run sc 154 7 [some (Rf 52), some (I x1), some (I x2), some (I x3), some (I x4), d5] [(I s0)] (hp iv) = if s0 = x4 then Run sc 154 16 [some (Rf 52), some (I x1), some (I x2), some (I x3), some (I x4), d5] [] (hp iv) else Run sc 154 17 [some (Rf 52), some (I x1), some (I x2), some (I x3), some (I x4), d5] [(I 1)] (hp iv) :=
  (R_iload mc_154 dX7_putBack_7 rfl).trans <|
  (R_icmp_eq mc_154 dX7_putBack_9 (t := 16) rfl).trans <| ite_c2
  (rfl)
  ((R_iconst mc_154 dX7_putBack_12 ⟨by decide, by decide⟩).trans <|
  R_goto mc_154 dX7_putBack_13 (t := 17) rfl)
theorem B_X7_putBack_16 (sc : Nat × (Nat → Int)) (iv : Nat → Nat → Int) (x1 : Int) (x2 : Int) (x3 : Int) (x4 : Int) (d5 : Option AV) : Run sc 154 16 [some (Rf 52), some (I x1), some (I x2), some (I x3), some (I x4), d5] [] (hp iv) = Run sc 154 17 [some (Rf 52), some (I x1), some (I x2), some (I x3), some (I x4), d5] [(I 0)] (hp iv) :=
  R_iconst mc_154 dX7_putBack_16 ⟨by decide, by decide⟩
theorem B_X7_putBack_17 (sc : Nat × (Nat → Int)) (iv : Nat → Nat → Int) (x1 : Int) (x2 : Int) (x3 : Int) (x4 : Int) (d5 : Option AV) (s0 : Int) : Run sc 154 17 [some (Rf 52), some (I x1), some (I x2), some (I x3), some (I x4), d5] [(I s0)] (hp iv) = if x3 = 0 then Run sc 154 38 [some (Rf 52), some (I x1), some (I x2), some (I x3), some (I x4), some (I s0)] [] (hp iv) else aBind (Run sc 152 0 [some (I x1), some (I x2)] [] (hp iv)) (fun v h2 => Run sc 154 32 [some (Rf 52), some (I x1), some (I x2), some (I x3), some (I x4), some (I s0)] (pushR v [(Rf 56)]) h2) :=
  (R_istore mc_154 dX7_putBack_17 (Nat.le_of_ble_eq_true rfl)).trans <|
  (R_iload_n mc_154 dX7_putBack_19 rfl).trans <|
  (R_if_eq mc_154 dX7_putBack_20 (t := 38) rfl).trans <| ite_c2
  (rfl)
  ((R_aload_n mc_154 dX7_putBack_23 rfl).trans <|
  (R_getR mc_154 dX7_putBack_24 mo_154 ft_7_36 rfl rfl (r := 56) rfl (by decide)).trans <|
  (R_iload_n mc_154 dX7_putBack_27 rfl).trans <|
  (R_iload_n mc_154 dX7_putBack_28 rfl).trans <|
  R_invS mc_154 dX7_putBack_29 mo_154 ct_7_189 (Or.inl rfl) af_154_152 (Nat.le_of_ble_eq_true rfl) rfl rfl ⟨Nat.le_of_ble_eq_true rfl, Nat.le_of_ble_eq_true rfl⟩)
theorem B_X7_putBack_32 (sc : Nat × (Nat → Int)) (iv : Nat → Nat → Int) (x1 : Int) (x2 : Int) (x3 : Int) (x4 : Int) (x5 : Int) (s0 : Int) : Run sc 154 32 [some (Rf 52), some (I x1), some (I x2), some (I x3), some (I x4), some (I x5)] [(I s0), (Rf 56)] (hp iv) = bck 0 (((625 : Nat) : Int) - 1) s0 (bck 0 1 x4 (Run sc 154 35 [some (Rf 52), some (I x1), some (I x2), some (I x3), some (I x4), some (I x5)] [] (hp (setO iv 56 (upI (iv 56) (Int.toNat s0) x4))))) :=
  (R_iload mc_154 dX7_putBack_32 rfl).trans <|
  (R_bastore mc_154 dX7_putBack_34 rfl).trans <| bck_congr <| bck_congr <|
  rfl
theorem B_X7_putBack_35 (sc : Nat × (Nat → Int)) (iv : Nat → Nat → Int) (x1 : Int) (x2 : Int) (x3 : Int) (x4 : Int) (x5 : Int) : Run sc 154 35 [some (Rf 52), some (I x1), some (I x2), some (I x3), some (I x4), some (I x5)] [] (hp iv) = Run sc 154 50 [some (Rf 52), some (I x1), some (I x2), some (I x3), some (I x4), some (I x5)] [] (hp iv) :=
  R_goto mc_154 dX7_putBack_35 (t := 50) rfl
theorem B_X7_putBack_38 (sc : Nat × (Nat → Int)) (iv : Nat → Nat → Int) (x1 : Int) (x2 : Int) (x3 : Int) (x4 : Int) (x5 : Int) : Run sc 154 38 [some (Rf 52), some (I x1), some (I x2), some (I x3), some (I x4), some (I x5)] [] (hp iv) = aBind (Run sc 152 0 [some (I x1), some (I x2)] [] (hp iv)) (fun v h2 => Run sc 154 47 [some (Rf 52), some (I x1), some (I x2), some (I x3), some (I x4), some (I x5)] (pushR v [(Rf 55)]) h2) :=
  (R_aload_n mc_154 dX7_putBack_38 rfl).trans <|
  (R_getR mc_154 dX7_putBack_39 mo_154 ft_7_32 rfl rfl (r := 55) rfl (by decide)).trans <|
  (R_iload_n mc_154 dX7_putBack_42 rfl).trans <|
  (R_iload_n mc_154 dX7_putBack_43 rfl).trans <|
  R_invS mc_154 dX7_putBack_44 mo_154 ct_7_189 (Or.inl rfl) af_154_152 (Nat.le_of_ble_eq_true rfl) rfl rfl ⟨Nat.le_of_ble_eq_true rfl, Nat.le_of_ble_eq_true rfl⟩
theorem B_X7_putBack_47 (sc : Nat × (Nat → Int)) (iv : Nat → Nat → Int) (x1 : Int) (x2 : Int) (x3 : Int) (x4 : Int) (x5 : Int) (s0 : Int) : Run sc 154 47 [some (Rf 52), some (I x1), some (I x2), some (I x3), some (I x4), some (I x5)] [(I s0), (Rf 55)] (hp iv) = bck 0 (((625 : Nat) : Int) - 1) s0 (bck 0 1 x4 (Run sc 154 50 [some (Rf 52), some (I x1), some (I x2), some (I x3), some (I x4), some (I x5)] [] (hp (setO iv 55 (upI (iv 55) (Int.toNat s0) x4))))) :=
  (R_iload mc_154 dX7_putBack_47 rfl).trans <|
  (R_bastore mc_154 dX7_putBack_49 rfl).trans <| bck_congr <| bck_congr <|
  rfl
theorem B_X7_putBack_50 (sc : Nat × (Nat → Int)) (iv : Nat → Nat → Int) (x1 : Int) (x2 : Int) (x3 : Int) (x4 : Int) (x5 : Int) : Run sc 154 50 [some (Rf 52), some (I x1), some (I x2), some (I x3), some (I x4), some (I x5)] [] (hp iv) = some (some (I x5), hp iv) :=
  (R_iload mc_154 dX7_putBack_50 rfl).trans <|
  R_ireturn mc_154 dX7_putBack_52 rfl
theorem B_X7_setBack_0 (sc : Nat × (Nat → Int)) (iv : Nat → Nat → Int) (x1 : Int) (x2 : Int) (x3 : Int) (x4 : Int) : Run sc 155 0 [some (Rf 52), some (I x1), some (I x2), some (I x3), some (I x4)] [] (hp iv) = aBind (Run sc 151 0 [some (Rf 52), some (I x1), some (I x2), some (I x3)] [] (hp iv)) (fun v h2 => Run sc 155 7 [some (Rf 52), some (I x1), some (I x2), some (I x3), some (I x4)] (pushR v []) h2) :=
  (R_aload_n mc_155 dX7_setBack_0 rfl).trans <|
  (R_iload_n mc_155 dX7_setBack_1 rfl).trans <|
  (R_iload_n mc_155 dX7_setBack_2 rfl).trans <|
  (R_iload_n mc_155 dX7_setBack_3 rfl).trans <|
  R_invV mc_155 dX7_setBack_4 mo_155 ct_7_185 af_155_151 rfl rfl rfl ⟨Nat.le_of_ble_eq_true rfl, Nat.le_of_ble_eq_true rfl⟩
theorem B_X7_setBack_7 (sc : Nat × (Nat → Int)) (iv : Nat → Nat → Int) (x1 : Int) (x2 : Int) (x3 : Int) (x4 : Int) (s0 : Int) : Run sc 155 7 [some (Rf 52), some (I x1), some (I x2), some (I x3), some (I x4)] [(I s0)] (hp iv) = if s0 = 0 then Run sc 155 14 [some (Rf 52), some (I x1), some (I x2), some (I x3), some (I x4)] [] (hp iv) else Run sc 155 23 [some (Rf 52), some (I x1), some (I x2), some (I x3), some (I x4)] [(I (-1))] (hp iv) :=
  (R_if_eq mc_155 dX7_setBack_7 (t := 14) rfl).trans <| ite_c2
  (rfl)
  ((R_iconst mc_155 dX7_setBack_10 ⟨by decide, by decide⟩).trans <|
  R_goto mc_155 dX7_setBack_11 (t := 23) rfl)
theorem B_X7_setBack_14 (sc : Nat × (Nat → Int)) (iv : Nat → Nat → Int) (x1 : Int) (x2 : Int) (x3 : Int) (x4 : Int) : Run sc 155 14 [some (Rf 52), some (I x1), some (I x2), some (I x3), some (I x4)] [] (hp iv) = aBind (Run sc 154 0 [some (Rf 52), some (I x1), some (I x2), some (I x3), some (I x4), none] [] (hp iv)) (fun v h2 => Run sc 155 23 [some (Rf 52), some (I x1), some (I x2), some (I x3), some (I x4)] (pushR v []) h2) :=
  (R_aload_n mc_155 dX7_setBack_14 rfl).trans <|
  (R_iload_n mc_155 dX7_setBack_15 rfl).trans <|
  (R_iload_n mc_155 dX7_setBack_16 rfl).trans <|
  (R_iload_n mc_155 dX7_setBack_17 rfl).trans <|
  (R_iload mc_155 dX7_setBack_18 rfl).trans <|
  R_invV mc_155 dX7_setBack_20 mo_155 ct_7_195 af_155_154 rfl rfl rfl ⟨Nat.le_of_ble_eq_true rfl, Nat.le_of_ble_eq_true rfl⟩
theorem B_X7_setBack_23 (sc : Nat × (Nat → Int)) (iv : Nat → Nat → Int) (x1 : Int) (x2 : Int) (x3 : Int) (x4 : Int) (s0 : Int) : Run sc 155 23 [some (Rf 52), some (I x1), some (I x2), some (I x3), some (I x4)] [(I s0)] (hp iv) = some (some (I s0), hp iv) :=
  R_ireturn mc_155 dX7_setBack_23 rfl
theorem B_X7_back_0 (sc : Nat × (Nat → Int)) (iv : Nat → Nat → Int) (x1 : Int) (x2 : Int) (x3 : Int) : Run sc 156 0 [some (Rf 52), some (I x1), some (I x2), some (I x3)] [] (hp iv) = aBind (Run sc 151 0 [some (Rf 52), some (I x1), some (I x2), some (I x3)] [] (hp iv)) (fun v h2 => Run sc 156 7 [some (Rf 52), some (I x1), some (I x2), some (I x3)] (pushR v []) h2) :=
  (R_aload_n mc_156 dX7_back_0 rfl).trans <|
  (R_iload_n mc_156 dX7_back_1 rfl).trans <|
  (R_iload_n mc_156 dX7_back_2 rfl).trans <|
  (R_iload_n mc_156 dX7_back_3 rfl).trans <|
  R_invV mc_156 dX7_back_4 mo_156 ct_7_185 af_156_151 rfl rfl rfl ⟨Nat.le_of_ble_eq_true rfl, Nat.le_of_ble_eq_true rfl⟩
theorem B_X7_back_7 (sc : Nat × (Nat → Int)) (iv : Nat → Nat → Int) (x1 : Int) (x2 : Int) (x3 : Int) (s0 : Int) : Run sc 156 7 [some (Rf 52), some (I x1), some (I x2), some (I x3)] [(I s0)] (hp iv) = if s0 = 0 then Run sc 156 12 [some (Rf 52), some (I x1), some (I x2), some (I x3)] [] (hp iv) else some (some (I (-1)), hp iv) :=
  (R_if_eq mc_156 dX7_back_7 (t := 12) rfl).trans <| ite_c2
  (rfl)
  ((R_iconst mc_156 dX7_back_10 ⟨by decide, by decide⟩).trans <|
  R_ireturn mc_156 dX7_back_11 rfl)
theorem B_X7_back_12 (sc : Nat × (Nat → Int)) (iv : Nat → Nat → Int) (x1 : Int) (x2 : Int) (x3 : Int) : Run sc 156 12 [some (Rf 52), some (I x1), some (I x2), some (I x3)] [] (hp iv) = aBind (Run sc 153 0 [some (Rf 52), some (I x1), some (I x2), some (I x3)] [] (hp iv)) (fun v h2 => Run sc 156 19 [some (Rf 52), some (I x1), some (I x2), some (I x3)] (pushR v []) h2) :=
  (R_aload_n mc_156 dX7_back_12 rfl).trans <|
  (R_iload_n mc_156 dX7_back_13 rfl).trans <|
  (R_iload_n mc_156 dX7_back_14 rfl).trans <|
  (R_iload_n mc_156 dX7_back_15 rfl).trans <|
  R_invV mc_156 dX7_back_16 mo_156 ct_7_192 af_156_153 rfl rfl rfl ⟨Nat.le_of_ble_eq_true rfl, Nat.le_of_ble_eq_true rfl⟩
theorem B_X7_back_19 (sc : Nat × (Nat → Int)) (iv : Nat → Nat → Int) (x1 : Int) (x2 : Int) (x3 : Int) (s0 : Int) : Run sc 156 19 [some (Rf 52), some (I x1), some (I x2), some (I x3)] [(I s0)] (hp iv) = if s0 = 0 then Run sc 156 26 [some (Rf 52), some (I x1), some (I x2), some (I x3)] [] (hp iv) else Run sc 156 27 [some (Rf 52), some (I x1), some (I x2), some (I x3)] [(I 1)] (hp iv) :=
  (R_if_eq mc_156 dX7_back_19 (t := 26) rfl).trans <| ite_c2
  (rfl)
  ((R_iconst mc_156 dX7_back_22 ⟨by decide, by decide⟩).trans <|
  R_goto mc_156 dX7_back_23 (t := 27) rfl)
theorem B_X7_back_26 (sc : Nat × (Nat → Int)) (iv : Nat → Nat → Int) (x1 : Int) (x2 : Int) (x3 : Int) : Run sc 156 26 [some (Rf 52), some (I x1), some (I x2), some (I x3)] [] (hp iv) = Run sc 156 27 [some (Rf 52), some (I x1), some (I x2), some (I x3)] [(I 0)] (hp iv) :=
  R_iconst mc_156 dX7_back_26 ⟨by decide, by decide⟩
theorem B_X7_back_27 (sc : Nat × (Nat → Int)) (iv : Nat → Nat → Int) (x1 : Int) (x2 : Int) (x3 : Int) (s0 : Int) : Run sc 156 27 [some (Rf 52), some (I x1), some (I x2), some (I x3)] [(I s0)] (hp iv) = some (some (I s0), hp iv) :=
  R_ireturn mc_156 dX7_back_27 rfl
theorem B_X7_outline_0 (sc : Nat × (Nat → Int)) (iv : Nat → Nat → Int) (x1 : Int) : Run sc 157 0 [some (Rf 52), some (I x1), none, none, none, none] [] (hp iv) = aBind (Run sc 129 0 [some (I x1)] [] (hp iv)) (fun v h2 => Run sc 157 4 [some (Rf 52), some (I x1), none, none, none, none] (pushR v []) h2) :=
  (R_iload_n mc_157 dX7_outline_0 rfl).trans <|
  R_invS mc_157 dX7_outline_1 mo_157 ct_7_161 (Or.inl rfl) af_157_129 (Nat.le_of_ble_eq_true rfl) rfl rfl ⟨Nat.le_of_ble_eq_true rfl, Nat.le_of_ble_eq_true rfl⟩
theorem B_X7_outline_4 (sc : Nat × (Nat → Int)) (iv : Nat → Nat → Int) (x1 : Int) (d2 : Option AV) (d3 : Option AV) (d4 : Option AV) (d5 : Option AV) (s0 : Int) : Run sc 157 4 [some (Rf 52), some (I x1), d2, d3, d4, d5] [(I s0)] (hp iv) = if s0 = 0 then some (some (I (-2)), hp iv) else Run sc 157 10 [some (Rf 52), some (I x1), d2, d3, d4, d5] [] (hp iv) :=
  (R_if_ne mc_157 dX7_outline_4 (t := 10) rfl).trans <| ite_c2
  ((R_bipush mc_157 dX7_outline_7 ⟨by decide, by decide⟩).trans <|
  R_ireturn mc_157 dX7_outline_9 rfl)
  (rfl)
theorem B_X7_outline_10 (sc : Nat × (Nat → Int)) (iv : Nat → Nat → Int) (x1 : Int) (d2 : Option AV) (d3 : Option AV) (d4 : Option AV) (d5 : Option AV) : Run sc 157 10 [some (Rf 52), some (I x1), d2, d3, d4, d5] [] (hp iv) = Run sc 157 14 [some (Rf 52), some (I x1), some (I 0), some (I 0), d4, d5] [] (hp iv) :=
  (R_iconst mc_157 dX7_outline_10 ⟨by decide, by decide⟩).trans <|
  (R_istore_n mc_157 dX7_outline_11 (Nat.le_of_ble_eq_true rfl)).trans <|
  (R_iconst mc_157 dX7_outline_12 ⟨by decide, by decide⟩).trans <|
  R_istore_n mc_157 dX7_outline_13 (Nat.le_of_ble_eq_true rfl)
theorem B_X7_outline_14 (sc : Nat × (Nat → Int)) (iv : Nat → Nat → Int) (x1 : Int) (x2 : Int) (x3 : Int) (d4 : Option AV) (d5 : Option AV) : Run sc 157 14 [some (Rf 52), some (I x1), some (I x2), some (I x3), d4, d5] [] (hp iv) = if (iv 52 0) < x3 then Run sc 157 151 [some (Rf 52), some (I x1), some (I x2), some (I x3), d4, d5] [] (hp iv) else Run sc 157 25 [some (Rf 52), some (I x1), some (I x2), some (I x3), some (I 0), d5] [] (hp iv) :=
  (R_iload_n mc_157 dX7_outline_14 rfl).trans <|
  (R_aload_n mc_157 dX7_outline_15 rfl).trans <|
  (R_getI mc_157 dX7_outline_16 mo_157 ft_7_71 rfl rfl).trans <|
  (R_icmp_gt mc_157 dX7_outline_19 (t := 151) rfl).trans <| ite_c2
  (rfl)
  ((R_iconst mc_157 dX7_outline_22 ⟨by decide, by decide⟩).trans <|
  R_istore mc_157 dX7_outline_23 (Nat.le_of_ble_eq_true rfl))
theorem B_X7_outline_25 (sc : Nat × (Nat → Int)) (iv : Nat → Nat → Int) (x1 : Int) (x2 : Int) (x3 : Int) (x4 : Int) (d5 : Option AV) : Run sc 157 25 [some (Rf 52), some (I x1), some (I x2), some (I x3), some (I x4), d5] [] (hp iv) = if (iv 52 1) < x4 then Run sc 157 145 [some (Rf 52), some (I x1), some (I x2), some (I x3), some (I x4), d5] [] (hp iv) else aBind (Run sc 113 0 [some (Rf 52), some (I x3), some (I x4)] [] (hp iv)) (fun v h2 => Run sc 157 41 [some (Rf 52), some (I x1), some (I x2), some (I x3), some (I x4), d5] (pushR v []) h2) :=
  (R_iload mc_157 dX7_outline_25 rfl).trans <|
  (R_aload_n mc_157 dX7_outline_27 rfl).trans <|
  (R_getI mc_157 dX7_outline_28 mo_157 ft_7_74 rfl rfl).trans <|
  (R_icmp_gt mc_157 dX7_outline_31 (t := 145) rfl).trans <| ite_c2
  (rfl)
  ((R_aload_n mc_157 dX7_outline_34 rfl).trans <|
  (R_iload_n mc_157 dX7_outline_35 rfl).trans <|
  (R_iload mc_157 dX7_outline_36 rfl).trans <|
  R_invV mc_157 dX7_outline_38 mo_157 ct_7_89 af_157_113 rfl rfl rfl ⟨Nat.le_of_ble_eq_true rfl, Nat.le_of_ble_eq_true rfl⟩)
theorem B_X7_outline_41 (sc : Nat × (Nat → Int)) (iv : Nat → Nat → Int) (x1 : Int) (x2 : Int) (x3 : Int) (x4 : Int) (d5 : Option AV) (s0 : Int) : Run sc 157 41 [some (Rf 52), some (I x1), some (I x2), some (I x3), some (I x4), d5] [(I s0)] (hp iv) = if s0 = x1 then Run sc 157 50 [some (Rf 52), some (I x1), some (I x2), some (I x3), some (I x4), d5] [(I 1)] (hp iv) else Run sc 157 49 [some (Rf 52), some (I x1), some (I x2), some (I x3), some (I x4), d5] [] (hp iv) :=
  (R_iload_n mc_157 dX7_outline_41 rfl).trans <|
  (R_icmp_ne mc_157 dX7_outline_42 (t := 49) rfl).trans <| ite_c2
  ((R_iconst mc_157 dX7_outline_45 ⟨by decide, by decide⟩).trans <|
  R_goto mc_157 dX7_outline_46 (t := 50) rfl)
  (rfl)
theorem B_X7_outline_49 (sc : Nat × (Nat → Int)) (iv : Nat → Nat → Int) (x1 : Int) (x2 : Int) (x3 : Int) (x4 : Int) (d5 : Option AV) : Run sc 157 49 [some (Rf 52), some (I x1), some (I x2), some (I x3), some (I x4), d5] [] (hp iv) = Run sc 157 50 [some (Rf 52), some (I x1), some (I x2), some (I x3), some (I x4), d5] [(I 0)] (hp iv) :=
  R_iconst mc_157 dX7_outline_49 ⟨by decide, by decide⟩
theorem B_X7_outline_50 (sc : Nat × (Nat → Int)) (iv : Nat → Nat → Int) (x1 : Int) (x2 : Int) (x3 : Int) (x4 : Int) (d5 : Option AV) (s0 : Int) : Run sc 157 50 [some (Rf 52), some (I x1), some (I x2), some (I x3), some (I x4), d5] [(I s0)] (hp iv) = if x4 < (iv 52 1) then chk (x3 - 1) (aBind (Run sc 113 0 [some (Rf 52), some (I (x3 - 1)), some (I x4)] [] (hp iv)) (fun v h2 => Run sc 157 72 [some (Rf 52), some (I x1), some (I x2), some (I x3), some (I x4), some (I s0)] (pushR v [(I s0)]) h2)) else Run sc 157 96 [some (Rf 52), some (I x1), some (I x2), some (I x3), some (I x4), some (I s0)] [] (hp iv) :=
  (R_istore mc_157 dX7_outline_50 (Nat.le_of_ble_eq_true rfl)).trans <|
  (R_iload mc_157 dX7_outline_52 rfl).trans <|
  (R_aload_n mc_157 dX7_outline_54 rfl).trans <|
  (R_getI mc_157 dX7_outline_55 mo_157 ft_7_74 rfl rfl).trans <|
  (R_icmp_ge mc_157 dX7_outline_58 (t := 96) rfl).trans <| ite_c2
  ((R_iload mc_157 dX7_outline_61 rfl).trans <|
  (R_aload_n mc_157 dX7_outline_63 rfl).trans <|
  (R_iload_n mc_157 dX7_outline_64 rfl).trans <|
  (R_iconst mc_157 dX7_outline_65 ⟨by decide, by decide⟩).trans <|
  (R_isub mc_157 dX7_outline_66).trans <| chk_congr <|
  (R_iload mc_157 dX7_outline_67 rfl).trans <|
  R_invV mc_157 dX7_outline_69 mo_157 ct_7_89 af_157_113 rfl rfl rfl ⟨Nat.le_of_ble_eq_true rfl, Nat.le_of_ble_eq_true rfl⟩)
  (rfl)
theorem B_X7_outline_72 (sc : Nat × (Nat → Int)) (iv : Nat → Nat → Int) (x1 : Int) (x2 : Int) (x3 : Int) (x4 : Int) (x5 : Int) (s0 : Int) (s1 : Int) : Run sc 157 72 [some (Rf 52), some (I x1), some (I x2), some (I x3), some (I x4), some (I x5)] [(I s0), (I s1)] (hp iv) = if s0 = x1 then Run sc 157 81 [some (Rf 52), some (I x1), some (I x2), some (I x3), some (I x4), some (I x5)] [(I 1), (I s1)] (hp iv) else Run sc 157 80 [some (Rf 52), some (I x1), some (I x2), some (I x3), some (I x4), some (I x5)] [(I s1)] (hp iv) :=
  (R_iload_n mc_157 dX7_outline_72 rfl).trans <|
  (R_icmp_ne mc_157 dX7_outline_73 (t := 80) rfl).trans <| ite_c2
  ((R_iconst mc_157 dX7_outline_76 ⟨by decide, by decide⟩).trans <|
  R_goto mc_157 dX7_outline_77 (t := 81) rfl)
  (rfl)
theorem B_X7_outline_80 (sc : Nat × (Nat → Int)) (iv : Nat → Nat → Int) (x1 : Int) (x2 : Int) (x3 : Int) (x4 : Int) (x5 : Int) (s0 : Int) : Run sc 157 80 [some (Rf 52), some (I x1), some (I x2), some (I x3), some (I x4), some (I x5)] [(I s0)] (hp iv) = Run sc 157 81 [some (Rf 52), some (I x1), some (I x2), some (I x3), some (I x4), some (I x5)] [(I 0), (I s0)] (hp iv) :=
  R_iconst mc_157 dX7_outline_80 ⟨by decide, by decide⟩
theorem B_X7_outline_81 (sc : Nat × (Nat → Int)) (iv : Nat → Nat → Int) (x1 : Int) (x2 : Int) (x3 : Int) (x4 : Int) (x5 : Int) (s0 : Int) (s1 : Int) : Run sc 157 81 [some (Rf 52), some (I x1), some (I x2), some (I x3), some (I x4), some (I x5)] [(I s0), (I s1)] (hp iv) = if s1 = s0 then Run sc 157 96 [some (Rf 52), some (I x1), some (I x2), some (I x3), some (I x4), some (I x5)] [] (hp iv) else aBind (Run sc 154 0 [some (Rf 52), some (I x3), some (I x4), some (I 1), some (I 1), none] [] (hp iv)) (fun v h2 => Run sc 157 94 [some (Rf 52), some (I x1), some (I x2), some (I x3), some (I x4), some (I x5)] (pushR v [(I x2)]) h2) :=
  (R_icmp_eq mc_157 dX7_outline_81 (t := 96) rfl).trans <| ite_c2
  (rfl)
  ((R_iload_n mc_157 dX7_outline_84 rfl).trans <|
  (R_aload_n mc_157 dX7_outline_85 rfl).trans <|
  (R_iload_n mc_157 dX7_outline_86 rfl).trans <|
  (R_iload mc_157 dX7_outline_87 rfl).trans <|
  (R_iconst mc_157 dX7_outline_89 ⟨by decide, by decide⟩).trans <|
  (R_iconst mc_157 dX7_outline_90 ⟨by decide, by decide⟩).trans <|
  R_invV mc_157 dX7_outline_91 mo_157 ct_7_195 af_157_154 rfl rfl rfl ⟨Nat.le_of_ble_eq_true rfl, Nat.le_of_ble_eq_true rfl⟩)
theorem B_X7_outline_94 (sc : Nat × (Nat → Int)) (iv : Nat → Nat → Int) (x1 : Int) (x2 : Int) (x3 : Int) (x4 : Int) (x5 : Int) (s0 : Int) (s1 : Int) : Run sc 157 94 [some (Rf 52), some (I x1), some (I x2), some (I x3), some (I x4), some (I x5)] [(I s0), (I s1)] (hp iv) = chk (s1 + s0) (Run sc 157 96 [some (Rf 52), some (I x1), some (I (s1 + s0)), some (I x3), some (I x4), some (I x5)] [] (hp iv)) :=
  (R_iadd mc_157 dX7_outline_94).trans <| chk_congr <|
  R_istore_n mc_157 dX7_outline_95 (Nat.le_of_ble_eq_true rfl)
theorem B_X7_outline_96 (sc : Nat × (Nat → Int)) (iv : Nat → Nat → Int) (x1 : Int) (x2 : Int) (x3 : Int) (x4 : Int) (x5 : Int) : Run sc 157 96 [some (Rf 52), some (I x1), some (I x2), some (I x3), some (I x4), some (I x5)] [] (hp iv) = if x3 < (iv 52 0) then chk (x4 - 1) (aBind (Run sc 113 0 [some (Rf 52), some (I x3), some (I (x4 - 1))] [] (hp iv)) (fun v h2 => Run sc 157 115 [some (Rf 52), some (I x1), some (I x2), some (I x3), some (I x4), some (I x5)] (pushR v [(I x5)]) h2)) else Run sc 157 139 [some (Rf 52), some (I x1), some (I x2), some (I x3), some (I x4), some (I x5)] [] (hp iv) :=
  (R_iload_n mc_157 dX7_outline_96 rfl).trans <|
  (R_aload_n mc_157 dX7_outline_97 rfl).trans <|
  (R_getI mc_157 dX7_outline_98 mo_157 ft_7_71 rfl rfl).trans <|
  (R_icmp_ge mc_157 dX7_outline_101 (t := 139) rfl).trans <| ite_c2
  ((R_iload mc_157 dX7_outline_104 rfl).trans <|
  (R_aload_n mc_157 dX7_outline_106 rfl).trans <|
  (R_iload_n mc_157 dX7_outline_107 rfl).trans <|
  (R_iload mc_157 dX7_outline_108 rfl).trans <|
  (R_iconst mc_157 dX7_outline_110 ⟨by decide, by decide⟩).trans <|
  (R_isub mc_157 dX7_outline_111).trans <| chk_congr <|
  R_invV mc_157 dX7_outline_112 mo_157 ct_7_89 af_157_113 rfl rfl rfl ⟨Nat.le_of_ble_eq_true rfl, Nat.le_of_ble_eq_true rfl⟩)
  (rfl)
theorem B_X7_outline_115 (sc : Nat × (Nat → Int)) (iv : Nat → Nat → Int) (x1 : Int) (x2 : Int) (x3 : Int) (x4 : Int) (x5 : Int) (s0 : Int) (s1 : Int) : Run sc 157 115 [some (Rf 52), some (I x1), some (I x2), some (I x3), some (I x4), some (I x5)] [(I s0), (I s1)] (hp iv) = if s0 = x1 then Run sc 157 124 [some (Rf 52), some (I x1), some (I x2), some (I x3), some (I x4), some (I x5)] [(I 1), (I s1)] (hp iv) else Run sc 157 123 [some (Rf 52), some (I x1), some (I x2), some (I x3), some (I x4), some (I x5)] [(I s1)] (hp iv) :=
  (R_iload_n mc_157 dX7_outline_115 rfl).trans <|
  (R_icmp_ne mc_157 dX7_outline_116 (t := 123) rfl).trans <| ite_c2
  ((R_iconst mc_157 dX7_outline_119 ⟨by decide, by decide⟩).trans <|
  R_goto mc_157 dX7_outline_120 (t := 124) rfl)
  (rfl)
theorem B_X7_outline_123 (sc : Nat × (Nat → Int)) (iv : Nat → Nat → Int) (x1 : Int) (x2 : Int) (x3 : Int) (x4 : Int) (x5 : Int) (s0 : Int) : Run sc 157 123 [some (Rf 52), some (I x1), some (I x2), some (I x3), some (I x4), some (I x5)] [(I s0)] (hp iv) = Run sc 157 124 [some (Rf 52), some (I x1), some (I x2), some (I x3), some (I x4), some (I x5)] [(I 0), (I s0)] (hp iv) :=
  R_iconst mc_157 dX7_outline_123 ⟨by decide, by decide⟩
theorem B_X7_outline_124 (sc : Nat × (Nat → Int)) (iv : Nat → Nat → Int) (x1 : Int) (x2 : Int) (x3 : Int) (x4 : Int) (x5 : Int) (s0 : Int) (s1 : Int) : Run sc 157 124 [some (Rf 52), some (I x1), some (I x2), some (I x3), some (I x4), some (I x5)] [(I s0), (I s1)] (hp iv) = if s1 = s0 then Run sc 157 139 [some (Rf 52), some (I x1), some (I x2), some (I x3), some (I x4), some (I x5)] [] (hp iv) else aBind (Run sc 154 0 [some (Rf 52), some (I x3), some (I x4), some (I 0), some (I 1), none] [] (hp iv)) (fun v h2 => Run sc 157 137 [some (Rf 52), some (I x1), some (I x2), some (I x3), some (I x4), some (I x5)] (pushR v [(I x2)]) h2) :=
  (R_icmp_eq mc_157 dX7_outline_124 (t := 139) rfl).trans <| ite_c2
  (rfl)
  ((R_iload_n mc_157 dX7_outline_127 rfl).trans <|
  (R_aload_n mc_157 dX7_outline_128 rfl).trans <|
  (R_iload_n mc_157 dX7_outline_129 rfl).trans <|
  (R_iload mc_157 dX7_outline_130 rfl).trans <|
  (R_iconst mc_157 dX7_outline_132 ⟨by decide, by decide⟩).trans <|
  (R_iconst mc_157 dX7_outline_133 ⟨by decide, by decide⟩).trans <|
  R_invV mc_157 dX7_outline_134 mo_157 ct_7_195 af_157_154 rfl rfl rfl ⟨Nat.le_of_ble_eq_true rfl, Nat.le_of_ble_eq_true rfl⟩)
theorem B_X7_outline_137 (sc : Nat × (Nat → Int)) (iv : Nat → Nat → Int) (x1 : Int) (x2 : Int) (x3 : Int) (x4 : Int) (x5 : Int) (s0 : Int) (s1 : Int) : Run sc 157 137 [some (Rf 52), some (I x1), some (I x2), some (I x3), some (I x4), some (I x5)] [(I s0), (I s1)] (hp iv) = chk (s1 + s0) (Run sc 157 139 [some (Rf 52), some (I x1), some (I (s1 + s0)), some (I x3), some (I x4), some (I x5)] [] (hp iv)) :=
  (R_iadd mc_157 dX7_outline_137).trans <| chk_congr <|
  R_istore_n mc_157 dX7_outline_138 (Nat.le_of_ble_eq_true rfl)
theorem B_X7_outline_139 (sc : Nat × (Nat → Int)) (iv : Nat → Nat → Int) (x1 : Int) (x2 : Int) (x3 : Int) (x4 : Int) (x5 : Int) : Run sc 157 139 [some (Rf 52), some (I x1), some (I x2), some (I x3), some (I x4), some (I x5)] [] (hp iv) = chk (x4 + 1) (Run sc 157 25 [some (Rf 52), some (I x1), some (I x2), some (I x3), some (I (x4 + 1)), some (I x5)] [] (hp iv)) :=
  (R_iinc mc_157 dX7_outline_139 rfl).trans <| chk_congr <|
  R_goto mc_157 dX7_outline_142 (t := 25) rfl
theorem B_X7_outline_145 (sc : Nat × (Nat → Int)) (iv : Nat → Nat → Int) (x1 : Int) (x2 : Int) (x3 : Int) (x4 : Int) (d5 : Option AV) : Run sc 157 145 [some (Rf 52), some (I x1), some (I x2), some (I x3), some (I x4), d5] [] (hp iv) = chk (x3 + 1) (Run sc 157 14 [some (Rf 52), some (I x1), some (I x2), some (I (x3 + 1)), some (I x4), d5] [] (hp iv)) :=
  (R_iinc mc_157 dX7_outline_145 rfl).trans <| chk_congr <|
  R_goto mc_157 dX7_outline_148 (t := 14) rfl
theorem B_X7_outline_151 (sc : Nat × (Nat → Int)) (iv : Nat → Nat → Int) (x1 : Int) (x2 : Int) (x3 : Int) (d4 : Option AV) (d5 : Option AV) : Run sc 157 151 [some (Rf 52), some (I x1), some (I x2), some (I x3), d4, d5] [] (hp iv) = some (some (I x2), hp iv) :=
  (R_iload_n mc_157 dX7_outline_151 rfl).trans <|
  R_ireturn mc_157 dX7_outline_152 rfl
theorem B_X7_allBacks_0 (sc : Nat × (Nat → Int)) (iv : Nat → Nat → Int)  : Run sc 158 0 [some (Rf 52), none, none] [] (hp iv) = Run sc 158 4 [some (Rf 52), some (I 0), some (I 0)] [] (hp iv) :=
  (R_iconst mc_158 dX7_allBacks_0 ⟨by decide, by decide⟩).trans <|
  (R_istore_n mc_158 dX7_allBacks_1 (Nat.le_of_ble_eq_true rfl)).trans <|
  (R_iconst mc_158 dX7_allBacks_2 ⟨by decide, by decide⟩).trans <|
  R_istore_n mc_158 dX7_allBacks_3 (Nat.le_of_ble_eq_true rfl)
theorem B_X7_allBacks_4 (sc : Nat × (Nat → Int)) (iv : Nat → Nat → Int) (x1 : Int) (x2 : Int) : Run sc 158 4 [some (Rf 52), some (I x1), some (I x2)] [] (hp iv) = if x2 < 625 then bck 0 (((625 : Nat) : Int) - 1) x2 (if (iv 55 (Int.toNat x2)) = 0 then Run sc 158 25 [some (Rf 52), some (I x1), some (I x2)] [(I x1)] (hp iv) else Run sc 158 26 [some (Rf 52), some (I x1), some (I x2)] [(I 1), (I x1)] (hp iv)) else Run sc 158 49 [some (Rf 52), some (I x1), some (I x2)] [] (hp iv) :=
  (R_iload_n mc_158 dX7_allBacks_4 rfl).trans <|
  (R_sipush mc_158 dX7_allBacks_5 ⟨by decide, by decide⟩).trans <|
  (R_icmp_ge mc_158 dX7_allBacks_8 (t := 49) rfl).trans <| ite_c2
  ((R_iload_n mc_158 dX7_allBacks_11 rfl).trans <|
  (R_aload_n mc_158 dX7_allBacks_12 rfl).trans <|
  (R_getR mc_158 dX7_allBacks_13 mo_158 ft_7_32 rfl rfl (r := 55) rfl (by decide)).trans <|
  (R_iload_n mc_158 dX7_allBacks_16 rfl).trans <|
  (R_baload mc_158 dX7_allBacks_17 rfl).trans <| bck_congr <|
  (R_if_eq mc_158 dX7_allBacks_18 (t := 25) rfl).trans <| ite_c2
  (rfl)
  ((R_iconst mc_158 dX7_allBacks_21 ⟨by decide, by decide⟩).trans <|
  R_goto mc_158 dX7_allBacks_22 (t := 26) rfl))
  (rfl)
theorem B_X7_allBacks_25 (sc : Nat × (Nat → Int)) (iv : Nat → Nat → Int) (x1 : Int) (x2 : Int) (s0 : Int) : Run sc 158 25 [some (Rf 52), some (I x1), some (I x2)] [(I s0)] (hp iv) = Run sc 158 26 [some (Rf 52), some (I x1), some (I x2)] [(I 0), (I s0)] (hp iv) :=
  R_iconst mc_158 dX7_allBacks_25 ⟨by decide, by decide⟩
theorem B_X7_allBacks_26 (sc : Nat × (Nat → Int)) (iv : Nat → Nat → Int) (x1 : Int) (x2 : Int) (s0 : Int) (s1 : Int) : Run sc 158 26 [some (Rf 52), some (I x1), some (I x2)] [(I s0), (I s1)] (hp iv) = bck 0 (((625 : Nat) : Int) - 1) x2 (if (iv 56 (Int.toNat x2)) = 0 then Run sc 158 39 [some (Rf 52), some (I x1), some (I x2)] [(I s0), (I s1)] (hp iv) else Run sc 158 40 [some (Rf 52), some (I x1), some (I x2)] [(I 1), (I s0), (I s1)] (hp iv)) :=
  (R_aload_n mc_158 dX7_allBacks_26 rfl).trans <|
  (R_getR mc_158 dX7_allBacks_27 mo_158 ft_7_36 rfl rfl (r := 56) rfl (by decide)).trans <|
  (R_iload_n mc_158 dX7_allBacks_30 rfl).trans <|
  (R_baload mc_158 dX7_allBacks_31 rfl).trans <| bck_congr <|
  (R_if_eq mc_158 dX7_allBacks_32 (t := 39) rfl).trans <| ite_c2
  (rfl)
  ((R_iconst mc_158 dX7_allBacks_35 ⟨by decide, by decide⟩).trans <|
  R_goto mc_158 dX7_allBacks_36 (t := 40) rfl)
theorem B_X7_allBacks_39 (sc : Nat × (Nat → Int)) (iv : Nat → Nat → Int) (x1 : Int) (x2 : Int) (s0 : Int) (s1 : Int) : Run sc 158 39 [some (Rf 52), some (I x1), some (I x2)] [(I s0), (I s1)] (hp iv) = Run sc 158 40 [some (Rf 52), some (I x1), some (I x2)] [(I 0), (I s0), (I s1)] (hp iv) :=
  R_iconst mc_158 dX7_allBacks_39 ⟨by decide, by decide⟩
theorem B_X7_allBacks_40 (sc : Nat × (Nat → Int)) (iv : Nat → Nat → Int) (x1 : Int) (x2 : Int) (s0 : Int) (s1 : Int) (s2 : Int) : Run sc 158 40 [some (Rf 52), some (I x1), some (I x2)] [(I s0), (I s1), (I s2)] (hp iv) = chk (s1 + s0) (chk (s2 + (s1 + s0)) (chk (x2 + 1) (Run sc 158 4 [some (Rf 52), some (I (s2 + (s1 + s0))), some (I (x2 + 1))] [] (hp iv)))) :=
  (R_iadd mc_158 dX7_allBacks_40).trans <| chk_congr <|
  (R_iadd mc_158 dX7_allBacks_41).trans <| chk_congr <|
  (R_istore_n mc_158 dX7_allBacks_42 (Nat.le_of_ble_eq_true rfl)).trans <|
  (R_iinc mc_158 dX7_allBacks_43 rfl).trans <| chk_congr <|
  R_goto mc_158 dX7_allBacks_46 (t := 4) rfl
theorem B_X7_allBacks_49 (sc : Nat × (Nat → Int)) (iv : Nat → Nat → Int) (x1 : Int) (x2 : Int) : Run sc 158 49 [some (Rf 52), some (I x1), some (I x2)] [] (hp iv) = some (some (I x1), hp iv) :=
  (R_iload_n mc_158 dX7_allBacks_49 rfl).trans <|
  R_ireturn mc_158 dX7_allBacks_50 rfl
theorem B_X7_clearBack_0 (sc : Nat × (Nat → Int)) (iv : Nat → Nat → Int)  : Run sc 159 0 [some (Rf 52), none, none] [] (hp iv) = aBind (Run sc 158 0 [some (Rf 52), none, none] [] (hp iv)) (fun v h2 => Run sc 159 4 [some (Rf 52), none, none] (pushR v []) h2) :=
  (R_aload_n mc_159 dX7_clearBack_0 rfl).trans <|
  R_invV mc_159 dX7_clearBack_1 mo_159 ct_7_199 af_159_158 rfl rfl rfl ⟨Nat.le_of_ble_eq_true rfl, Nat.le_of_ble_eq_true rfl⟩
theorem B_X7_clearBack_4 (sc : Nat × (Nat → Int)) (iv : Nat → Nat → Int) (d1 : Option AV) (d2 : Option AV) (s0 : Int) : Run sc 159 4 [some (Rf 52), d1, d2] [(I s0)] (hp iv) = Run sc 159 7 [some (Rf 52), some (I s0), some (I 0)] [] (hp iv) :=
  (R_istore_n mc_159 dX7_clearBack_4 (Nat.le_of_ble_eq_true rfl)).trans <|
  (R_iconst mc_159 dX7_clearBack_5 ⟨by decide, by decide⟩).trans <|
  R_istore_n mc_159 dX7_clearBack_6 (Nat.le_of_ble_eq_true rfl)
theorem B_X7_clearBack_7 (sc : Nat × (Nat → Int)) (iv : Nat → Nat → Int) (x1 : Int) (x2 : Int) : Run sc 159 7 [some (Rf 52), some (I x1), some (I x2)] [] (hp iv) = if x2 < 625 then bck 0 (((625 : Nat) : Int) - 1) x2 (bck 0 1 0 (Run sc 159 21 [some (Rf 52), some (I x1), some (I x2)] [] (hp (setO iv 55 (upI (iv 55) (Int.toNat x2) 0))))) else Run sc 159 34 [some (Rf 52), some (I x1), some (I x2)] [] (hp iv) :=
  (R_iload_n mc_159 dX7_clearBack_7 rfl).trans <|
  (R_sipush mc_159 dX7_clearBack_8 ⟨by decide, by decide⟩).trans <|
  (R_icmp_ge mc_159 dX7_clearBack_11 (t := 34) rfl).trans <| ite_c2
  ((R_aload_n mc_159 dX7_clearBack_14 rfl).trans <|
  (R_getR mc_159 dX7_clearBack_15 mo_159 ft_7_32 rfl rfl (r := 55) rfl (by decide)).trans <|
  (R_iload_n mc_159 dX7_clearBack_18 rfl).trans <|
  (R_iconst mc_159 dX7_clearBack_19 ⟨by decide, by decide⟩).trans <|
  (R_bastore mc_159 dX7_clearBack_20 rfl).trans <| bck_congr <| bck_congr <|
  rfl)
  (rfl)
theorem B_X7_clearBack_21 (sc : Nat × (Nat → Int)) (iv : Nat → Nat → Int) (x1 : Int) (x2 : Int) : Run sc 159 21 [some (Rf 52), some (I x1), some (I x2)] [] (hp iv) = bck 0 (((625 : Nat) : Int) - 1) x2 (bck 0 1 0 (Run sc 159 28 [some (Rf 52), some (I x1), some (I x2)] [] (hp (setO iv 56 (upI (iv 56) (Int.toNat x2) 0))))) :=
  (R_aload_n mc_159 dX7_clearBack_21 rfl).trans <|
  (R_getR mc_159 dX7_clearBack_22 mo_159 ft_7_36 rfl rfl (r := 56) rfl (by decide)).trans <|
  (R_iload_n mc_159 dX7_clearBack_25 rfl).trans <|
  (R_iconst mc_159 dX7_clearBack_26 ⟨by decide, by decide⟩).trans <|
  (R_bastore mc_159 dX7_clearBack_27 rfl).trans <| bck_congr <| bck_congr <|
  rfl
theorem B_X7_clearBack_28 (sc : Nat × (Nat → Int)) (iv : Nat → Nat → Int) (x1 : Int) (x2 : Int) : Run sc 159 28 [some (Rf 52), some (I x1), some (I x2)] [] (hp iv) = chk (x2 + 1) (Run sc 159 7 [some (Rf 52), some (I x1), some (I (x2 + 1))] [] (hp iv)) :=
  (R_iinc mc_159 dX7_clearBack_28 rfl).trans <| chk_congr <|
  R_goto mc_159 dX7_clearBack_31 (t := 7) rfl
theorem B_X7_clearBack_34 (sc : Nat × (Nat → Int)) (iv : Nat → Nat → Int) (x1 : Int) (x2 : Int) : Run sc 159 34 [some (Rf 52), some (I x1), some (I x2)] [] (hp iv) = some (some (I x1), hp iv) :=
  (R_iload_n mc_159 dX7_clearBack_34 rfl).trans <|
  R_ireturn mc_159 dX7_clearBack_35 rfl
theorem B_X7_backsAt_0 (sc : Nat × (Nat → Int)) (iv : Nat → Nat → Int) (x1 : Int) (x2 : Int) : Run sc 160 0 [some (Rf 52), some (I x1), some (I x2)] [] (hp iv) = aBind (Run sc 153 0 [some (Rf 52), some (I x1), some (I x2), some (I 1)] [] (hp iv)) (fun v h2 => Run sc 160 7 [some (Rf 52), some (I x1), some (I x2)] (pushR v []) h2) :=
  (R_aload_n mc_160 dX7_backsAt_0 rfl).trans <|
  (R_iload_n mc_160 dX7_backsAt_1 rfl).trans <|
  (R_iload_n mc_160 dX7_backsAt_2 rfl).trans <|
  (R_iconst mc_160 dX7_backsAt_3 ⟨by decide, by decide⟩).trans <|
  R_invV mc_160 dX7_backsAt_4 mo_160 ct_7_192 af_160_153 rfl rfl rfl ⟨Nat.le_of_ble_eq_true rfl, Nat.le_of_ble_eq_true rfl⟩
theorem B_X7_backsAt_7 (sc : Nat × (Nat → Int)) (iv : Nat → Nat → Int) (x1 : Int) (x2 : Int) (s0 : Int) : Run sc 160 7 [some (Rf 52), some (I x1), some (I x2)] [(I s0)] (hp iv) = if s0 = 0 then Run sc 160 14 [some (Rf 52), some (I x1), some (I x2)] [] (hp iv) else Run sc 160 15 [some (Rf 52), some (I x1), some (I x2)] [(I 1)] (hp iv) :=
  (R_if_eq mc_160 dX7_backsAt_7 (t := 14) rfl).trans <| ite_c2
  (rfl)
  ((R_iconst mc_160 dX7_backsAt_10 ⟨by decide, by decide⟩).trans <|
  R_goto mc_160 dX7_backsAt_11 (t := 15) rfl)
theorem B_X7_backsAt_14 (sc : Nat × (Nat → Int)) (iv : Nat → Nat → Int) (x1 : Int) (x2 : Int) : Run sc 160 14 [some (Rf 52), some (I x1), some (I x2)] [] (hp iv) = Run sc 160 15 [some (Rf 52), some (I x1), some (I x2)] [(I 0)] (hp iv) :=
  R_iconst mc_160 dX7_backsAt_14 ⟨by decide, by decide⟩
theorem B_X7_backsAt_15 (sc : Nat × (Nat → Int)) (iv : Nat → Nat → Int) (x1 : Int) (x2 : Int) (s0 : Int) : Run sc 160 15 [some (Rf 52), some (I x1), some (I x2)] [(I s0)] (hp iv) = aBind (Run sc 153 0 [some (Rf 52), some (I x1), some (I x2), some (I 0)] [] (hp iv)) (fun v h2 => Run sc 160 22 [some (Rf 52), some (I x1), some (I x2)] (pushR v [(I s0)]) h2) :=
  (R_aload_n mc_160 dX7_backsAt_15 rfl).trans <|
  (R_iload_n mc_160 dX7_backsAt_16 rfl).trans <|
  (R_iload_n mc_160 dX7_backsAt_17 rfl).trans <|
  (R_iconst mc_160 dX7_backsAt_18 ⟨by decide, by decide⟩).trans <|
  R_invV mc_160 dX7_backsAt_19 mo_160 ct_7_192 af_160_153 rfl rfl rfl ⟨Nat.le_of_ble_eq_true rfl, Nat.le_of_ble_eq_true rfl⟩
theorem B_X7_backsAt_22 (sc : Nat × (Nat → Int)) (iv : Nat → Nat → Int) (x1 : Int) (x2 : Int) (s0 : Int) (s1 : Int) : Run sc 160 22 [some (Rf 52), some (I x1), some (I x2)] [(I s0), (I s1)] (hp iv) = if s0 = 0 then Run sc 160 29 [some (Rf 52), some (I x1), some (I x2)] [(I s1)] (hp iv) else Run sc 160 30 [some (Rf 52), some (I x1), some (I x2)] [(I 1), (I s1)] (hp iv) :=
  (R_if_eq mc_160 dX7_backsAt_22 (t := 29) rfl).trans <| ite_c2
  (rfl)
  ((R_iconst mc_160 dX7_backsAt_25 ⟨by decide, by decide⟩).trans <|
  R_goto mc_160 dX7_backsAt_26 (t := 30) rfl)
theorem B_X7_backsAt_29 (sc : Nat × (Nat → Int)) (iv : Nat → Nat → Int) (x1 : Int) (x2 : Int) (s0 : Int) : Run sc 160 29 [some (Rf 52), some (I x1), some (I x2)] [(I s0)] (hp iv) = Run sc 160 30 [some (Rf 52), some (I x1), some (I x2)] [(I 0), (I s0)] (hp iv) :=
  R_iconst mc_160 dX7_backsAt_29 ⟨by decide, by decide⟩
theorem B_X7_backsAt_30 (sc : Nat × (Nat → Int)) (iv : Nat → Nat → Int) (x1 : Int) (x2 : Int) (s0 : Int) (s1 : Int) : Run sc 160 30 [some (Rf 52), some (I x1), some (I x2)] [(I s0), (I s1)] (hp iv) = chk (s1 + s0) (chk (x2 - 1) (aBind (Run sc 153 0 [some (Rf 52), some (I x1), some (I (x2 - 1)), some (I 1)] [] (hp iv)) (fun v h2 => Run sc 160 40 [some (Rf 52), some (I x1), some (I x2)] (pushR v [(I (s1 + s0))]) h2))) :=
  (R_iadd mc_160 dX7_backsAt_30).trans <| chk_congr <|
  (R_aload_n mc_160 dX7_backsAt_31 rfl).trans <|
  (R_iload_n mc_160 dX7_backsAt_32 rfl).trans <|
  (R_iload_n mc_160 dX7_backsAt_33 rfl).trans <|
  (R_iconst mc_160 dX7_backsAt_34 ⟨by decide, by decide⟩).trans <|
  (R_isub mc_160 dX7_backsAt_35).trans <| chk_congr <|
  (R_iconst mc_160 dX7_backsAt_36 ⟨by decide, by decide⟩).trans <|
  R_invV mc_160 dX7_backsAt_37 mo_160 ct_7_192 af_160_153 rfl rfl rfl ⟨Nat.le_of_ble_eq_true rfl, Nat.le_of_ble_eq_true rfl⟩
theorem B_X7_backsAt_40 (sc : Nat × (Nat → Int)) (iv : Nat → Nat → Int) (x1 : Int) (x2 : Int) (s0 : Int) (s1 : Int) : Run sc 160 40 [some (Rf 52), some (I x1), some (I x2)] [(I s0), (I s1)] (hp iv) = if s0 = 0 then Run sc 160 47 [some (Rf 52), some (I x1), some (I x2)] [(I s1)] (hp iv) else Run sc 160 48 [some (Rf 52), some (I x1), some (I x2)] [(I 1), (I s1)] (hp iv) :=
  (R_if_eq mc_160 dX7_backsAt_40 (t := 47) rfl).trans <| ite_c2
  (rfl)
  ((R_iconst mc_160 dX7_backsAt_43 ⟨by decide, by decide⟩).trans <|
  R_goto mc_160 dX7_backsAt_44 (t := 48) rfl)
theorem B_X7_backsAt_47 (sc : Nat × (Nat → Int)) (iv : Nat → Nat → Int) (x1 : Int) (x2 : Int) (s0 : Int) : Run sc 160 47 [some (Rf 52), some (I x1), some (I x2)] [(I s0)] (hp iv) = Run sc 160 48 [some (Rf 52), some (I x1), some (I x2)] [(I 0), (I s0)] (hp iv) :=
  R_iconst mc_160 dX7_backsAt_47 ⟨by decide, by decide⟩
theorem B_X7_backsAt_48 (sc : Nat × (Nat → Int)) (iv : Nat → Nat → Int) (x1 : Int) (x2 : Int) (s0 : Int) (s1 : Int) : Run sc 160 48 [some (Rf 52), some (I x1), some (I x2)] [(I s0), (I s1)] (hp iv) = chk (s1 + s0) (chk (x1 - 1) (aBind (Run sc 153 0 [some (Rf 52), some (I (x1 - 1)), some (I x2), some (I 0)] [] (hp iv)) (fun v h2 => Run sc 160 58 [some (Rf 52), some (I x1), some (I x2)] (pushR v [(I (s1 + s0))]) h2))) :=
  (R_iadd mc_160 dX7_backsAt_48).trans <| chk_congr <|
  (R_aload_n mc_160 dX7_backsAt_49 rfl).trans <|
  (R_iload_n mc_160 dX7_backsAt_50 rfl).trans <|
  (R_iconst mc_160 dX7_backsAt_51 ⟨by decide, by decide⟩).trans <|
  (R_isub mc_160 dX7_backsAt_52).trans <| chk_congr <|
  (R_iload_n mc_160 dX7_backsAt_53 rfl).trans <|
  (R_iconst mc_160 dX7_backsAt_54 ⟨by decide, by decide⟩).trans <|
  R_invV mc_160 dX7_backsAt_55 mo_160 ct_7_192 af_160_153 rfl rfl rfl ⟨Nat.le_of_ble_eq_true rfl, Nat.le_of_ble_eq_true rfl⟩
theorem B_X7_backsAt_58 (sc : Nat × (Nat → Int)) (iv : Nat → Nat → Int) (x1 : Int) (x2 : Int) (s0 : Int) (s1 : Int) : Run sc 160 58 [some (Rf 52), some (I x1), some (I x2)] [(I s0), (I s1)] (hp iv) = if s0 = 0 then Run sc 160 65 [some (Rf 52), some (I x1), some (I x2)] [(I s1)] (hp iv) else Run sc 160 66 [some (Rf 52), some (I x1), some (I x2)] [(I 1), (I s1)] (hp iv) :=
  (R_if_eq mc_160 dX7_backsAt_58 (t := 65) rfl).trans <| ite_c2
  (rfl)
  ((R_iconst mc_160 dX7_backsAt_61 ⟨by decide, by decide⟩).trans <|
  R_goto mc_160 dX7_backsAt_62 (t := 66) rfl)
theorem B_X7_backsAt_65 (sc : Nat × (Nat → Int)) (iv : Nat → Nat → Int) (x1 : Int) (x2 : Int) (s0 : Int) : Run sc 160 65 [some (Rf 52), some (I x1), some (I x2)] [(I s0)] (hp iv) = Run sc 160 66 [some (Rf 52), some (I x1), some (I x2)] [(I 0), (I s0)] (hp iv) :=
  R_iconst mc_160 dX7_backsAt_65 ⟨by decide, by decide⟩
theorem B_X7_backsAt_66 (sc : Nat × (Nat → Int)) (iv : Nat → Nat → Int) (x1 : Int) (x2 : Int) (s0 : Int) (s1 : Int) : Run sc 160 66 [some (Rf 52), some (I x1), some (I x2)] [(I s0), (I s1)] (hp iv) = chk (s1 + s0) (some (some (I (s1 + s0)), hp iv)) :=
  (R_iadd mc_160 dX7_backsAt_66).trans <| chk_congr <|
  R_ireturn mc_160 dX7_backsAt_67 rfl
theorem B_X7_reachPoint_0 (sc : Nat × (Nat → Int)) (iv : Nat → Nat → Int) (x1 : Int) (x2 : Int) (x3 : Int) : Run sc 161 0 [some (Rf 52), some (I x1), some (I x2), some (I x3)] [] (hp iv) = if x3 = 0 then Run sc 161 52 [some (Rf 52), some (I x1), some (I x2), some (I x3)] [] (hp iv) else aBind (Run sc 152 0 [some (I x1), some (I x2)] [] (hp iv)) (fun v h2 => Run sc 161 13 [some (Rf 52), some (I x1), some (I x2), some (I x3)] (pushR v [(Rf 64)]) h2) :=
  (R_iload_n mc_161 dX7_reachPoint_0 rfl).trans <|
  (R_if_eq mc_161 dX7_reachPoint_1 (t := 52) rfl).trans <| ite_c2
  (rfl)
  ((R_aload_n mc_161 dX7_reachPoint_4 rfl).trans <|
  (R_getR mc_161 dX7_reachPoint_5 mo_161 ft_7_61 rfl rfl (r := 64) rfl (by decide)).trans <|
  (R_iload_n mc_161 dX7_reachPoint_8 rfl).trans <|
  (R_iload_n mc_161 dX7_reachPoint_9 rfl).trans <|
  R_invS mc_161 dX7_reachPoint_10 mo_161 ct_7_189 (Or.inl rfl) af_161_152 (Nat.le_of_ble_eq_true rfl) rfl rfl ⟨Nat.le_of_ble_eq_true rfl, Nat.le_of_ble_eq_true rfl⟩)
theorem B_X7_reachPoint_13 (sc : Nat × (Nat → Int)) (iv : Nat → Nat → Int) (x1 : Int) (x2 : Int) (x3 : Int) (s0 : Int) : Run sc 161 13 [some (Rf 52), some (I x1), some (I x2), some (I x3)] [(I s0), (Rf 64)] (hp iv) = bck 0 (((625 : Nat) : Int) - 1) s0 (if (iv 64 (Int.toNat s0)) = 0 then aBind (Run sc 152 0 [some (I x1), some (I x2)] [] (hp iv)) (fun v h2 => Run sc 161 26 [some (Rf 52), some (I x1), some (I x2), some (I x3)] (pushR v [(Rf 64)]) h2) else Run sc 161 52 [some (Rf 52), some (I x1), some (I x2), some (I x3)] [] (hp iv)) :=
  (R_baload mc_161 dX7_reachPoint_13 rfl).trans <| bck_congr <|
  (R_if_ne mc_161 dX7_reachPoint_14 (t := 52) rfl).trans <| ite_c2
  ((R_aload_n mc_161 dX7_reachPoint_17 rfl).trans <|
  (R_getR mc_161 dX7_reachPoint_18 mo_161 ft_7_61 rfl rfl (r := 64) rfl (by decide)).trans <|
  (R_iload_n mc_161 dX7_reachPoint_21 rfl).trans <|
  (R_iload_n mc_161 dX7_reachPoint_22 rfl).trans <|
  R_invS mc_161 dX7_reachPoint_23 mo_161 ct_7_189 (Or.inl rfl) af_161_152 (Nat.le_of_ble_eq_true rfl) rfl rfl ⟨Nat.le_of_ble_eq_true rfl, Nat.le_of_ble_eq_true rfl⟩)
  (rfl)
theorem B_X7_reachPoint_26 (sc : Nat × (Nat → Int)) (iv : Nat → Nat → Int) (x1 : Int) (x2 : Int) (x3 : Int) (s0 : Int) : Run sc 161 26 [some (Rf 52), some (I x1), some (I x2), some (I x3)] [(I s0), (Rf 64)] (hp iv) = bck 0 (((625 : Nat) : Int) - 1) s0 (bck 0 1 1 (Run sc 161 28 [some (Rf 52), some (I x1), some (I x2), some (I x3)] [] (hp (setO iv 64 (upI (iv 64) (Int.toNat s0) 1))))) :=
  (R_iconst mc_161 dX7_reachPoint_26 ⟨by decide, by decide⟩).trans <|
  (R_bastore mc_161 dX7_reachPoint_27 rfl).trans <| bck_congr <| bck_congr <|
  rfl
theorem B_X7_reachPoint_28 (sc : Nat × (Nat → Int)) (iv : Nat → Nat → Int) (x1 : Int) (x2 : Int) (x3 : Int) : Run sc 161 28 [some (Rf 52), some (I x1), some (I x2), some (I x3)] [] (hp iv) = aBind (Run sc 152 0 [some (I x1), some (I x2)] [] (hp iv)) (fun v h2 => Run sc 161 41 [some (Rf 52), some (I x1), some (I x2), some (I x3)] (pushR v [(I (iv 52 27)), (Rf 65)]) h2) :=
  (R_aload_n mc_161 dX7_reachPoint_28 rfl).trans <|
  (R_getR mc_161 dX7_reachPoint_29 mo_161 ft_7_64 rfl rfl (r := 65) rfl (by decide)).trans <|
  (R_aload_n mc_161 dX7_reachPoint_32 rfl).trans <|
  (R_getI mc_161 dX7_reachPoint_33 mo_161 ft_7_202 rfl rfl).trans <|
  (R_iload_n mc_161 dX7_reachPoint_36 rfl).trans <|
  (R_iload_n mc_161 dX7_reachPoint_37 rfl).trans <|
  R_invS mc_161 dX7_reachPoint_38 mo_161 ct_7_189 (Or.inl rfl) af_161_152 (Nat.le_of_ble_eq_true rfl) rfl rfl ⟨Nat.le_of_ble_eq_true rfl, Nat.le_of_ble_eq_true rfl⟩
theorem B_X7_reachPoint_41 (sc : Nat × (Nat → Int)) (iv : Nat → Nat → Int) (x1 : Int) (x2 : Int) (x3 : Int) (s0 : Int) (s1 : Int) : Run sc 161 41 [some (Rf 52), some (I x1), some (I x2), some (I x3)] [(I s0), (I s1), (Rf 65)] (hp iv) = bck 0 (((625 : Nat) : Int) - 1) s1 (bck (-2147483648) 2147483647 s0 (Run sc 161 42 [some (Rf 52), some (I x1), some (I x2), some (I x3)] [] (hp (setO iv 65 (upI (iv 65) (Int.toNat s1) s0))))) :=
  (R_iastore mc_161 dX7_reachPoint_41 rfl).trans <| bck_congr <| bck_congr <|
  rfl
theorem B_X7_reachPoint_42 (sc : Nat × (Nat → Int)) (iv : Nat → Nat → Int) (x1 : Int) (x2 : Int) (x3 : Int) : Run sc 161 42 [some (Rf 52), some (I x1), some (I x2), some (I x3)] [] (hp iv) = chk ((iv 52 27) + 1) (bck (-2147483648) 2147483647 ((iv 52 27) + 1) (Run sc 161 52 [some (Rf 52), some (I x1), some (I x2), some (I x3)] [] (hp (setO iv 52 (upI (iv 52) 27 ((iv 52 27) + 1)))))) :=
  (R_aload_n mc_161 dX7_reachPoint_42 rfl).trans <|
  (R_dup mc_161 dX7_reachPoint_43).trans <|
  (R_getI mc_161 dX7_reachPoint_44 mo_161 ft_7_202 rfl rfl).trans <|
  (R_iconst mc_161 dX7_reachPoint_47 ⟨by decide, by decide⟩).trans <|
  (R_iadd mc_161 dX7_reachPoint_48).trans <| chk_congr <|
  (R_putI mc_161 dX7_reachPoint_49 mo_161 ft_7_202 rfl rfl rfl (lo := (-2147483648)) (hi := 2147483647) rfl rfl).trans <| bck_congr <|
  rfl
theorem B_X7_reachPoint_52 (sc : Nat × (Nat → Int)) (iv : Nat → Nat → Int) (x1 : Int) (x2 : Int) (x3 : Int) : Run sc 161 52 [some (Rf 52), some (I x1), some (I x2), some (I x3)] [] (hp iv) = some (none, hp iv) :=
  R_return mc_161 dX7_reachPoint_52 rfl
theorem B_X7_goThrough_0 (sc : Nat × (Nat → Int)) (iv : Nat → Nat → Int) (x1 : Int) (x2 : Int) : Run sc 162 0 [some (Rf 52), some (I x1), some (I x2), none, none, none, none] [] (hp iv) = bck (-2147483648) 2147483647 0 (Run sc 162 5 [some (Rf 52), some (I x1), some (I x2), none, none, none, none] [] (hp (setO iv 52 (upI (iv 52) 27 0)))) :=
  (R_aload_n mc_162 dX7_goThrough_0 rfl).trans <|
  (R_iconst mc_162 dX7_goThrough_1 ⟨by decide, by decide⟩).trans <|
  (R_putI mc_162 dX7_goThrough_2 mo_162 ft_7_202 rfl rfl rfl (lo := (-2147483648)) (hi := 2147483647) rfl rfl).trans <| bck_congr <|
  rfl
theorem B_X7_goThrough_5 (sc : Nat × (Nat → Int)) (iv : Nat → Nat → Int) (x1 : Int) (x2 : Int) (d3 : Option AV) (d4 : Option AV) (d5 : Option AV) (d6 : Option AV) : Run sc 162 5 [some (Rf 52), some (I x1), some (I x2), d3, d4, d5, d6] [] (hp iv) = aBind (Run sc 161 0 [some (Rf 52), some (I x1), some (I x2), some (I 1)] [] (hp iv)) (fun v h2 => Run sc 162 12 [some (Rf 52), some (I x1), some (I x2), d3, d4, d5, d6] (pushR v []) h2) :=
  (R_aload_n mc_162 dX7_goThrough_5 rfl).trans <|
  (R_iload_n mc_162 dX7_goThrough_6 rfl).trans <|
  (R_iload_n mc_162 dX7_goThrough_7 rfl).trans <|
  (R_iconst mc_162 dX7_goThrough_8 ⟨by decide, by decide⟩).trans <|
  R_invV mc_162 dX7_goThrough_9 mo_162 ct_7_205 af_162_161 rfl rfl rfl ⟨Nat.le_of_ble_eq_true rfl, Nat.le_of_ble_eq_true rfl⟩
theorem B_X7_goThrough_12 (sc : Nat × (Nat → Int)) (iv : Nat → Nat → Int) (x1 : Int) (x2 : Int) (d3 : Option AV) (d4 : Option AV) (d5 : Option AV) (d6 : Option AV) : Run sc 162 12 [some (Rf 52), some (I x1), some (I x2), d3, d4, d5, d6] [] (hp iv) = Run sc 162 17 [some (Rf 52), some (I x1), some (I x2), some (I 0), some (I 0), d5, d6] [] (hp iv) :=
  (R_iconst mc_162 dX7_goThrough_12 ⟨by decide, by decide⟩).trans <|
  (R_istore_n mc_162 dX7_goThrough_13 (Nat.le_of_ble_eq_true rfl)).trans <|
  (R_iconst mc_162 dX7_goThrough_14 ⟨by decide, by decide⟩).trans <|
  R_istore mc_162 dX7_goThrough_15 (Nat.le_of_ble_eq_true rfl)
theorem B_X7_goThrough_17 (sc : Nat × (Nat → Int)) (iv : Nat → Nat → Int) (x1 : Int) (x2 : Int) (x3 : Int) (x4 : Int) (d5 : Option AV) (d6 : Option AV) : Run sc 162 17 [some (Rf 52), some (I x1), some (I x2), some (I x3), some (I x4), d5, d6] [] (hp iv) = if x4 < (iv 52 27) then bck 0 (((625 : Nat) : Int) - 1) x4 (bck 1 2147483647 25 (bck 0 2147483647 (iv 65 (Int.toNat x4)) (bck 0 (((625 : Nat) : Int) - 1) x4 (bck 1 2147483647 25 (bck 0 2147483647 (iv 65 (Int.toNat x4)) (aBind (Run sc 160 0 [some (Rf 52), some (I ((iv 65 (Int.toNat x4)) % 25)), some (I ((iv 65 (Int.toNat x4)) / 25))] [] (hp iv)) (fun v h2 => Run sc 162 59 [some (Rf 52), some (I x1), some (I x2), some (I x3), some (I x4), some (I ((iv 65 (Int.toNat x4)) % 25)), some (I ((iv 65 (Int.toNat x4)) / 25))] (pushR v [(I x3)]) h2))))))) else Run sc 162 149 [some (Rf 52), some (I x1), some (I x2), some (I x3), some (I x4), d5, d6] [] (hp iv) :=
  (R_iload mc_162 dX7_goThrough_17 rfl).trans <|
  (R_aload_n mc_162 dX7_goThrough_19 rfl).trans <|
  (R_getI mc_162 dX7_goThrough_20 mo_162 ft_7_202 rfl rfl).trans <|
  (R_icmp_ge mc_162 dX7_goThrough_23 (t := 149) rfl).trans <| ite_c2
  ((R_aload_n mc_162 dX7_goThrough_26 rfl).trans <|
  (R_getR mc_162 dX7_goThrough_27 mo_162 ft_7_64 rfl rfl (r := 65) rfl (by decide)).trans <|
  (R_iload mc_162 dX7_goThrough_30 rfl).trans <|
  (R_iaload mc_162 dX7_goThrough_32 rfl).trans <| bck_congr <|
  (R_bipush mc_162 dX7_goThrough_33 ⟨by decide, by decide⟩).trans <|
  (R_irem mc_162 dX7_goThrough_35).trans <| bck_congr <| bck_congr <|
  (R_istore mc_162 dX7_goThrough_36 (Nat.le_of_ble_eq_true rfl)).trans <|
  (R_aload_n mc_162 dX7_goThrough_38 rfl).trans <|
  (R_getR mc_162 dX7_goThrough_39 mo_162 ft_7_64 rfl rfl (r := 65) rfl (by decide)).trans <|
  (R_iload mc_162 dX7_goThrough_42 rfl).trans <|
  (R_iaload mc_162 dX7_goThrough_44 rfl).trans <| bck_congr <|
  (R_bipush mc_162 dX7_goThrough_45 ⟨by decide, by decide⟩).trans <|
  (R_idiv mc_162 dX7_goThrough_47).trans <| bck_congr <| bck_congr <|
  (R_istore mc_162 dX7_goThrough_48 (Nat.le_of_ble_eq_true rfl)).trans <|
  (R_iload_n mc_162 dX7_goThrough_50 rfl).trans <|
  (R_aload_n mc_162 dX7_goThrough_51 rfl).trans <|
  (R_iload mc_162 dX7_goThrough_52 rfl).trans <|
  (R_iload mc_162 dX7_goThrough_54 rfl).trans <|
  R_invV mc_162 dX7_goThrough_56 mo_162 ct_7_209 af_162_160 rfl rfl rfl ⟨Nat.le_of_ble_eq_true rfl, Nat.le_of_ble_eq_true rfl⟩)
  (rfl)
theorem B_X7_goThrough_59 (sc : Nat × (Nat → Int)) (iv : Nat → Nat → Int) (x1 : Int) (x2 : Int) (x3 : Int) (x4 : Int) (x5 : Int) (x6 : Int) (s0 : Int) (s1 : Int) : Run sc 162 59 [some (Rf 52), some (I x1), some (I x2), some (I x3), some (I x4), some (I x5), some (I x6)] [(I s0), (I s1)] (hp iv) = bck 1 2147483647 2 (bck 0 2147483647 s0 (chk (s1 + (s0 % 2)) (chk (x6 + 1) (aBind (Run sc 153 0 [some (Rf 52), some (I x5), some (I x6), some (I 1)] [] (hp iv)) (fun v h2 => Run sc 162 79 [some (Rf 52), some (I x1), some (I x2), some (I (s1 + (s0 % 2))), some (I x4), some (I x5), some (I x6)] (pushR v [(I (x6 + 1)), (I x5), (Rf 52)]) h2))))) :=
  (R_iconst mc_162 dX7_goThrough_59 ⟨by decide, by decide⟩).trans <|
  (R_irem mc_162 dX7_goThrough_60).trans <| bck_congr <| bck_congr <|
  (R_iadd mc_162 dX7_goThrough_61).trans <| chk_congr <|
  (R_istore_n mc_162 dX7_goThrough_62 (Nat.le_of_ble_eq_true rfl)).trans <|
  (R_aload_n mc_162 dX7_goThrough_63 rfl).trans <|
  (R_iload mc_162 dX7_goThrough_64 rfl).trans <|
  (R_iload mc_162 dX7_goThrough_66 rfl).trans <|
  (R_iconst mc_162 dX7_goThrough_68 ⟨by decide, by decide⟩).trans <|
  (R_iadd mc_162 dX7_goThrough_69).trans <| chk_congr <|
  (R_aload_n mc_162 dX7_goThrough_70 rfl).trans <|
  (R_iload mc_162 dX7_goThrough_71 rfl).trans <|
  (R_iload mc_162 dX7_goThrough_73 rfl).trans <|
  (R_iconst mc_162 dX7_goThrough_75 ⟨by decide, by decide⟩).trans <|
  R_invV mc_162 dX7_goThrough_76 mo_162 ct_7_192 af_162_153 rfl rfl rfl ⟨Nat.le_of_ble_eq_true rfl, Nat.le_of_ble_eq_true rfl⟩
theorem B_X7_goThrough_79 (sc : Nat × (Nat → Int)) (iv : Nat → Nat → Int) (x1 : Int) (x2 : Int) (x3 : Int) (x4 : Int) (x5 : Int) (x6 : Int) (s0 : Int) (s1 : Int) (s2 : Int) : Run sc 162 79 [some (Rf 52), some (I x1), some (I x2), some (I x3), some (I x4), some (I x5), some (I x6)] [(I s0), (I s1), (I s2), (Rf 52)] (hp iv) = aBind (Run sc 161 0 [some (Rf 52), some (I s2), some (I s1), some (I s0)] [] (hp iv)) (fun v h2 => Run sc 162 82 [some (Rf 52), some (I x1), some (I x2), some (I x3), some (I x4), some (I x5), some (I x6)] (pushR v []) h2) :=
  R_invV mc_162 dX7_goThrough_79 mo_162 ct_7_205 af_162_161 rfl rfl rfl ⟨Nat.le_of_ble_eq_true rfl, Nat.le_of_ble_eq_true rfl⟩
theorem B_X7_goThrough_82 (sc : Nat × (Nat → Int)) (iv : Nat → Nat → Int) (x1 : Int) (x2 : Int) (x3 : Int) (x4 : Int) (x5 : Int) (x6 : Int) : Run sc 162 82 [some (Rf 52), some (I x1), some (I x2), some (I x3), some (I x4), some (I x5), some (I x6)] [] (hp iv) = chk (x5 + 1) (aBind (Run sc 153 0 [some (Rf 52), some (I x5), some (I x6), some (I 0)] [] (hp iv)) (fun v h2 => Run sc 162 98 [some (Rf 52), some (I x1), some (I x2), some (I x3), some (I x4), some (I x5), some (I x6)] (pushR v [(I x6), (I (x5 + 1)), (Rf 52)]) h2)) :=
  (R_aload_n mc_162 dX7_goThrough_82 rfl).trans <|
  (R_iload mc_162 dX7_goThrough_83 rfl).trans <|
  (R_iconst mc_162 dX7_goThrough_85 ⟨by decide, by decide⟩).trans <|
  (R_iadd mc_162 dX7_goThrough_86).trans <| chk_congr <|
  (R_iload mc_162 dX7_goThrough_87 rfl).trans <|
  (R_aload_n mc_162 dX7_goThrough_89 rfl).trans <|
  (R_iload mc_162 dX7_goThrough_90 rfl).trans <|
  (R_iload mc_162 dX7_goThrough_92 rfl).trans <|
  (R_iconst mc_162 dX7_goThrough_94 ⟨by decide, by decide⟩).trans <|
  R_invV mc_162 dX7_goThrough_95 mo_162 ct_7_192 af_162_153 rfl rfl rfl ⟨Nat.le_of_ble_eq_true rfl, Nat.le_of_ble_eq_true rfl⟩
theorem B_X7_goThrough_98 (sc : Nat × (Nat → Int)) (iv : Nat → Nat → Int) (x1 : Int) (x2 : Int) (x3 : Int) (x4 : Int) (x5 : Int) (x6 : Int) (s0 : Int) (s1 : Int) (s2 : Int) : Run sc 162 98 [some (Rf 52), some (I x1), some (I x2), some (I x3), some (I x4), some (I x5), some (I x6)] [(I s0), (I s1), (I s2), (Rf 52)] (hp iv) = aBind (Run sc 161 0 [some (Rf 52), some (I s2), some (I s1), some (I s0)] [] (hp iv)) (fun v h2 => Run sc 162 101 [some (Rf 52), some (I x1), some (I x2), some (I x3), some (I x4), some (I x5), some (I x6)] (pushR v []) h2) :=
  R_invV mc_162 dX7_goThrough_98 mo_162 ct_7_205 af_162_161 rfl rfl rfl ⟨Nat.le_of_ble_eq_true rfl, Nat.le_of_ble_eq_true rfl⟩
theorem B_X7_goThrough_101 (sc : Nat × (Nat → Int)) (iv : Nat → Nat → Int) (x1 : Int) (x2 : Int) (x3 : Int) (x4 : Int) (x5 : Int) (x6 : Int) : Run sc 162 101 [some (Rf 52), some (I x1), some (I x2), some (I x3), some (I x4), some (I x5), some (I x6)] [] (hp iv) = chk (x6 - 1) (chk (x6 - 1) (aBind (Run sc 153 0 [some (Rf 52), some (I x5), some (I (x6 - 1)), some (I 1)] [] (hp iv)) (fun v h2 => Run sc 162 119 [some (Rf 52), some (I x1), some (I x2), some (I x3), some (I x4), some (I x5), some (I x6)] (pushR v [(I (x6 - 1)), (I x5), (Rf 52)]) h2))) :=
  (R_aload_n mc_162 dX7_goThrough_101 rfl).trans <|
  (R_iload mc_162 dX7_goThrough_102 rfl).trans <|
  (R_iload mc_162 dX7_goThrough_104 rfl).trans <|
  (R_iconst mc_162 dX7_goThrough_106 ⟨by decide, by decide⟩).trans <|
  (R_isub mc_162 dX7_goThrough_107).trans <| chk_congr <|
  (R_aload_n mc_162 dX7_goThrough_108 rfl).trans <|
  (R_iload mc_162 dX7_goThrough_109 rfl).trans <|
  (R_iload mc_162 dX7_goThrough_111 rfl).trans <|
  (R_iconst mc_162 dX7_goThrough_113 ⟨by decide, by decide⟩).trans <|
  (R_isub mc_162 dX7_goThrough_114).trans <| chk_congr <|
  (R_iconst mc_162 dX7_goThrough_115 ⟨by decide, by decide⟩).trans <|
  R_invV mc_162 dX7_goThrough_116 mo_162 ct_7_192 af_162_153 rfl rfl rfl ⟨Nat.le_of_ble_eq_true rfl, Nat.le_of_ble_eq_true rfl⟩
theorem B_X7_goThrough_119 (sc : Nat × (Nat → Int)) (iv : Nat → Nat → Int) (x1 : Int) (x2 : Int) (x3 : Int) (x4 : Int) (x5 : Int) (x6 : Int) (s0 : Int) (s1 : Int) (s2 : Int) : Run sc 162 119 [some (Rf 52), some (I x1), some (I x2), some (I x3), some (I x4), some (I x5), some (I x6)] [(I s0), (I s1), (I s2), (Rf 52)] (hp iv) = aBind (Run sc 161 0 [some (Rf 52), some (I s2), some (I s1), some (I s0)] [] (hp iv)) (fun v h2 => Run sc 162 122 [some (Rf 52), some (I x1), some (I x2), some (I x3), some (I x4), some (I x5), some (I x6)] (pushR v []) h2) :=
  R_invV mc_162 dX7_goThrough_119 mo_162 ct_7_205 af_162_161 rfl rfl rfl ⟨Nat.le_of_ble_eq_true rfl, Nat.le_of_ble_eq_true rfl⟩
theorem B_X7_goThrough_122 (sc : Nat × (Nat → Int)) (iv : Nat → Nat → Int) (x1 : Int) (x2 : Int) (x3 : Int) (x4 : Int) (x5 : Int) (x6 : Int) : Run sc 162 122 [some (Rf 52), some (I x1), some (I x2), some (I x3), some (I x4), some (I x5), some (I x6)] [] (hp iv) = chk (x5 - 1) (chk (x5 - 1) (aBind (Run sc 153 0 [some (Rf 52), some (I (x5 - 1)), some (I x6), some (I 0)] [] (hp iv)) (fun v h2 => Run sc 162 140 [some (Rf 52), some (I x1), some (I x2), some (I x3), some (I x4), some (I x5), some (I x6)] (pushR v [(I x6), (I (x5 - 1)), (Rf 52)]) h2))) :=
  (R_aload_n mc_162 dX7_goThrough_122 rfl).trans <|
  (R_iload mc_162 dX7_goThrough_123 rfl).trans <|
  (R_iconst mc_162 dX7_goThrough_125 ⟨by decide, by decide⟩).trans <|
  (R_isub mc_162 dX7_goThrough_126).trans <| chk_congr <|
  (R_iload mc_162 dX7_goThrough_127 rfl).trans <|
  (R_aload_n mc_162 dX7_goThrough_129 rfl).trans <|
  (R_iload mc_162 dX7_goThrough_130 rfl).trans <|
  (R_iconst mc_162 dX7_goThrough_132 ⟨by decide, by decide⟩).trans <|
  (R_isub mc_162 dX7_goThrough_133).trans <| chk_congr <|
  (R_iload mc_162 dX7_goThrough_134 rfl).trans <|
  (R_iconst mc_162 dX7_goThrough_136 ⟨by decide, by decide⟩).trans <|
  R_invV mc_162 dX7_goThrough_137 mo_162 ct_7_192 af_162_153 rfl rfl rfl ⟨Nat.le_of_ble_eq_true rfl, Nat.le_of_ble_eq_true rfl⟩
theorem B_X7_goThrough_140 (sc : Nat × (Nat → Int)) (iv : Nat → Nat → Int) (x1 : Int) (x2 : Int) (x3 : Int) (x4 : Int) (x5 : Int) (x6 : Int) (s0 : Int) (s1 : Int) (s2 : Int) : Run sc 162 140 [some (Rf 52), some (I x1), some (I x2), some (I x3), some (I x4), some (I x5), some (I x6)] [(I s0), (I s1), (I s2), (Rf 52)] (hp iv) = aBind (Run sc 161 0 [some (Rf 52), some (I s2), some (I s1), some (I s0)] [] (hp iv)) (fun v h2 => Run sc 162 143 [some (Rf 52), some (I x1), some (I x2), some (I x3), some (I x4), some (I x5), some (I x6)] (pushR v []) h2) :=
  R_invV mc_162 dX7_goThrough_140 mo_162 ct_7_205 af_162_161 rfl rfl rfl ⟨Nat.le_of_ble_eq_true rfl, Nat.le_of_ble_eq_true rfl⟩
theorem B_X7_goThrough_143 (sc : Nat × (Nat → Int)) (iv : Nat → Nat → Int) (x1 : Int) (x2 : Int) (x3 : Int) (x4 : Int) (x5 : Int) (x6 : Int) : Run sc 162 143 [some (Rf 52), some (I x1), some (I x2), some (I x3), some (I x4), some (I x5), some (I x6)] [] (hp iv) = chk (x4 + 1) (Run sc 162 17 [some (Rf 52), some (I x1), some (I x2), some (I x3), some (I (x4 + 1)), some (I x5), some (I x6)] [] (hp iv)) :=
  (R_iinc mc_162 dX7_goThrough_143 rfl).trans <| chk_congr <|
  R_goto mc_162 dX7_goThrough_146 (t := 17) rfl
theorem B_X7_goThrough_149 (sc : Nat × (Nat → Int)) (iv : Nat → Nat → Int) (x1 : Int) (x2 : Int) (x3 : Int) (x4 : Int) (d5 : Option AV) (d6 : Option AV) : Run sc 162 149 [some (Rf 52), some (I x1), some (I x2), some (I x3), some (I x4), d5, d6] [] (hp iv) = some (some (I x3), hp iv) :=
  (R_iload_n mc_162 dX7_goThrough_149 rfl).trans <|
  R_ireturn mc_162 dX7_goThrough_150 rfl
theorem B_X7_backs_0 (sc : Nat × (Nat → Int)) (iv : Nat → Nat → Int) (x1 : Int) : Run sc 163 0 [some (Rf 52), some (I x1), none, none, none, none, none, none] [] (hp iv) = Run sc 163 2 [some (Rf 52), some (I x1), some (I 0), none, none, none, none, none] [] (hp iv) :=
  (R_iconst mc_163 dX7_backs_0 ⟨by decide, by decide⟩).trans <|
  R_istore_n mc_163 dX7_backs_1 (Nat.le_of_ble_eq_true rfl)
theorem B_X7_backs_2 (sc : Nat × (Nat → Int)) (iv : Nat → Nat → Int) (x1 : Int) (x2 : Int) (d3 : Option AV) (d4 : Option AV) (d5 : Option AV) (d6 : Option AV) (d7 : Option AV) : Run sc 163 2 [some (Rf 52), some (I x1), some (I x2), d3, d4, d5, d6, d7] [] (hp iv) = if x2 < 625 then bck 0 (((625 : Nat) : Int) - 1) x2 (bck 0 1 0 (Run sc 163 16 [some (Rf 52), some (I x1), some (I x2), d3, d4, d5, d6, d7] [] (hp (setO iv 64 (upI (iv 64) (Int.toNat x2) 0))))) else Run sc 163 22 [some (Rf 52), some (I x1), some (I x2), d3, d4, d5, d6, d7] [] (hp iv) :=
  (R_iload_n mc_163 dX7_backs_2 rfl).trans <|
  (R_sipush mc_163 dX7_backs_3 ⟨by decide, by decide⟩).trans <|
  (R_icmp_ge mc_163 dX7_backs_6 (t := 22) rfl).trans <| ite_c2
  ((R_aload_n mc_163 dX7_backs_9 rfl).trans <|
  (R_getR mc_163 dX7_backs_10 mo_163 ft_7_61 rfl rfl (r := 64) rfl (by decide)).trans <|
  (R_iload_n mc_163 dX7_backs_13 rfl).trans <|
  (R_iconst mc_163 dX7_backs_14 ⟨by decide, by decide⟩).trans <|
  (R_bastore mc_163 dX7_backs_15 rfl).trans <| bck_congr <| bck_congr <|
  rfl)
  (rfl)
theorem B_X7_backs_16 (sc : Nat × (Nat → Int)) (iv : Nat → Nat → Int) (x1 : Int) (x2 : Int) (d3 : Option AV) (d4 : Option AV) (d5 : Option AV) (d6 : Option AV) (d7 : Option AV) : Run sc 163 16 [some (Rf 52), some (I x1), some (I x2), d3, d4, d5, d6, d7] [] (hp iv) = chk (x2 + 1) (Run sc 163 2 [some (Rf 52), some (I x1), some (I (x2 + 1)), d3, d4, d5, d6, d7] [] (hp iv)) :=
  (R_iinc mc_163 dX7_backs_16 rfl).trans <| chk_congr <|
  R_goto mc_163 dX7_backs_19 (t := 2) rfl
theorem B_X7_backs_22 (sc : Nat × (Nat → Int)) (iv : Nat → Nat → Int) (x1 : Int) (x2 : Int) (d3 : Option AV) (d4 : Option AV) (d5 : Option AV) (d6 : Option AV) (d7 : Option AV) : Run sc 163 22 [some (Rf 52), some (I x1), some (I x2), d3, d4, d5, d6, d7] [] (hp iv) = Run sc 163 32 [some (Rf 52), some (I x1), some (I 0), some (I 0), some (I 0), some (I 0), d6, d7] [] (hp iv) :=
  (R_iconst mc_163 dX7_backs_22 ⟨by decide, by decide⟩).trans <|
  (R_istore_n mc_163 dX7_backs_23 (Nat.le_of_ble_eq_true rfl)).trans <|
  (R_iconst mc_163 dX7_backs_24 ⟨by decide, by decide⟩).trans <|
  (R_istore_n mc_163 dX7_backs_25 (Nat.le_of_ble_eq_true rfl)).trans <|
  (R_iconst mc_163 dX7_backs_26 ⟨by decide, by decide⟩).trans <|
  (R_istore mc_163 dX7_backs_27 (Nat.le_of_ble_eq_true rfl)).trans <|
  (R_iconst mc_163 dX7_backs_29 ⟨by decide, by decide⟩).trans <|
  R_istore mc_163 dX7_backs_30 (Nat.le_of_ble_eq_true rfl)
theorem B_X7_backs_32 (sc : Nat × (Nat → Int)) (iv : Nat → Nat → Int) (x1 : Int) (x2 : Int) (x3 : Int) (x4 : Int) (x5 : Int) (d6 : Option AV) (d7 : Option AV) : Run sc 163 32 [some (Rf 52), some (I x1), some (I x2), some (I x3), some (I x4), some (I x5), d6, d7] [] (hp iv) = if (iv 52 1) < x5 then Run sc 163 128 [some (Rf 52), some (I x1), some (I x2), some (I x3), some (I x4), some (I x5), d6, d7] [] (hp iv) else Run sc 163 44 [some (Rf 52), some (I x1), some (I x2), some (I x3), some (I x4), some (I x5), some (I 0), d7] [] (hp iv) :=
  (R_iload mc_163 dX7_backs_32 rfl).trans <|
  (R_aload_n mc_163 dX7_backs_34 rfl).trans <|
  (R_getI mc_163 dX7_backs_35 mo_163 ft_7_74 rfl rfl).trans <|
  (R_icmp_gt mc_163 dX7_backs_38 (t := 128) rfl).trans <| ite_c2
  (rfl)
  ((R_iconst mc_163 dX7_backs_41 ⟨by decide, by decide⟩).trans <|
  R_istore mc_163 dX7_backs_42 (Nat.le_of_ble_eq_true rfl))
theorem B_X7_backs_44 (sc : Nat × (Nat → Int)) (iv : Nat → Nat → Int) (x1 : Int) (x2 : Int) (x3 : Int) (x4 : Int) (x5 : Int) (x6 : Int) (d7 : Option AV) : Run sc 163 44 [some (Rf 52), some (I x1), some (I x2), some (I x3), some (I x4), some (I x5), some (I x6), d7] [] (hp iv) = if (iv 52 0) < x6 then Run sc 163 122 [some (Rf 52), some (I x1), some (I x2), some (I x3), some (I x4), some (I x5), some (I x6), d7] [] (hp iv) else aBind (Run sc 152 0 [some (I x6), some (I x5)] [] (hp iv)) (fun v h2 => Run sc 163 64 [some (Rf 52), some (I x1), some (I x2), some (I x3), some (I x4), some (I x5), some (I x6), d7] (pushR v [(Rf 64)]) h2) :=
  (R_iload mc_163 dX7_backs_44 rfl).trans <|
  (R_aload_n mc_163 dX7_backs_46 rfl).trans <|
  (R_getI mc_163 dX7_backs_47 mo_163 ft_7_71 rfl rfl).trans <|
  (R_icmp_gt mc_163 dX7_backs_50 (t := 122) rfl).trans <| ite_c2
  (rfl)
  ((R_aload_n mc_163 dX7_backs_53 rfl).trans <|
  (R_getR mc_163 dX7_backs_54 mo_163 ft_7_61 rfl rfl (r := 64) rfl (by decide)).trans <|
  (R_iload mc_163 dX7_backs_57 rfl).trans <|
  (R_iload mc_163 dX7_backs_59 rfl).trans <|
  R_invS mc_163 dX7_backs_61 mo_163 ct_7_189 (Or.inl rfl) af_163_152 (Nat.le_of_ble_eq_true rfl) rfl rfl ⟨Nat.le_of_ble_eq_true rfl, Nat.le_of_ble_eq_true rfl⟩)
theorem B_X7_backs_64 (sc : Nat × (Nat → Int)) (iv : Nat → Nat → Int) (x1 : Int) (x2 : Int) (x3 : Int) (x4 : Int) (x5 : Int) (x6 : Int) (d7 : Option AV) (s0 : Int) : Run sc 163 64 [some (Rf 52), some (I x1), some (I x2), some (I x3), some (I x4), some (I x5), some (I x6), d7] [(I s0), (Rf 64)] (hp iv) = bck 0 (((625 : Nat) : Int) - 1) s0 (if (iv 64 (Int.toNat s0)) = 0 then aBind (Run sc 160 0 [some (Rf 52), some (I x6), some (I x5)] [] (hp iv)) (fun v h2 => Run sc 163 76 [some (Rf 52), some (I x1), some (I x2), some (I x3), some (I x4), some (I x5), some (I x6), d7] (pushR v []) h2) else Run sc 163 116 [some (Rf 52), some (I x1), some (I x2), some (I x3), some (I x4), some (I x5), some (I x6), d7] [] (hp iv)) :=
  (R_baload mc_163 dX7_backs_64 rfl).trans <| bck_congr <|
  (R_if_ne mc_163 dX7_backs_65 (t := 116) rfl).trans <| ite_c2
  ((R_aload_n mc_163 dX7_backs_68 rfl).trans <|
  (R_iload mc_163 dX7_backs_69 rfl).trans <|
  (R_iload mc_163 dX7_backs_71 rfl).trans <|
  R_invV mc_163 dX7_backs_73 mo_163 ct_7_209 af_163_160 rfl rfl rfl ⟨Nat.le_of_ble_eq_true rfl, Nat.le_of_ble_eq_true rfl⟩)
  (rfl)
theorem B_X7_backs_76 (sc : Nat × (Nat → Int)) (iv : Nat → Nat → Int) (x1 : Int) (x2 : Int) (x3 : Int) (x4 : Int) (x5 : Int) (x6 : Int) (d7 : Option AV) (s0 : Int) : Run sc 163 76 [some (Rf 52), some (I x1), some (I x2), some (I x3), some (I x4), some (I x5), some (I x6), d7] [(I s0)] (hp iv) = if 0 < s0 then aBind (Run sc 162 0 [some (Rf 52), some (I x6), some (I x5), none, none, none, none] [] (hp iv)) (fun v h2 => Run sc 163 87 [some (Rf 52), some (I x1), some (I x2), some (I x3), some (I x4), some (I x5), some (I x6), d7] (pushR v []) h2) else Run sc 163 116 [some (Rf 52), some (I x1), some (I x2), some (I x3), some (I x4), some (I x5), some (I x6), d7] [] (hp iv) :=
  (R_if_le mc_163 dX7_backs_76 (t := 116) rfl).trans <| ite_c2
  ((R_aload_n mc_163 dX7_backs_79 rfl).trans <|
  (R_iload mc_163 dX7_backs_80 rfl).trans <|
  (R_iload mc_163 dX7_backs_82 rfl).trans <|
  R_invV mc_163 dX7_backs_84 mo_163 ct_7_212 af_163_162 rfl rfl rfl ⟨Nat.le_of_ble_eq_true rfl, Nat.le_of_ble_eq_true rfl⟩)
  (rfl)
theorem B_X7_backs_87 (sc : Nat × (Nat → Int)) (iv : Nat → Nat → Int) (x1 : Int) (x2 : Int) (x3 : Int) (x4 : Int) (x5 : Int) (x6 : Int) (d7 : Option AV) (s0 : Int) : Run sc 163 87 [some (Rf 52), some (I x1), some (I x2), some (I x3), some (I x4), some (I x5), some (I x6), d7] [(I s0)] (hp iv) = chk (x2 + 1) (chk (x4 + s0) (if 2 < s0 then bck 1 2147483647 2 (bck 0 2147483647 s0 (Run sc 163 114 [some (Rf 52), some (I x1), some (I (x2 + 1)), some (I x3), some (I (x4 + s0)), some (I x5), some (I x6), some (I s0)] [(I (s0 / 2)), (I x3)] (hp iv))) else Run sc 163 113 [some (Rf 52), some (I x1), some (I (x2 + 1)), some (I x3), some (I (x4 + s0)), some (I x5), some (I x6), some (I s0)] [(I x3)] (hp iv))) :=
  (R_istore mc_163 dX7_backs_87 (Nat.le_of_ble_eq_true rfl)).trans <|
  (R_iinc mc_163 dX7_backs_89 rfl).trans <| chk_congr <|
  (R_iload mc_163 dX7_backs_92 rfl).trans <|
  (R_iload mc_163 dX7_backs_94 rfl).trans <|
  (R_iadd mc_163 dX7_backs_96).trans <| chk_congr <|
  (R_istore mc_163 dX7_backs_97 (Nat.le_of_ble_eq_true rfl)).trans <|
  (R_iload_n mc_163 dX7_backs_99 rfl).trans <|
  (R_iload mc_163 dX7_backs_100 rfl).trans <|
  (R_iconst mc_163 dX7_backs_102 ⟨by decide, by decide⟩).trans <|
  (R_icmp_le mc_163 dX7_backs_103 (t := 113) rfl).trans <| ite_c2
  ((R_iload mc_163 dX7_backs_106 rfl).trans <|
  (R_iconst mc_163 dX7_backs_108 ⟨by decide, by decide⟩).trans <|
  (R_idiv mc_163 dX7_backs_109).trans <| bck_congr <| bck_congr <|
  R_goto mc_163 dX7_backs_110 (t := 114) rfl)
  (rfl)
theorem B_X7_backs_113 (sc : Nat × (Nat → Int)) (iv : Nat → Nat → Int) (x1 : Int) (x2 : Int) (x3 : Int) (x4 : Int) (x5 : Int) (x6 : Int) (x7 : Int) (s0 : Int) : Run sc 163 113 [some (Rf 52), some (I x1), some (I x2), some (I x3), some (I x4), some (I x5), some (I x6), some (I x7)] [(I s0)] (hp iv) = Run sc 163 114 [some (Rf 52), some (I x1), some (I x2), some (I x3), some (I x4), some (I x5), some (I x6), some (I x7)] [(I 1), (I s0)] (hp iv) :=
  R_iconst mc_163 dX7_backs_113 ⟨by decide, by decide⟩
theorem B_X7_backs_114 (sc : Nat × (Nat → Int)) (iv : Nat → Nat → Int) (x1 : Int) (x2 : Int) (x3 : Int) (x4 : Int) (x5 : Int) (x6 : Int) (x7 : Int) (s0 : Int) (s1 : Int) : Run sc 163 114 [some (Rf 52), some (I x1), some (I x2), some (I x3), some (I x4), some (I x5), some (I x6), some (I x7)] [(I s0), (I s1)] (hp iv) = chk (s1 + s0) (Run sc 163 116 [some (Rf 52), some (I x1), some (I x2), some (I (s1 + s0)), some (I x4), some (I x5), some (I x6), some (I x7)] [] (hp iv)) :=
  (R_iadd mc_163 dX7_backs_114).trans <| chk_congr <|
  R_istore_n mc_163 dX7_backs_115 (Nat.le_of_ble_eq_true rfl)
theorem B_X7_backs_116 (sc : Nat × (Nat → Int)) (iv : Nat → Nat → Int) (x1 : Int) (x2 : Int) (x3 : Int) (x4 : Int) (x5 : Int) (x6 : Int) (d7 : Option AV) : Run sc 163 116 [some (Rf 52), some (I x1), some (I x2), some (I x3), some (I x4), some (I x5), some (I x6), d7] [] (hp iv) = chk (x6 + 1) (Run sc 163 44 [some (Rf 52), some (I x1), some (I x2), some (I x3), some (I x4), some (I x5), some (I (x6 + 1)), d7] [] (hp iv)) :=
  (R_iinc mc_163 dX7_backs_116 rfl).trans <| chk_congr <|
  R_goto mc_163 dX7_backs_119 (t := 44) rfl
theorem B_X7_backs_122 (sc : Nat × (Nat → Int)) (iv : Nat → Nat → Int) (x1 : Int) (x2 : Int) (x3 : Int) (x4 : Int) (x5 : Int) (x6 : Int) (d7 : Option AV) : Run sc 163 122 [some (Rf 52), some (I x1), some (I x2), some (I x3), some (I x4), some (I x5), some (I x6), d7] [] (hp iv) = chk (x5 + 1) (Run sc 163 32 [some (Rf 52), some (I x1), some (I x2), some (I x3), some (I x4), some (I (x5 + 1)), some (I x6), d7] [] (hp iv)) :=
  (R_iinc mc_163 dX7_backs_122 rfl).trans <| chk_congr <|
  R_goto mc_163 dX7_backs_125 (t := 32) rfl
theorem B_X7_backs_128 (sc : Nat × (Nat → Int)) (iv : Nat → Nat → Int) (x1 : Int) (x2 : Int) (x3 : Int) (x4 : Int) (x5 : Int) (d6 : Option AV) (d7 : Option AV) : Run sc 163 128 [some (Rf 52), some (I x1), some (I x2), some (I x3), some (I x4), some (I x5), d6, d7] [] (hp iv) = if x1 = 0 then Run sc 163 164 [some (Rf 52), some (I x1), some (I x2), some (I x3), some (I x4), some (I x5), d6, d7] [] (hp iv) else if x1 = 1 then Run sc 163 169 [some (Rf 52), some (I x1), some (I x2), some (I x3), some (I x4), some (I x5), d6, d7] [] (hp iv) else if x1 = 2 then Run sc 163 171 [some (Rf 52), some (I x1), some (I x2), some (I x3), some (I x4), some (I x5), d6, d7] [] (hp iv) else if x1 = 3 then Run sc 163 173 [some (Rf 52), some (I x1), some (I x2), some (I x3), some (I x4), some (I x5), d6, d7] [] (hp iv) else if x1 = 4 then Run sc 163 190 [some (Rf 52), some (I x1), some (I x2), some (I x3), some (I x4), some (I x5), d6, d7] [] (hp iv) else Run sc 163 193 [some (Rf 52), some (I x1), some (I x2), some (I x3), some (I x4), some (I x5), d6, d7] [] (hp iv) :=
  (R_iload_n mc_163 dX7_backs_128 rfl).trans <|
  (by
    by_cases z0 : x1 = 0
    · rw [if_pos z0]; exact R_switchIn mc_163 dX7_backs_129 (by omega) (by omega) (by rw [z0]; rfl) (t := 164) rfl
    rw [if_neg z0]
    by_cases z1 : x1 = 1
    · rw [if_pos z1]; exact R_switchIn mc_163 dX7_backs_129 (by omega) (by omega) (by rw [z1]; rfl) (t := 169) rfl
    rw [if_neg z1]
    by_cases z2 : x1 = 2
    · rw [if_pos z2]; exact R_switchIn mc_163 dX7_backs_129 (by omega) (by omega) (by rw [z2]; rfl) (t := 171) rfl
    rw [if_neg z2]
    by_cases z3 : x1 = 3
    · rw [if_pos z3]; exact R_switchIn mc_163 dX7_backs_129 (by omega) (by omega) (by rw [z3]; rfl) (t := 173) rfl
    rw [if_neg z3]
    by_cases z4 : x1 = 4
    · rw [if_pos z4]; exact R_switchIn mc_163 dX7_backs_129 (by omega) (by omega) (by rw [z4]; rfl) (t := 190) rfl
    rw [if_neg z4]
    exact R_switchOut mc_163 dX7_backs_129 (by omega) (t := 193) rfl)
theorem B_X7_backs_164 (sc : Nat × (Nat → Int)) (iv : Nat → Nat → Int) (x1 : Int) (x2 : Int) (x3 : Int) (x4 : Int) (x5 : Int) (d6 : Option AV) (d7 : Option AV) : Run sc 163 164 [some (Rf 52), some (I x1), some (I x2), some (I x3), some (I x4), some (I x5), d6, d7] [] (hp iv) = aBind (Run sc 158 0 [some (Rf 52), none, none] [] (hp iv)) (fun v h2 => Run sc 163 168 [some (Rf 52), some (I x1), some (I x2), some (I x3), some (I x4), some (I x5), d6, d7] (pushR v []) h2) :=
  (R_aload_n mc_163 dX7_backs_164 rfl).trans <|
  R_invV mc_163 dX7_backs_165 mo_163 ct_7_199 af_163_158 rfl rfl rfl ⟨Nat.le_of_ble_eq_true rfl, Nat.le_of_ble_eq_true rfl⟩
theorem B_X7_backs_168 (sc : Nat × (Nat → Int)) (iv : Nat → Nat → Int) (x1 : Int) (x2 : Int) (x3 : Int) (x4 : Int) (x5 : Int) (d6 : Option AV) (d7 : Option AV) (s0 : Int) : Run sc 163 168 [some (Rf 52), some (I x1), some (I x2), some (I x3), some (I x4), some (I x5), d6, d7] [(I s0)] (hp iv) = some (some (I s0), hp iv) :=
  R_ireturn mc_163 dX7_backs_168 rfl
theorem B_X7_backs_169 (sc : Nat × (Nat → Int)) (iv : Nat → Nat → Int) (x1 : Int) (x2 : Int) (x3 : Int) (x4 : Int) (x5 : Int) (d6 : Option AV) (d7 : Option AV) : Run sc 163 169 [some (Rf 52), some (I x1), some (I x2), some (I x3), some (I x4), some (I x5), d6, d7] [] (hp iv) = some (some (I x2), hp iv) :=
  (R_iload_n mc_163 dX7_backs_169 rfl).trans <|
  R_ireturn mc_163 dX7_backs_170 rfl
theorem B_X7_backs_171 (sc : Nat × (Nat → Int)) (iv : Nat → Nat → Int) (x1 : Int) (x2 : Int) (x3 : Int) (x4 : Int) (x5 : Int) (d6 : Option AV) (d7 : Option AV) : Run sc 163 171 [some (Rf 52), some (I x1), some (I x2), some (I x3), some (I x4), some (I x5), d6, d7] [] (hp iv) = some (some (I x3), hp iv) :=
  (R_iload_n mc_163 dX7_backs_171 rfl).trans <|
  R_ireturn mc_163 dX7_backs_172 rfl
theorem B_X7_backs_173 (sc : Nat × (Nat → Int)) (iv : Nat → Nat → Int) (x1 : Int) (x2 : Int) (x3 : Int) (x4 : Int) (x5 : Int) (d6 : Option AV) (d7 : Option AV) : Run sc 163 173 [some (Rf 52), some (I x1), some (I x2), some (I x3), some (I x4), some (I x5), d6, d7] [] (hp iv) = aBind (Run sc 158 0 [some (Rf 52), none, none] [] (hp iv)) (fun v h2 => Run sc 163 179 [some (Rf 52), some (I x1), some (I x2), some (I x3), some (I x4), some (I x5), d6, d7] (pushR v [(I 20)]) h2) :=
  (R_bipush mc_163 dX7_backs_173 ⟨by decide, by decide⟩).trans <|
  (R_aload_n mc_163 dX7_backs_175 rfl).trans <|
  R_invV mc_163 dX7_backs_176 mo_163 ct_7_199 af_163_158 rfl rfl rfl ⟨Nat.le_of_ble_eq_true rfl, Nat.le_of_ble_eq_true rfl⟩
theorem B_X7_backs_179 (sc : Nat × (Nat → Int)) (iv : Nat → Nat → Int) (x1 : Int) (x2 : Int) (x3 : Int) (x4 : Int) (x5 : Int) (d6 : Option AV) (d7 : Option AV) (s0 : Int) (s1 : Int) : Run sc 163 179 [some (Rf 52), some (I x1), some (I x2), some (I x3), some (I x4), some (I x5), d6, d7] [(I s0), (I s1)] (hp iv) = chk (s1 * s0) (chk (2 * (iv 52 3)) (chk ((2 * (iv 52 3)) * x3) (chk ((s1 * s0) + ((2 * (iv 52 3)) * x3)) (some (some (I ((s1 * s0) + ((2 * (iv 52 3)) * x3))), hp iv))))) :=
  (R_imul mc_163 dX7_backs_179).trans <| chk_congr <|
  (R_iconst mc_163 dX7_backs_180 ⟨by decide, by decide⟩).trans <|
  (R_aload_n mc_163 dX7_backs_181 rfl).trans <|
  (R_getI mc_163 dX7_backs_182 mo_163 ft_7_13 rfl rfl).trans <|
  (R_imul mc_163 dX7_backs_185).trans <| chk_congr <|
  (R_iload_n mc_163 dX7_backs_186 rfl).trans <|
  (R_imul mc_163 dX7_backs_187).trans <| chk_congr <|
  (R_iadd mc_163 dX7_backs_188).trans <| chk_congr <|
  R_ireturn mc_163 dX7_backs_189 rfl
theorem B_X7_backs_190 (sc : Nat × (Nat → Int)) (iv : Nat → Nat → Int) (x1 : Int) (x2 : Int) (x3 : Int) (x4 : Int) (x5 : Int) (d6 : Option AV) (d7 : Option AV) : Run sc 163 190 [some (Rf 52), some (I x1), some (I x2), some (I x3), some (I x4), some (I x5), d6, d7] [] (hp iv) = some (some (I x4), hp iv) :=
  (R_iload mc_163 dX7_backs_190 rfl).trans <|
  R_ireturn mc_163 dX7_backs_192 rfl
theorem B_X7_backs_193 (sc : Nat × (Nat → Int)) (iv : Nat → Nat → Int) (x1 : Int) (x2 : Int) (x3 : Int) (x4 : Int) (x5 : Int) (d6 : Option AV) (d7 : Option AV) : Run sc 163 193 [some (Rf 52), some (I x1), some (I x2), some (I x3), some (I x4), some (I x5), d6, d7] [] (hp iv) = some (some (I (-2)), hp iv) :=
  (R_bipush mc_163 dX7_backs_193 ⟨by decide, by decide⟩).trans <|
  R_ireturn mc_163 dX7_backs_195 rfl
theorem B_X7_beside_0 (sc : Nat × (Nat → Int)) (iv : Nat → Nat → Int) (x1 : Int) (x2 : Int) : Run sc 164 0 [some (Rf 52), some (I x1), some (I x2), none] [] (hp iv) = Run sc 164 2 [some (Rf 52), some (I x1), some (I x2), some (I 1)] [] (hp iv) :=
  (R_iconst mc_164 dX7_beside_0 ⟨by decide, by decide⟩).trans <|
  R_istore_n mc_164 dX7_beside_1 (Nat.le_of_ble_eq_true rfl)
theorem B_X7_beside_2 (sc : Nat × (Nat → Int)) (iv : Nat → Nat → Int) (x1 : Int) (x2 : Int) (x3 : Int) : Run sc 164 2 [some (Rf 52), some (I x1), some (I x2), some (I x3)] [] (hp iv) = chk (x3 - 1) (chk (x1 - (iv 52 6)) (chk ((x3 - 1) * (x1 - (iv 52 6))) (chk (((x3 - 1) * (x1 - (iv 52 6))) + x1) (if (((x3 - 1) * (x1 - (iv 52 6))) + x1) < x2 then chk (x3 + 1) (Run sc 164 2 [some (Rf 52), some (I x1), some (I x2), some (I (x3 + 1))] [] (hp iv)) else Run sc 164 24 [some (Rf 52), some (I x1), some (I x2), some (I x3)] [] (hp iv))))) :=
  (R_iload_n mc_164 dX7_beside_2 rfl).trans <|
  (R_iconst mc_164 dX7_beside_3 ⟨by decide, by decide⟩).trans <|
  (R_isub mc_164 dX7_beside_4).trans <| chk_congr <|
  (R_iload_n mc_164 dX7_beside_5 rfl).trans <|
  (R_aload_n mc_164 dX7_beside_6 rfl).trans <|
  (R_getI mc_164 dX7_beside_7 mo_164 ft_7_22 rfl rfl).trans <|
  (R_isub mc_164 dX7_beside_10).trans <| chk_congr <|
  (R_imul mc_164 dX7_beside_11).trans <| chk_congr <|
  (R_iload_n mc_164 dX7_beside_12 rfl).trans <|
  (R_iadd mc_164 dX7_beside_13).trans <| chk_congr <|
  (R_iload_n mc_164 dX7_beside_14 rfl).trans <|
  (R_icmp_ge mc_164 dX7_beside_15 (t := 24) rfl).trans <| ite_c2
  ((R_iinc mc_164 dX7_beside_18 rfl).trans <| chk_congr <|
  R_goto mc_164 dX7_beside_21 (t := 2) rfl)
  (rfl)
theorem B_X7_beside_24 (sc : Nat × (Nat → Int)) (iv : Nat → Nat → Int) (x1 : Int) (x2 : Int) (x3 : Int) : Run sc 164 24 [some (Rf 52), some (I x1), some (I x2), some (I x3)] [] (hp iv) = some (some (I x3), hp iv) :=
  (R_iload_n mc_164 dX7_beside_24 rfl).trans <|
  R_ireturn mc_164 dX7_beside_25 rfl
theorem B_X7_first_0 (sc : Nat × (Nat → Int)) (iv : Nat → Nat → Int) (x1 : Int) (x2 : Int) : Run sc 165 0 [some (Rf 52), some (I x1), some (I x2), none] [] (hp iv) = Run sc 165 2 [some (Rf 52), some (I x1), some (I x2), some (I 0)] [] (hp iv) :=
  (R_iconst mc_165 dX7_first_0 ⟨by decide, by decide⟩).trans <|
  R_istore_n mc_165 dX7_first_1 (Nat.le_of_ble_eq_true rfl)
theorem B_X7_first_2 (sc : Nat × (Nat → Int)) (iv : Nat → Nat → Int) (x1 : Int) (x2 : Int) (x3 : Int) : Run sc 165 2 [some (Rf 52), some (I x1), some (I x2), some (I x3)] [] (hp iv) = chk (x1 - (iv 52 6)) (chk (x3 * (x1 - (iv 52 6))) (chk ((x3 * (x1 - (iv 52 6))) + x1) (if x2 < ((x3 * (x1 - (iv 52 6))) + x1) then Run sc 165 22 [some (Rf 52), some (I x1), some (I x2), some (I x3)] [] (hp iv) else chk (x3 + 1) (Run sc 165 2 [some (Rf 52), some (I x1), some (I x2), some (I (x3 + 1))] [] (hp iv))))) :=
  (R_iload_n mc_165 dX7_first_2 rfl).trans <|
  (R_iload_n mc_165 dX7_first_3 rfl).trans <|
  (R_aload_n mc_165 dX7_first_4 rfl).trans <|
  (R_getI mc_165 dX7_first_5 mo_165 ft_7_22 rfl rfl).trans <|
  (R_isub mc_165 dX7_first_8).trans <| chk_congr <|
  (R_imul mc_165 dX7_first_9).trans <| chk_congr <|
  (R_iload_n mc_165 dX7_first_10 rfl).trans <|
  (R_iadd mc_165 dX7_first_11).trans <| chk_congr <|
  (R_iload_n mc_165 dX7_first_12 rfl).trans <|
  (R_icmp_gt mc_165 dX7_first_13 (t := 22) rfl).trans <| ite_c2
  (rfl)
  ((R_iinc mc_165 dX7_first_16 rfl).trans <| chk_congr <|
  R_goto mc_165 dX7_first_19 (t := 2) rfl)
theorem B_X7_first_22 (sc : Nat × (Nat → Int)) (iv : Nat → Nat → Int) (x1 : Int) (x2 : Int) (x3 : Int) : Run sc 165 22 [some (Rf 52), some (I x1), some (I x2), some (I x3)] [] (hp iv) = some (some (I x3), hp iv) :=
  (R_iload_n mc_165 dX7_first_22 rfl).trans <|
  R_ireturn mc_165 dX7_first_23 rfl
theorem B_X7_owner_0 (sc : Nat × (Nat → Int)) (iv : Nat → Nat → Int) (x1 : Int) (x2 : Int) : Run sc 166 0 [some (Rf 52), some (I x1), some (I x2)] [] (hp iv) = aBind (Run sc 165 0 [some (Rf 52), some (I (iv 52 5)), some (I x2), none] [] (hp iv)) (fun v h2 => Run sc 166 9 [some (Rf 52), some (I x1), some (I x2)] (pushR v []) h2) :=
  (R_aload_n mc_166 dX7_owner_0 rfl).trans <|
  (R_aload_n mc_166 dX7_owner_1 rfl).trans <|
  (R_getI mc_166 dX7_owner_2 mo_166 ft_7_19 rfl rfl).trans <|
  (R_iload_n mc_166 dX7_owner_5 rfl).trans <|
  R_invV mc_166 dX7_owner_6 mo_166 ct_7_215 af_166_165 rfl rfl rfl ⟨Nat.le_of_ble_eq_true rfl, Nat.le_of_ble_eq_true rfl⟩
theorem B_X7_owner_9 (sc : Nat × (Nat → Int)) (iv : Nat → Nat → Int) (x1 : Int) (x2 : Int) (s0 : Int) : Run sc 166 9 [some (Rf 52), some (I x1), some (I x2)] [(I s0)] (hp iv) = aBind (Run sc 164 0 [some (Rf 52), some (I (iv 52 4)), some (I (iv 52 0)), none] [] (hp iv)) (fun v h2 => Run sc 166 21 [some (Rf 52), some (I x1), some (I x2)] (pushR v [(I s0)]) h2) :=
  (R_aload_n mc_166 dX7_owner_9 rfl).trans <|
  (R_aload_n mc_166 dX7_owner_10 rfl).trans <|
  (R_getI mc_166 dX7_owner_11 mo_166 ft_7_16 rfl rfl).trans <|
  (R_aload_n mc_166 dX7_owner_14 rfl).trans <|
  (R_getI mc_166 dX7_owner_15 mo_166 ft_7_71 rfl rfl).trans <|
  R_invV mc_166 dX7_owner_18 mo_166 ct_7_218 af_166_164 rfl rfl rfl ⟨Nat.le_of_ble_eq_true rfl, Nat.le_of_ble_eq_true rfl⟩
theorem B_X7_owner_21 (sc : Nat × (Nat → Int)) (iv : Nat → Nat → Int) (x1 : Int) (x2 : Int) (s0 : Int) (s1 : Int) : Run sc 166 21 [some (Rf 52), some (I x1), some (I x2)] [(I s0), (I s1)] (hp iv) = chk (s1 * s0) (aBind (Run sc 165 0 [some (Rf 52), some (I (iv 52 4)), some (I x1), none] [] (hp iv)) (fun v h2 => Run sc 166 31 [some (Rf 52), some (I x1), some (I x2)] (pushR v [(I (s1 * s0))]) h2)) :=
  (R_imul mc_166 dX7_owner_21).trans <| chk_congr <|
  (R_aload_n mc_166 dX7_owner_22 rfl).trans <|
  (R_aload_n mc_166 dX7_owner_23 rfl).trans <|
  (R_getI mc_166 dX7_owner_24 mo_166 ft_7_16 rfl rfl).trans <|
  (R_iload_n mc_166 dX7_owner_27 rfl).trans <|
  R_invV mc_166 dX7_owner_28 mo_166 ct_7_215 af_166_165 rfl rfl rfl ⟨Nat.le_of_ble_eq_true rfl, Nat.le_of_ble_eq_true rfl⟩
theorem B_X7_owner_31 (sc : Nat × (Nat → Int)) (iv : Nat → Nat → Int) (x1 : Int) (x2 : Int) (s0 : Int) (s1 : Int) : Run sc 166 31 [some (Rf 52), some (I x1), some (I x2)] [(I s0), (I s1)] (hp iv) = chk (s1 + s0) (some (some (I (s1 + s0)), hp iv)) :=
  (R_iadd mc_166 dX7_owner_31).trans <| chk_congr <|
  R_ireturn mc_166 dX7_owner_32 rfl
theorem B_X7_pages_0 (sc : Nat × (Nat → Int)) (iv : Nat → Nat → Int)  : Run sc 167 0 [some (Rf 52)] [] (hp iv) = aBind (Run sc 164 0 [some (Rf 52), some (I (iv 52 4)), some (I (iv 52 0)), none] [] (hp iv)) (fun v h2 => Run sc 167 12 [some (Rf 52)] (pushR v []) h2) :=
  (R_aload_n mc_167 dX7_pages_0 rfl).trans <|
  (R_aload_n mc_167 dX7_pages_1 rfl).trans <|
  (R_getI mc_167 dX7_pages_2 mo_167 ft_7_16 rfl rfl).trans <|
  (R_aload_n mc_167 dX7_pages_5 rfl).trans <|
  (R_getI mc_167 dX7_pages_6 mo_167 ft_7_71 rfl rfl).trans <|
  R_invV mc_167 dX7_pages_9 mo_167 ct_7_218 af_167_164 rfl rfl rfl ⟨Nat.le_of_ble_eq_true rfl, Nat.le_of_ble_eq_true rfl⟩
theorem B_X7_pages_12 (sc : Nat × (Nat → Int)) (iv : Nat → Nat → Int) (s0 : Int) : Run sc 167 12 [some (Rf 52)] [(I s0)] (hp iv) = aBind (Run sc 164 0 [some (Rf 52), some (I (iv 52 5)), some (I (iv 52 1)), none] [] (hp iv)) (fun v h2 => Run sc 167 24 [some (Rf 52)] (pushR v [(I s0)]) h2) :=
  (R_aload_n mc_167 dX7_pages_12 rfl).trans <|
  (R_aload_n mc_167 dX7_pages_13 rfl).trans <|
  (R_getI mc_167 dX7_pages_14 mo_167 ft_7_19 rfl rfl).trans <|
  (R_aload_n mc_167 dX7_pages_17 rfl).trans <|
  (R_getI mc_167 dX7_pages_18 mo_167 ft_7_74 rfl rfl).trans <|
  R_invV mc_167 dX7_pages_21 mo_167 ct_7_218 af_167_164 rfl rfl rfl ⟨Nat.le_of_ble_eq_true rfl, Nat.le_of_ble_eq_true rfl⟩
theorem B_X7_pages_24 (sc : Nat × (Nat → Int)) (iv : Nat → Nat → Int) (s0 : Int) (s1 : Int) : Run sc 167 24 [some (Rf 52)] [(I s0), (I s1)] (hp iv) = chk (s1 * s0) (some (some (I (s1 * s0)), hp iv)) :=
  (R_imul mc_167 dX7_pages_24).trans <| chk_congr <|
  R_ireturn mc_167 dX7_pages_25 rfl
theorem B_X7_setPages_0 (sc : Nat × (Nat → Int)) (iv : Nat → Nat → Int) (x1 : Int) (x2 : Int) (x3 : Int) : Run sc 168 0 [some (Rf 52), some (I x1), some (I x2), some (I x3)] [] (hp iv) = aBind (Run sc 109 0 [some (I x1), some (I 4), some (I 24)] [] (hp iv)) (fun v h2 => Run sc 168 7 [some (Rf 52), some (I x1), some (I x2), some (I x3)] (pushR v []) h2) :=
  (R_iload_n mc_168 dX7_setPages_0 rfl).trans <|
  (R_iconst mc_168 dX7_setPages_1 ⟨by decide, by decide⟩).trans <|
  (R_bipush mc_168 dX7_setPages_2 ⟨by decide, by decide⟩).trans <|
  R_invS mc_168 dX7_setPages_4 mo_168 ct_7_81 (Or.inl rfl) af_168_109 (Nat.le_of_ble_eq_true rfl) rfl rfl ⟨Nat.le_of_ble_eq_true rfl, Nat.le_of_ble_eq_true rfl⟩
theorem B_X7_setPages_7 (sc : Nat × (Nat → Int)) (iv : Nat → Nat → Int) (x1 : Int) (x2 : Int) (x3 : Int) (s0 : Int) : Run sc 168 7 [some (Rf 52), some (I x1), some (I x2), some (I x3)] [(I s0)] (hp iv) = if s0 = 0 then Run sc 168 29 [some (Rf 52), some (I x1), some (I x2), some (I x3)] [] (hp iv) else aBind (Run sc 109 0 [some (I x2), some (I 4), some (I 24)] [] (hp iv)) (fun v h2 => Run sc 168 17 [some (Rf 52), some (I x1), some (I x2), some (I x3)] (pushR v []) h2) :=
  (R_if_eq mc_168 dX7_setPages_7 (t := 29) rfl).trans <| ite_c2
  (rfl)
  ((R_iload_n mc_168 dX7_setPages_10 rfl).trans <|
  (R_iconst mc_168 dX7_setPages_11 ⟨by decide, by decide⟩).trans <|
  (R_bipush mc_168 dX7_setPages_12 ⟨by decide, by decide⟩).trans <|
  R_invS mc_168 dX7_setPages_14 mo_168 ct_7_81 (Or.inl rfl) af_168_109 (Nat.le_of_ble_eq_true rfl) rfl rfl ⟨Nat.le_of_ble_eq_true rfl, Nat.le_of_ble_eq_true rfl⟩)
theorem B_X7_setPages_17 (sc : Nat × (Nat → Int)) (iv : Nat → Nat → Int) (x1 : Int) (x2 : Int) (x3 : Int) (s0 : Int) : Run sc 168 17 [some (Rf 52), some (I x1), some (I x2), some (I x3)] [(I s0)] (hp iv) = if s0 = 0 then Run sc 168 29 [some (Rf 52), some (I x1), some (I x2), some (I x3)] [] (hp iv) else aBind (Run sc 109 0 [some (I x3), some (I 0), some (I 3)] [] (hp iv)) (fun v h2 => Run sc 168 26 [some (Rf 52), some (I x1), some (I x2), some (I x3)] (pushR v []) h2) :=
  (R_if_eq mc_168 dX7_setPages_17 (t := 29) rfl).trans <| ite_c2
  (rfl)
  ((R_iload_n mc_168 dX7_setPages_20 rfl).trans <|
  (R_iconst mc_168 dX7_setPages_21 ⟨by decide, by decide⟩).trans <|
  (R_iconst mc_168 dX7_setPages_22 ⟨by decide, by decide⟩).trans <|
  R_invS mc_168 dX7_setPages_23 mo_168 ct_7_81 (Or.inl rfl) af_168_109 (Nat.le_of_ble_eq_true rfl) rfl rfl ⟨Nat.le_of_ble_eq_true rfl, Nat.le_of_ble_eq_true rfl⟩)
theorem B_X7_setPages_26 (sc : Nat × (Nat → Int)) (iv : Nat → Nat → Int) (x1 : Int) (x2 : Int) (x3 : Int) (s0 : Int) : Run sc 168 26 [some (Rf 52), some (I x1), some (I x2), some (I x3)] [(I s0)] (hp iv) = if s0 = 0 then Run sc 168 29 [some (Rf 52), some (I x1), some (I x2), some (I x3)] [] (hp iv) else Run sc 168 32 [some (Rf 52), some (I x1), some (I x2), some (I x3)] [] (hp iv) :=
  R_if_ne mc_168 dX7_setPages_26 (t := 32) rfl
theorem B_X7_setPages_29 (sc : Nat × (Nat → Int)) (iv : Nat → Nat → Int) (x1 : Int) (x2 : Int) (x3 : Int) : Run sc 168 29 [some (Rf 52), some (I x1), some (I x2), some (I x3)] [] (hp iv) = some (some (I (-2)), hp iv) :=
  (R_bipush mc_168 dX7_setPages_29 ⟨by decide, by decide⟩).trans <|
  R_ireturn mc_168 dX7_setPages_31 rfl
theorem B_X7_setPages_32 (sc : Nat × (Nat → Int)) (iv : Nat → Nat → Int) (x1 : Int) (x2 : Int) (x3 : Int) : Run sc 168 32 [some (Rf 52), some (I x1), some (I x2), some (I x3)] [] (hp iv) = bck (-2147483648) 2147483647 x1 (Run sc 168 37 [some (Rf 52), some (I x1), some (I x2), some (I x3)] [] (hp (setO iv 52 (upI (iv 52) 4 x1)))) :=
  (R_aload_n mc_168 dX7_setPages_32 rfl).trans <|
  (R_iload_n mc_168 dX7_setPages_33 rfl).trans <|
  (R_putI mc_168 dX7_setPages_34 mo_168 ft_7_16 rfl rfl rfl (lo := (-2147483648)) (hi := 2147483647) rfl rfl).trans <| bck_congr <|
  rfl
theorem B_X7_setPages_37 (sc : Nat × (Nat → Int)) (iv : Nat → Nat → Int) (x1 : Int) (x2 : Int) (x3 : Int) : Run sc 168 37 [some (Rf 52), some (I x1), some (I x2), some (I x3)] [] (hp iv) = bck (-2147483648) 2147483647 x2 (Run sc 168 42 [some (Rf 52), some (I x1), some (I x2), some (I x3)] [] (hp (setO iv 52 (upI (iv 52) 5 x2)))) :=
  (R_aload_n mc_168 dX7_setPages_37 rfl).trans <|
  (R_iload_n mc_168 dX7_setPages_38 rfl).trans <|
  (R_putI mc_168 dX7_setPages_39 mo_168 ft_7_19 rfl rfl rfl (lo := (-2147483648)) (hi := 2147483647) rfl rfl).trans <| bck_congr <|
  rfl
theorem B_X7_setPages_42 (sc : Nat × (Nat → Int)) (iv : Nat → Nat → Int) (x1 : Int) (x2 : Int) (x3 : Int) : Run sc 168 42 [some (Rf 52), some (I x1), some (I x2), some (I x3)] [] (hp iv) = bck (-2147483648) 2147483647 x3 (Run sc 168 47 [some (Rf 52), some (I x1), some (I x2), some (I x3)] [] (hp (setO iv 52 (upI (iv 52) 6 x3)))) :=
  (R_aload_n mc_168 dX7_setPages_42 rfl).trans <|
  (R_iload_n mc_168 dX7_setPages_43 rfl).trans <|
  (R_putI mc_168 dX7_setPages_44 mo_168 ft_7_22 rfl rfl rfl (lo := (-2147483648)) (hi := 2147483647) rfl rfl).trans <| bck_congr <|
  rfl
theorem B_X7_setPages_47 (sc : Nat × (Nat → Int)) (iv : Nat → Nat → Int) (x1 : Int) (x2 : Int) (x3 : Int) : Run sc 168 47 [some (Rf 52), some (I x1), some (I x2), some (I x3)] [] (hp iv) = aBind (Run sc 167 0 [some (Rf 52)] [] (hp iv)) (fun v h2 => Run sc 168 51 [some (Rf 52), some (I x1), some (I x2), some (I x3)] (pushR v []) h2) :=
  (R_aload_n mc_168 dX7_setPages_47 rfl).trans <|
  R_invV mc_168 dX7_setPages_48 mo_168 ct_7_221 af_168_167 rfl rfl rfl ⟨Nat.le_of_ble_eq_true rfl, Nat.le_of_ble_eq_true rfl⟩
theorem B_X7_setPages_51 (sc : Nat × (Nat → Int)) (iv : Nat → Nat → Int) (x1 : Int) (x2 : Int) (x3 : Int) (s0 : Int) : Run sc 168 51 [some (Rf 52), some (I x1), some (I x2), some (I x3)] [(I s0)] (hp iv) = some (some (I s0), hp iv) :=
  R_ireturn mc_168 dX7_setPages_51 rfl
theorem B_X7_page_0 (sc : Nat × (Nat → Int)) (iv : Nat → Nat → Int) (x1 : Int) (x2 : Int) : Run sc 169 0 [some (Rf 52), some (I x1), some (I x2), none, none, none, none, none, none, none, none, none] [] (hp iv) = aBind (Run sc 167 0 [some (Rf 52)] [] (hp iv)) (fun v h2 => Run sc 169 6 [some (Rf 52), some (I x1), some (I x2), none, none, none, none, none, none, none, none, none] (pushR v [(I 0), (I x1)]) h2) :=
  (R_iload_n mc_169 dX7_page_0 rfl).trans <|
  (R_iconst mc_169 dX7_page_1 ⟨by decide, by decide⟩).trans <|
  (R_aload_n mc_169 dX7_page_2 rfl).trans <|
  R_invV mc_169 dX7_page_3 mo_169 ct_7_221 af_169_167 rfl rfl rfl ⟨Nat.le_of_ble_eq_true rfl, Nat.le_of_ble_eq_true rfl⟩
theorem B_X7_page_6 (sc : Nat × (Nat → Int)) (iv : Nat → Nat → Int) (x1 : Int) (x2 : Int) (d3 : Option AV) (d4 : Option AV) (d5 : Option AV) (d6 : Option AV) (d7 : Option AV) (d8 : Option AV) (d9 : Option AV) (d10 : Option AV) (d11 : Option AV) (s0 : Int) (s1 : Int) (s2 : Int) : Run sc 169 6 [some (Rf 52), some (I x1), some (I x2), d3, d4, d5, d6, d7, d8, d9, d10, d11] [(I s0), (I s1), (I s2)] (hp iv) = chk (s0 - 1) (aBind (Run sc 109 0 [some (I s2), some (I s1), some (I (s0 - 1))] [] (hp iv)) (fun v h2 => Run sc 169 11 [some (Rf 52), some (I x1), some (I x2), d3, d4, d5, d6, d7, d8, d9, d10, d11] (pushR v []) h2)) :=
  (R_iconst mc_169 dX7_page_6 ⟨by decide, by decide⟩).trans <|
  (R_isub mc_169 dX7_page_7).trans <| chk_congr <|
  R_invS mc_169 dX7_page_8 mo_169 ct_7_81 (Or.inl rfl) af_169_109 (Nat.le_of_ble_eq_true rfl) rfl rfl ⟨Nat.le_of_ble_eq_true rfl, Nat.le_of_ble_eq_true rfl⟩
theorem B_X7_page_11 (sc : Nat × (Nat → Int)) (iv : Nat → Nat → Int) (x1 : Int) (x2 : Int) (d3 : Option AV) (d4 : Option AV) (d5 : Option AV) (d6 : Option AV) (d7 : Option AV) (d8 : Option AV) (d9 : Option AV) (d10 : Option AV) (d11 : Option AV) (s0 : Int) : Run sc 169 11 [some (Rf 52), some (I x1), some (I x2), d3, d4, d5, d6, d7, d8, d9, d10, d11] [(I s0)] (hp iv) = if s0 = 0 then some (some (I (-1)), hp iv) else Run sc 169 16 [some (Rf 52), some (I x1), some (I x2), d3, d4, d5, d6, d7, d8, d9, d10, d11] [] (hp iv) :=
  (R_if_ne mc_169 dX7_page_11 (t := 16) rfl).trans <| ite_c2
  ((R_iconst mc_169 dX7_page_14 ⟨by decide, by decide⟩).trans <|
  R_ireturn mc_169 dX7_page_15 rfl)
  (rfl)
theorem B_X7_page_16 (sc : Nat × (Nat → Int)) (iv : Nat → Nat → Int) (x1 : Int) (x2 : Int) (d3 : Option AV) (d4 : Option AV) (d5 : Option AV) (d6 : Option AV) (d7 : Option AV) (d8 : Option AV) (d9 : Option AV) (d10 : Option AV) (d11 : Option AV) : Run sc 169 16 [some (Rf 52), some (I x1), some (I x2), d3, d4, d5, d6, d7, d8, d9, d10, d11] [] (hp iv) = aBind (Run sc 164 0 [some (Rf 52), some (I (iv 52 4)), some (I (iv 52 0)), none] [] (hp iv)) (fun v h2 => Run sc 169 29 [some (Rf 52), some (I x1), some (I x2), d3, d4, d5, d6, d7, d8, d9, d10, d11] (pushR v [(I x1)]) h2) :=
  (R_iload_n mc_169 dX7_page_16 rfl).trans <|
  (R_aload_n mc_169 dX7_page_17 rfl).trans <|
  (R_aload_n mc_169 dX7_page_18 rfl).trans <|
  (R_getI mc_169 dX7_page_19 mo_169 ft_7_16 rfl rfl).trans <|
  (R_aload_n mc_169 dX7_page_22 rfl).trans <|
  (R_getI mc_169 dX7_page_23 mo_169 ft_7_71 rfl rfl).trans <|
  R_invV mc_169 dX7_page_26 mo_169 ct_7_218 af_169_164 rfl rfl rfl ⟨Nat.le_of_ble_eq_true rfl, Nat.le_of_ble_eq_true rfl⟩
theorem B_X7_page_29 (sc : Nat × (Nat → Int)) (iv : Nat → Nat → Int) (x1 : Int) (x2 : Int) (d3 : Option AV) (d4 : Option AV) (d5 : Option AV) (d6 : Option AV) (d7 : Option AV) (d8 : Option AV) (d9 : Option AV) (d10 : Option AV) (d11 : Option AV) (s0 : Int) (s1 : Int) : Run sc 169 29 [some (Rf 52), some (I x1), some (I x2), d3, d4, d5, d6, d7, d8, d9, d10, d11] [(I s0), (I s1)] (hp iv) = bck 1 2147483647 s0 (bck 0 2147483647 s1 (chk ((iv 52 4) - (iv 52 6)) (chk ((s1 % s0) * ((iv 52 4) - (iv 52 6))) (aBind (Run sc 164 0 [some (Rf 52), some (I (iv 52 4)), some (I (iv 52 0)), none] [] (hp iv)) (fun v h2 => Run sc 169 54 [some (Rf 52), some (I x1), some (I x2), some (I ((s1 % s0) * ((iv 52 4) - (iv 52 6)))), d4, d5, d6, d7, d8, d9, d10, d11] (pushR v [(I x1)]) h2))))) :=
  (R_irem mc_169 dX7_page_29).trans <| bck_congr <| bck_congr <|
  (R_aload_n mc_169 dX7_page_30 rfl).trans <|
  (R_getI mc_169 dX7_page_31 mo_169 ft_7_16 rfl rfl).trans <|
  (R_aload_n mc_169 dX7_page_34 rfl).trans <|
  (R_getI mc_169 dX7_page_35 mo_169 ft_7_22 rfl rfl).trans <|
  (R_isub mc_169 dX7_page_38).trans <| chk_congr <|
  (R_imul mc_169 dX7_page_39).trans <| chk_congr <|
  (R_istore_n mc_169 dX7_page_40 (Nat.le_of_ble_eq_true rfl)).trans <|
  (R_iload_n mc_169 dX7_page_41 rfl).trans <|
  (R_aload_n mc_169 dX7_page_42 rfl).trans <|
  (R_aload_n mc_169 dX7_page_43 rfl).trans <|
  (R_getI mc_169 dX7_page_44 mo_169 ft_7_16 rfl rfl).trans <|
  (R_aload_n mc_169 dX7_page_47 rfl).trans <|
  (R_getI mc_169 dX7_page_48 mo_169 ft_7_71 rfl rfl).trans <|
  R_invV mc_169 dX7_page_51 mo_169 ct_7_218 af_169_164 rfl rfl rfl ⟨Nat.le_of_ble_eq_true rfl, Nat.le_of_ble_eq_true rfl⟩
theorem B_X7_page_54 (sc : Nat × (Nat → Int)) (iv : Nat → Nat → Int) (x1 : Int) (x2 : Int) (x3 : Int) (d4 : Option AV) (d5 : Option AV) (d6 : Option AV) (d7 : Option AV) (d8 : Option AV) (d9 : Option AV) (d10 : Option AV) (d11 : Option AV) (s0 : Int) (s1 : Int) : Run sc 169 54 [some (Rf 52), some (I x1), some (I x2), some (I x3), d4, d5, d6, d7, d8, d9, d10, d11] [(I s0), (I s1)] (hp iv) = bck 1 2147483647 s0 (bck 0 2147483647 s1 (chk ((iv 52 5) - (iv 52 6)) (chk ((s1 / s0) * ((iv 52 5) - (iv 52 6))) (chk ((iv 52 0) - x3) (if (iv 52 4) < ((iv 52 0) - x3) then Run sc 169 93 [some (Rf 52), some (I x1), some (I x2), some (I x3), some (I ((s1 / s0) * ((iv 52 5) - (iv 52 6)))), d5, d6, d7, d8, d9, d10, d11] [(I (iv 52 4))] (hp iv) else Run sc 169 87 [some (Rf 52), some (I x1), some (I x2), some (I x3), some (I ((s1 / s0) * ((iv 52 5) - (iv 52 6)))), d5, d6, d7, d8, d9, d10, d11] [] (hp iv)))))) :=
  (R_idiv mc_169 dX7_page_54).trans <| bck_congr <| bck_congr <|
  (R_aload_n mc_169 dX7_page_55 rfl).trans <|
  (R_getI mc_169 dX7_page_56 mo_169 ft_7_19 rfl rfl).trans <|
  (R_aload_n mc_169 dX7_page_59 rfl).trans <|
  (R_getI mc_169 dX7_page_60 mo_169 ft_7_22 rfl rfl).trans <|
  (R_isub mc_169 dX7_page_63).trans <| chk_congr <|
  (R_imul mc_169 dX7_page_64).trans <| chk_congr <|
  (R_istore mc_169 dX7_page_65 (Nat.le_of_ble_eq_true rfl)).trans <|
  (R_aload_n mc_169 dX7_page_67 rfl).trans <|
  (R_getI mc_169 dX7_page_68 mo_169 ft_7_16 rfl rfl).trans <|
  (R_aload_n mc_169 dX7_page_71 rfl).trans <|
  (R_getI mc_169 dX7_page_72 mo_169 ft_7_71 rfl rfl).trans <|
  (R_iload_n mc_169 dX7_page_75 rfl).trans <|
  (R_isub mc_169 dX7_page_76).trans <| chk_congr <|
  (R_icmp_ge mc_169 dX7_page_77 (t := 87) rfl).trans <| ite_c2
  ((R_aload_n mc_169 dX7_page_80 rfl).trans <|
  (R_getI mc_169 dX7_page_81 mo_169 ft_7_16 rfl rfl).trans <|
  R_goto mc_169 dX7_page_84 (t := 93) rfl)
  (rfl)
theorem B_X7_page_87 (sc : Nat × (Nat → Int)) (iv : Nat → Nat → Int) (x1 : Int) (x2 : Int) (x3 : Int) (x4 : Int) (d5 : Option AV) (d6 : Option AV) (d7 : Option AV) (d8 : Option AV) (d9 : Option AV) (d10 : Option AV) (d11 : Option AV) : Run sc 169 87 [some (Rf 52), some (I x1), some (I x2), some (I x3), some (I x4), d5, d6, d7, d8, d9, d10, d11] [] (hp iv) = chk ((iv 52 0) - x3) (Run sc 169 93 [some (Rf 52), some (I x1), some (I x2), some (I x3), some (I x4), d5, d6, d7, d8, d9, d10, d11] [(I ((iv 52 0) - x3))] (hp iv)) :=
  (R_aload_n mc_169 dX7_page_87 rfl).trans <|
  (R_getI mc_169 dX7_page_88 mo_169 ft_7_71 rfl rfl).trans <|
  (R_iload_n mc_169 dX7_page_91 rfl).trans <|
  (R_isub mc_169 dX7_page_92).trans <| chk_congr <|
  rfl
theorem B_X7_page_93 (sc : Nat × (Nat → Int)) (iv : Nat → Nat → Int) (x1 : Int) (x2 : Int) (x3 : Int) (x4 : Int) (d5 : Option AV) (d6 : Option AV) (d7 : Option AV) (d8 : Option AV) (d9 : Option AV) (d10 : Option AV) (d11 : Option AV) (s0 : Int) : Run sc 169 93 [some (Rf 52), some (I x1), some (I x2), some (I x3), some (I x4), d5, d6, d7, d8, d9, d10, d11] [(I s0)] (hp iv) = chk ((iv 52 1) - x4) (if (iv 52 5) < ((iv 52 1) - x4) then Run sc 169 123 [some (Rf 52), some (I x1), some (I x2), some (I x3), some (I x4), some (I s0), d6, d7, d8, d9, d10, d11] [(I (iv 52 5))] (hp iv) else Run sc 169 116 [some (Rf 52), some (I x1), some (I x2), some (I x3), some (I x4), some (I s0), d6, d7, d8, d9, d10, d11] [] (hp iv)) :=
  (R_istore mc_169 dX7_page_93 (Nat.le_of_ble_eq_true rfl)).trans <|
  (R_aload_n mc_169 dX7_page_95 rfl).trans <|
  (R_getI mc_169 dX7_page_96 mo_169 ft_7_19 rfl rfl).trans <|
  (R_aload_n mc_169 dX7_page_99 rfl).trans <|
  (R_getI mc_169 dX7_page_100 mo_169 ft_7_74 rfl rfl).trans <|
  (R_iload mc_169 dX7_page_103 rfl).trans <|
  (R_isub mc_169 dX7_page_105).trans <| chk_congr <|
  (R_icmp_ge mc_169 dX7_page_106 (t := 116) rfl).trans <| ite_c2
  ((R_aload_n mc_169 dX7_page_109 rfl).trans <|
  (R_getI mc_169 dX7_page_110 mo_169 ft_7_19 rfl rfl).trans <|
  R_goto mc_169 dX7_page_113 (t := 123) rfl)
  (rfl)
theorem B_X7_page_116 (sc : Nat × (Nat → Int)) (iv : Nat → Nat → Int) (x1 : Int) (x2 : Int) (x3 : Int) (x4 : Int) (x5 : Int) (d6 : Option AV) (d7 : Option AV) (d8 : Option AV) (d9 : Option AV) (d10 : Option AV) (d11 : Option AV) : Run sc 169 116 [some (Rf 52), some (I x1), some (I x2), some (I x3), some (I x4), some (I x5), d6, d7, d8, d9, d10, d11] [] (hp iv) = chk ((iv 52 1) - x4) (Run sc 169 123 [some (Rf 52), some (I x1), some (I x2), some (I x3), some (I x4), some (I x5), d6, d7, d8, d9, d10, d11] [(I ((iv 52 1) - x4))] (hp iv)) :=
  (R_aload_n mc_169 dX7_page_116 rfl).trans <|
  (R_getI mc_169 dX7_page_117 mo_169 ft_7_74 rfl rfl).trans <|
  (R_iload mc_169 dX7_page_120 rfl).trans <|
  (R_isub mc_169 dX7_page_122).trans <| chk_congr <|
  rfl
theorem B_X7_page_123 (sc : Nat × (Nat → Int)) (iv : Nat → Nat → Int) (x1 : Int) (x2 : Int) (x3 : Int) (x4 : Int) (x5 : Int) (d6 : Option AV) (d7 : Option AV) (d8 : Option AV) (d9 : Option AV) (d10 : Option AV) (d11 : Option AV) (s0 : Int) : Run sc 169 123 [some (Rf 52), some (I x1), some (I x2), some (I x3), some (I x4), some (I x5), d6, d7, d8, d9, d10, d11] [(I s0)] (hp iv) = Run sc 169 135 [some (Rf 52), some (I x1), some (I x2), some (I x3), some (I x4), some (I x5), some (I s0), some (I 0), some (I 0), some (I x4), d10, d11] [] (hp iv) :=
  (R_istore mc_169 dX7_page_123 (Nat.le_of_ble_eq_true rfl)).trans <|
  (R_iconst mc_169 dX7_page_125 ⟨by decide, by decide⟩).trans <|
  (R_istore mc_169 dX7_page_126 (Nat.le_of_ble_eq_true rfl)).trans <|
  (R_iconst mc_169 dX7_page_128 ⟨by decide, by decide⟩).trans <|
  (R_istore mc_169 dX7_page_129 (Nat.le_of_ble_eq_true rfl)).trans <|
  (R_iload mc_169 dX7_page_131 rfl).trans <|
  R_istore mc_169 dX7_page_133 (Nat.le_of_ble_eq_true rfl)
theorem B_X7_page_135 (sc : Nat × (Nat → Int)) (iv : Nat → Nat → Int) (x1 : Int) (x2 : Int) (x3 : Int) (x4 : Int) (x5 : Int) (x6 : Int) (x7 : Int) (x8 : Int) (x9 : Int) (d10 : Option AV) (d11 : Option AV) : Run sc 169 135 [some (Rf 52), some (I x1), some (I x2), some (I x3), some (I x4), some (I x5), some (I x6), some (I x7), some (I x8), some (I x9), d10, d11] [] (hp iv) = chk (x4 + x6) (if x9 < (x4 + x6) then Run sc 169 148 [some (Rf 52), some (I x1), some (I x2), some (I x3), some (I x4), some (I x5), some (I x6), some (I x7), some (I x8), some (I x9), some (I x3), d11] [] (hp iv) else Run sc 169 229 [some (Rf 52), some (I x1), some (I x2), some (I x3), some (I x4), some (I x5), some (I x6), some (I x7), some (I x8), some (I x9), d10, d11] [] (hp iv)) :=
  (R_iload mc_169 dX7_page_135 rfl).trans <|
  (R_iload mc_169 dX7_page_137 rfl).trans <|
  (R_iload mc_169 dX7_page_139 rfl).trans <|
  (R_iadd mc_169 dX7_page_141).trans <| chk_congr <|
  (R_icmp_ge mc_169 dX7_page_142 (t := 229) rfl).trans <| ite_c2
  ((R_iload_n mc_169 dX7_page_145 rfl).trans <|
  R_istore mc_169 dX7_page_146 (Nat.le_of_ble_eq_true rfl))
  (rfl)
theorem B_X7_page_148 (sc : Nat × (Nat → Int)) (iv : Nat → Nat → Int) (x1 : Int) (x2 : Int) (x3 : Int) (x4 : Int) (x5 : Int) (x6 : Int) (x7 : Int) (x8 : Int) (x9 : Int) (x10 : Int) (d11 : Option AV) : Run sc 169 148 [some (Rf 52), some (I x1), some (I x2), some (I x3), some (I x4), some (I x5), some (I x6), some (I x7), some (I x8), some (I x9), some (I x10), d11] [] (hp iv) = chk (x3 + x5) (if x10 < (x3 + x5) then aBind (Run sc 166 0 [some (Rf 52), some (I x10), some (I x9)] [] (hp iv)) (fun v h2 => Run sc 169 165 [some (Rf 52), some (I x1), some (I x2), some (I x3), some (I x4), some (I x5), some (I x6), some (I x7), some (I x8), some (I x9), some (I x10), d11] (pushR v []) h2) else Run sc 169 223 [some (Rf 52), some (I x1), some (I x2), some (I x3), some (I x4), some (I x5), some (I x6), some (I x7), some (I x8), some (I x9), some (I x10), d11] [] (hp iv)) :=
  (R_iload mc_169 dX7_page_148 rfl).trans <|
  (R_iload_n mc_169 dX7_page_150 rfl).trans <|
  (R_iload mc_169 dX7_page_151 rfl).trans <|
  (R_iadd mc_169 dX7_page_153).trans <| chk_congr <|
  (R_icmp_ge mc_169 dX7_page_154 (t := 223) rfl).trans <| ite_c2
  ((R_aload_n mc_169 dX7_page_157 rfl).trans <|
  (R_iload mc_169 dX7_page_158 rfl).trans <|
  (R_iload mc_169 dX7_page_160 rfl).trans <|
  R_invV mc_169 dX7_page_162 mo_169 ct_7_224 af_169_166 rfl rfl rfl ⟨Nat.le_of_ble_eq_true rfl, Nat.le_of_ble_eq_true rfl⟩)
  (rfl)
theorem B_X7_page_165 (sc : Nat × (Nat → Int)) (iv : Nat → Nat → Int) (x1 : Int) (x2 : Int) (x3 : Int) (x4 : Int) (x5 : Int) (x6 : Int) (x7 : Int) (x8 : Int) (x9 : Int) (x10 : Int) (d11 : Option AV) (s0 : Int) : Run sc 169 165 [some (Rf 52), some (I x1), some (I x2), some (I x3), some (I x4), some (I x5), some (I x6), some (I x7), some (I x8), some (I x9), some (I x10), d11] [(I s0)] (hp iv) = if s0 = x1 then Run sc 169 174 [some (Rf 52), some (I x1), some (I x2), some (I x3), some (I x4), some (I x5), some (I x6), some (I x7), some (I x8), some (I x9), some (I x10), d11] [(I 1)] (hp iv) else Run sc 169 173 [some (Rf 52), some (I x1), some (I x2), some (I x3), some (I x4), some (I x5), some (I x6), some (I x7), some (I x8), some (I x9), some (I x10), d11] [] (hp iv) :=
  (R_iload_n mc_169 dX7_page_165 rfl).trans <|
  (R_icmp_ne mc_169 dX7_page_166 (t := 173) rfl).trans <| ite_c2
  ((R_iconst mc_169 dX7_page_169 ⟨by decide, by decide⟩).trans <|
  R_goto mc_169 dX7_page_170 (t := 174) rfl)
  (rfl)
theorem B_X7_page_173 (sc : Nat × (Nat → Int)) (iv : Nat → Nat → Int) (x1 : Int) (x2 : Int) (x3 : Int) (x4 : Int) (x5 : Int) (x6 : Int) (x7 : Int) (x8 : Int) (x9 : Int) (x10 : Int) (d11 : Option AV) : Run sc 169 173 [some (Rf 52), some (I x1), some (I x2), some (I x3), some (I x4), some (I x5), some (I x6), some (I x7), some (I x8), some (I x9), some (I x10), d11] [] (hp iv) = Run sc 169 174 [some (Rf 52), some (I x1), some (I x2), some (I x3), some (I x4), some (I x5), some (I x6), some (I x7), some (I x8), some (I x9), some (I x10), d11] [(I 0)] (hp iv) :=
  R_iconst mc_169 dX7_page_173 ⟨by decide, by decide⟩
theorem B_X7_page_174 (sc : Nat × (Nat → Int)) (iv : Nat → Nat → Int) (x1 : Int) (x2 : Int) (x3 : Int) (x4 : Int) (x5 : Int) (x6 : Int) (x7 : Int) (x8 : Int) (x9 : Int) (x10 : Int) (d11 : Option AV) (s0 : Int) : Run sc 169 174 [some (Rf 52), some (I x1), some (I x2), some (I x3), some (I x4), some (I x5), some (I x6), some (I x7), some (I x8), some (I x9), some (I x10), d11] [(I s0)] (hp iv) = if s0 = 0 then Run sc 169 187 [some (Rf 52), some (I x1), some (I x2), some (I x3), some (I x4), some (I x5), some (I x6), some (I x7), some (I x8), some (I x9), some (I x10), some (I s0)] [(I x7)] (hp iv) else Run sc 169 188 [some (Rf 52), some (I x1), some (I x2), some (I x3), some (I x4), some (I x5), some (I x6), some (I x7), some (I x8), some (I x9), some (I x10), some (I s0)] [(I 1), (I x7)] (hp iv) :=
  (R_istore mc_169 dX7_page_174 (Nat.le_of_ble_eq_true rfl)).trans <|
  (R_iload mc_169 dX7_page_176 rfl).trans <|
  (R_iload mc_169 dX7_page_178 rfl).trans <|
  (R_if_eq mc_169 dX7_page_180 (t := 187) rfl).trans <| ite_c2
  (rfl)
  ((R_iconst mc_169 dX7_page_183 ⟨by decide, by decide⟩).trans <|
  R_goto mc_169 dX7_page_184 (t := 188) rfl)
theorem B_X7_page_187 (sc : Nat × (Nat → Int)) (iv : Nat → Nat → Int) (x1 : Int) (x2 : Int) (x3 : Int) (x4 : Int) (x5 : Int) (x6 : Int) (x7 : Int) (x8 : Int) (x9 : Int) (x10 : Int) (x11 : Int) (s0 : Int) : Run sc 169 187 [some (Rf 52), some (I x1), some (I x2), some (I x3), some (I x4), some (I x5), some (I x6), some (I x7), some (I x8), some (I x9), some (I x10), some (I x11)] [(I s0)] (hp iv) = Run sc 169 188 [some (Rf 52), some (I x1), some (I x2), some (I x3), some (I x4), some (I x5), some (I x6), some (I x7), some (I x8), some (I x9), some (I x10), some (I x11)] [(I 0), (I s0)] (hp iv) :=
  R_iconst mc_169 dX7_page_187 ⟨by decide, by decide⟩
theorem B_X7_page_188 (sc : Nat × (Nat → Int)) (iv : Nat → Nat → Int) (x1 : Int) (x2 : Int) (x3 : Int) (x4 : Int) (x5 : Int) (x6 : Int) (x7 : Int) (x8 : Int) (x9 : Int) (x10 : Int) (x11 : Int) (s0 : Int) (s1 : Int) : Run sc 169 188 [some (Rf 52), some (I x1), some (I x2), some (I x3), some (I x4), some (I x5), some (I x6), some (I x7), some (I x8), some (I x9), some (I x10), some (I x11)] [(I s0), (I s1)] (hp iv) = chk (s1 + s0) (if x11 = 0 then aBind (Run sc 113 0 [some (Rf 52), some (I x10), some (I x9)] [] (hp iv)) (fun v h2 => Run sc 169 206 [some (Rf 52), some (I x1), some (I x2), some (I x3), some (I x4), some (I x5), some (I x6), some (I (s1 + s0)), some (I x8), some (I x9), some (I x10), some (I x11)] (pushR v [(I x8)]) h2) else Run sc 169 213 [some (Rf 52), some (I x1), some (I x2), some (I x3), some (I x4), some (I x5), some (I x6), some (I (s1 + s0)), some (I x8), some (I x9), some (I x10), some (I x11)] [(I x8)] (hp iv)) :=
  (R_iadd mc_169 dX7_page_188).trans <| chk_congr <|
  (R_istore mc_169 dX7_page_189 (Nat.le_of_ble_eq_true rfl)).trans <|
  (R_iload mc_169 dX7_page_191 rfl).trans <|
  (R_iload mc_169 dX7_page_193 rfl).trans <|
  (R_if_ne mc_169 dX7_page_195 (t := 213) rfl).trans <| ite_c2
  ((R_aload_n mc_169 dX7_page_198 rfl).trans <|
  (R_iload mc_169 dX7_page_199 rfl).trans <|
  (R_iload mc_169 dX7_page_201 rfl).trans <|
  R_invV mc_169 dX7_page_203 mo_169 ct_7_89 af_169_113 rfl rfl rfl ⟨Nat.le_of_ble_eq_true rfl, Nat.le_of_ble_eq_true rfl⟩)
  (rfl)
theorem B_X7_page_206 (sc : Nat × (Nat → Int)) (iv : Nat → Nat → Int) (x1 : Int) (x2 : Int) (x3 : Int) (x4 : Int) (x5 : Int) (x6 : Int) (x7 : Int) (x8 : Int) (x9 : Int) (x10 : Int) (x11 : Int) (s0 : Int) (s1 : Int) : Run sc 169 206 [some (Rf 52), some (I x1), some (I x2), some (I x3), some (I x4), some (I x5), some (I x6), some (I x7), some (I x8), some (I x9), some (I x10), some (I x11)] [(I s0), (I s1)] (hp iv) = if 0 < s0 then Run sc 169 214 [some (Rf 52), some (I x1), some (I x2), some (I x3), some (I x4), some (I x5), some (I x6), some (I x7), some (I x8), some (I x9), some (I x10), some (I x11)] [(I 1), (I s1)] (hp iv) else Run sc 169 213 [some (Rf 52), some (I x1), some (I x2), some (I x3), some (I x4), some (I x5), some (I x6), some (I x7), some (I x8), some (I x9), some (I x10), some (I x11)] [(I s1)] (hp iv) :=
  (R_if_le mc_169 dX7_page_206 (t := 213) rfl).trans <| ite_c2
  ((R_iconst mc_169 dX7_page_209 ⟨by decide, by decide⟩).trans <|
  R_goto mc_169 dX7_page_210 (t := 214) rfl)
  (rfl)
theorem B_X7_page_213 (sc : Nat × (Nat → Int)) (iv : Nat → Nat → Int) (x1 : Int) (x2 : Int) (x3 : Int) (x4 : Int) (x5 : Int) (x6 : Int) (x7 : Int) (x8 : Int) (x9 : Int) (x10 : Int) (x11 : Int) (s0 : Int) : Run sc 169 213 [some (Rf 52), some (I x1), some (I x2), some (I x3), some (I x4), some (I x5), some (I x6), some (I x7), some (I x8), some (I x9), some (I x10), some (I x11)] [(I s0)] (hp iv) = Run sc 169 214 [some (Rf 52), some (I x1), some (I x2), some (I x3), some (I x4), some (I x5), some (I x6), some (I x7), some (I x8), some (I x9), some (I x10), some (I x11)] [(I 0), (I s0)] (hp iv) :=
  R_iconst mc_169 dX7_page_213 ⟨by decide, by decide⟩
theorem B_X7_page_214 (sc : Nat × (Nat → Int)) (iv : Nat → Nat → Int) (x1 : Int) (x2 : Int) (x3 : Int) (x4 : Int) (x5 : Int) (x6 : Int) (x7 : Int) (x8 : Int) (x9 : Int) (x10 : Int) (x11 : Int) (s0 : Int) (s1 : Int) : Run sc 169 214 [some (Rf 52), some (I x1), some (I x2), some (I x3), some (I x4), some (I x5), some (I x6), some (I x7), some (I x8), some (I x9), some (I x10), some (I x11)] [(I s0), (I s1)] (hp iv) = chk (s1 + s0) (chk (x10 + 1) (Run sc 169 148 [some (Rf 52), some (I x1), some (I x2), some (I x3), some (I x4), some (I x5), some (I x6), some (I x7), some (I (s1 + s0)), some (I x9), some (I (x10 + 1)), some (I x11)] [] (hp iv))) :=
  (R_iadd mc_169 dX7_page_214).trans <| chk_congr <|
  (R_istore mc_169 dX7_page_215 (Nat.le_of_ble_eq_true rfl)).trans <|
  (R_iinc mc_169 dX7_page_217 rfl).trans <| chk_congr <|
  R_goto mc_169 dX7_page_220 (t := 148) rfl
theorem B_X7_page_223 (sc : Nat × (Nat → Int)) (iv : Nat → Nat → Int) (x1 : Int) (x2 : Int) (x3 : Int) (x4 : Int) (x5 : Int) (x6 : Int) (x7 : Int) (x8 : Int) (x9 : Int) (x10 : Int) (d11 : Option AV) : Run sc 169 223 [some (Rf 52), some (I x1), some (I x2), some (I x3), some (I x4), some (I x5), some (I x6), some (I x7), some (I x8), some (I x9), some (I x10), d11] [] (hp iv) = chk (x9 + 1) (Run sc 169 135 [some (Rf 52), some (I x1), some (I x2), some (I x3), some (I x4), some (I x5), some (I x6), some (I x7), some (I x8), some (I (x9 + 1)), some (I x10), d11] [] (hp iv)) :=
  (R_iinc mc_169 dX7_page_223 rfl).trans <| chk_congr <|
  R_goto mc_169 dX7_page_226 (t := 135) rfl
theorem B_X7_page_229 (sc : Nat × (Nat → Int)) (iv : Nat → Nat → Int) (x1 : Int) (x2 : Int) (x3 : Int) (x4 : Int) (x5 : Int) (x6 : Int) (x7 : Int) (x8 : Int) (x9 : Int) (d10 : Option AV) (d11 : Option AV) : Run sc 169 229 [some (Rf 52), some (I x1), some (I x2), some (I x3), some (I x4), some (I x5), some (I x6), some (I x7), some (I x8), some (I x9), d10, d11] [] (hp iv) = if x2 = 0 then Run sc 169 268 [some (Rf 52), some (I x1), some (I x2), some (I x3), some (I x4), some (I x5), some (I x6), some (I x7), some (I x8), some (I x9), d10, d11] [] (hp iv) else if x2 = 1 then Run sc 169 270 [some (Rf 52), some (I x1), some (I x2), some (I x3), some (I x4), some (I x5), some (I x6), some (I x7), some (I x8), some (I x9), d10, d11] [] (hp iv) else if x2 = 2 then Run sc 169 273 [some (Rf 52), some (I x1), some (I x2), some (I x3), some (I x4), some (I x5), some (I x6), some (I x7), some (I x8), some (I x9), d10, d11] [] (hp iv) else if x2 = 3 then Run sc 169 276 [some (Rf 52), some (I x1), some (I x2), some (I x3), some (I x4), some (I x5), some (I x6), some (I x7), some (I x8), some (I x9), d10, d11] [] (hp iv) else if x2 = 4 then Run sc 169 279 [some (Rf 52), some (I x1), some (I x2), some (I x3), some (I x4), some (I x5), some (I x6), some (I x7), some (I x8), some (I x9), d10, d11] [] (hp iv) else if x2 = 5 then Run sc 169 282 [some (Rf 52), some (I x1), some (I x2), some (I x3), some (I x4), some (I x5), some (I x6), some (I x7), some (I x8), some (I x9), d10, d11] [] (hp iv) else Run sc 169 285 [some (Rf 52), some (I x1), some (I x2), some (I x3), some (I x4), some (I x5), some (I x6), some (I x7), some (I x8), some (I x9), d10, d11] [] (hp iv) :=
  (R_iload_n mc_169 dX7_page_229 rfl).trans <|
  (by
    by_cases z0 : x2 = 0
    · rw [if_pos z0]; exact R_switchIn mc_169 dX7_page_230 (by omega) (by omega) (by rw [z0]; rfl) (t := 268) rfl
    rw [if_neg z0]
    by_cases z1 : x2 = 1
    · rw [if_pos z1]; exact R_switchIn mc_169 dX7_page_230 (by omega) (by omega) (by rw [z1]; rfl) (t := 270) rfl
    rw [if_neg z1]
    by_cases z2 : x2 = 2
    · rw [if_pos z2]; exact R_switchIn mc_169 dX7_page_230 (by omega) (by omega) (by rw [z2]; rfl) (t := 273) rfl
    rw [if_neg z2]
    by_cases z3 : x2 = 3
    · rw [if_pos z3]; exact R_switchIn mc_169 dX7_page_230 (by omega) (by omega) (by rw [z3]; rfl) (t := 276) rfl
    rw [if_neg z3]
    by_cases z4 : x2 = 4
    · rw [if_pos z4]; exact R_switchIn mc_169 dX7_page_230 (by omega) (by omega) (by rw [z4]; rfl) (t := 279) rfl
    rw [if_neg z4]
    by_cases z5 : x2 = 5
    · rw [if_pos z5]; exact R_switchIn mc_169 dX7_page_230 (by omega) (by omega) (by rw [z5]; rfl) (t := 282) rfl
    rw [if_neg z5]
    exact R_switchOut mc_169 dX7_page_230 (by omega) (t := 285) rfl)
theorem B_X7_page_268 (sc : Nat × (Nat → Int)) (iv : Nat → Nat → Int) (x1 : Int) (x2 : Int) (x3 : Int) (x4 : Int) (x5 : Int) (x6 : Int) (x7 : Int) (x8 : Int) (x9 : Int) (d10 : Option AV) (d11 : Option AV) : Run sc 169 268 [some (Rf 52), some (I x1), some (I x2), some (I x3), some (I x4), some (I x5), some (I x6), some (I x7), some (I x8), some (I x9), d10, d11] [] (hp iv) = some (some (I x3), hp iv) :=
  (R_iload_n mc_169 dX7_page_268 rfl).trans <|
  R_ireturn mc_169 dX7_page_269 rfl
theorem B_X7_page_270 (sc : Nat × (Nat → Int)) (iv : Nat → Nat → Int) (x1 : Int) (x2 : Int) (x3 : Int) (x4 : Int) (x5 : Int) (x6 : Int) (x7 : Int) (x8 : Int) (x9 : Int) (d10 : Option AV) (d11 : Option AV) : Run sc 169 270 [some (Rf 52), some (I x1), some (I x2), some (I x3), some (I x4), some (I x5), some (I x6), some (I x7), some (I x8), some (I x9), d10, d11] [] (hp iv) = some (some (I x4), hp iv) :=
  (R_iload mc_169 dX7_page_270 rfl).trans <|
  R_ireturn mc_169 dX7_page_272 rfl
theorem B_X7_page_273 (sc : Nat × (Nat → Int)) (iv : Nat → Nat → Int) (x1 : Int) (x2 : Int) (x3 : Int) (x4 : Int) (x5 : Int) (x6 : Int) (x7 : Int) (x8 : Int) (x9 : Int) (d10 : Option AV) (d11 : Option AV) : Run sc 169 273 [some (Rf 52), some (I x1), some (I x2), some (I x3), some (I x4), some (I x5), some (I x6), some (I x7), some (I x8), some (I x9), d10, d11] [] (hp iv) = some (some (I x5), hp iv) :=
  (R_iload mc_169 dX7_page_273 rfl).trans <|
  R_ireturn mc_169 dX7_page_275 rfl
theorem B_X7_page_276 (sc : Nat × (Nat → Int)) (iv : Nat → Nat → Int) (x1 : Int) (x2 : Int) (x3 : Int) (x4 : Int) (x5 : Int) (x6 : Int) (x7 : Int) (x8 : Int) (x9 : Int) (d10 : Option AV) (d11 : Option AV) : Run sc 169 276 [some (Rf 52), some (I x1), some (I x2), some (I x3), some (I x4), some (I x5), some (I x6), some (I x7), some (I x8), some (I x9), d10, d11] [] (hp iv) = some (some (I x6), hp iv) :=
  (R_iload mc_169 dX7_page_276 rfl).trans <|
  R_ireturn mc_169 dX7_page_278 rfl
theorem B_X7_page_279 (sc : Nat × (Nat → Int)) (iv : Nat → Nat → Int) (x1 : Int) (x2 : Int) (x3 : Int) (x4 : Int) (x5 : Int) (x6 : Int) (x7 : Int) (x8 : Int) (x9 : Int) (d10 : Option AV) (d11 : Option AV) : Run sc 169 279 [some (Rf 52), some (I x1), some (I x2), some (I x3), some (I x4), some (I x5), some (I x6), some (I x7), some (I x8), some (I x9), d10, d11] [] (hp iv) = some (some (I x7), hp iv) :=
  (R_iload mc_169 dX7_page_279 rfl).trans <|
  R_ireturn mc_169 dX7_page_281 rfl
theorem B_X7_page_282 (sc : Nat × (Nat → Int)) (iv : Nat → Nat → Int) (x1 : Int) (x2 : Int) (x3 : Int) (x4 : Int) (x5 : Int) (x6 : Int) (x7 : Int) (x8 : Int) (x9 : Int) (d10 : Option AV) (d11 : Option AV) : Run sc 169 282 [some (Rf 52), some (I x1), some (I x2), some (I x3), some (I x4), some (I x5), some (I x6), some (I x7), some (I x8), some (I x9), d10, d11] [] (hp iv) = some (some (I x8), hp iv) :=
  (R_iload mc_169 dX7_page_282 rfl).trans <|
  R_ireturn mc_169 dX7_page_284 rfl
theorem B_X7_page_285 (sc : Nat × (Nat → Int)) (iv : Nat → Nat → Int) (x1 : Int) (x2 : Int) (x3 : Int) (x4 : Int) (x5 : Int) (x6 : Int) (x7 : Int) (x8 : Int) (x9 : Int) (d10 : Option AV) (d11 : Option AV) : Run sc 169 285 [some (Rf 52), some (I x1), some (I x2), some (I x3), some (I x4), some (I x5), some (I x6), some (I x7), some (I x8), some (I x9), d10, d11] [] (hp iv) = some (some (I (-2)), hp iv) :=
  (R_bipush mc_169 dX7_page_285 ⟨by decide, by decide⟩).trans <|
  R_ireturn mc_169 dX7_page_287 rfl
theorem B_X7_stitchesOn_0 (sc : Nat × (Nat → Int)) (iv : Nat → Nat → Int) (x1 : Int) (x2 : Int) : Run sc 170 0 [some (Rf 52), some (I x1), some (I x2), none, none, none] [] (hp iv) = Run sc 170 5 [some (Rf 52), some (I x1), some (I x2), some (I 0), some (I 0), none] [] (hp iv) :=
  (R_iconst mc_170 dX7_stitchesOn_0 ⟨by decide, by decide⟩).trans <|
  (R_istore_n mc_170 dX7_stitchesOn_1 (Nat.le_of_ble_eq_true rfl)).trans <|
  (R_iconst mc_170 dX7_stitchesOn_2 ⟨by decide, by decide⟩).trans <|
  R_istore mc_170 dX7_stitchesOn_3 (Nat.le_of_ble_eq_true rfl)
theorem B_X7_stitchesOn_5 (sc : Nat × (Nat → Int)) (iv : Nat → Nat → Int) (x1 : Int) (x2 : Int) (x3 : Int) (x4 : Int) (d5 : Option AV) : Run sc 170 5 [some (Rf 52), some (I x1), some (I x2), some (I x3), some (I x4), d5] [] (hp iv) = if x4 < (iv 52 0) then Run sc 170 17 [some (Rf 52), some (I x1), some (I x2), some (I x3), some (I x4), some (I 0)] [] (hp iv) else Run sc 170 70 [some (Rf 52), some (I x1), some (I x2), some (I x3), some (I x4), d5] [] (hp iv) :=
  (R_iload mc_170 dX7_stitchesOn_5 rfl).trans <|
  (R_aload_n mc_170 dX7_stitchesOn_7 rfl).trans <|
  (R_getI mc_170 dX7_stitchesOn_8 mo_170 ft_7_71 rfl rfl).trans <|
  (R_icmp_ge mc_170 dX7_stitchesOn_11 (t := 70) rfl).trans <| ite_c2
  ((R_iconst mc_170 dX7_stitchesOn_14 ⟨by decide, by decide⟩).trans <|
  R_istore mc_170 dX7_stitchesOn_15 (Nat.le_of_ble_eq_true rfl))
  (rfl)
theorem B_X7_stitchesOn_17 (sc : Nat × (Nat → Int)) (iv : Nat → Nat → Int) (x1 : Int) (x2 : Int) (x3 : Int) (x4 : Int) (x5 : Int) : Run sc 170 17 [some (Rf 52), some (I x1), some (I x2), some (I x3), some (I x4), some (I x5)] [] (hp iv) = if x5 < (iv 52 1) then aBind (Run sc 113 0 [some (Rf 52), some (I x4), some (I x5)] [] (hp iv)) (fun v h2 => Run sc 170 35 [some (Rf 52), some (I x1), some (I x2), some (I x3), some (I x4), some (I x5)] (pushR v [(I x3)]) h2) else Run sc 170 64 [some (Rf 52), some (I x1), some (I x2), some (I x3), some (I x4), some (I x5)] [] (hp iv) :=
  (R_iload mc_170 dX7_stitchesOn_17 rfl).trans <|
  (R_aload_n mc_170 dX7_stitchesOn_19 rfl).trans <|
  (R_getI mc_170 dX7_stitchesOn_20 mo_170 ft_7_74 rfl rfl).trans <|
  (R_icmp_ge mc_170 dX7_stitchesOn_23 (t := 64) rfl).trans <| ite_c2
  ((R_iload_n mc_170 dX7_stitchesOn_26 rfl).trans <|
  (R_aload_n mc_170 dX7_stitchesOn_27 rfl).trans <|
  (R_iload mc_170 dX7_stitchesOn_28 rfl).trans <|
  (R_iload mc_170 dX7_stitchesOn_30 rfl).trans <|
  R_invV mc_170 dX7_stitchesOn_32 mo_170 ct_7_89 af_170_113 rfl rfl rfl ⟨Nat.le_of_ble_eq_true rfl, Nat.le_of_ble_eq_true rfl⟩)
  (rfl)
theorem B_X7_stitchesOn_35 (sc : Nat × (Nat → Int)) (iv : Nat → Nat → Int) (x1 : Int) (x2 : Int) (x3 : Int) (x4 : Int) (x5 : Int) (s0 : Int) (s1 : Int) : Run sc 170 35 [some (Rf 52), some (I x1), some (I x2), some (I x3), some (I x4), some (I x5)] [(I s0), (I s1)] (hp iv) = if s0 = x2 then aBind (Run sc 166 0 [some (Rf 52), some (I x4), some (I x5)] [] (hp iv)) (fun v h2 => Run sc 170 47 [some (Rf 52), some (I x1), some (I x2), some (I x3), some (I x4), some (I x5)] (pushR v [(I s1)]) h2) else Run sc 170 55 [some (Rf 52), some (I x1), some (I x2), some (I x3), some (I x4), some (I x5)] [(I s1)] (hp iv) :=
  (R_iload_n mc_170 dX7_stitchesOn_35 rfl).trans <|
  (R_icmp_ne mc_170 dX7_stitchesOn_36 (t := 55) rfl).trans <| ite_c2
  ((R_aload_n mc_170 dX7_stitchesOn_39 rfl).trans <|
  (R_iload mc_170 dX7_stitchesOn_40 rfl).trans <|
  (R_iload mc_170 dX7_stitchesOn_42 rfl).trans <|
  R_invV mc_170 dX7_stitchesOn_44 mo_170 ct_7_224 af_170_166 rfl rfl rfl ⟨Nat.le_of_ble_eq_true rfl, Nat.le_of_ble_eq_true rfl⟩)
  (rfl)
theorem B_X7_stitchesOn_47 (sc : Nat × (Nat → Int)) (iv : Nat → Nat → Int) (x1 : Int) (x2 : Int) (x3 : Int) (x4 : Int) (x5 : Int) (s0 : Int) (s1 : Int) : Run sc 170 47 [some (Rf 52), some (I x1), some (I x2), some (I x3), some (I x4), some (I x5)] [(I s0), (I s1)] (hp iv) = if s0 = x1 then Run sc 170 56 [some (Rf 52), some (I x1), some (I x2), some (I x3), some (I x4), some (I x5)] [(I 1), (I s1)] (hp iv) else Run sc 170 55 [some (Rf 52), some (I x1), some (I x2), some (I x3), some (I x4), some (I x5)] [(I s1)] (hp iv) :=
  (R_iload_n mc_170 dX7_stitchesOn_47 rfl).trans <|
  (R_icmp_ne mc_170 dX7_stitchesOn_48 (t := 55) rfl).trans <| ite_c2
  ((R_iconst mc_170 dX7_stitchesOn_51 ⟨by decide, by decide⟩).trans <|
  R_goto mc_170 dX7_stitchesOn_52 (t := 56) rfl)
  (rfl)
theorem B_X7_stitchesOn_55 (sc : Nat × (Nat → Int)) (iv : Nat → Nat → Int) (x1 : Int) (x2 : Int) (x3 : Int) (x4 : Int) (x5 : Int) (s0 : Int) : Run sc 170 55 [some (Rf 52), some (I x1), some (I x2), some (I x3), some (I x4), some (I x5)] [(I s0)] (hp iv) = Run sc 170 56 [some (Rf 52), some (I x1), some (I x2), some (I x3), some (I x4), some (I x5)] [(I 0), (I s0)] (hp iv) :=
  R_iconst mc_170 dX7_stitchesOn_55 ⟨by decide, by decide⟩
theorem B_X7_stitchesOn_56 (sc : Nat × (Nat → Int)) (iv : Nat → Nat → Int) (x1 : Int) (x2 : Int) (x3 : Int) (x4 : Int) (x5 : Int) (s0 : Int) (s1 : Int) : Run sc 170 56 [some (Rf 52), some (I x1), some (I x2), some (I x3), some (I x4), some (I x5)] [(I s0), (I s1)] (hp iv) = chk (s1 + s0) (chk (x5 + 1) (Run sc 170 17 [some (Rf 52), some (I x1), some (I x2), some (I (s1 + s0)), some (I x4), some (I (x5 + 1))] [] (hp iv))) :=
  (R_iadd mc_170 dX7_stitchesOn_56).trans <| chk_congr <|
  (R_istore_n mc_170 dX7_stitchesOn_57 (Nat.le_of_ble_eq_true rfl)).trans <|
  (R_iinc mc_170 dX7_stitchesOn_58 rfl).trans <| chk_congr <|
  R_goto mc_170 dX7_stitchesOn_61 (t := 17) rfl
theorem B_X7_stitchesOn_64 (sc : Nat × (Nat → Int)) (iv : Nat → Nat → Int) (x1 : Int) (x2 : Int) (x3 : Int) (x4 : Int) (x5 : Int) : Run sc 170 64 [some (Rf 52), some (I x1), some (I x2), some (I x3), some (I x4), some (I x5)] [] (hp iv) = chk (x4 + 1) (Run sc 170 5 [some (Rf 52), some (I x1), some (I x2), some (I x3), some (I (x4 + 1)), some (I x5)] [] (hp iv)) :=
  (R_iinc mc_170 dX7_stitchesOn_64 rfl).trans <| chk_congr <|
  R_goto mc_170 dX7_stitchesOn_67 (t := 5) rfl
theorem B_X7_stitchesOn_70 (sc : Nat × (Nat → Int)) (iv : Nat → Nat → Int) (x1 : Int) (x2 : Int) (x3 : Int) (x4 : Int) (d5 : Option AV) : Run sc 170 70 [some (Rf 52), some (I x1), some (I x2), some (I x3), some (I x4), d5] [] (hp iv) = some (some (I x3), hp iv) :=
  (R_iload_n mc_170 dX7_stitchesOn_70 rfl).trans <|
  R_ireturn mc_170 dX7_stitchesOn_71 rfl
theorem B_X7_begins_0 (sc : Nat × (Nat → Int)) (iv : Nat → Nat → Int) (x1 : Int) (x2 : Int) (x3 : Int) : Run sc 171 0 [some (Rf 52), some (I x1), some (I x2), some (I x3)] [] (hp iv) = chk (288 * x2) (chk ((288 * x2) + x3) (bck 0 (((2016 : Nat) : Int) - 1) ((288 * x2) + x3) (chk (288 * x2) (chk ((288 * x2) + x3) (bck 0 (((2016 : Nat) : Int) - 1) ((288 * x2) + x3) (aBind (Run sc 166 0 [some (Rf 52), some (I (iv 58 (Int.toNat ((288 * x2) + x3)))), some (I (iv 59 (Int.toNat ((288 * x2) + x3))))] [] (hp iv)) (fun v h2 => Run sc 171 28 [some (Rf 52), some (I x1), some (I x2), some (I x3)] (pushR v []) h2))))))) :=
  (R_aload_n mc_171 dX7_begins_0 rfl).trans <|
  (R_aload_n mc_171 dX7_begins_1 rfl).trans <|
  (R_getR mc_171 dX7_begins_2 mo_171 ft_7_42 rfl rfl (r := 58) rfl (by decide)).trans <|
  (R_sipush mc_171 dX7_begins_5 ⟨by decide, by decide⟩).trans <|
  (R_iload_n mc_171 dX7_begins_8 rfl).trans <|
  (R_imul mc_171 dX7_begins_9).trans <| chk_congr <|
  (R_iload_n mc_171 dX7_begins_10 rfl).trans <|
  (R_iadd mc_171 dX7_begins_11).trans <| chk_congr <|
  (R_iaload mc_171 dX7_begins_12 rfl).trans <| bck_congr <|
  (R_aload_n mc_171 dX7_begins_13 rfl).trans <|
  (R_getR mc_171 dX7_begins_14 mo_171 ft_7_45 rfl rfl (r := 59) rfl (by decide)).trans <|
  (R_sipush mc_171 dX7_begins_17 ⟨by decide, by decide⟩).trans <|
  (R_iload_n mc_171 dX7_begins_20 rfl).trans <|
  (R_imul mc_171 dX7_begins_21).trans <| chk_congr <|
  (R_iload_n mc_171 dX7_begins_22 rfl).trans <|
  (R_iadd mc_171 dX7_begins_23).trans <| chk_congr <|
  (R_iaload mc_171 dX7_begins_24 rfl).trans <| bck_congr <|
  R_invV mc_171 dX7_begins_25 mo_171 ct_7_224 af_171_166 rfl rfl rfl ⟨Nat.le_of_ble_eq_true rfl, Nat.le_of_ble_eq_true rfl⟩
theorem B_X7_begins_28 (sc : Nat × (Nat → Int)) (iv : Nat → Nat → Int) (x1 : Int) (x2 : Int) (x3 : Int) (s0 : Int) : Run sc 171 28 [some (Rf 52), some (I x1), some (I x2), some (I x3)] [(I s0)] (hp iv) = if s0 = x1 then Run sc 171 37 [some (Rf 52), some (I x1), some (I x2), some (I x3)] [(I 1)] (hp iv) else Run sc 171 36 [some (Rf 52), some (I x1), some (I x2), some (I x3)] [] (hp iv) :=
  (R_iload_n mc_171 dX7_begins_28 rfl).trans <|
  (R_icmp_ne mc_171 dX7_begins_29 (t := 36) rfl).trans <| ite_c2
  ((R_iconst mc_171 dX7_begins_32 ⟨by decide, by decide⟩).trans <|
  R_goto mc_171 dX7_begins_33 (t := 37) rfl)
  (rfl)
theorem B_X7_begins_36 (sc : Nat × (Nat → Int)) (iv : Nat → Nat → Int) (x1 : Int) (x2 : Int) (x3 : Int) : Run sc 171 36 [some (Rf 52), some (I x1), some (I x2), some (I x3)] [] (hp iv) = Run sc 171 37 [some (Rf 52), some (I x1), some (I x2), some (I x3)] [(I 0)] (hp iv) :=
  R_iconst mc_171 dX7_begins_36 ⟨by decide, by decide⟩
theorem B_X7_begins_37 (sc : Nat × (Nat → Int)) (iv : Nat → Nat → Int) (x1 : Int) (x2 : Int) (x3 : Int) (s0 : Int) : Run sc 171 37 [some (Rf 52), some (I x1), some (I x2), some (I x3)] [(I s0)] (hp iv) = bck 0 1 s0 (some (some (I s0), hp iv)) :=
  R_ireturnZ mc_171 dX7_begins_37 rfl
theorem B_X7_runsOn_0 (sc : Nat × (Nat → Int)) (iv : Nat → Nat → Int) (x1 : Int) (x2 : Int) : Run sc 172 0 [some (Rf 52), some (I x1), some (I x2), none, none] [] (hp iv) = Run sc 172 5 [some (Rf 52), some (I x1), some (I x2), some (I 0), some (I 0)] [] (hp iv) :=
  (R_iconst mc_172 dX7_runsOn_0 ⟨by decide, by decide⟩).trans <|
  (R_istore_n mc_172 dX7_runsOn_1 (Nat.le_of_ble_eq_true rfl)).trans <|
  (R_iconst mc_172 dX7_runsOn_2 ⟨by decide, by decide⟩).trans <|
  R_istore mc_172 dX7_runsOn_3 (Nat.le_of_ble_eq_true rfl)
theorem B_X7_runsOn_5 (sc : Nat × (Nat → Int)) (iv : Nat → Nat → Int) (x1 : Int) (x2 : Int) (x3 : Int) (x4 : Int) : Run sc 172 5 [some (Rf 52), some (I x1), some (I x2), some (I x3), some (I x4)] [] (hp iv) = bck 0 (((7 : Nat) : Int) - 1) x2 (if x4 < (iv 57 (Int.toNat x2)) then aBind (Run sc 171 0 [some (Rf 52), some (I x1), some (I x2), some (I x4)] [] (hp iv)) (fun v h2 => Run sc 172 25 [some (Rf 52), some (I x1), some (I x2), some (I x3), some (I x4)] (pushR v [(I x3)]) h2) else Run sc 172 41 [some (Rf 52), some (I x1), some (I x2), some (I x3), some (I x4)] [] (hp iv)) :=
  (R_iload mc_172 dX7_runsOn_5 rfl).trans <|
  (R_aload_n mc_172 dX7_runsOn_7 rfl).trans <|
  (R_getR mc_172 dX7_runsOn_8 mo_172 ft_7_39 rfl rfl (r := 57) rfl (by decide)).trans <|
  (R_iload_n mc_172 dX7_runsOn_11 rfl).trans <|
  (R_iaload mc_172 dX7_runsOn_12 rfl).trans <| bck_congr <|
  (R_icmp_ge mc_172 dX7_runsOn_13 (t := 41) rfl).trans <| ite_c2
  ((R_iload_n mc_172 dX7_runsOn_16 rfl).trans <|
  (R_aload_n mc_172 dX7_runsOn_17 rfl).trans <|
  (R_iload_n mc_172 dX7_runsOn_18 rfl).trans <|
  (R_iload_n mc_172 dX7_runsOn_19 rfl).trans <|
  (R_iload mc_172 dX7_runsOn_20 rfl).trans <|
  R_invV mc_172 dX7_runsOn_22 mo_172 ct_7_227 af_172_171 rfl rfl rfl ⟨Nat.le_of_ble_eq_true rfl, Nat.le_of_ble_eq_true rfl⟩)
  (rfl)
theorem B_X7_runsOn_25 (sc : Nat × (Nat → Int)) (iv : Nat → Nat → Int) (x1 : Int) (x2 : Int) (x3 : Int) (x4 : Int) (s0 : Int) (s1 : Int) : Run sc 172 25 [some (Rf 52), some (I x1), some (I x2), some (I x3), some (I x4)] [(I s0), (I s1)] (hp iv) = if s0 = 0 then Run sc 172 32 [some (Rf 52), some (I x1), some (I x2), some (I x3), some (I x4)] [(I s1)] (hp iv) else Run sc 172 33 [some (Rf 52), some (I x1), some (I x2), some (I x3), some (I x4)] [(I 1), (I s1)] (hp iv) :=
  (R_if_eq mc_172 dX7_runsOn_25 (t := 32) rfl).trans <| ite_c2
  (rfl)
  ((R_iconst mc_172 dX7_runsOn_28 ⟨by decide, by decide⟩).trans <|
  R_goto mc_172 dX7_runsOn_29 (t := 33) rfl)
theorem B_X7_runsOn_32 (sc : Nat × (Nat → Int)) (iv : Nat → Nat → Int) (x1 : Int) (x2 : Int) (x3 : Int) (x4 : Int) (s0 : Int) : Run sc 172 32 [some (Rf 52), some (I x1), some (I x2), some (I x3), some (I x4)] [(I s0)] (hp iv) = Run sc 172 33 [some (Rf 52), some (I x1), some (I x2), some (I x3), some (I x4)] [(I 0), (I s0)] (hp iv) :=
  R_iconst mc_172 dX7_runsOn_32 ⟨by decide, by decide⟩
theorem B_X7_runsOn_33 (sc : Nat × (Nat → Int)) (iv : Nat → Nat → Int) (x1 : Int) (x2 : Int) (x3 : Int) (x4 : Int) (s0 : Int) (s1 : Int) : Run sc 172 33 [some (Rf 52), some (I x1), some (I x2), some (I x3), some (I x4)] [(I s0), (I s1)] (hp iv) = chk (s1 + s0) (chk (x4 + 1) (Run sc 172 5 [some (Rf 52), some (I x1), some (I x2), some (I (s1 + s0)), some (I (x4 + 1))] [] (hp iv))) :=
  (R_iadd mc_172 dX7_runsOn_33).trans <| chk_congr <|
  (R_istore_n mc_172 dX7_runsOn_34 (Nat.le_of_ble_eq_true rfl)).trans <|
  (R_iinc mc_172 dX7_runsOn_35 rfl).trans <| chk_congr <|
  R_goto mc_172 dX7_runsOn_38 (t := 5) rfl
theorem B_X7_runsOn_41 (sc : Nat × (Nat → Int)) (iv : Nat → Nat → Int) (x1 : Int) (x2 : Int) (x3 : Int) (x4 : Int) : Run sc 172 41 [some (Rf 52), some (I x1), some (I x2), some (I x3), some (I x4)] [] (hp iv) = some (some (I x3), hp iv) :=
  (R_iload_n mc_172 dX7_runsOn_41 rfl).trans <|
  R_ireturn mc_172 dX7_runsOn_42 rfl
theorem B_X7_threadOn_0 (sc : Nat × (Nat → Int)) (iv : Nat → Nat → Int) (x1 : Int) (x2 : Int) : Run sc 173 0 [some (Rf 52), some (I x1), some (I x2), none, none] [] (hp iv) = aBind (Run sc 170 0 [some (Rf 52), some (I x1), some (I x2), none, none, none] [] (hp iv)) (fun v h2 => Run sc 173 8 [some (Rf 52), some (I x1), some (I x2), none, none] (pushR v [(I 48)]) h2) :=
  (R_bipush mc_173 dX7_threadOn_0 ⟨by decide, by decide⟩).trans <|
  (R_aload_n mc_173 dX7_threadOn_2 rfl).trans <|
  (R_iload_n mc_173 dX7_threadOn_3 rfl).trans <|
  (R_iload_n mc_173 dX7_threadOn_4 rfl).trans <|
  R_invV mc_173 dX7_threadOn_5 mo_173 ct_7_230 af_173_170 rfl rfl rfl ⟨Nat.le_of_ble_eq_true rfl, Nat.le_of_ble_eq_true rfl⟩
theorem B_X7_threadOn_8 (sc : Nat × (Nat → Int)) (iv : Nat → Nat → Int) (x1 : Int) (x2 : Int) (d3 : Option AV) (d4 : Option AV) (s0 : Int) (s1 : Int) : Run sc 173 8 [some (Rf 52), some (I x1), some (I x2), d3, d4] [(I s0), (I s1)] (hp iv) = chk (s1 * s0) (Run sc 173 13 [some (Rf 52), some (I x1), some (I x2), some (I (s1 * s0)), some (I 0)] [] (hp iv)) :=
  (R_imul mc_173 dX7_threadOn_8).trans <| chk_congr <|
  (R_istore_n mc_173 dX7_threadOn_9 (Nat.le_of_ble_eq_true rfl)).trans <|
  (R_iconst mc_173 dX7_threadOn_10 ⟨by decide, by decide⟩).trans <|
  R_istore mc_173 dX7_threadOn_11 (Nat.le_of_ble_eq_true rfl)
theorem B_X7_threadOn_13 (sc : Nat × (Nat → Int)) (iv : Nat → Nat → Int) (x1 : Int) (x2 : Int) (x3 : Int) (x4 : Int) : Run sc 173 13 [some (Rf 52), some (I x1), some (I x2), some (I x3), some (I x4)] [] (hp iv) = bck 0 (((7 : Nat) : Int) - 1) x2 (if x4 < (iv 57 (Int.toNat x2)) then aBind (Run sc 118 0 [some (Rf 52), some (I x2), some (I x4)] [] (hp iv)) (fun v h2 => Run sc 173 34 [some (Rf 52), some (I x1), some (I x2), some (I x3), some (I x4)] (pushR v [(I x2), (I x1), (Rf 52)]) h2) else Run sc 173 106 [some (Rf 52), some (I x1), some (I x2), some (I x3), some (I x4)] [] (hp iv)) :=
  (R_iload mc_173 dX7_threadOn_13 rfl).trans <|
  (R_aload_n mc_173 dX7_threadOn_15 rfl).trans <|
  (R_getR mc_173 dX7_threadOn_16 mo_173 ft_7_39 rfl rfl (r := 57) rfl (by decide)).trans <|
  (R_iload_n mc_173 dX7_threadOn_19 rfl).trans <|
  (R_iaload mc_173 dX7_threadOn_20 rfl).trans <| bck_congr <|
  (R_icmp_ge mc_173 dX7_threadOn_21 (t := 106) rfl).trans <| ite_c2
  ((R_aload_n mc_173 dX7_threadOn_24 rfl).trans <|
  (R_iload_n mc_173 dX7_threadOn_25 rfl).trans <|
  (R_iload_n mc_173 dX7_threadOn_26 rfl).trans <|
  (R_aload_n mc_173 dX7_threadOn_27 rfl).trans <|
  (R_iload_n mc_173 dX7_threadOn_28 rfl).trans <|
  (R_iload mc_173 dX7_threadOn_29 rfl).trans <|
  R_invV mc_173 dX7_threadOn_31 mo_173 ct_7_100 af_173_118 rfl rfl rfl ⟨Nat.le_of_ble_eq_true rfl, Nat.le_of_ble_eq_true rfl⟩)
  (rfl)
theorem B_X7_threadOn_34 (sc : Nat × (Nat → Int)) (iv : Nat → Nat → Int) (x1 : Int) (x2 : Int) (x3 : Int) (x4 : Int) (s0 : Int) (s1 : Int) (s2 : Int) : Run sc 173 34 [some (Rf 52), some (I x1), some (I x2), some (I x3), some (I x4)] [(I s0), (I s1), (I s2), (Rf 52)] (hp iv) = aBind (Run sc 171 0 [some (Rf 52), some (I s2), some (I s1), some (I s0)] [] (hp iv)) (fun v h2 => Run sc 173 37 [some (Rf 52), some (I x1), some (I x2), some (I x3), some (I x4)] (pushR v []) h2) :=
  R_invV mc_173 dX7_threadOn_34 mo_173 ct_7_227 af_173_171 rfl rfl rfl ⟨Nat.le_of_ble_eq_true rfl, Nat.le_of_ble_eq_true rfl⟩
theorem B_X7_threadOn_37 (sc : Nat × (Nat → Int)) (iv : Nat → Nat → Int) (x1 : Int) (x2 : Int) (x3 : Int) (x4 : Int) (s0 : Int) : Run sc 173 37 [some (Rf 52), some (I x1), some (I x2), some (I x3), some (I x4)] [(I s0)] (hp iv) = if s0 = 0 then Run sc 173 100 [some (Rf 52), some (I x1), some (I x2), some (I x3), some (I x4)] [] (hp iv) else if x4 = 0 then Run sc 173 74 [some (Rf 52), some (I x1), some (I x2), some (I x3), some (I x4)] [(I (iv 52 3)), (I x3)] (hp iv) else Run sc 173 53 [some (Rf 52), some (I x1), some (I x2), some (I x3), some (I x4)] [(I x3)] (hp iv) :=
  (R_if_eq mc_173 dX7_threadOn_37 (t := 100) rfl).trans <| ite_c2
  (rfl)
  ((R_iload_n mc_173 dX7_threadOn_40 rfl).trans <|
  (R_iload mc_173 dX7_threadOn_41 rfl).trans <|
  (R_if_ne mc_173 dX7_threadOn_43 (t := 53) rfl).trans <| ite_c2
  ((R_aload_n mc_173 dX7_threadOn_46 rfl).trans <|
  (R_getI mc_173 dX7_threadOn_47 mo_173 ft_7_13 rfl rfl).trans <|
  R_goto mc_173 dX7_threadOn_50 (t := 74) rfl)
  (rfl))
theorem B_X7_threadOn_53 (sc : Nat × (Nat → Int)) (iv : Nat → Nat → Int) (x1 : Int) (x2 : Int) (x3 : Int) (x4 : Int) (s0 : Int) : Run sc 173 53 [some (Rf 52), some (I x1), some (I x2), some (I x3), some (I x4)] [(I s0)] (hp iv) = chk (x4 - 1) (aBind (Run sc 118 0 [some (Rf 52), some (I x2), some (I (x4 - 1))] [] (hp iv)) (fun v h2 => Run sc 173 64 [some (Rf 52), some (I x1), some (I x2), some (I x3), some (I x4)] (pushR v [(I x2), (Rf 52), (I s0)]) h2)) :=
  (R_aload_n mc_173 dX7_threadOn_53 rfl).trans <|
  (R_iload_n mc_173 dX7_threadOn_54 rfl).trans <|
  (R_aload_n mc_173 dX7_threadOn_55 rfl).trans <|
  (R_iload_n mc_173 dX7_threadOn_56 rfl).trans <|
  (R_iload mc_173 dX7_threadOn_57 rfl).trans <|
  (R_iconst mc_173 dX7_threadOn_59 ⟨by decide, by decide⟩).trans <|
  (R_isub mc_173 dX7_threadOn_60).trans <| chk_congr <|
  R_invV mc_173 dX7_threadOn_61 mo_173 ct_7_100 af_173_118 rfl rfl rfl ⟨Nat.le_of_ble_eq_true rfl, Nat.le_of_ble_eq_true rfl⟩
theorem B_X7_threadOn_64 (sc : Nat × (Nat → Int)) (iv : Nat → Nat → Int) (x1 : Int) (x2 : Int) (x3 : Int) (x4 : Int) (s0 : Int) (s1 : Int) (s3 : Int) : Run sc 173 64 [some (Rf 52), some (I x1), some (I x2), some (I x3), some (I x4)] [(I s0), (I s1), (Rf 52), (I s3)] (hp iv) = aBind (Run sc 118 0 [some (Rf 52), some (I x2), some (I x4)] [] (hp iv)) (fun v h2 => Run sc 173 71 [some (Rf 52), some (I x1), some (I x2), some (I x3), some (I x4)] (pushR v [(I s0), (I s1), (Rf 52), (I s3)]) h2) :=
  (R_aload_n mc_173 dX7_threadOn_64 rfl).trans <|
  (R_iload_n mc_173 dX7_threadOn_65 rfl).trans <|
  (R_iload mc_173 dX7_threadOn_66 rfl).trans <|
  R_invV mc_173 dX7_threadOn_68 mo_173 ct_7_100 af_173_118 rfl rfl rfl ⟨Nat.le_of_ble_eq_true rfl, Nat.le_of_ble_eq_true rfl⟩
theorem B_X7_threadOn_71 (sc : Nat × (Nat → Int)) (iv : Nat → Nat → Int) (x1 : Int) (x2 : Int) (x3 : Int) (x4 : Int) (s0 : Int) (s1 : Int) (s2 : Int) (s4 : Int) : Run sc 173 71 [some (Rf 52), some (I x1), some (I x2), some (I x3), some (I x4)] [(I s0), (I s1), (I s2), (Rf 52), (I s4)] (hp iv) = aBind (Run sc 116 0 [some (Rf 52), some (I s2), some (I s1), some (I s0)] [] (hp iv)) (fun v h2 => Run sc 173 74 [some (Rf 52), some (I x1), some (I x2), some (I x3), some (I x4)] (pushR v [(I s4)]) h2) :=
  R_invV mc_173 dX7_threadOn_71 mo_173 ct_7_103 af_173_116 rfl rfl rfl ⟨Nat.le_of_ble_eq_true rfl, Nat.le_of_ble_eq_true rfl⟩
theorem B_X7_threadOn_74 (sc : Nat × (Nat → Int)) (iv : Nat → Nat → Int) (x1 : Int) (x2 : Int) (x3 : Int) (x4 : Int) (s0 : Int) (s1 : Int) : Run sc 173 74 [some (Rf 52), some (I x1), some (I x2), some (I x3), some (I x4)] [(I s0), (I s1)] (hp iv) = chk (s1 + s0) (bck 0 (((7 : Nat) : Int) - 1) x2 (chk ((iv 57 (Int.toNat x2)) - 1) (if x4 = ((iv 57 (Int.toNat x2)) - 1) then Run sc 173 98 [some (Rf 52), some (I x1), some (I x2), some (I (s1 + s0)), some (I x4)] [(I (iv 52 3)), (I (s1 + s0))] (hp iv) else Run sc 173 97 [some (Rf 52), some (I x1), some (I x2), some (I (s1 + s0)), some (I x4)] [(I (s1 + s0))] (hp iv)))) :=
  (R_iadd mc_173 dX7_threadOn_74).trans <| chk_congr <|
  (R_istore_n mc_173 dX7_threadOn_75 (Nat.le_of_ble_eq_true rfl)).trans <|
  (R_iload_n mc_173 dX7_threadOn_76 rfl).trans <|
  (R_iload mc_173 dX7_threadOn_77 rfl).trans <|
  (R_aload_n mc_173 dX7_threadOn_79 rfl).trans <|
  (R_getR mc_173 dX7_threadOn_80 mo_173 ft_7_39 rfl rfl (r := 57) rfl (by decide)).trans <|
  (R_iload_n mc_173 dX7_threadOn_83 rfl).trans <|
  (R_iaload mc_173 dX7_threadOn_84 rfl).trans <| bck_congr <|
  (R_iconst mc_173 dX7_threadOn_85 ⟨by decide, by decide⟩).trans <|
  (R_isub mc_173 dX7_threadOn_86).trans <| chk_congr <|
  (R_icmp_ne mc_173 dX7_threadOn_87 (t := 97) rfl).trans <| ite_c2
  ((R_aload_n mc_173 dX7_threadOn_90 rfl).trans <|
  (R_getI mc_173 dX7_threadOn_91 mo_173 ft_7_13 rfl rfl).trans <|
  R_goto mc_173 dX7_threadOn_94 (t := 98) rfl)
  (rfl)
theorem B_X7_threadOn_97 (sc : Nat × (Nat → Int)) (iv : Nat → Nat → Int) (x1 : Int) (x2 : Int) (x3 : Int) (x4 : Int) (s0 : Int) : Run sc 173 97 [some (Rf 52), some (I x1), some (I x2), some (I x3), some (I x4)] [(I s0)] (hp iv) = Run sc 173 98 [some (Rf 52), some (I x1), some (I x2), some (I x3), some (I x4)] [(I 0), (I s0)] (hp iv) :=
  R_iconst mc_173 dX7_threadOn_97 ⟨by decide, by decide⟩
theorem B_X7_threadOn_98 (sc : Nat × (Nat → Int)) (iv : Nat → Nat → Int) (x1 : Int) (x2 : Int) (x3 : Int) (x4 : Int) (s0 : Int) (s1 : Int) : Run sc 173 98 [some (Rf 52), some (I x1), some (I x2), some (I x3), some (I x4)] [(I s0), (I s1)] (hp iv) = chk (s1 + s0) (Run sc 173 100 [some (Rf 52), some (I x1), some (I x2), some (I (s1 + s0)), some (I x4)] [] (hp iv)) :=
  (R_iadd mc_173 dX7_threadOn_98).trans <| chk_congr <|
  R_istore_n mc_173 dX7_threadOn_99 (Nat.le_of_ble_eq_true rfl)
theorem B_X7_threadOn_100 (sc : Nat × (Nat → Int)) (iv : Nat → Nat → Int) (x1 : Int) (x2 : Int) (x3 : Int) (x4 : Int) : Run sc 173 100 [some (Rf 52), some (I x1), some (I x2), some (I x3), some (I x4)] [] (hp iv) = chk (x4 + 1) (Run sc 173 13 [some (Rf 52), some (I x1), some (I x2), some (I x3), some (I (x4 + 1))] [] (hp iv)) :=
  (R_iinc mc_173 dX7_threadOn_100 rfl).trans <| chk_congr <|
  R_goto mc_173 dX7_threadOn_103 (t := 13) rfl
theorem B_X7_threadOn_106 (sc : Nat × (Nat → Int)) (iv : Nat → Nat → Int) (x1 : Int) (x2 : Int) (x3 : Int) (x4 : Int) : Run sc 173 106 [some (Rf 52), some (I x1), some (I x2), some (I x3), some (I x4)] [] (hp iv) = some (some (I x3), hp iv) :=
  (R_iload_n mc_173 dX7_threadOn_106 rfl).trans <|
  R_ireturn mc_173 dX7_threadOn_107 rfl
theorem B_X7_onPage_0 (sc : Nat × (Nat → Int)) (iv : Nat → Nat → Int) (x1 : Int) (x2 : Int) (x3 : Int) : Run sc 174 0 [some (Rf 52), some (I x1), some (I x2), some (I x3), none, none] [] (hp iv) = aBind (Run sc 167 0 [some (Rf 52)] [] (hp iv)) (fun v h2 => Run sc 174 6 [some (Rf 52), some (I x1), some (I x2), some (I x3), none, none] (pushR v [(I 0), (I x1)]) h2) :=
  (R_iload_n mc_174 dX7_onPage_0 rfl).trans <|
  (R_iconst mc_174 dX7_onPage_1 ⟨by decide, by decide⟩).trans <|
  (R_aload_n mc_174 dX7_onPage_2 rfl).trans <|
  R_invV mc_174 dX7_onPage_3 mo_174 ct_7_221 af_174_167 rfl rfl rfl ⟨Nat.le_of_ble_eq_true rfl, Nat.le_of_ble_eq_true rfl⟩
theorem B_X7_onPage_6 (sc : Nat × (Nat → Int)) (iv : Nat → Nat → Int) (x1 : Int) (x2 : Int) (x3 : Int) (d4 : Option AV) (d5 : Option AV) (s0 : Int) (s1 : Int) (s2 : Int) : Run sc 174 6 [some (Rf 52), some (I x1), some (I x2), some (I x3), d4, d5] [(I s0), (I s1), (I s2)] (hp iv) = chk (s0 - 1) (aBind (Run sc 109 0 [some (I s2), some (I s1), some (I (s0 - 1))] [] (hp iv)) (fun v h2 => Run sc 174 11 [some (Rf 52), some (I x1), some (I x2), some (I x3), d4, d5] (pushR v []) h2)) :=
  (R_iconst mc_174 dX7_onPage_6 ⟨by decide, by decide⟩).trans <|
  (R_isub mc_174 dX7_onPage_7).trans <| chk_congr <|
  R_invS mc_174 dX7_onPage_8 mo_174 ct_7_81 (Or.inl rfl) af_174_109 (Nat.le_of_ble_eq_true rfl) rfl rfl ⟨Nat.le_of_ble_eq_true rfl, Nat.le_of_ble_eq_true rfl⟩
theorem B_X7_onPage_11 (sc : Nat × (Nat → Int)) (iv : Nat → Nat → Int) (x1 : Int) (x2 : Int) (x3 : Int) (d4 : Option AV) (d5 : Option AV) (s0 : Int) : Run sc 174 11 [some (Rf 52), some (I x1), some (I x2), some (I x3), d4, d5] [(I s0)] (hp iv) = if s0 = 0 then some (some (I (-1)), hp iv) else Run sc 174 16 [some (Rf 52), some (I x1), some (I x2), some (I x3), d4, d5] [] (hp iv) :=
  (R_if_ne mc_174 dX7_onPage_11 (t := 16) rfl).trans <| ite_c2
  ((R_iconst mc_174 dX7_onPage_14 ⟨by decide, by decide⟩).trans <|
  R_ireturn mc_174 dX7_onPage_15 rfl)
  (rfl)
theorem B_X7_onPage_16 (sc : Nat × (Nat → Int)) (iv : Nat → Nat → Int) (x1 : Int) (x2 : Int) (x3 : Int) (d4 : Option AV) (d5 : Option AV) : Run sc 174 16 [some (Rf 52), some (I x1), some (I x2), some (I x3), d4, d5] [] (hp iv) = aBind (Run sc 109 0 [some (I x2), some (I 0), some (I 6)] [] (hp iv)) (fun v h2 => Run sc 174 23 [some (Rf 52), some (I x1), some (I x2), some (I x3), d4, d5] (pushR v []) h2) :=
  (R_iload_n mc_174 dX7_onPage_16 rfl).trans <|
  (R_iconst mc_174 dX7_onPage_17 ⟨by decide, by decide⟩).trans <|
  (R_bipush mc_174 dX7_onPage_18 ⟨by decide, by decide⟩).trans <|
  R_invS mc_174 dX7_onPage_20 mo_174 ct_7_81 (Or.inl rfl) af_174_109 (Nat.le_of_ble_eq_true rfl) rfl rfl ⟨Nat.le_of_ble_eq_true rfl, Nat.le_of_ble_eq_true rfl⟩
theorem B_X7_onPage_23 (sc : Nat × (Nat → Int)) (iv : Nat → Nat → Int) (x1 : Int) (x2 : Int) (x3 : Int) (d4 : Option AV) (d5 : Option AV) (s0 : Int) : Run sc 174 23 [some (Rf 52), some (I x1), some (I x2), some (I x3), d4, d5] [(I s0)] (hp iv) = if s0 = 0 then Run sc 174 35 [some (Rf 52), some (I x1), some (I x2), some (I x3), d4, d5] [] (hp iv) else aBind (Run sc 109 0 [some (I x3), some (I 0), some (I 2)] [] (hp iv)) (fun v h2 => Run sc 174 32 [some (Rf 52), some (I x1), some (I x2), some (I x3), d4, d5] (pushR v []) h2) :=
  (R_if_eq mc_174 dX7_onPage_23 (t := 35) rfl).trans <| ite_c2
  (rfl)
  ((R_iload_n mc_174 dX7_onPage_26 rfl).trans <|
  (R_iconst mc_174 dX7_onPage_27 ⟨by decide, by decide⟩).trans <|
  (R_iconst mc_174 dX7_onPage_28 ⟨by decide, by decide⟩).trans <|
  R_invS mc_174 dX7_onPage_29 mo_174 ct_7_81 (Or.inl rfl) af_174_109 (Nat.le_of_ble_eq_true rfl) rfl rfl ⟨Nat.le_of_ble_eq_true rfl, Nat.le_of_ble_eq_true rfl⟩)
theorem B_X7_onPage_32 (sc : Nat × (Nat → Int)) (iv : Nat → Nat → Int) (x1 : Int) (x2 : Int) (x3 : Int) (d4 : Option AV) (d5 : Option AV) (s0 : Int) : Run sc 174 32 [some (Rf 52), some (I x1), some (I x2), some (I x3), d4, d5] [(I s0)] (hp iv) = if s0 = 0 then Run sc 174 35 [some (Rf 52), some (I x1), some (I x2), some (I x3), d4, d5] [] (hp iv) else Run sc 174 38 [some (Rf 52), some (I x1), some (I x2), some (I x3), d4, d5] [] (hp iv) :=
  R_if_ne mc_174 dX7_onPage_32 (t := 38) rfl
theorem B_X7_onPage_35 (sc : Nat × (Nat → Int)) (iv : Nat → Nat → Int) (x1 : Int) (x2 : Int) (x3 : Int) (d4 : Option AV) (d5 : Option AV) : Run sc 174 35 [some (Rf 52), some (I x1), some (I x2), some (I x3), d4, d5] [] (hp iv) = some (some (I (-2)), hp iv) :=
  (R_bipush mc_174 dX7_onPage_35 ⟨by decide, by decide⟩).trans <|
  R_ireturn mc_174 dX7_onPage_37 rfl
theorem B_X7_onPage_38 (sc : Nat × (Nat → Int)) (iv : Nat → Nat → Int) (x1 : Int) (x2 : Int) (x3 : Int) (d4 : Option AV) (d5 : Option AV) : Run sc 174 38 [some (Rf 52), some (I x1), some (I x2), some (I x3), d4, d5] [] (hp iv) = Run sc 174 44 [some (Rf 52), some (I x1), some (I x2), some (I x3), some (I 0), some (I 1)] [] (hp iv) :=
  (R_iconst mc_174 dX7_onPage_38 ⟨by decide, by decide⟩).trans <|
  (R_istore mc_174 dX7_onPage_39 (Nat.le_of_ble_eq_true rfl)).trans <|
  (R_iconst mc_174 dX7_onPage_41 ⟨by decide, by decide⟩).trans <|
  R_istore mc_174 dX7_onPage_42 (Nat.le_of_ble_eq_true rfl)
theorem B_X7_onPage_44 (sc : Nat × (Nat → Int)) (iv : Nat → Nat → Int) (x1 : Int) (x2 : Int) (x3 : Int) (x4 : Int) (x5 : Int) : Run sc 174 44 [some (Rf 52), some (I x1), some (I x2), some (I x3), some (I x4), some (I x5)] [] (hp iv) = if 6 < x5 then Run sc 174 108 [some (Rf 52), some (I x1), some (I x2), some (I x3), some (I x4), some (I x5)] [] (hp iv) else if x2 = 0 then Run sc 174 61 [some (Rf 52), some (I x1), some (I x2), some (I x3), some (I x4), some (I x5)] [] (hp iv) else if x5 = x2 then Run sc 174 61 [some (Rf 52), some (I x1), some (I x2), some (I x3), some (I x4), some (I x5)] [] (hp iv) else Run sc 174 102 [some (Rf 52), some (I x1), some (I x2), some (I x3), some (I x4), some (I x5)] [] (hp iv) :=
  (R_iload mc_174 dX7_onPage_44 rfl).trans <|
  (R_bipush mc_174 dX7_onPage_46 ⟨by decide, by decide⟩).trans <|
  (R_icmp_gt mc_174 dX7_onPage_48 (t := 108) rfl).trans <| ite_c2
  (rfl)
  ((R_iload_n mc_174 dX7_onPage_51 rfl).trans <|
  (R_if_eq mc_174 dX7_onPage_52 (t := 61) rfl).trans <| ite_c2
  (rfl)
  ((R_iload mc_174 dX7_onPage_55 rfl).trans <|
  (R_iload_n mc_174 dX7_onPage_57 rfl).trans <|
  R_icmp_ne mc_174 dX7_onPage_58 (t := 102) rfl))
theorem B_X7_onPage_61 (sc : Nat × (Nat → Int)) (iv : Nat → Nat → Int) (x1 : Int) (x2 : Int) (x3 : Int) (x4 : Int) (x5 : Int) : Run sc 174 61 [some (Rf 52), some (I x1), some (I x2), some (I x3), some (I x4), some (I x5)] [] (hp iv) = if x3 = 0 then aBind (Run sc 170 0 [some (Rf 52), some (I x1), some (I x5), none, none, none] [] (hp iv)) (fun v h2 => Run sc 174 74 [some (Rf 52), some (I x1), some (I x2), some (I x3), some (I x4), some (I x5)] (pushR v [(I x4)]) h2) else Run sc 174 77 [some (Rf 52), some (I x1), some (I x2), some (I x3), some (I x4), some (I x5)] [(I x4)] (hp iv) :=
  (R_iload mc_174 dX7_onPage_61 rfl).trans <|
  (R_iload_n mc_174 dX7_onPage_63 rfl).trans <|
  (R_if_ne mc_174 dX7_onPage_64 (t := 77) rfl).trans <| ite_c2
  ((R_aload_n mc_174 dX7_onPage_67 rfl).trans <|
  (R_iload_n mc_174 dX7_onPage_68 rfl).trans <|
  (R_iload mc_174 dX7_onPage_69 rfl).trans <|
  R_invV mc_174 dX7_onPage_71 mo_174 ct_7_230 af_174_170 rfl rfl rfl ⟨Nat.le_of_ble_eq_true rfl, Nat.le_of_ble_eq_true rfl⟩)
  (rfl)
theorem B_X7_onPage_74 (sc : Nat × (Nat → Int)) (iv : Nat → Nat → Int) (x1 : Int) (x2 : Int) (x3 : Int) (x4 : Int) (x5 : Int) (s0 : Int) (s1 : Int) : Run sc 174 74 [some (Rf 52), some (I x1), some (I x2), some (I x3), some (I x4), some (I x5)] [(I s0), (I s1)] (hp iv) = Run sc 174 99 [some (Rf 52), some (I x1), some (I x2), some (I x3), some (I x4), some (I x5)] [(I s0), (I s1)] (hp iv) :=
  R_goto mc_174 dX7_onPage_74 (t := 99) rfl
theorem B_X7_onPage_77 (sc : Nat × (Nat → Int)) (iv : Nat → Nat → Int) (x1 : Int) (x2 : Int) (x3 : Int) (x4 : Int) (x5 : Int) (s0 : Int) : Run sc 174 77 [some (Rf 52), some (I x1), some (I x2), some (I x3), some (I x4), some (I x5)] [(I s0)] (hp iv) = if x3 = 1 then aBind (Run sc 172 0 [some (Rf 52), some (I x1), some (I x5), none, none] [] (hp iv)) (fun v h2 => Run sc 174 89 [some (Rf 52), some (I x1), some (I x2), some (I x3), some (I x4), some (I x5)] (pushR v [(I s0)]) h2) else Run sc 174 92 [some (Rf 52), some (I x1), some (I x2), some (I x3), some (I x4), some (I x5)] [(I s0)] (hp iv) :=
  (R_iload_n mc_174 dX7_onPage_77 rfl).trans <|
  (R_iconst mc_174 dX7_onPage_78 ⟨by decide, by decide⟩).trans <|
  (R_icmp_ne mc_174 dX7_onPage_79 (t := 92) rfl).trans <| ite_c2
  ((R_aload_n mc_174 dX7_onPage_82 rfl).trans <|
  (R_iload_n mc_174 dX7_onPage_83 rfl).trans <|
  (R_iload mc_174 dX7_onPage_84 rfl).trans <|
  R_invV mc_174 dX7_onPage_86 mo_174 ct_7_233 af_174_172 rfl rfl rfl ⟨Nat.le_of_ble_eq_true rfl, Nat.le_of_ble_eq_true rfl⟩)
  (rfl)
theorem B_X7_onPage_89 (sc : Nat × (Nat → Int)) (iv : Nat → Nat → Int) (x1 : Int) (x2 : Int) (x3 : Int) (x4 : Int) (x5 : Int) (s0 : Int) (s1 : Int) : Run sc 174 89 [some (Rf 52), some (I x1), some (I x2), some (I x3), some (I x4), some (I x5)] [(I s0), (I s1)] (hp iv) = Run sc 174 99 [some (Rf 52), some (I x1), some (I x2), some (I x3), some (I x4), some (I x5)] [(I s0), (I s1)] (hp iv) :=
  R_goto mc_174 dX7_onPage_89 (t := 99) rfl
theorem B_X7_onPage_92 (sc : Nat × (Nat → Int)) (iv : Nat → Nat → Int) (x1 : Int) (x2 : Int) (x3 : Int) (x4 : Int) (x5 : Int) (s0 : Int) : Run sc 174 92 [some (Rf 52), some (I x1), some (I x2), some (I x3), some (I x4), some (I x5)] [(I s0)] (hp iv) = aBind (Run sc 173 0 [some (Rf 52), some (I x1), some (I x5), none, none] [] (hp iv)) (fun v h2 => Run sc 174 99 [some (Rf 52), some (I x1), some (I x2), some (I x3), some (I x4), some (I x5)] (pushR v [(I s0)]) h2) :=
  (R_aload_n mc_174 dX7_onPage_92 rfl).trans <|
  (R_iload_n mc_174 dX7_onPage_93 rfl).trans <|
  (R_iload mc_174 dX7_onPage_94 rfl).trans <|
  R_invV mc_174 dX7_onPage_96 mo_174 ct_7_236 af_174_173 rfl rfl rfl ⟨Nat.le_of_ble_eq_true rfl, Nat.le_of_ble_eq_true rfl⟩
theorem B_X7_onPage_99 (sc : Nat × (Nat → Int)) (iv : Nat → Nat → Int) (x1 : Int) (x2 : Int) (x3 : Int) (x4 : Int) (x5 : Int) (s0 : Int) (s1 : Int) : Run sc 174 99 [some (Rf 52), some (I x1), some (I x2), some (I x3), some (I x4), some (I x5)] [(I s0), (I s1)] (hp iv) = chk (s1 + s0) (Run sc 174 102 [some (Rf 52), some (I x1), some (I x2), some (I x3), some (I (s1 + s0)), some (I x5)] [] (hp iv)) :=
  (R_iadd mc_174 dX7_onPage_99).trans <| chk_congr <|
  R_istore mc_174 dX7_onPage_100 (Nat.le_of_ble_eq_true rfl)
theorem B_X7_onPage_102 (sc : Nat × (Nat → Int)) (iv : Nat → Nat → Int) (x1 : Int) (x2 : Int) (x3 : Int) (x4 : Int) (x5 : Int) : Run sc 174 102 [some (Rf 52), some (I x1), some (I x2), some (I x3), some (I x4), some (I x5)] [] (hp iv) = chk (x5 + 1) (Run sc 174 44 [some (Rf 52), some (I x1), some (I x2), some (I x3), some (I x4), some (I (x5 + 1))] [] (hp iv)) :=
  (R_iinc mc_174 dX7_onPage_102 rfl).trans <| chk_congr <|
  R_goto mc_174 dX7_onPage_105 (t := 44) rfl
theorem B_X7_onPage_108 (sc : Nat × (Nat → Int)) (iv : Nat → Nat → Int) (x1 : Int) (x2 : Int) (x3 : Int) (x4 : Int) (x5 : Int) : Run sc 174 108 [some (Rf 52), some (I x1), some (I x2), some (I x3), some (I x4), some (I x5)] [] (hp iv) = some (some (I x4), hp iv) :=
  (R_iload mc_174 dX7_onPage_108 rfl).trans <|
  R_ireturn mc_174 dX7_onPage_110 rfl
theorem B_X7_pageOf_0 (sc : Nat × (Nat → Int)) (iv : Nat → Nat → Int) (x1 : Int) (x2 : Int) : Run sc 175 0 [some (Rf 52), some (I x1), some (I x2)] [] (hp iv) = aBind (Run sc 112 0 [some (Rf 52), some (I x1), some (I x2)] [] (hp iv)) (fun v h2 => Run sc 175 6 [some (Rf 52), some (I x1), some (I x2)] (pushR v []) h2) :=
  (R_aload_n mc_175 dX7_pageOf_0 rfl).trans <|
  (R_iload_n mc_175 dX7_pageOf_1 rfl).trans <|
  (R_iload_n mc_175 dX7_pageOf_2 rfl).trans <|
  R_invV mc_175 dX7_pageOf_3 mo_175 ct_7_85 af_175_112 rfl rfl rfl ⟨Nat.le_of_ble_eq_true rfl, Nat.le_of_ble_eq_true rfl⟩
theorem B_X7_pageOf_6 (sc : Nat × (Nat → Int)) (iv : Nat → Nat → Int) (x1 : Int) (x2 : Int) (s0 : Int) : Run sc 175 6 [some (Rf 52), some (I x1), some (I x2)] [(I s0)] (hp iv) = if s0 = 0 then Run sc 175 18 [some (Rf 52), some (I x1), some (I x2)] [] (hp iv) else aBind (Run sc 166 0 [some (Rf 52), some (I x1), some (I x2)] [] (hp iv)) (fun v h2 => Run sc 175 15 [some (Rf 52), some (I x1), some (I x2)] (pushR v []) h2) :=
  (R_if_eq mc_175 dX7_pageOf_6 (t := 18) rfl).trans <| ite_c2
  (rfl)
  ((R_aload_n mc_175 dX7_pageOf_9 rfl).trans <|
  (R_iload_n mc_175 dX7_pageOf_10 rfl).trans <|
  (R_iload_n mc_175 dX7_pageOf_11 rfl).trans <|
  R_invV mc_175 dX7_pageOf_12 mo_175 ct_7_224 af_175_166 rfl rfl rfl ⟨Nat.le_of_ble_eq_true rfl, Nat.le_of_ble_eq_true rfl⟩)
theorem B_X7_pageOf_15 (sc : Nat × (Nat → Int)) (iv : Nat → Nat → Int) (x1 : Int) (x2 : Int) (s0 : Int) : Run sc 175 15 [some (Rf 52), some (I x1), some (I x2)] [(I s0)] (hp iv) = Run sc 175 19 [some (Rf 52), some (I x1), some (I x2)] [(I s0)] (hp iv) :=
  R_goto mc_175 dX7_pageOf_15 (t := 19) rfl
theorem B_X7_pageOf_18 (sc : Nat × (Nat → Int)) (iv : Nat → Nat → Int) (x1 : Int) (x2 : Int) : Run sc 175 18 [some (Rf 52), some (I x1), some (I x2)] [] (hp iv) = Run sc 175 19 [some (Rf 52), some (I x1), some (I x2)] [(I (-1))] (hp iv) :=
  R_iconst mc_175 dX7_pageOf_18 ⟨by decide, by decide⟩
theorem B_X7_pageOf_19 (sc : Nat × (Nat → Int)) (iv : Nat → Nat → Int) (x1 : Int) (x2 : Int) (s0 : Int) : Run sc 175 19 [some (Rf 52), some (I x1), some (I x2)] [(I s0)] (hp iv) = some (some (I s0), hp iv) :=
  R_ireturn mc_175 dX7_pageOf_19 rfl
