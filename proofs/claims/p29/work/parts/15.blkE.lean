theorem B_X1_append_0 (sc : Nat × (Nat → Int)) (iv : Nat → Nat → Int) (x1 : Int) : Run sc 17 0 [some (Rf 50), some (I x1)] [] (hp iv) = if (iv 50 1) < 0 then Run sc 17 16 [some (Rf 50), some (I x1)] [] (hp iv) else if (iv 50 1) < 120 then Run sc 17 18 [some (Rf 50), some (I x1)] [] (hp iv) else Run sc 17 16 [some (Rf 50), some (I x1)] [] (hp iv) :=
  (R_aload_n mc_17 dX1_append_0 rfl).trans <|
  (R_getI mc_17 dX1_append_1 mo_17 ft_1_13 rfl rfl).trans <|
  (R_if_lt mc_17 dX1_append_4 (t := 16) rfl).trans <| ite_c2
  (rfl)
  ((R_aload_n mc_17 dX1_append_7 rfl).trans <|
  (R_getI mc_17 dX1_append_8 mo_17 ft_1_13 rfl rfl).trans <|
  (R_bipush mc_17 dX1_append_11 ⟨by decide, by decide⟩).trans <|
  R_icmp_lt mc_17 dX1_append_13 (t := 18) rfl)
theorem B_X1_append_16 (sc : Nat × (Nat → Int)) (iv : Nat → Nat → Int) (x1 : Int) : Run sc 17 16 [some (Rf 50), some (I x1)] [] (hp iv) = bck 0 1 0 (some (some (I 0), (hp iv))) :=
  (R_iconst mc_17 dX1_append_16 ⟨by decide, by decide⟩).trans <|
  R_ireturnZ mc_17 dX1_append_17 rfl
theorem B_X1_append_18 (sc : Nat × (Nat → Int)) (iv : Nat → Nat → Int) (x1 : Int) : Run sc 17 18 [some (Rf 50), some (I x1)] [] (hp iv) = bck 0 (((120 : Nat) : Int) - 1) (iv 50 1) (bck 0 65535 x1 (Run sc 17 28 [some (Rf 50), some (I x1)] [] (hp (setO iv 51 (upI (iv 51) (Int.toNat (iv 50 1)) x1))))) :=
  (R_aload_n mc_17 dX1_append_18 rfl).trans <|
  (R_getR mc_17 dX1_append_19 mo_17 ft_1_9 rfl rfl (r := 51) rfl (by decide)).trans <|
  (R_aload_n mc_17 dX1_append_22 rfl).trans <|
  (R_getI mc_17 dX1_append_23 mo_17 ft_1_13 rfl rfl).trans <|
  (R_iload_n mc_17 dX1_append_26 rfl).trans <|
  (R_castore mc_17 dX1_append_27 rfl).trans <| bck_congr <| bck_congr <|
  rfl
theorem B_X1_append_28 (sc : Nat × (Nat → Int)) (iv : Nat → Nat → Int) (x1 : Int) : Run sc 17 28 [some (Rf 50), some (I x1)] [] (hp iv) = chk ((iv 50 1) + 1) (bck (-2147483648) 2147483647 ((iv 50 1) + 1) (Run sc 17 38 [some (Rf 50), some (I x1)] [] (hp (setO iv 50 (upI (iv 50) 1 ((iv 50 1) + 1)))))) :=
  (R_aload_n mc_17 dX1_append_28 rfl).trans <|
  (R_dup mc_17 dX1_append_29).trans <|
  (R_getI mc_17 dX1_append_30 mo_17 ft_1_13 rfl rfl).trans <|
  (R_iconst mc_17 dX1_append_33 ⟨by decide, by decide⟩).trans <|
  (R_iadd mc_17 dX1_append_34).trans <| chk_congr <|
  (R_putI mc_17 dX1_append_35 mo_17 ft_1_13 rfl rfl rfl (lo := (-2147483648)) (hi := 2147483647) rfl rfl).trans <| bck_congr <|
  rfl
theorem B_X1_append_38 (sc : Nat × (Nat → Int)) (iv : Nat → Nat → Int) (x1 : Int) : Run sc 17 38 [some (Rf 50), some (I x1)] [] (hp iv) = bck 0 1 1 (some (some (I 1), (hp iv))) :=
  (R_iconst mc_17 dX1_append_38 ⟨by decide, by decide⟩).trans <|
  R_ireturnZ mc_17 dX1_append_39 rfl
theorem B_X1_characterAt_0 (sc : Nat × (Nat → Int)) (iv : Nat → Nat → Int) (x1 : Int) : Run sc 18 0 [some (Rf 50), some (I x1)] [] (hp iv) = aBind (Run sc 103 0 [some (I x1), some (I 0), some (I 119)] [] (hp iv)) (fun v h2 => Run sc 18 7 [some (Rf 50), some (I x1)] (pushR v []) h2) :=
  (R_iload_n mc_18 dX1_characterAt_0 rfl).trans <|
  (R_iconst mc_18 dX1_characterAt_1 ⟨by decide, by decide⟩).trans <|
  (R_bipush mc_18 dX1_characterAt_2 ⟨by decide, by decide⟩).trans <|
  R_invS mc_18 dX1_characterAt_4 mo_18 ct_1_17 (Or.inr rfl) af_18_103 (Nat.le_of_ble_eq_true rfl) rfl rfl ⟨Nat.le_of_ble_eq_true rfl, Nat.le_of_ble_eq_true rfl⟩
theorem B_X1_characterAt_7 (sc : Nat × (Nat → Int)) (iv : Nat → Nat → Int) (x1 : Int) (s0 : Int) : Run sc 18 7 [some (Rf 50), some (I x1)] [(I s0)] (hp iv) = if s0 = 0 then Run sc 18 19 [some (Rf 50), some (I x1)] [] (hp iv) else bck 0 (((120 : Nat) : Int) - 1) x1 (Run sc 18 21 [some (Rf 50), some (I x1)] [(I (iv 51 (Int.toNat x1)))] (hp iv)) :=
  (R_if_eq mc_18 dX1_characterAt_7 (t := 19) rfl).trans <| ite_c2
  (rfl)
  ((R_aload_n mc_18 dX1_characterAt_10 rfl).trans <|
  (R_getR mc_18 dX1_characterAt_11 mo_18 ft_1_9 rfl rfl (r := 51) rfl (by decide)).trans <|
  (R_iload_n mc_18 dX1_characterAt_14 rfl).trans <|
  (R_caload mc_18 dX1_characterAt_15 rfl).trans <| bck_congr <|
  R_goto mc_18 dX1_characterAt_16 (t := 21) rfl)
theorem B_X1_characterAt_19 (sc : Nat × (Nat → Int)) (iv : Nat → Nat → Int) (x1 : Int) : Run sc 18 19 [some (Rf 50), some (I x1)] [] (hp iv) = Run sc 18 21 [some (Rf 50), some (I x1)] [(I 47)] (hp iv) :=
  R_bipush mc_18 dX1_characterAt_19 ⟨by decide, by decide⟩
theorem B_X1_characterAt_21 (sc : Nat × (Nat → Int)) (iv : Nat → Nat → Int) (x1 : Int) (s0 : Int) : Run sc 18 21 [some (Rf 50), some (I x1)] [(I s0)] (hp iv) = bck 0 65535 s0 (some (some (I s0), (hp iv))) :=
  R_ireturnC mc_18 dX1_characterAt_21 rfl
theorem B_X1_isDigit_0 (sc : Nat × (Nat → Int)) (iv : Nat → Nat → Int) (x0 : Int) : Run sc 19 0 [some (I x0)] [] (hp iv) = if x0 < 48 then Run sc 19 16 [some (I x0)] [] (hp iv) else if 57 < x0 then Run sc 19 16 [some (I x0)] [] (hp iv) else Run sc 19 17 [some (I x0)] [(I 1)] (hp iv) :=
  (R_iload_n mc_19 dX1_isDigit_0 rfl).trans <|
  (R_bipush mc_19 dX1_isDigit_1 ⟨by decide, by decide⟩).trans <|
  (R_icmp_lt mc_19 dX1_isDigit_3 (t := 16) rfl).trans <| ite_c2
  (rfl)
  ((R_iload_n mc_19 dX1_isDigit_6 rfl).trans <|
  (R_bipush mc_19 dX1_isDigit_7 ⟨by decide, by decide⟩).trans <|
  (R_icmp_gt mc_19 dX1_isDigit_9 (t := 16) rfl).trans <| ite_c2
  (rfl)
  ((R_iconst mc_19 dX1_isDigit_12 ⟨by decide, by decide⟩).trans <|
  R_goto mc_19 dX1_isDigit_13 (t := 17) rfl))
theorem B_X1_isDigit_16 (sc : Nat × (Nat → Int)) (iv : Nat → Nat → Int) (x0 : Int) : Run sc 19 16 [some (I x0)] [] (hp iv) = Run sc 19 17 [some (I x0)] [(I 0)] (hp iv) :=
  R_iconst mc_19 dX1_isDigit_16 ⟨by decide, by decide⟩
theorem B_X1_isDigit_17 (sc : Nat × (Nat → Int)) (iv : Nat → Nat → Int) (x0 : Int) (s0 : Int) : Run sc 19 17 [some (I x0)] [(I s0)] (hp iv) = bck 0 1 s0 (some (some (I s0), (hp iv))) :=
  R_ireturnZ mc_19 dX1_isDigit_17 rfl
theorem B_X1_isEntry_0 (sc : Nat × (Nat → Int)) (iv : Nat → Nat → Int) (x0 : Int) : Run sc 20 0 [some (I x0)] [] (hp iv) = if x0 = 46 then Run sc 20 18 [some (I x0)] [] (hp iv) else if x0 < 97 then Run sc 20 22 [some (I x0)] [] (hp iv) else if 102 < x0 then Run sc 20 22 [some (I x0)] [] (hp iv) else Run sc 20 18 [some (I x0)] [] (hp iv) :=
  (R_iload_n mc_20 dX1_isEntry_0 rfl).trans <|
  (R_bipush mc_20 dX1_isEntry_1 ⟨by decide, by decide⟩).trans <|
  (R_icmp_eq mc_20 dX1_isEntry_3 (t := 18) rfl).trans <| ite_c2
  (rfl)
  ((R_iload_n mc_20 dX1_isEntry_6 rfl).trans <|
  (R_bipush mc_20 dX1_isEntry_7 ⟨by decide, by decide⟩).trans <|
  (R_icmp_lt mc_20 dX1_isEntry_9 (t := 22) rfl).trans <| ite_c2
  (rfl)
  ((R_iload_n mc_20 dX1_isEntry_12 rfl).trans <|
  (R_bipush mc_20 dX1_isEntry_13 ⟨by decide, by decide⟩).trans <|
  R_icmp_gt mc_20 dX1_isEntry_15 (t := 22) rfl))
theorem B_X1_isEntry_18 (sc : Nat × (Nat → Int)) (iv : Nat → Nat → Int) (x0 : Int) : Run sc 20 18 [some (I x0)] [] (hp iv) = Run sc 20 23 [some (I x0)] [(I 1)] (hp iv) :=
  (R_iconst mc_20 dX1_isEntry_18 ⟨by decide, by decide⟩).trans <|
  R_goto mc_20 dX1_isEntry_19 (t := 23) rfl
theorem B_X1_isEntry_22 (sc : Nat × (Nat → Int)) (iv : Nat → Nat → Int) (x0 : Int) : Run sc 20 22 [some (I x0)] [] (hp iv) = Run sc 20 23 [some (I x0)] [(I 0)] (hp iv) :=
  R_iconst mc_20 dX1_isEntry_22 ⟨by decide, by decide⟩
theorem B_X1_isEntry_23 (sc : Nat × (Nat → Int)) (iv : Nat → Nat → Int) (x0 : Int) (s0 : Int) : Run sc 20 23 [some (I x0)] [(I s0)] (hp iv) = bck 0 1 s0 (some (some (I s0), (hp iv))) :=
  R_ireturnZ mc_20 dX1_isEntry_23 rfl
theorem B_X1_colorOf_0 (sc : Nat × (Nat → Int)) (iv : Nat → Nat → Int) (x0 : Int) : Run sc 21 0 [some (I x0)] [] (hp iv) = if x0 = 46 then Run sc 21 16 [some (I x0)] [(I 0)] (hp iv) else Run sc 21 10 [some (I x0)] [] (hp iv) :=
  (R_iload_n mc_21 dX1_colorOf_0 rfl).trans <|
  (R_bipush mc_21 dX1_colorOf_1 ⟨by decide, by decide⟩).trans <|
  (R_icmp_ne mc_21 dX1_colorOf_3 (t := 10) rfl).trans <| ite_c2
  ((R_iconst mc_21 dX1_colorOf_6 ⟨by decide, by decide⟩).trans <|
  R_goto mc_21 dX1_colorOf_7 (t := 16) rfl)
  (rfl)
theorem B_X1_colorOf_10 (sc : Nat × (Nat → Int)) (iv : Nat → Nat → Int) (x0 : Int) : Run sc 21 10 [some (I x0)] [] (hp iv) = chk (x0 - 97) (chk ((x0 - 97) + 1) (Run sc 21 16 [some (I x0)] [(I ((x0 - 97) + 1))] (hp iv))) :=
  (R_iload_n mc_21 dX1_colorOf_10 rfl).trans <|
  (R_bipush mc_21 dX1_colorOf_11 ⟨by decide, by decide⟩).trans <|
  (R_isub mc_21 dX1_colorOf_13).trans <| chk_congr <|
  (R_iconst mc_21 dX1_colorOf_14 ⟨by decide, by decide⟩).trans <|
  (R_iadd mc_21 dX1_colorOf_15).trans <| chk_congr <|
  rfl
theorem B_X1_colorOf_16 (sc : Nat × (Nat → Int)) (iv : Nat → Nat → Int) (x0 : Int) (s0 : Int) : Run sc 21 16 [some (I x0)] [(I s0)] (hp iv) = some (some (I s0), (hp iv)) :=
  R_ireturn mc_21 dX1_colorOf_16 rfl
theorem B_X1_startNumber_0 (sc : Nat × (Nat → Int)) (iv : Nat → Nat → Int)  : Run sc 22 0 [some (Rf 50)] [] (hp iv) = bck (-2147483648) 2147483647 0 (Run sc 22 5 [some (Rf 50)] [] (hp (setO iv 50 (upI (iv 50) 2 0)))) :=
  (R_aload_n mc_22 dX1_startNumber_0 rfl).trans <|
  (R_iconst mc_22 dX1_startNumber_1 ⟨by decide, by decide⟩).trans <|
  (R_putI mc_22 dX1_startNumber_2 mo_22 ft_1_23 rfl rfl rfl (lo := (-2147483648)) (hi := 2147483647) rfl rfl).trans <| bck_congr <|
  rfl
theorem B_X1_startNumber_5 (sc : Nat × (Nat → Int)) (iv : Nat → Nat → Int)  : Run sc 22 5 [some (Rf 50)] [] (hp iv) = bck (-2147483648) 2147483647 0 (Run sc 22 10 [some (Rf 50)] [] (hp (setO iv 50 (upI (iv 50) 3 0)))) :=
  (R_aload_n mc_22 dX1_startNumber_5 rfl).trans <|
  (R_iconst mc_22 dX1_startNumber_6 ⟨by decide, by decide⟩).trans <|
  (R_putI mc_22 dX1_startNumber_7 mo_22 ft_1_26 rfl rfl rfl (lo := (-2147483648)) (hi := 2147483647) rfl rfl).trans <| bck_congr <|
  rfl
theorem B_X1_startNumber_10 (sc : Nat × (Nat → Int)) (iv : Nat → Nat → Int)  : Run sc 22 10 [some (Rf 50)] [] (hp iv) = some (none, (hp iv)) :=
  R_return mc_22 dX1_startNumber_10 rfl
theorem B_X1_addDigit_0 (sc : Nat × (Nat → Int)) (iv : Nat → Nat → Int) (x1 : Int) : Run sc 23 0 [some (Rf 50), some (I x1)] [] (hp iv) = chk (10 * (iv 50 2)) (chk (x1 - 48) (chk ((10 * (iv 50 2)) + (x1 - 48)) (bck (-2147483648) 2147483647 ((10 * (iv 50 2)) + (x1 - 48)) (Run sc 23 16 [some (Rf 50), some (I x1)] [] (hp (setO iv 50 (upI (iv 50) 2 ((10 * (iv 50 2)) + (x1 - 48))))))))) :=
  (R_aload_n mc_23 dX1_addDigit_0 rfl).trans <|
  (R_bipush mc_23 dX1_addDigit_1 ⟨by decide, by decide⟩).trans <|
  (R_aload_n mc_23 dX1_addDigit_3 rfl).trans <|
  (R_getI mc_23 dX1_addDigit_4 mo_23 ft_1_23 rfl rfl).trans <|
  (R_imul mc_23 dX1_addDigit_7).trans <| chk_congr <|
  (R_iload_n mc_23 dX1_addDigit_8 rfl).trans <|
  (R_bipush mc_23 dX1_addDigit_9 ⟨by decide, by decide⟩).trans <|
  (R_isub mc_23 dX1_addDigit_11).trans <| chk_congr <|
  (R_iadd mc_23 dX1_addDigit_12).trans <| chk_congr <|
  (R_putI mc_23 dX1_addDigit_13 mo_23 ft_1_23 rfl rfl rfl (lo := (-2147483648)) (hi := 2147483647) rfl rfl).trans <| bck_congr <|
  rfl
theorem B_X1_addDigit_16 (sc : Nat × (Nat → Int)) (iv : Nat → Nat → Int) (x1 : Int) : Run sc 23 16 [some (Rf 50), some (I x1)] [] (hp iv) = chk ((iv 50 3) + 1) (bck (-2147483648) 2147483647 ((iv 50 3) + 1) (Run sc 23 26 [some (Rf 50), some (I x1)] [] (hp (setO iv 50 (upI (iv 50) 3 ((iv 50 3) + 1)))))) :=
  (R_aload_n mc_23 dX1_addDigit_16 rfl).trans <|
  (R_dup mc_23 dX1_addDigit_17).trans <|
  (R_getI mc_23 dX1_addDigit_18 mo_23 ft_1_26 rfl rfl).trans <|
  (R_iconst mc_23 dX1_addDigit_21 ⟨by decide, by decide⟩).trans <|
  (R_iadd mc_23 dX1_addDigit_22).trans <| chk_congr <|
  (R_putI mc_23 dX1_addDigit_23 mo_23 ft_1_26 rfl rfl rfl (lo := (-2147483648)) (hi := 2147483647) rfl rfl).trans <| bck_congr <|
  rfl
theorem B_X1_addDigit_26 (sc : Nat × (Nat → Int)) (iv : Nat → Nat → Int) (x1 : Int) : Run sc 23 26 [some (Rf 50), some (I x1)] [] (hp iv) = some (none, (hp iv)) :=
  R_return mc_23 dX1_addDigit_26 rfl
theorem B_X1_numberOfCells_0 (sc : Nat × (Nat → Int)) (iv : Nat → Nat → Int)  : Run sc 24 0 [some (Rf 50)] [] (hp iv) = if (iv 50 3) = 0 then Run sc 24 15 [some (Rf 50)] [(I 1)] (hp iv) else Run sc 24 11 [some (Rf 50)] [] (hp iv) :=
  (R_aload_n mc_24 dX1_numberOfCells_0 rfl).trans <|
  (R_getI mc_24 dX1_numberOfCells_1 mo_24 ft_1_26 rfl rfl).trans <|
  (R_if_ne mc_24 dX1_numberOfCells_4 (t := 11) rfl).trans <| ite_c2
  ((R_iconst mc_24 dX1_numberOfCells_7 ⟨by decide, by decide⟩).trans <|
  R_goto mc_24 dX1_numberOfCells_8 (t := 15) rfl)
  (rfl)
theorem B_X1_numberOfCells_11 (sc : Nat × (Nat → Int)) (iv : Nat → Nat → Int)  : Run sc 24 11 [some (Rf 50)] [] (hp iv) = Run sc 24 15 [some (Rf 50)] [(I (iv 50 2))] (hp iv) :=
  (R_aload_n mc_24 dX1_numberOfCells_11 rfl).trans <|
  R_getI mc_24 dX1_numberOfCells_12 mo_24 ft_1_23 rfl rfl
theorem B_X1_numberOfCells_15 (sc : Nat × (Nat → Int)) (iv : Nat → Nat → Int) (s0 : Int) : Run sc 24 15 [some (Rf 50)] [(I s0)] (hp iv) = some (some (I s0), (hp iv)) :=
  R_ireturn mc_24 dX1_numberOfCells_15 rfl
theorem B_X1_findFault_0 (sc : Nat × (Nat → Int)) (iv : Nat → Nat → Int) (x1 : Int) (x2 : Int) : Run sc 25 0 [some (Rf 50), some (I x1), some (I x2), none] [] (hp iv) = aBind (Run sc 26 0 [some (Rf 50), none, none, none] [] (hp iv)) (fun v h2 => Run sc 25 4 [some (Rf 50), some (I x1), some (I x2), none] (pushR v []) h2) :=
  (R_aload_n mc_25 dX1_findFault_0 rfl).trans <|
  R_invV mc_25 dX1_findFault_1 mo_25 ct_1_29 af_25_26 rfl rfl rfl ⟨Nat.le_of_ble_eq_true rfl, Nat.le_of_ble_eq_true rfl⟩
theorem B_X1_findFault_4 (sc : Nat × (Nat → Int)) (iv : Nat → Nat → Int) (x1 : Int) (x2 : Int) (d3 : Option AV) (s0 : Int) : Run sc 25 4 [some (Rf 50), some (I x1), some (I x2), d3] [(I s0)] (hp iv) = if s0 = (-1) then Run sc 25 12 [some (Rf 50), some (I x1), some (I x2), some (I s0)] [] (hp iv) else some (some (I s0), (hp iv)) :=
  (R_istore_n mc_25 dX1_findFault_4 (Nat.le_of_ble_eq_true rfl)).trans <|
  (R_iload_n mc_25 dX1_findFault_5 rfl).trans <|
  (R_iconst mc_25 dX1_findFault_6 ⟨by decide, by decide⟩).trans <|
  (R_icmp_eq mc_25 dX1_findFault_7 (t := 12) rfl).trans <| ite_c2
  (rfl)
  ((R_iload_n mc_25 dX1_findFault_10 rfl).trans <|
  R_ireturn mc_25 dX1_findFault_11 rfl)
theorem B_X1_findFault_12 (sc : Nat × (Nat → Int)) (iv : Nat → Nat → Int) (x1 : Int) (x2 : Int) (x3 : Int) : Run sc 25 12 [some (Rf 50), some (I x1), some (I x2), some (I x3)] [] (hp iv) = aBind (Run sc 27 0 [some (Rf 50), some (I x1), some (I x2), none, none, none, none] [] (hp iv)) (fun v h2 => Run sc 25 18 [some (Rf 50), some (I x1), some (I x2), some (I x3)] (pushR v []) h2) :=
  (R_aload_n mc_25 dX1_findFault_12 rfl).trans <|
  (R_iload_n mc_25 dX1_findFault_13 rfl).trans <|
  (R_iload_n mc_25 dX1_findFault_14 rfl).trans <|
  R_invV mc_25 dX1_findFault_15 mo_25 ct_1_33 af_25_27 rfl rfl rfl ⟨Nat.le_of_ble_eq_true rfl, Nat.le_of_ble_eq_true rfl⟩
theorem B_X1_findFault_18 (sc : Nat × (Nat → Int)) (iv : Nat → Nat → Int) (x1 : Int) (x2 : Int) (x3 : Int) (s0 : Int) : Run sc 25 18 [some (Rf 50), some (I x1), some (I x2), some (I x3)] [(I s0)] (hp iv) = if s0 = 0 then Run sc 25 25 [some (Rf 50), some (I x1), some (I x2), some (I x3)] [] (hp iv) else Run sc 25 27 [some (Rf 50), some (I x1), some (I x2), some (I x3)] [(I (-1))] (hp iv) :=
  (R_if_eq mc_25 dX1_findFault_18 (t := 25) rfl).trans <| ite_c2
  (rfl)
  ((R_iconst mc_25 dX1_findFault_21 ⟨by decide, by decide⟩).trans <|
  R_goto mc_25 dX1_findFault_22 (t := 27) rfl)
theorem B_X1_findFault_25 (sc : Nat × (Nat → Int)) (iv : Nat → Nat → Int) (x1 : Int) (x2 : Int) (x3 : Int) : Run sc 25 25 [some (Rf 50), some (I x1), some (I x2), some (I x3)] [] (hp iv) = Run sc 25 27 [some (Rf 50), some (I x1), some (I x2), some (I x3)] [(I 120)] (hp iv) :=
  R_bipush mc_25 dX1_findFault_25 ⟨by decide, by decide⟩
theorem B_X1_findFault_27 (sc : Nat × (Nat → Int)) (iv : Nat → Nat → Int) (x1 : Int) (x2 : Int) (x3 : Int) (s0 : Int) : Run sc 25 27 [some (Rf 50), some (I x1), some (I x2), some (I x3)] [(I s0)] (hp iv) = some (some (I s0), (hp iv)) :=
  R_ireturn mc_25 dX1_findFault_27 rfl
theorem B_X1_findMisplaced_0 (sc : Nat × (Nat → Int)) (iv : Nat → Nat → Int)  : Run sc 26 0 [some (Rf 50), none, none, none] [] (hp iv) = aBind (Run sc 22 0 [some (Rf 50)] [] (hp iv)) (fun v h2 => Run sc 26 4 [some (Rf 50), none, none, none] (pushR v []) h2) :=
  (R_aload_n mc_26 dX1_findMisplaced_0 rfl).trans <|
  R_invV mc_26 dX1_findMisplaced_1 mo_26 ct_1_37 af_26_22 rfl rfl rfl ⟨Nat.le_of_ble_eq_true rfl, Nat.le_of_ble_eq_true rfl⟩
theorem B_X1_findMisplaced_4 (sc : Nat × (Nat → Int)) (iv : Nat → Nat → Int) (d1 : Option AV) (d2 : Option AV) (d3 : Option AV) : Run sc 26 4 [some (Rf 50), d1, d2, d3] [] (hp iv) = Run sc 26 6 [some (Rf 50), some (I 0), d2, d3] [] (hp iv) :=
  (R_iconst mc_26 dX1_findMisplaced_4 ⟨by decide, by decide⟩).trans <|
  R_istore_n mc_26 dX1_findMisplaced_5 (Nat.le_of_ble_eq_true rfl)
theorem B_X1_findMisplaced_6 (sc : Nat × (Nat → Int)) (iv : Nat → Nat → Int) (x1 : Int) (d2 : Option AV) (d3 : Option AV) : Run sc 26 6 [some (Rf 50), some (I x1), d2, d3] [] (hp iv) = if x1 < (iv 50 1) then aBind (Run sc 18 0 [some (Rf 50), some (I x1)] [] (hp iv)) (fun v h2 => Run sc 26 19 [some (Rf 50), some (I x1), d2, d3] (pushR v []) h2) else Run sc 26 107 [some (Rf 50), some (I x1), d2, d3] [] (hp iv) :=
  (R_iload_n mc_26 dX1_findMisplaced_6 rfl).trans <|
  (R_aload_n mc_26 dX1_findMisplaced_7 rfl).trans <|
  (R_getI mc_26 dX1_findMisplaced_8 mo_26 ft_1_13 rfl rfl).trans <|
  (R_icmp_ge mc_26 dX1_findMisplaced_11 (t := 107) rfl).trans <| ite_c2
  ((R_aload_n mc_26 dX1_findMisplaced_14 rfl).trans <|
  (R_iload_n mc_26 dX1_findMisplaced_15 rfl).trans <|
  R_invV mc_26 dX1_findMisplaced_16 mo_26 ct_1_40 af_26_18 rfl rfl rfl ⟨Nat.le_of_ble_eq_true rfl, Nat.le_of_ble_eq_true rfl⟩)
  (rfl)
theorem B_X1_findMisplaced_19 (sc : Nat × (Nat → Int)) (iv : Nat → Nat → Int) (x1 : Int) (d2 : Option AV) (d3 : Option AV) (s0 : Int) : Run sc 26 19 [some (Rf 50), some (I x1), d2, d3] [(I s0)] (hp iv) = aBind (Run sc 19 0 [some (I s0)] [] (hp iv)) (fun v h2 => Run sc 26 24 [some (Rf 50), some (I x1), some (I s0), d3] (pushR v []) h2) :=
  (R_istore_n mc_26 dX1_findMisplaced_19 (Nat.le_of_ble_eq_true rfl)).trans <|
  (R_iload_n mc_26 dX1_findMisplaced_20 rfl).trans <|
  R_invS mc_26 dX1_findMisplaced_21 mo_26 ct_1_44 (Or.inl rfl) af_26_19 (Nat.le_of_ble_eq_true rfl) rfl rfl ⟨Nat.le_of_ble_eq_true rfl, Nat.le_of_ble_eq_true rfl⟩
theorem B_X1_findMisplaced_24 (sc : Nat × (Nat → Int)) (iv : Nat → Nat → Int) (x1 : Int) (x2 : Int) (d3 : Option AV) (s0 : Int) : Run sc 26 24 [some (Rf 50), some (I x1), some (I x2), d3] [(I s0)] (hp iv) = if s0 = 0 then Run sc 26 45 [some (Rf 50), some (I x1), some (I x2), d3] [] (hp iv) else if (iv 50 3) = 2 then some (some (I x1), (hp iv)) else Run sc 26 37 [some (Rf 50), some (I x1), some (I x2), d3] [] (hp iv) :=
  (R_if_eq mc_26 dX1_findMisplaced_24 (t := 45) rfl).trans <| ite_c2
  (rfl)
  ((R_aload_n mc_26 dX1_findMisplaced_27 rfl).trans <|
  (R_getI mc_26 dX1_findMisplaced_28 mo_26 ft_1_26 rfl rfl).trans <|
  (R_iconst mc_26 dX1_findMisplaced_31 ⟨by decide, by decide⟩).trans <|
  (R_icmp_ne mc_26 dX1_findMisplaced_32 (t := 37) rfl).trans <| ite_c2
  ((R_iload_n mc_26 dX1_findMisplaced_35 rfl).trans <|
  R_ireturn mc_26 dX1_findMisplaced_36 rfl)
  (rfl))
theorem B_X1_findMisplaced_37 (sc : Nat × (Nat → Int)) (iv : Nat → Nat → Int) (x1 : Int) (x2 : Int) (d3 : Option AV) : Run sc 26 37 [some (Rf 50), some (I x1), some (I x2), d3] [] (hp iv) = aBind (Run sc 23 0 [some (Rf 50), some (I x2)] [] (hp iv)) (fun v h2 => Run sc 26 42 [some (Rf 50), some (I x1), some (I x2), d3] (pushR v []) h2) :=
  (R_aload_n mc_26 dX1_findMisplaced_37 rfl).trans <|
  (R_iload_n mc_26 dX1_findMisplaced_38 rfl).trans <|
  R_invV mc_26 dX1_findMisplaced_39 mo_26 ct_1_48 af_26_23 rfl rfl rfl ⟨Nat.le_of_ble_eq_true rfl, Nat.le_of_ble_eq_true rfl⟩
theorem B_X1_findMisplaced_42 (sc : Nat × (Nat → Int)) (iv : Nat → Nat → Int) (x1 : Int) (x2 : Int) (d3 : Option AV) : Run sc 26 42 [some (Rf 50), some (I x1), some (I x2), d3] [] (hp iv) = Run sc 26 101 [some (Rf 50), some (I x1), some (I x2), d3] [] (hp iv) :=
  R_goto mc_26 dX1_findMisplaced_42 (t := 101) rfl
theorem B_X1_findMisplaced_45 (sc : Nat × (Nat → Int)) (iv : Nat → Nat → Int) (x1 : Int) (x2 : Int) (d3 : Option AV) : Run sc 26 45 [some (Rf 50), some (I x1), some (I x2), d3] [] (hp iv) = aBind (Run sc 24 0 [some (Rf 50)] [] (hp iv)) (fun v h2 => Run sc 26 49 [some (Rf 50), some (I x1), some (I x2), d3] (pushR v []) h2) :=
  (R_aload_n mc_26 dX1_findMisplaced_45 rfl).trans <|
  R_invV mc_26 dX1_findMisplaced_46 mo_26 ct_1_52 af_26_24 rfl rfl rfl ⟨Nat.le_of_ble_eq_true rfl, Nat.le_of_ble_eq_true rfl⟩
theorem B_X1_findMisplaced_49 (sc : Nat × (Nat → Int)) (iv : Nat → Nat → Int) (x1 : Int) (x2 : Int) (d3 : Option AV) (s0 : Int) : Run sc 26 49 [some (Rf 50), some (I x1), some (I x2), d3] [(I s0)] (hp iv) = aBind (Run sc 103 0 [some (I s0), some (I 1), some (I 24)] [] (hp iv)) (fun v h2 => Run sc 26 55 [some (Rf 50), some (I x1), some (I x2), d3] (pushR v []) h2) :=
  (R_iconst mc_26 dX1_findMisplaced_49 ⟨by decide, by decide⟩).trans <|
  (R_bipush mc_26 dX1_findMisplaced_50 ⟨by decide, by decide⟩).trans <|
  R_invS mc_26 dX1_findMisplaced_52 mo_26 ct_1_17 (Or.inr rfl) af_26_103 (Nat.le_of_ble_eq_true rfl) rfl rfl ⟨Nat.le_of_ble_eq_true rfl, Nat.le_of_ble_eq_true rfl⟩
theorem B_X1_findMisplaced_55 (sc : Nat × (Nat → Int)) (iv : Nat → Nat → Int) (x1 : Int) (x2 : Int) (d3 : Option AV) (s0 : Int) : Run sc 26 55 [some (Rf 50), some (I x1), some (I x2), d3] [(I s0)] (hp iv) = if s0 = 0 then chk (x1 - (iv 50 3)) (some (some (I (x1 - (iv 50 3))), (hp iv))) else Run sc 26 65 [some (Rf 50), some (I x1), some (I x2), d3] [] (hp iv) :=
  (R_if_ne mc_26 dX1_findMisplaced_55 (t := 65) rfl).trans <| ite_c2
  ((R_iload_n mc_26 dX1_findMisplaced_58 rfl).trans <|
  (R_aload_n mc_26 dX1_findMisplaced_59 rfl).trans <|
  (R_getI mc_26 dX1_findMisplaced_60 mo_26 ft_1_26 rfl rfl).trans <|
  (R_isub mc_26 dX1_findMisplaced_63).trans <| chk_congr <|
  R_ireturn mc_26 dX1_findMisplaced_64 rfl)
  (rfl)
theorem B_X1_findMisplaced_65 (sc : Nat × (Nat → Int)) (iv : Nat → Nat → Int) (x1 : Int) (x2 : Int) (d3 : Option AV) : Run sc 26 65 [some (Rf 50), some (I x1), some (I x2), d3] [] (hp iv) = if x2 = 47 then if (iv 50 3) = 0 then Run sc 26 83 [some (Rf 50), some (I x1), some (I x2), d3] [(I 1)] (hp iv) else Run sc 26 82 [some (Rf 50), some (I x1), some (I x2), d3] [] (hp iv) else Run sc 26 82 [some (Rf 50), some (I x1), some (I x2), d3] [] (hp iv) :=
  (R_iload_n mc_26 dX1_findMisplaced_65 rfl).trans <|
  (R_bipush mc_26 dX1_findMisplaced_66 ⟨by decide, by decide⟩).trans <|
  (R_icmp_ne mc_26 dX1_findMisplaced_68 (t := 82) rfl).trans <| ite_c2
  ((R_aload_n mc_26 dX1_findMisplaced_71 rfl).trans <|
  (R_getI mc_26 dX1_findMisplaced_72 mo_26 ft_1_26 rfl rfl).trans <|
  (R_if_ne mc_26 dX1_findMisplaced_75 (t := 82) rfl).trans <| ite_c2
  ((R_iconst mc_26 dX1_findMisplaced_78 ⟨by decide, by decide⟩).trans <|
  R_goto mc_26 dX1_findMisplaced_79 (t := 83) rfl)
  (rfl))
  (rfl)
theorem B_X1_findMisplaced_82 (sc : Nat × (Nat → Int)) (iv : Nat → Nat → Int) (x1 : Int) (x2 : Int) (d3 : Option AV) : Run sc 26 82 [some (Rf 50), some (I x1), some (I x2), d3] [] (hp iv) = Run sc 26 83 [some (Rf 50), some (I x1), some (I x2), d3] [(I 0)] (hp iv) :=
  R_iconst mc_26 dX1_findMisplaced_82 ⟨by decide, by decide⟩
theorem B_X1_findMisplaced_83 (sc : Nat × (Nat → Int)) (iv : Nat → Nat → Int) (x1 : Int) (x2 : Int) (d3 : Option AV) (s0 : Int) : Run sc 26 83 [some (Rf 50), some (I x1), some (I x2), d3] [(I s0)] (hp iv) = if s0 = 0 then aBind (Run sc 20 0 [some (I x2)] [] (hp iv)) (fun v h2 => Run sc 26 92 [some (Rf 50), some (I x1), some (I x2), some (I s0)] (pushR v []) h2) else Run sc 26 97 [some (Rf 50), some (I x1), some (I x2), some (I s0)] [] (hp iv) :=
  (R_istore_n mc_26 dX1_findMisplaced_83 (Nat.le_of_ble_eq_true rfl)).trans <|
  (R_iload_n mc_26 dX1_findMisplaced_84 rfl).trans <|
  (R_if_ne mc_26 dX1_findMisplaced_85 (t := 97) rfl).trans <| ite_c2
  ((R_iload_n mc_26 dX1_findMisplaced_88 rfl).trans <|
  R_invS mc_26 dX1_findMisplaced_89 mo_26 ct_1_55 (Or.inl rfl) af_26_20 (Nat.le_of_ble_eq_true rfl) rfl rfl ⟨Nat.le_of_ble_eq_true rfl, Nat.le_of_ble_eq_true rfl⟩)
  (rfl)
theorem B_X1_findMisplaced_92 (sc : Nat × (Nat → Int)) (iv : Nat → Nat → Int) (x1 : Int) (x2 : Int) (x3 : Int) (s0 : Int) : Run sc 26 92 [some (Rf 50), some (I x1), some (I x2), some (I x3)] [(I s0)] (hp iv) = if s0 = 0 then some (some (I x1), (hp iv)) else Run sc 26 97 [some (Rf 50), some (I x1), some (I x2), some (I x3)] [] (hp iv) :=
  (R_if_ne mc_26 dX1_findMisplaced_92 (t := 97) rfl).trans <| ite_c2
  ((R_iload_n mc_26 dX1_findMisplaced_95 rfl).trans <|
  R_ireturn mc_26 dX1_findMisplaced_96 rfl)
  (rfl)
theorem B_X1_findMisplaced_97 (sc : Nat × (Nat → Int)) (iv : Nat → Nat → Int) (x1 : Int) (x2 : Int) (x3 : Int) : Run sc 26 97 [some (Rf 50), some (I x1), some (I x2), some (I x3)] [] (hp iv) = aBind (Run sc 22 0 [some (Rf 50)] [] (hp iv)) (fun v h2 => Run sc 26 101 [some (Rf 50), some (I x1), some (I x2), some (I x3)] (pushR v []) h2) :=
  (R_aload_n mc_26 dX1_findMisplaced_97 rfl).trans <|
  R_invV mc_26 dX1_findMisplaced_98 mo_26 ct_1_37 af_26_22 rfl rfl rfl ⟨Nat.le_of_ble_eq_true rfl, Nat.le_of_ble_eq_true rfl⟩
theorem B_X1_findMisplaced_101 (sc : Nat × (Nat → Int)) (iv : Nat → Nat → Int) (x1 : Int) (x2 : Int) (d3 : Option AV) : Run sc 26 101 [some (Rf 50), some (I x1), some (I x2), d3] [] (hp iv) = chk (x1 + 1) (Run sc 26 6 [some (Rf 50), some (I (x1 + 1)), some (I x2), d3] [] (hp iv)) :=
  (R_iinc mc_26 dX1_findMisplaced_101 rfl).trans <| chk_congr <|
  R_goto mc_26 dX1_findMisplaced_104 (t := 6) rfl
theorem B_X1_findMisplaced_107 (sc : Nat × (Nat → Int)) (iv : Nat → Nat → Int) (x1 : Int) (d2 : Option AV) (d3 : Option AV) : Run sc 26 107 [some (Rf 50), some (I x1), d2, d3] [] (hp iv) = aBind (Run sc 24 0 [some (Rf 50)] [] (hp iv)) (fun v h2 => Run sc 26 111 [some (Rf 50), some (I x1), d2, d3] (pushR v []) h2) :=
  (R_aload_n mc_26 dX1_findMisplaced_107 rfl).trans <|
  R_invV mc_26 dX1_findMisplaced_108 mo_26 ct_1_52 af_26_24 rfl rfl rfl ⟨Nat.le_of_ble_eq_true rfl, Nat.le_of_ble_eq_true rfl⟩
theorem B_X1_findMisplaced_111 (sc : Nat × (Nat → Int)) (iv : Nat → Nat → Int) (x1 : Int) (d2 : Option AV) (d3 : Option AV) (s0 : Int) : Run sc 26 111 [some (Rf 50), some (I x1), d2, d3] [(I s0)] (hp iv) = aBind (Run sc 103 0 [some (I s0), some (I 1), some (I 24)] [] (hp iv)) (fun v h2 => Run sc 26 117 [some (Rf 50), some (I x1), d2, d3] (pushR v []) h2) :=
  (R_iconst mc_26 dX1_findMisplaced_111 ⟨by decide, by decide⟩).trans <|
  (R_bipush mc_26 dX1_findMisplaced_112 ⟨by decide, by decide⟩).trans <|
  R_invS mc_26 dX1_findMisplaced_114 mo_26 ct_1_17 (Or.inr rfl) af_26_103 (Nat.le_of_ble_eq_true rfl) rfl rfl ⟨Nat.le_of_ble_eq_true rfl, Nat.le_of_ble_eq_true rfl⟩
theorem B_X1_findMisplaced_117 (sc : Nat × (Nat → Int)) (iv : Nat → Nat → Int) (x1 : Int) (d2 : Option AV) (d3 : Option AV) (s0 : Int) : Run sc 26 117 [some (Rf 50), some (I x1), d2, d3] [(I s0)] (hp iv) = if s0 = 0 then chk ((iv 50 1) - (iv 50 3)) (some (some (I ((iv 50 1) - (iv 50 3))), (hp iv))) else Run sc 26 130 [some (Rf 50), some (I x1), d2, d3] [] (hp iv) :=
  (R_if_ne mc_26 dX1_findMisplaced_117 (t := 130) rfl).trans <| ite_c2
  ((R_aload_n mc_26 dX1_findMisplaced_120 rfl).trans <|
  (R_getI mc_26 dX1_findMisplaced_121 mo_26 ft_1_13 rfl rfl).trans <|
  (R_aload_n mc_26 dX1_findMisplaced_124 rfl).trans <|
  (R_getI mc_26 dX1_findMisplaced_125 mo_26 ft_1_26 rfl rfl).trans <|
  (R_isub mc_26 dX1_findMisplaced_128).trans <| chk_congr <|
  R_ireturn mc_26 dX1_findMisplaced_129 rfl)
  (rfl)
theorem B_X1_findMisplaced_130 (sc : Nat × (Nat → Int)) (iv : Nat → Nat → Int) (x1 : Int) (d2 : Option AV) (d3 : Option AV) : Run sc 26 130 [some (Rf 50), some (I x1), d2, d3] [] (hp iv) = if (iv 50 3) = 0 then Run sc 26 145 [some (Rf 50), some (I x1), d2, d3] [(I (-1))] (hp iv) else Run sc 26 141 [some (Rf 50), some (I x1), d2, d3] [] (hp iv) :=
  (R_aload_n mc_26 dX1_findMisplaced_130 rfl).trans <|
  (R_getI mc_26 dX1_findMisplaced_131 mo_26 ft_1_26 rfl rfl).trans <|
  (R_if_ne mc_26 dX1_findMisplaced_134 (t := 141) rfl).trans <| ite_c2
  ((R_iconst mc_26 dX1_findMisplaced_137 ⟨by decide, by decide⟩).trans <|
  R_goto mc_26 dX1_findMisplaced_138 (t := 145) rfl)
  (rfl)
theorem B_X1_findMisplaced_141 (sc : Nat × (Nat → Int)) (iv : Nat → Nat → Int) (x1 : Int) (d2 : Option AV) (d3 : Option AV) : Run sc 26 141 [some (Rf 50), some (I x1), d2, d3] [] (hp iv) = Run sc 26 145 [some (Rf 50), some (I x1), d2, d3] [(I (iv 50 1))] (hp iv) :=
  (R_aload_n mc_26 dX1_findMisplaced_141 rfl).trans <|
  R_getI mc_26 dX1_findMisplaced_142 mo_26 ft_1_13 rfl rfl
theorem B_X1_findMisplaced_145 (sc : Nat × (Nat → Int)) (iv : Nat → Nat → Int) (x1 : Int) (d2 : Option AV) (d3 : Option AV) (s0 : Int) : Run sc 26 145 [some (Rf 50), some (I x1), d2, d3] [(I s0)] (hp iv) = some (some (I s0), (hp iv)) :=
  R_ireturn mc_26 dX1_findMisplaced_145 rfl
theorem B_X1_fits_0 (sc : Nat × (Nat → Int)) (iv : Nat → Nat → Int) (x1 : Int) (x2 : Int) : Run sc 27 0 [some (Rf 50), some (I x1), some (I x2), none, none, none, none] [] (hp iv) = aBind (Run sc 22 0 [some (Rf 50)] [] (hp iv)) (fun v h2 => Run sc 27 4 [some (Rf 50), some (I x1), some (I x2), none, none, none, none] (pushR v []) h2) :=
  (R_aload_n mc_27 dX1_fits_0 rfl).trans <|
  R_invV mc_27 dX1_fits_1 mo_27 ct_1_37 af_27_22 rfl rfl rfl ⟨Nat.le_of_ble_eq_true rfl, Nat.le_of_ble_eq_true rfl⟩
theorem B_X1_fits_4 (sc : Nat × (Nat → Int)) (iv : Nat → Nat → Int) (x1 : Int) (x2 : Int) (d3 : Option AV) (d4 : Option AV) (d5 : Option AV) (d6 : Option AV) : Run sc 27 4 [some (Rf 50), some (I x1), some (I x2), d3, d4, d5, d6] [] (hp iv) = Run sc 27 12 [some (Rf 50), some (I x1), some (I x2), some (I 0), some (I 0), some (I 0), d6] [] (hp iv) :=
  (R_iconst mc_27 dX1_fits_4 ⟨by decide, by decide⟩).trans <|
  (R_istore_n mc_27 dX1_fits_5 (Nat.le_of_ble_eq_true rfl)).trans <|
  (R_iconst mc_27 dX1_fits_6 ⟨by decide, by decide⟩).trans <|
  (R_istore mc_27 dX1_fits_7 (Nat.le_of_ble_eq_true rfl)).trans <|
  (R_iconst mc_27 dX1_fits_9 ⟨by decide, by decide⟩).trans <|
  R_istore mc_27 dX1_fits_10 (Nat.le_of_ble_eq_true rfl)
theorem B_X1_fits_12 (sc : Nat × (Nat → Int)) (iv : Nat → Nat → Int) (x1 : Int) (x2 : Int) (x3 : Int) (x4 : Int) (x5 : Int) (d6 : Option AV) : Run sc 27 12 [some (Rf 50), some (I x1), some (I x2), some (I x3), some (I x4), some (I x5), d6] [] (hp iv) = if x5 < (iv 50 1) then aBind (Run sc 18 0 [some (Rf 50), some (I x5)] [] (hp iv)) (fun v h2 => Run sc 27 27 [some (Rf 50), some (I x1), some (I x2), some (I x3), some (I x4), some (I x5), d6] (pushR v []) h2) else Run sc 27 91 [some (Rf 50), some (I x1), some (I x2), some (I x3), some (I x4), some (I x5), d6] [] (hp iv) :=
  (R_iload mc_27 dX1_fits_12 rfl).trans <|
  (R_aload_n mc_27 dX1_fits_14 rfl).trans <|
  (R_getI mc_27 dX1_fits_15 mo_27 ft_1_13 rfl rfl).trans <|
  (R_icmp_ge mc_27 dX1_fits_18 (t := 91) rfl).trans <| ite_c2
  ((R_aload_n mc_27 dX1_fits_21 rfl).trans <|
  (R_iload mc_27 dX1_fits_22 rfl).trans <|
  R_invV mc_27 dX1_fits_24 mo_27 ct_1_40 af_27_18 rfl rfl rfl ⟨Nat.le_of_ble_eq_true rfl, Nat.le_of_ble_eq_true rfl⟩)
  (rfl)
theorem B_X1_fits_27 (sc : Nat × (Nat → Int)) (iv : Nat → Nat → Int) (x1 : Int) (x2 : Int) (x3 : Int) (x4 : Int) (x5 : Int) (d6 : Option AV) (s0 : Int) : Run sc 27 27 [some (Rf 50), some (I x1), some (I x2), some (I x3), some (I x4), some (I x5), d6] [(I s0)] (hp iv) = aBind (Run sc 19 0 [some (I s0)] [] (hp iv)) (fun v h2 => Run sc 27 34 [some (Rf 50), some (I x1), some (I x2), some (I x3), some (I x4), some (I x5), some (I s0)] (pushR v []) h2) :=
  (R_istore mc_27 dX1_fits_27 (Nat.le_of_ble_eq_true rfl)).trans <|
  (R_iload mc_27 dX1_fits_29 rfl).trans <|
  R_invS mc_27 dX1_fits_31 mo_27 ct_1_44 (Or.inl rfl) af_27_19 (Nat.le_of_ble_eq_true rfl) rfl rfl ⟨Nat.le_of_ble_eq_true rfl, Nat.le_of_ble_eq_true rfl⟩
theorem B_X1_fits_34 (sc : Nat × (Nat → Int)) (iv : Nat → Nat → Int) (x1 : Int) (x2 : Int) (x3 : Int) (x4 : Int) (x5 : Int) (x6 : Int) (s0 : Int) : Run sc 27 34 [some (Rf 50), some (I x1), some (I x2), some (I x3), some (I x4), some (I x5), some (I x6)] [(I s0)] (hp iv) = if s0 = 0 then Run sc 27 46 [some (Rf 50), some (I x1), some (I x2), some (I x3), some (I x4), some (I x5), some (I x6)] [] (hp iv) else aBind (Run sc 23 0 [some (Rf 50), some (I x6)] [] (hp iv)) (fun v h2 => Run sc 27 43 [some (Rf 50), some (I x1), some (I x2), some (I x3), some (I x4), some (I x5), some (I x6)] (pushR v []) h2) :=
  (R_if_eq mc_27 dX1_fits_34 (t := 46) rfl).trans <| ite_c2
  (rfl)
  ((R_aload_n mc_27 dX1_fits_37 rfl).trans <|
  (R_iload mc_27 dX1_fits_38 rfl).trans <|
  R_invV mc_27 dX1_fits_40 mo_27 ct_1_48 af_27_23 rfl rfl rfl ⟨Nat.le_of_ble_eq_true rfl, Nat.le_of_ble_eq_true rfl⟩)
theorem B_X1_fits_43 (sc : Nat × (Nat → Int)) (iv : Nat → Nat → Int) (x1 : Int) (x2 : Int) (x3 : Int) (x4 : Int) (x5 : Int) (x6 : Int) : Run sc 27 43 [some (Rf 50), some (I x1), some (I x2), some (I x3), some (I x4), some (I x5), some (I x6)] [] (hp iv) = Run sc 27 72 [some (Rf 50), some (I x1), some (I x2), some (I x3), some (I x4), some (I x5), some (I x6)] [] (hp iv) :=
  R_goto mc_27 dX1_fits_43 (t := 72) rfl
theorem B_X1_fits_46 (sc : Nat × (Nat → Int)) (iv : Nat → Nat → Int) (x1 : Int) (x2 : Int) (x3 : Int) (x4 : Int) (x5 : Int) (x6 : Int) : Run sc 27 46 [some (Rf 50), some (I x1), some (I x2), some (I x3), some (I x4), some (I x5), some (I x6)] [] (hp iv) = if x6 = 47 then chk (x4 + 1) (Run sc 27 72 [some (Rf 50), some (I x1), some (I x2), some (I 0), some (I (x4 + 1)), some (I x5), some (I x6)] [] (hp iv)) else Run sc 27 61 [some (Rf 50), some (I x1), some (I x2), some (I x3), some (I x4), some (I x5), some (I x6)] [] (hp iv) :=
  (R_iload mc_27 dX1_fits_46 rfl).trans <|
  (R_bipush mc_27 dX1_fits_48 ⟨by decide, by decide⟩).trans <|
  (R_icmp_ne mc_27 dX1_fits_50 (t := 61) rfl).trans <| ite_c2
  ((R_iconst mc_27 dX1_fits_53 ⟨by decide, by decide⟩).trans <|
  (R_istore_n mc_27 dX1_fits_54 (Nat.le_of_ble_eq_true rfl)).trans <|
  (R_iinc mc_27 dX1_fits_55 rfl).trans <| chk_congr <|
  R_goto mc_27 dX1_fits_58 (t := 72) rfl)
  (rfl)
theorem B_X1_fits_61 (sc : Nat × (Nat → Int)) (iv : Nat → Nat → Int) (x1 : Int) (x2 : Int) (x3 : Int) (x4 : Int) (x5 : Int) (x6 : Int) : Run sc 27 61 [some (Rf 50), some (I x1), some (I x2), some (I x3), some (I x4), some (I x5), some (I x6)] [] (hp iv) = aBind (Run sc 24 0 [some (Rf 50)] [] (hp iv)) (fun v h2 => Run sc 27 66 [some (Rf 50), some (I x1), some (I x2), some (I x3), some (I x4), some (I x5), some (I x6)] (pushR v [(I x3)]) h2) :=
  (R_iload_n mc_27 dX1_fits_61 rfl).trans <|
  (R_aload_n mc_27 dX1_fits_62 rfl).trans <|
  R_invV mc_27 dX1_fits_63 mo_27 ct_1_52 af_27_24 rfl rfl rfl ⟨Nat.le_of_ble_eq_true rfl, Nat.le_of_ble_eq_true rfl⟩
theorem B_X1_fits_66 (sc : Nat × (Nat → Int)) (iv : Nat → Nat → Int) (x1 : Int) (x2 : Int) (x3 : Int) (x4 : Int) (x5 : Int) (x6 : Int) (s0 : Int) (s1 : Int) : Run sc 27 66 [some (Rf 50), some (I x1), some (I x2), some (I x3), some (I x4), some (I x5), some (I x6)] [(I s0), (I s1)] (hp iv) = chk (s1 + s0) (aBind (Run sc 22 0 [some (Rf 50)] [] (hp iv)) (fun v h2 => Run sc 27 72 [some (Rf 50), some (I x1), some (I x2), some (I (s1 + s0)), some (I x4), some (I x5), some (I x6)] (pushR v []) h2)) :=
  (R_iadd mc_27 dX1_fits_66).trans <| chk_congr <|
  (R_istore_n mc_27 dX1_fits_67 (Nat.le_of_ble_eq_true rfl)).trans <|
  (R_aload_n mc_27 dX1_fits_68 rfl).trans <|
  R_invV mc_27 dX1_fits_69 mo_27 ct_1_37 af_27_22 rfl rfl rfl ⟨Nat.le_of_ble_eq_true rfl, Nat.le_of_ble_eq_true rfl⟩
theorem B_X1_fits_72 (sc : Nat × (Nat → Int)) (iv : Nat → Nat → Int) (x1 : Int) (x2 : Int) (x3 : Int) (x4 : Int) (x5 : Int) (x6 : Int) : Run sc 27 72 [some (Rf 50), some (I x1), some (I x2), some (I x3), some (I x4), some (I x5), some (I x6)] [] (hp iv) = if x1 < x3 then Run sc 27 83 [some (Rf 50), some (I x1), some (I x2), some (I x3), some (I x4), some (I x5), some (I x6)] [] (hp iv) else if x4 < x2 then Run sc 27 85 [some (Rf 50), some (I x1), some (I x2), some (I x3), some (I x4), some (I x5), some (I x6)] [] (hp iv) else Run sc 27 83 [some (Rf 50), some (I x1), some (I x2), some (I x3), some (I x4), some (I x5), some (I x6)] [] (hp iv) :=
  (R_iload_n mc_27 dX1_fits_72 rfl).trans <|
  (R_iload_n mc_27 dX1_fits_73 rfl).trans <|
  (R_icmp_gt mc_27 dX1_fits_74 (t := 83) rfl).trans <| ite_c2
  (rfl)
  ((R_iload mc_27 dX1_fits_77 rfl).trans <|
  (R_iload_n mc_27 dX1_fits_79 rfl).trans <|
  R_icmp_lt mc_27 dX1_fits_80 (t := 85) rfl)
theorem B_X1_fits_83 (sc : Nat × (Nat → Int)) (iv : Nat → Nat → Int) (x1 : Int) (x2 : Int) (x3 : Int) (x4 : Int) (x5 : Int) (x6 : Int) : Run sc 27 83 [some (Rf 50), some (I x1), some (I x2), some (I x3), some (I x4), some (I x5), some (I x6)] [] (hp iv) = bck 0 1 0 (some (some (I 0), (hp iv))) :=
  (R_iconst mc_27 dX1_fits_83 ⟨by decide, by decide⟩).trans <|
  R_ireturnZ mc_27 dX1_fits_84 rfl
theorem B_X1_fits_85 (sc : Nat × (Nat → Int)) (iv : Nat → Nat → Int) (x1 : Int) (x2 : Int) (x3 : Int) (x4 : Int) (x5 : Int) (x6 : Int) : Run sc 27 85 [some (Rf 50), some (I x1), some (I x2), some (I x3), some (I x4), some (I x5), some (I x6)] [] (hp iv) = chk (x5 + 1) (Run sc 27 12 [some (Rf 50), some (I x1), some (I x2), some (I x3), some (I x4), some (I (x5 + 1)), some (I x6)] [] (hp iv)) :=
  (R_iinc mc_27 dX1_fits_85 rfl).trans <| chk_congr <|
  R_goto mc_27 dX1_fits_88 (t := 12) rfl
theorem B_X1_fits_91 (sc : Nat × (Nat → Int)) (iv : Nat → Nat → Int) (x1 : Int) (x2 : Int) (x3 : Int) (x4 : Int) (x5 : Int) (d6 : Option AV) : Run sc 27 91 [some (Rf 50), some (I x1), some (I x2), some (I x3), some (I x4), some (I x5), d6] [] (hp iv) = bck 0 1 1 (some (some (I 1), (hp iv))) :=
  (R_iconst mc_27 dX1_fits_91 ⟨by decide, by decide⟩).trans <|
  R_ireturnZ mc_27 dX1_fits_92 rfl
theorem B_X1_drawOn_0 (sc : Nat × (Nat → Int)) (iv : Nat → Nat → Int)  : Run sc 28 0 [some (Rf 50), some (Rf 2), none, none, none, none, none] [] (hp iv) = aBind (Run sc 22 0 [some (Rf 50)] [] (hp iv)) (fun v h2 => Run sc 28 4 [some (Rf 50), some (Rf 2), none, none, none, none, none] (pushR v []) h2) :=
  (R_aload_n mc_28 dX1_drawOn_0 rfl).trans <|
  R_invV mc_28 dX1_drawOn_1 mo_28 ct_1_37 af_28_22 rfl rfl rfl ⟨Nat.le_of_ble_eq_true rfl, Nat.le_of_ble_eq_true rfl⟩
theorem B_X1_drawOn_4 (sc : Nat × (Nat → Int)) (iv : Nat → Nat → Int) (d2 : Option AV) (d3 : Option AV) (d4 : Option AV) (d5 : Option AV) (d6 : Option AV) : Run sc 28 4 [some (Rf 50), some (Rf 2), d2, d3, d4, d5, d6] [] (hp iv) = Run sc 28 14 [some (Rf 50), some (Rf 2), some (I 0), some (I 0), some (I 0), some (I 0), d6] [] (hp iv) :=
  (R_iconst mc_28 dX1_drawOn_4 ⟨by decide, by decide⟩).trans <|
  (R_istore_n mc_28 dX1_drawOn_5 (Nat.le_of_ble_eq_true rfl)).trans <|
  (R_iconst mc_28 dX1_drawOn_6 ⟨by decide, by decide⟩).trans <|
  (R_istore_n mc_28 dX1_drawOn_7 (Nat.le_of_ble_eq_true rfl)).trans <|
  (R_iconst mc_28 dX1_drawOn_8 ⟨by decide, by decide⟩).trans <|
  (R_istore mc_28 dX1_drawOn_9 (Nat.le_of_ble_eq_true rfl)).trans <|
  (R_iconst mc_28 dX1_drawOn_11 ⟨by decide, by decide⟩).trans <|
  R_istore mc_28 dX1_drawOn_12 (Nat.le_of_ble_eq_true rfl)
theorem B_X1_drawOn_14 (sc : Nat × (Nat → Int)) (iv : Nat → Nat → Int) (x2 : Int) (x3 : Int) (x4 : Int) (x5 : Int) (d6 : Option AV) : Run sc 28 14 [some (Rf 50), some (Rf 2), some (I x2), some (I x3), some (I x4), some (I x5), d6] [] (hp iv) = if x5 < (iv 50 1) then aBind (Run sc 18 0 [some (Rf 50), some (I x5)] [] (hp iv)) (fun v h2 => Run sc 28 29 [some (Rf 50), some (Rf 2), some (I x2), some (I x3), some (I x4), some (I x5), d6] (pushR v []) h2) else Run sc 28 99 [some (Rf 50), some (Rf 2), some (I x2), some (I x3), some (I x4), some (I x5), d6] [] (hp iv) :=
  (R_iload mc_28 dX1_drawOn_14 rfl).trans <|
  (R_aload_n mc_28 dX1_drawOn_16 rfl).trans <|
  (R_getI mc_28 dX1_drawOn_17 mo_28 ft_1_13 rfl rfl).trans <|
  (R_icmp_ge mc_28 dX1_drawOn_20 (t := 99) rfl).trans <| ite_c2
  ((R_aload_n mc_28 dX1_drawOn_23 rfl).trans <|
  (R_iload mc_28 dX1_drawOn_24 rfl).trans <|
  R_invV mc_28 dX1_drawOn_26 mo_28 ct_1_40 af_28_18 rfl rfl rfl ⟨Nat.le_of_ble_eq_true rfl, Nat.le_of_ble_eq_true rfl⟩)
  (rfl)
theorem B_X1_drawOn_29 (sc : Nat × (Nat → Int)) (iv : Nat → Nat → Int) (x2 : Int) (x3 : Int) (x4 : Int) (x5 : Int) (d6 : Option AV) (s0 : Int) : Run sc 28 29 [some (Rf 50), some (Rf 2), some (I x2), some (I x3), some (I x4), some (I x5), d6] [(I s0)] (hp iv) = aBind (Run sc 19 0 [some (I s0)] [] (hp iv)) (fun v h2 => Run sc 28 36 [some (Rf 50), some (Rf 2), some (I x2), some (I x3), some (I x4), some (I x5), some (I s0)] (pushR v []) h2) :=
  (R_istore mc_28 dX1_drawOn_29 (Nat.le_of_ble_eq_true rfl)).trans <|
  (R_iload mc_28 dX1_drawOn_31 rfl).trans <|
  R_invS mc_28 dX1_drawOn_33 mo_28 ct_1_44 (Or.inl rfl) af_28_19 (Nat.le_of_ble_eq_true rfl) rfl rfl ⟨Nat.le_of_ble_eq_true rfl, Nat.le_of_ble_eq_true rfl⟩
theorem B_X1_drawOn_36 (sc : Nat × (Nat → Int)) (iv : Nat → Nat → Int) (x2 : Int) (x3 : Int) (x4 : Int) (x5 : Int) (x6 : Int) (s0 : Int) : Run sc 28 36 [some (Rf 50), some (Rf 2), some (I x2), some (I x3), some (I x4), some (I x5), some (I x6)] [(I s0)] (hp iv) = if s0 = 0 then Run sc 28 48 [some (Rf 50), some (Rf 2), some (I x2), some (I x3), some (I x4), some (I x5), some (I x6)] [] (hp iv) else aBind (Run sc 23 0 [some (Rf 50), some (I x6)] [] (hp iv)) (fun v h2 => Run sc 28 45 [some (Rf 50), some (Rf 2), some (I x2), some (I x3), some (I x4), some (I x5), some (I x6)] (pushR v []) h2) :=
  (R_if_eq mc_28 dX1_drawOn_36 (t := 48) rfl).trans <| ite_c2
  (rfl)
  ((R_aload_n mc_28 dX1_drawOn_39 rfl).trans <|
  (R_iload mc_28 dX1_drawOn_40 rfl).trans <|
  R_invV mc_28 dX1_drawOn_42 mo_28 ct_1_48 af_28_23 rfl rfl rfl ⟨Nat.le_of_ble_eq_true rfl, Nat.le_of_ble_eq_true rfl⟩)
theorem B_X1_drawOn_45 (sc : Nat × (Nat → Int)) (iv : Nat → Nat → Int) (x2 : Int) (x3 : Int) (x4 : Int) (x5 : Int) (x6 : Int) : Run sc 28 45 [some (Rf 50), some (Rf 2), some (I x2), some (I x3), some (I x4), some (I x5), some (I x6)] [] (hp iv) = Run sc 28 93 [some (Rf 50), some (Rf 2), some (I x2), some (I x3), some (I x4), some (I x5), some (I x6)] [] (hp iv) :=
  R_goto mc_28 dX1_drawOn_45 (t := 93) rfl
theorem B_X1_drawOn_48 (sc : Nat × (Nat → Int)) (iv : Nat → Nat → Int) (x2 : Int) (x3 : Int) (x4 : Int) (x5 : Int) (x6 : Int) : Run sc 28 48 [some (Rf 50), some (Rf 2), some (I x2), some (I x3), some (I x4), some (I x5), some (I x6)] [] (hp iv) = if x6 = 47 then chk (x4 + 1) (Run sc 28 93 [some (Rf 50), some (Rf 2), some (I x2), some (I 0), some (I (x4 + 1)), some (I x5), some (I x6)] [] (hp iv)) else Run sc 28 63 [some (Rf 50), some (Rf 2), some (I x2), some (I x3), some (I x4), some (I x5), some (I x6)] [] (hp iv) :=
  (R_iload mc_28 dX1_drawOn_48 rfl).trans <|
  (R_bipush mc_28 dX1_drawOn_50 ⟨by decide, by decide⟩).trans <|
  (R_icmp_ne mc_28 dX1_drawOn_52 (t := 63) rfl).trans <| ite_c2
  ((R_iconst mc_28 dX1_drawOn_55 ⟨by decide, by decide⟩).trans <|
  (R_istore_n mc_28 dX1_drawOn_56 (Nat.le_of_ble_eq_true rfl)).trans <|
  (R_iinc mc_28 dX1_drawOn_57 rfl).trans <| chk_congr <|
  R_goto mc_28 dX1_drawOn_60 (t := 93) rfl)
  (rfl)
theorem B_X1_drawOn_63 (sc : Nat × (Nat → Int)) (iv : Nat → Nat → Int) (x2 : Int) (x3 : Int) (x4 : Int) (x5 : Int) (x6 : Int) : Run sc 28 63 [some (Rf 50), some (Rf 2), some (I x2), some (I x3), some (I x4), some (I x5), some (I x6)] [] (hp iv) = aBind (Run sc 24 0 [some (Rf 50)] [] (hp iv)) (fun v h2 => Run sc 28 72 [some (Rf 50), some (Rf 2), some (I x2), some (I x3), some (I x4), some (I x5), some (I x6)] (pushR v [(I x4), (I x3), (Rf 2), (I x2)]) h2) :=
  (R_iload_n mc_28 dX1_drawOn_63 rfl).trans <|
  (R_aload_n mc_28 dX1_drawOn_64 rfl).trans <|
  (R_iload_n mc_28 dX1_drawOn_65 rfl).trans <|
  (R_iload mc_28 dX1_drawOn_66 rfl).trans <|
  (R_aload_n mc_28 dX1_drawOn_68 rfl).trans <|
  R_invV mc_28 dX1_drawOn_69 mo_28 ct_1_52 af_28_24 rfl rfl rfl ⟨Nat.le_of_ble_eq_true rfl, Nat.le_of_ble_eq_true rfl⟩
theorem B_X1_drawOn_72 (sc : Nat × (Nat → Int)) (iv : Nat → Nat → Int) (x2 : Int) (x3 : Int) (x4 : Int) (x5 : Int) (x6 : Int) (s0 : Int) (s1 : Int) (s2 : Int) (s4 : Int) : Run sc 28 72 [some (Rf 50), some (Rf 2), some (I x2), some (I x3), some (I x4), some (I x5), some (I x6)] [(I s0), (I s1), (I s2), (Rf 2), (I s4)] (hp iv) = aBind (Run sc 21 0 [some (I x6)] [] (hp iv)) (fun v h2 => Run sc 28 77 [some (Rf 50), some (Rf 2), some (I x2), some (I x3), some (I x4), some (I x5), some (I x6)] (pushR v [(I s0), (I s1), (I s2), (Rf 2), (I s4)]) h2) :=
  (R_iload mc_28 dX1_drawOn_72 rfl).trans <|
  R_invS mc_28 dX1_drawOn_74 mo_28 ct_1_58 (Or.inl rfl) af_28_21 (Nat.le_of_ble_eq_true rfl) rfl rfl ⟨Nat.le_of_ble_eq_true rfl, Nat.le_of_ble_eq_true rfl⟩
theorem B_X1_drawOn_77 (sc : Nat × (Nat → Int)) (iv : Nat → Nat → Int) (x2 : Int) (x3 : Int) (x4 : Int) (x5 : Int) (x6 : Int) (s0 : Int) (s1 : Int) (s2 : Int) (s3 : Int) (s5 : Int) : Run sc 28 77 [some (Rf 50), some (Rf 2), some (I x2), some (I x3), some (I x4), some (I x5), some (I x6)] [(I s0), (I s1), (I s2), (I s3), (Rf 2), (I s5)] (hp iv) = aBind (Run sc 54 0 [some (Rf 2), some (I s3), some (I s2), some (I s1), some (I s0), none, none] [] (hp iv)) (fun v h2 => Run sc 28 80 [some (Rf 50), some (Rf 2), some (I x2), some (I x3), some (I x4), some (I x5), some (I x6)] (pushR v [(I s5)]) h2) :=
  R_invV mc_28 dX1_drawOn_77 mo_28 ct_1_62 af_28_54 rfl rfl rfl ⟨Nat.le_of_ble_eq_true rfl, Nat.le_of_ble_eq_true rfl⟩
theorem B_X1_drawOn_80 (sc : Nat × (Nat → Int)) (iv : Nat → Nat → Int) (x2 : Int) (x3 : Int) (x4 : Int) (x5 : Int) (x6 : Int) (s0 : Int) (s1 : Int) : Run sc 28 80 [some (Rf 50), some (Rf 2), some (I x2), some (I x3), some (I x4), some (I x5), some (I x6)] [(I s0), (I s1)] (hp iv) = chk (s1 + s0) (aBind (Run sc 24 0 [some (Rf 50)] [] (hp iv)) (fun v h2 => Run sc 28 87 [some (Rf 50), some (Rf 2), some (I (s1 + s0)), some (I x3), some (I x4), some (I x5), some (I x6)] (pushR v [(I x3)]) h2)) :=
  (R_iadd mc_28 dX1_drawOn_80).trans <| chk_congr <|
  (R_istore_n mc_28 dX1_drawOn_81 (Nat.le_of_ble_eq_true rfl)).trans <|
  (R_iload_n mc_28 dX1_drawOn_82 rfl).trans <|
  (R_aload_n mc_28 dX1_drawOn_83 rfl).trans <|
  R_invV mc_28 dX1_drawOn_84 mo_28 ct_1_52 af_28_24 rfl rfl rfl ⟨Nat.le_of_ble_eq_true rfl, Nat.le_of_ble_eq_true rfl⟩
theorem B_X1_drawOn_87 (sc : Nat × (Nat → Int)) (iv : Nat → Nat → Int) (x2 : Int) (x3 : Int) (x4 : Int) (x5 : Int) (x6 : Int) (s0 : Int) (s1 : Int) : Run sc 28 87 [some (Rf 50), some (Rf 2), some (I x2), some (I x3), some (I x4), some (I x5), some (I x6)] [(I s0), (I s1)] (hp iv) = chk (s1 + s0) (aBind (Run sc 22 0 [some (Rf 50)] [] (hp iv)) (fun v h2 => Run sc 28 93 [some (Rf 50), some (Rf 2), some (I x2), some (I (s1 + s0)), some (I x4), some (I x5), some (I x6)] (pushR v []) h2)) :=
  (R_iadd mc_28 dX1_drawOn_87).trans <| chk_congr <|
  (R_istore_n mc_28 dX1_drawOn_88 (Nat.le_of_ble_eq_true rfl)).trans <|
  (R_aload_n mc_28 dX1_drawOn_89 rfl).trans <|
  R_invV mc_28 dX1_drawOn_90 mo_28 ct_1_37 af_28_22 rfl rfl rfl ⟨Nat.le_of_ble_eq_true rfl, Nat.le_of_ble_eq_true rfl⟩
theorem B_X1_drawOn_93 (sc : Nat × (Nat → Int)) (iv : Nat → Nat → Int) (x2 : Int) (x3 : Int) (x4 : Int) (x5 : Int) (x6 : Int) : Run sc 28 93 [some (Rf 50), some (Rf 2), some (I x2), some (I x3), some (I x4), some (I x5), some (I x6)] [] (hp iv) = chk (x5 + 1) (Run sc 28 14 [some (Rf 50), some (Rf 2), some (I x2), some (I x3), some (I x4), some (I (x5 + 1)), some (I x6)] [] (hp iv)) :=
  (R_iinc mc_28 dX1_drawOn_93 rfl).trans <| chk_congr <|
  R_goto mc_28 dX1_drawOn_96 (t := 14) rfl
theorem B_X1_drawOn_99 (sc : Nat × (Nat → Int)) (iv : Nat → Nat → Int) (x2 : Int) (x3 : Int) (x4 : Int) (x5 : Int) (d6 : Option AV) : Run sc 28 99 [some (Rf 50), some (Rf 2), some (I x2), some (I x3), some (I x4), some (I x5), d6] [] (hp iv) = some (some (I x2), (hp iv)) :=
  (R_iload_n mc_28 dX1_drawOn_99 rfl).trans <|
  R_ireturn mc_28 dX1_drawOn_100 rfl
