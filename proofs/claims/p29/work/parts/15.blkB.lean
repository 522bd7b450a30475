theorem B_X3_startAnew_0 (sc : Nat × (Nat → Int)) (iv : Nat → Nat → Int) (x1 : Int) (x2 : Int) : Run sc 49 0 [some (Rf 2), some (I x1), some (I x2), none] [] (hp iv) = bck (-2147483648) 2147483647 x1 (Run sc 49 5 [some (Rf 2), some (I x1), some (I x2), none] [] (hp (setO iv 2 (upI (iv 2) 0 x1)))) :=
  (R_aload_n mc_49 dX3_startAnew_0 rfl).trans <|
  (R_iload_n mc_49 dX3_startAnew_1 rfl).trans <|
  (R_putI mc_49 dX3_startAnew_2 mo_49 ft_3_9 rfl rfl rfl (lo := (-2147483648)) (hi := 2147483647) rfl rfl).trans <| bck_congr <|
  rfl
theorem B_X3_startAnew_5 (sc : Nat × (Nat → Int)) (iv : Nat → Nat → Int) (x1 : Int) (x2 : Int) (d3 : Option AV) : Run sc 49 5 [some (Rf 2), some (I x1), some (I x2), d3] [] (hp iv) = bck (-2147483648) 2147483647 x2 (Run sc 49 10 [some (Rf 2), some (I x1), some (I x2), d3] [] (hp (setO iv 2 (upI (iv 2) 1 x2)))) :=
  (R_aload_n mc_49 dX3_startAnew_5 rfl).trans <|
  (R_iload_n mc_49 dX3_startAnew_6 rfl).trans <|
  (R_putI mc_49 dX3_startAnew_7 mo_49 ft_3_15 rfl rfl rfl (lo := (-2147483648)) (hi := 2147483647) rfl rfl).trans <| bck_congr <|
  rfl
theorem B_X3_startAnew_10 (sc : Nat × (Nat → Int)) (iv : Nat → Nat → Int) (x1 : Int) (x2 : Int) (d3 : Option AV) : Run sc 49 10 [some (Rf 2), some (I x1), some (I x2), d3] [] (hp iv) = Run sc 49 12 [some (Rf 2), some (I x1), some (I x2), some (I 0)] [] (hp iv) :=
  (R_iconst mc_49 dX3_startAnew_10 ⟨by decide, by decide⟩).trans <|
  R_istore_n mc_49 dX3_startAnew_11 (Nat.le_of_ble_eq_true rfl)
theorem B_X3_startAnew_12 (sc : Nat × (Nat → Int)) (iv : Nat → Nat → Int) (x1 : Int) (x2 : Int) (x3 : Int) : Run sc 49 12 [some (Rf 2), some (I x1), some (I x2), some (I x3)] [] (hp iv) = if x3 < 576 then bck 0 (((576 : Nat) : Int) - 1) x3 (bck (-2147483648) 2147483647 0 (Run sc 49 26 [some (Rf 2), some (I x1), some (I x2), some (I x3)] [] (hp (setO iv 4 (upI (iv 4) (Int.toNat x3) 0))))) else Run sc 49 32 [some (Rf 2), some (I x1), some (I x2), some (I x3)] [] (hp iv) :=
  (R_iload_n mc_49 dX3_startAnew_12 rfl).trans <|
  (R_sipush mc_49 dX3_startAnew_13 ⟨by decide, by decide⟩).trans <|
  (R_icmp_ge mc_49 dX3_startAnew_16 (t := 32) rfl).trans <| ite_c2
  ((R_aload_n mc_49 dX3_startAnew_19 rfl).trans <|
  (R_getR mc_49 dX3_startAnew_20 mo_49 ft_3_22 rfl rfl (r := 4) rfl (by decide)).trans <|
  (R_iload_n mc_49 dX3_startAnew_23 rfl).trans <|
  (R_iconst mc_49 dX3_startAnew_24 ⟨by decide, by decide⟩).trans <|
  (R_iastore mc_49 dX3_startAnew_25 rfl).trans <| bck_congr <| bck_congr <|
  rfl)
  (rfl)
theorem B_X3_startAnew_26 (sc : Nat × (Nat → Int)) (iv : Nat → Nat → Int) (x1 : Int) (x2 : Int) (x3 : Int) : Run sc 49 26 [some (Rf 2), some (I x1), some (I x2), some (I x3)] [] (hp iv) = chk (x3 + 1) (Run sc 49 12 [some (Rf 2), some (I x1), some (I x2), some (I (x3 + 1))] [] (hp iv)) :=
  (R_iinc mc_49 dX3_startAnew_26 rfl).trans <| chk_congr <|
  R_goto mc_49 dX3_startAnew_29 (t := 12) rfl
theorem B_X3_startAnew_32 (sc : Nat × (Nat → Int)) (iv : Nat → Nat → Int) (x1 : Int) (x2 : Int) (x3 : Int) : Run sc 49 32 [some (Rf 2), some (I x1), some (I x2), some (I x3)] [] (hp iv) = Run sc 49 34 [some (Rf 2), some (I x1), some (I x2), some (I 0)] [] (hp iv) :=
  (R_iconst mc_49 dX3_startAnew_32 ⟨by decide, by decide⟩).trans <|
  R_istore_n mc_49 dX3_startAnew_33 (Nat.le_of_ble_eq_true rfl)
theorem B_X3_startAnew_34 (sc : Nat × (Nat → Int)) (iv : Nat → Nat → Int) (x1 : Int) (x2 : Int) (x3 : Int) : Run sc 49 34 [some (Rf 2), some (I x1), some (I x2), some (I x3)] [] (hp iv) = if 6 < x3 then Run sc 49 53 [some (Rf 2), some (I x1), some (I x2), some (I x3)] [] (hp iv) else bck 0 (((7 : Nat) : Int) - 1) x3 (bck 0 1 1 (Run sc 49 47 [some (Rf 2), some (I x1), some (I x2), some (I x3)] [] (hp (setO iv 3 (upI (iv 3) (Int.toNat x3) 1))))) :=
  (R_iload_n mc_49 dX3_startAnew_34 rfl).trans <|
  (R_bipush mc_49 dX3_startAnew_35 ⟨by decide, by decide⟩).trans <|
  (R_icmp_gt mc_49 dX3_startAnew_37 (t := 53) rfl).trans <| ite_c2
  (rfl)
  ((R_aload_n mc_49 dX3_startAnew_40 rfl).trans <|
  (R_getR mc_49 dX3_startAnew_41 mo_49 ft_3_18 rfl rfl (r := 3) rfl (by decide)).trans <|
  (R_iload_n mc_49 dX3_startAnew_44 rfl).trans <|
  (R_iconst mc_49 dX3_startAnew_45 ⟨by decide, by decide⟩).trans <|
  (R_bastore mc_49 dX3_startAnew_46 rfl).trans <| bck_congr <| bck_congr <|
  rfl)
theorem B_X3_startAnew_47 (sc : Nat × (Nat → Int)) (iv : Nat → Nat → Int) (x1 : Int) (x2 : Int) (x3 : Int) : Run sc 49 47 [some (Rf 2), some (I x1), some (I x2), some (I x3)] [] (hp iv) = chk (x3 + 1) (Run sc 49 34 [some (Rf 2), some (I x1), some (I x2), some (I (x3 + 1))] [] (hp iv)) :=
  (R_iinc mc_49 dX3_startAnew_47 rfl).trans <| chk_congr <|
  R_goto mc_49 dX3_startAnew_50 (t := 34) rfl
theorem B_X3_startAnew_53 (sc : Nat × (Nat → Int)) (iv : Nat → Nat → Int) (x1 : Int) (x2 : Int) (x3 : Int) : Run sc 49 53 [some (Rf 2), some (I x1), some (I x2), some (I x3)] [] (hp iv) = some (none, (hp iv)) :=
  R_return mc_49 dX3_startAnew_53 rfl
theorem B_X3_has_0 (sc : Nat × (Nat → Int)) (iv : Nat → Nat → Int) (x1 : Int) (x2 : Int) : Run sc 50 0 [some (Rf 2), some (I x1), some (I x2)] [] (hp iv) = if x1 < 0 then Run sc 50 28 [some (Rf 2), some (I x1), some (I x2)] [] (hp iv) else if x1 < (iv 2 0) then if x2 < 0 then Run sc 50 28 [some (Rf 2), some (I x1), some (I x2)] [] (hp iv) else if x2 < (iv 2 1) then Run sc 50 29 [some (Rf 2), some (I x1), some (I x2)] [(I 1)] (hp iv) else Run sc 50 28 [some (Rf 2), some (I x1), some (I x2)] [] (hp iv) else Run sc 50 28 [some (Rf 2), some (I x1), some (I x2)] [] (hp iv) :=
  (R_iload_n mc_50 dX3_has_0 rfl).trans <|
  (R_if_lt mc_50 dX3_has_1 (t := 28) rfl).trans <| ite_c2
  (rfl)
  ((R_iload_n mc_50 dX3_has_4 rfl).trans <|
  (R_aload_n mc_50 dX3_has_5 rfl).trans <|
  (R_getI mc_50 dX3_has_6 mo_50 ft_3_9 rfl rfl).trans <|
  (R_icmp_ge mc_50 dX3_has_9 (t := 28) rfl).trans <| ite_c2
  ((R_iload_n mc_50 dX3_has_12 rfl).trans <|
  (R_if_lt mc_50 dX3_has_13 (t := 28) rfl).trans <| ite_c2
  (rfl)
  ((R_iload_n mc_50 dX3_has_16 rfl).trans <|
  (R_aload_n mc_50 dX3_has_17 rfl).trans <|
  (R_getI mc_50 dX3_has_18 mo_50 ft_3_15 rfl rfl).trans <|
  (R_icmp_ge mc_50 dX3_has_21 (t := 28) rfl).trans <| ite_c2
  ((R_iconst mc_50 dX3_has_24 ⟨by decide, by decide⟩).trans <|
  R_goto mc_50 dX3_has_25 (t := 29) rfl)
  (rfl)))
  (rfl))
theorem B_X3_has_28 (sc : Nat × (Nat → Int)) (iv : Nat → Nat → Int) (x1 : Int) (x2 : Int) : Run sc 50 28 [some (Rf 2), some (I x1), some (I x2)] [] (hp iv) = Run sc 50 29 [some (Rf 2), some (I x1), some (I x2)] [(I 0)] (hp iv) :=
  R_iconst mc_50 dX3_has_28 ⟨by decide, by decide⟩
theorem B_X3_has_29 (sc : Nat × (Nat → Int)) (iv : Nat → Nat → Int) (x1 : Int) (x2 : Int) (s0 : Int) : Run sc 50 29 [some (Rf 2), some (I x1), some (I x2)] [(I s0)] (hp iv) = bck 0 1 s0 (some (some (I s0), (hp iv))) :=
  R_ireturnZ mc_50 dX3_has_29 rfl
theorem B_X3_colorAt_0 (sc : Nat × (Nat → Int)) (iv : Nat → Nat → Int) (x1 : Int) (x2 : Int) : Run sc 51 0 [some (Rf 2), some (I x1), some (I x2)] [] (hp iv) = aBind (Run sc 50 0 [some (Rf 2), some (I x1), some (I x2)] [] (hp iv)) (fun v h2 => Run sc 51 6 [some (Rf 2), some (I x1), some (I x2)] (pushR v []) h2) :=
  (R_aload_n mc_51 dX3_colorAt_0 rfl).trans <|
  (R_iload_n mc_51 dX3_colorAt_1 rfl).trans <|
  (R_iload_n mc_51 dX3_colorAt_2 rfl).trans <|
  R_invV mc_51 dX3_colorAt_3 mo_51 ct_3_29 af_51_50 rfl rfl rfl ⟨Nat.le_of_ble_eq_true rfl, Nat.le_of_ble_eq_true rfl⟩
theorem B_X3_colorAt_6 (sc : Nat × (Nat → Int)) (iv : Nat → Nat → Int) (x1 : Int) (x2 : Int) (s0 : Int) : Run sc 51 6 [some (Rf 2), some (I x1), some (I x2)] [(I s0)] (hp iv) = if s0 = 0 then Run sc 51 23 [some (Rf 2), some (I x1), some (I x2)] [] (hp iv) else chk (x2 * 24) (chk ((x2 * 24) + x1) (bck 0 (((576 : Nat) : Int) - 1) ((x2 * 24) + x1) (Run sc 51 24 [some (Rf 2), some (I x1), some (I x2)] [(I (iv 4 (Int.toNat ((x2 * 24) + x1))))] (hp iv)))) :=
  (R_if_eq mc_51 dX3_colorAt_6 (t := 23) rfl).trans <| ite_c2
  (rfl)
  ((R_aload_n mc_51 dX3_colorAt_9 rfl).trans <|
  (R_getR mc_51 dX3_colorAt_10 mo_51 ft_3_22 rfl rfl (r := 4) rfl (by decide)).trans <|
  (R_iload_n mc_51 dX3_colorAt_13 rfl).trans <|
  (R_bipush mc_51 dX3_colorAt_14 ⟨by decide, by decide⟩).trans <|
  (R_imul mc_51 dX3_colorAt_16).trans <| chk_congr <|
  (R_iload_n mc_51 dX3_colorAt_17 rfl).trans <|
  (R_iadd mc_51 dX3_colorAt_18).trans <| chk_congr <|
  (R_iaload mc_51 dX3_colorAt_19 rfl).trans <| bck_congr <|
  R_goto mc_51 dX3_colorAt_20 (t := 24) rfl)
theorem B_X3_colorAt_23 (sc : Nat × (Nat → Int)) (iv : Nat → Nat → Int) (x1 : Int) (x2 : Int) : Run sc 51 23 [some (Rf 2), some (I x1), some (I x2)] [] (hp iv) = Run sc 51 24 [some (Rf 2), some (I x1), some (I x2)] [(I 0)] (hp iv) :=
  R_iconst mc_51 dX3_colorAt_23 ⟨by decide, by decide⟩
theorem B_X3_colorAt_24 (sc : Nat × (Nat → Int)) (iv : Nat → Nat → Int) (x1 : Int) (x2 : Int) (s0 : Int) : Run sc 51 24 [some (Rf 2), some (I x1), some (I x2)] [(I s0)] (hp iv) = some (some (I s0), (hp iv)) :=
  R_ireturn mc_51 dX3_colorAt_24 rfl
theorem B_X3_put_0 (sc : Nat × (Nat → Int)) (iv : Nat → Nat → Int) (x1 : Int) (x2 : Int) (x3 : Int) : Run sc 52 0 [some (Rf 2), some (I x1), some (I x2), some (I x3), none] [] (hp iv) = aBind (Run sc 51 0 [some (Rf 2), some (I x1), some (I x2)] [] (hp iv)) (fun v h2 => Run sc 52 6 [some (Rf 2), some (I x1), some (I x2), some (I x3), none] (pushR v []) h2) :=
  (R_aload_n mc_52 dX3_put_0 rfl).trans <|
  (R_iload_n mc_52 dX3_put_1 rfl).trans <|
  (R_iload_n mc_52 dX3_put_2 rfl).trans <|
  R_invV mc_52 dX3_put_3 mo_52 ct_3_33 af_52_51 rfl rfl rfl ⟨Nat.le_of_ble_eq_true rfl, Nat.le_of_ble_eq_true rfl⟩
theorem B_X3_put_6 (sc : Nat × (Nat → Int)) (iv : Nat → Nat → Int) (x1 : Int) (x2 : Int) (x3 : Int) (d4 : Option AV) (s0 : Int) : Run sc 52 6 [some (Rf 2), some (I x1), some (I x2), some (I x3), d4] [(I s0)] (hp iv) = aBind (Run sc 50 0 [some (Rf 2), some (I x1), some (I x2)] [] (hp iv)) (fun v h2 => Run sc 52 14 [some (Rf 2), some (I x1), some (I x2), some (I x3), some (I s0)] (pushR v []) h2) :=
  (R_istore mc_52 dX3_put_6 (Nat.le_of_ble_eq_true rfl)).trans <|
  (R_aload_n mc_52 dX3_put_8 rfl).trans <|
  (R_iload_n mc_52 dX3_put_9 rfl).trans <|
  (R_iload_n mc_52 dX3_put_10 rfl).trans <|
  R_invV mc_52 dX3_put_11 mo_52 ct_3_29 af_52_50 rfl rfl rfl ⟨Nat.le_of_ble_eq_true rfl, Nat.le_of_ble_eq_true rfl⟩
theorem B_X3_put_14 (sc : Nat × (Nat → Int)) (iv : Nat → Nat → Int) (x1 : Int) (x2 : Int) (x3 : Int) (x4 : Int) (s0 : Int) : Run sc 52 14 [some (Rf 2), some (I x1), some (I x2), some (I x3), some (I x4)] [(I s0)] (hp iv) = if s0 = 0 then Run sc 52 33 [some (Rf 2), some (I x1), some (I x2), some (I x3), some (I x4)] [] (hp iv) else aBind (Run sc 103 0 [some (I x3), some (I 0), some (I 6)] [] (hp iv)) (fun v h2 => Run sc 52 24 [some (Rf 2), some (I x1), some (I x2), some (I x3), some (I x4)] (pushR v []) h2) :=
  (R_if_eq mc_52 dX3_put_14 (t := 33) rfl).trans <| ite_c2
  (rfl)
  ((R_iload_n mc_52 dX3_put_17 rfl).trans <|
  (R_iconst mc_52 dX3_put_18 ⟨by decide, by decide⟩).trans <|
  (R_bipush mc_52 dX3_put_19 ⟨by decide, by decide⟩).trans <|
  R_invS mc_52 dX3_put_21 mo_52 ct_3_37 (Or.inr rfl) af_52_103 (Nat.le_of_ble_eq_true rfl) rfl rfl ⟨Nat.le_of_ble_eq_true rfl, Nat.le_of_ble_eq_true rfl⟩)
theorem B_X3_put_24 (sc : Nat × (Nat → Int)) (iv : Nat → Nat → Int) (x1 : Int) (x2 : Int) (x3 : Int) (x4 : Int) (s0 : Int) : Run sc 52 24 [some (Rf 2), some (I x1), some (I x2), some (I x3), some (I x4)] [(I s0)] (hp iv) = if s0 = 0 then Run sc 52 33 [some (Rf 2), some (I x1), some (I x2), some (I x3), some (I x4)] [] (hp iv) else if x4 = x3 then Run sc 52 33 [some (Rf 2), some (I x1), some (I x2), some (I x3), some (I x4)] [] (hp iv) else Run sc 52 35 [some (Rf 2), some (I x1), some (I x2), some (I x3), some (I x4)] [] (hp iv) :=
  (R_if_eq mc_52 dX3_put_24 (t := 33) rfl).trans <| ite_c2
  (rfl)
  ((R_iload mc_52 dX3_put_27 rfl).trans <|
  (R_iload_n mc_52 dX3_put_29 rfl).trans <|
  R_icmp_ne mc_52 dX3_put_30 (t := 35) rfl)
theorem B_X3_put_33 (sc : Nat × (Nat → Int)) (iv : Nat → Nat → Int) (x1 : Int) (x2 : Int) (x3 : Int) (x4 : Int) : Run sc 52 33 [some (Rf 2), some (I x1), some (I x2), some (I x3), some (I x4)] [] (hp iv) = some (some (I 0), (hp iv)) :=
  (R_iconst mc_52 dX3_put_33 ⟨by decide, by decide⟩).trans <|
  R_ireturn mc_52 dX3_put_34 rfl
theorem B_X3_put_35 (sc : Nat × (Nat → Int)) (iv : Nat → Nat → Int) (x1 : Int) (x2 : Int) (x3 : Int) (x4 : Int) : Run sc 52 35 [some (Rf 2), some (I x1), some (I x2), some (I x3), some (I x4)] [] (hp iv) = chk (x2 * 24) (chk ((x2 * 24) + x1) (bck 0 (((576 : Nat) : Int) - 1) ((x2 * 24) + x1) (bck (-2147483648) 2147483647 x3 (Run sc 52 47 [some (Rf 2), some (I x1), some (I x2), some (I x3), some (I x4)] [] (hp (setO iv 4 (upI (iv 4) (Int.toNat ((x2 * 24) + x1)) x3))))))) :=
  (R_aload_n mc_52 dX3_put_35 rfl).trans <|
  (R_getR mc_52 dX3_put_36 mo_52 ft_3_22 rfl rfl (r := 4) rfl (by decide)).trans <|
  (R_iload_n mc_52 dX3_put_39 rfl).trans <|
  (R_bipush mc_52 dX3_put_40 ⟨by decide, by decide⟩).trans <|
  (R_imul mc_52 dX3_put_42).trans <| chk_congr <|
  (R_iload_n mc_52 dX3_put_43 rfl).trans <|
  (R_iadd mc_52 dX3_put_44).trans <| chk_congr <|
  (R_iload_n mc_52 dX3_put_45 rfl).trans <|
  (R_iastore mc_52 dX3_put_46 rfl).trans <| bck_congr <| bck_congr <|
  rfl
theorem B_X3_put_47 (sc : Nat × (Nat → Int)) (iv : Nat → Nat → Int) (x1 : Int) (x2 : Int) (x3 : Int) (x4 : Int) : Run sc 52 47 [some (Rf 2), some (I x1), some (I x2), some (I x3), some (I x4)] [] (hp iv) = aBind (Run sc 53 0 [some (Rf 2), some (I x4)] [] (hp iv)) (fun v h2 => Run sc 52 53 [some (Rf 2), some (I x1), some (I x2), some (I x3), some (I x4)] (pushR v []) h2) :=
  (R_aload_n mc_52 dX3_put_47 rfl).trans <|
  (R_iload mc_52 dX3_put_48 rfl).trans <|
  R_invV mc_52 dX3_put_50 mo_52 ct_3_41 af_52_53 rfl rfl rfl ⟨Nat.le_of_ble_eq_true rfl, Nat.le_of_ble_eq_true rfl⟩
theorem B_X3_put_53 (sc : Nat × (Nat → Int)) (iv : Nat → Nat → Int) (x1 : Int) (x2 : Int) (x3 : Int) (x4 : Int) : Run sc 52 53 [some (Rf 2), some (I x1), some (I x2), some (I x3), some (I x4)] [] (hp iv) = aBind (Run sc 53 0 [some (Rf 2), some (I x3)] [] (hp iv)) (fun v h2 => Run sc 52 58 [some (Rf 2), some (I x1), some (I x2), some (I x3), some (I x4)] (pushR v []) h2) :=
  (R_aload_n mc_52 dX3_put_53 rfl).trans <|
  (R_iload_n mc_52 dX3_put_54 rfl).trans <|
  R_invV mc_52 dX3_put_55 mo_52 ct_3_41 af_52_53 rfl rfl rfl ⟨Nat.le_of_ble_eq_true rfl, Nat.le_of_ble_eq_true rfl⟩
theorem B_X3_put_58 (sc : Nat × (Nat → Int)) (iv : Nat → Nat → Int) (x1 : Int) (x2 : Int) (x3 : Int) (x4 : Int) : Run sc 52 58 [some (Rf 2), some (I x1), some (I x2), some (I x3), some (I x4)] [] (hp iv) = some (some (I 1), (hp iv)) :=
  (R_iconst mc_52 dX3_put_58 ⟨by decide, by decide⟩).trans <|
  R_ireturn mc_52 dX3_put_59 rfl
theorem B_X3_touch_0 (sc : Nat × (Nat → Int)) (iv : Nat → Nat → Int) (x1 : Int) : Run sc 53 0 [some (Rf 2), some (I x1)] [] (hp iv) = aBind (Run sc 103 0 [some (I x1), some (I 0), some (I 6)] [] (hp iv)) (fun v h2 => Run sc 53 7 [some (Rf 2), some (I x1)] (pushR v []) h2) :=
  (R_iload_n mc_53 dX3_touch_0 rfl).trans <|
  (R_iconst mc_53 dX3_touch_1 ⟨by decide, by decide⟩).trans <|
  (R_bipush mc_53 dX3_touch_2 ⟨by decide, by decide⟩).trans <|
  R_invS mc_53 dX3_touch_4 mo_53 ct_3_37 (Or.inr rfl) af_53_103 (Nat.le_of_ble_eq_true rfl) rfl rfl ⟨Nat.le_of_ble_eq_true rfl, Nat.le_of_ble_eq_true rfl⟩
theorem B_X3_touch_7 (sc : Nat × (Nat → Int)) (iv : Nat → Nat → Int) (x1 : Int) (s0 : Int) : Run sc 53 7 [some (Rf 2), some (I x1)] [(I s0)] (hp iv) = if s0 = 0 then Run sc 53 17 [some (Rf 2), some (I x1)] [] (hp iv) else bck 0 (((7 : Nat) : Int) - 1) x1 (bck 0 1 1 (Run sc 53 17 [some (Rf 2), some (I x1)] [] (hp (setO iv 3 (upI (iv 3) (Int.toNat x1) 1))))) :=
  (R_if_eq mc_53 dX3_touch_7 (t := 17) rfl).trans <| ite_c2
  (rfl)
  ((R_aload_n mc_53 dX3_touch_10 rfl).trans <|
  (R_getR mc_53 dX3_touch_11 mo_53 ft_3_18 rfl rfl (r := 3) rfl (by decide)).trans <|
  (R_iload_n mc_53 dX3_touch_14 rfl).trans <|
  (R_iconst mc_53 dX3_touch_15 ⟨by decide, by decide⟩).trans <|
  (R_bastore mc_53 dX3_touch_16 rfl).trans <| bck_congr <| bck_congr <|
  rfl)
theorem B_X3_touch_17 (sc : Nat × (Nat → Int)) (iv : Nat → Nat → Int) (x1 : Int) : Run sc 53 17 [some (Rf 2), some (I x1)] [] (hp iv) = some (none, (hp iv)) :=
  R_return mc_53 dX3_touch_17 rfl
theorem B_X3_putRow_0 (sc : Nat × (Nat → Int)) (iv : Nat → Nat → Int) (x1 : Int) (x2 : Int) (x3 : Int) (x4 : Int) : Run sc 54 0 [some (Rf 2), some (I x1), some (I x2), some (I x3), some (I x4), none, none] [] (hp iv) = Run sc 54 6 [some (Rf 2), some (I x1), some (I x2), some (I x3), some (I x4), some (I 0), some (I 0)] [] (hp iv) :=
  (R_iconst mc_54 dX3_putRow_0 ⟨by decide, by decide⟩).trans <|
  (R_istore mc_54 dX3_putRow_1 (Nat.le_of_ble_eq_true rfl)).trans <|
  (R_iconst mc_54 dX3_putRow_3 ⟨by decide, by decide⟩).trans <|
  R_istore mc_54 dX3_putRow_4 (Nat.le_of_ble_eq_true rfl)
theorem B_X3_putRow_6 (sc : Nat × (Nat → Int)) (iv : Nat → Nat → Int) (x1 : Int) (x2 : Int) (x3 : Int) (x4 : Int) (x5 : Int) (x6 : Int) : Run sc 54 6 [some (Rf 2), some (I x1), some (I x2), some (I x3), some (I x4), some (I x5), some (I x6)] [] (hp iv) = if x6 < x3 then chk (x1 + x6) (aBind (Run sc 52 0 [some (Rf 2), some (I (x1 + x6)), some (I x2), some (I x4), none] [] (hp iv)) (fun v h2 => Run sc 54 25 [some (Rf 2), some (I x1), some (I x2), some (I x3), some (I x4), some (I x5), some (I x6)] (pushR v [(I x5)]) h2)) else Run sc 54 34 [some (Rf 2), some (I x1), some (I x2), some (I x3), some (I x4), some (I x5), some (I x6)] [] (hp iv) :=
  (R_iload mc_54 dX3_putRow_6 rfl).trans <|
  (R_iload_n mc_54 dX3_putRow_8 rfl).trans <|
  (R_icmp_ge mc_54 dX3_putRow_9 (t := 34) rfl).trans <| ite_c2
  ((R_iload mc_54 dX3_putRow_12 rfl).trans <|
  (R_aload_n mc_54 dX3_putRow_14 rfl).trans <|
  (R_iload_n mc_54 dX3_putRow_15 rfl).trans <|
  (R_iload mc_54 dX3_putRow_16 rfl).trans <|
  (R_iadd mc_54 dX3_putRow_18).trans <| chk_congr <|
  (R_iload_n mc_54 dX3_putRow_19 rfl).trans <|
  (R_iload mc_54 dX3_putRow_20 rfl).trans <|
  R_invV mc_54 dX3_putRow_22 mo_54 ct_3_45 af_54_52 rfl rfl rfl ⟨Nat.le_of_ble_eq_true rfl, Nat.le_of_ble_eq_true rfl⟩)
  (rfl)
theorem B_X3_putRow_25 (sc : Nat × (Nat → Int)) (iv : Nat → Nat → Int) (x1 : Int) (x2 : Int) (x3 : Int) (x4 : Int) (x5 : Int) (x6 : Int) (s0 : Int) (s1 : Int) : Run sc 54 25 [some (Rf 2), some (I x1), some (I x2), some (I x3), some (I x4), some (I x5), some (I x6)] [(I s0), (I s1)] (hp iv) = chk (s1 + s0) (chk (x6 + 1) (Run sc 54 6 [some (Rf 2), some (I x1), some (I x2), some (I x3), some (I x4), some (I (s1 + s0)), some (I (x6 + 1))] [] (hp iv))) :=
  (R_iadd mc_54 dX3_putRow_25).trans <| chk_congr <|
  (R_istore mc_54 dX3_putRow_26 (Nat.le_of_ble_eq_true rfl)).trans <|
  (R_iinc mc_54 dX3_putRow_28 rfl).trans <| chk_congr <|
  R_goto mc_54 dX3_putRow_31 (t := 6) rfl
theorem B_X3_putRow_34 (sc : Nat × (Nat → Int)) (iv : Nat → Nat → Int) (x1 : Int) (x2 : Int) (x3 : Int) (x4 : Int) (x5 : Int) (x6 : Int) : Run sc 54 34 [some (Rf 2), some (I x1), some (I x2), some (I x3), some (I x4), some (I x5), some (I x6)] [] (hp iv) = some (some (I x5), (hp iv)) :=
  (R_iload mc_54 dX3_putRow_34 rfl).trans <|
  R_ireturn mc_54 dX3_putRow_36 rfl
theorem B_X3_neighborsOfColor_0 (sc : Nat × (Nat → Int)) (iv : Nat → Nat → Int) (x1 : Int) (x2 : Int) (x3 : Int) : Run sc 55 0 [some (Rf 2), some (I x1), some (I x2), some (I x3), none, none, none, none] [] (hp iv) = Run sc 55 6 [some (Rf 2), some (I x1), some (I x2), some (I x3), some (I 0), some (I (-1)), none, none] [] (hp iv) :=
  (R_iconst mc_55 dX3_neighborsOfColor_0 ⟨by decide, by decide⟩).trans <|
  (R_istore mc_55 dX3_neighborsOfColor_1 (Nat.le_of_ble_eq_true rfl)).trans <|
  (R_iconst mc_55 dX3_neighborsOfColor_3 ⟨by decide, by decide⟩).trans <|
  R_istore mc_55 dX3_neighborsOfColor_4 (Nat.le_of_ble_eq_true rfl)
theorem B_X3_neighborsOfColor_6 (sc : Nat × (Nat → Int)) (iv : Nat → Nat → Int) (x1 : Int) (x2 : Int) (x3 : Int) (x4 : Int) (x5 : Int) (d6 : Option AV) (d7 : Option AV) : Run sc 55 6 [some (Rf 2), some (I x1), some (I x2), some (I x3), some (I x4), some (I x5), d6, d7] [] (hp iv) = if 1 < x5 then Run sc 55 74 [some (Rf 2), some (I x1), some (I x2), some (I x3), some (I x4), some (I x5), d6, d7] [] (hp iv) else Run sc 55 15 [some (Rf 2), some (I x1), some (I x2), some (I x3), some (I x4), some (I x5), some (I (-1)), d7] [] (hp iv) :=
  (R_iload mc_55 dX3_neighborsOfColor_6 rfl).trans <|
  (R_iconst mc_55 dX3_neighborsOfColor_8 ⟨by decide, by decide⟩).trans <|
  (R_icmp_gt mc_55 dX3_neighborsOfColor_9 (t := 74) rfl).trans <| ite_c2
  (rfl)
  ((R_iconst mc_55 dX3_neighborsOfColor_12 ⟨by decide, by decide⟩).trans <|
  R_istore mc_55 dX3_neighborsOfColor_13 (Nat.le_of_ble_eq_true rfl))
theorem B_X3_neighborsOfColor_15 (sc : Nat × (Nat → Int)) (iv : Nat → Nat → Int) (x1 : Int) (x2 : Int) (x3 : Int) (x4 : Int) (x5 : Int) (x6 : Int) (d7 : Option AV) : Run sc 55 15 [some (Rf 2), some (I x1), some (I x2), some (I x3), some (I x4), some (I x5), some (I x6), d7] [] (hp iv) = if 1 < x6 then Run sc 55 68 [some (Rf 2), some (I x1), some (I x2), some (I x3), some (I x4), some (I x5), some (I x6), d7] [] (hp iv) else if x5 = 0 then if x6 = 0 then Run sc 55 36 [some (Rf 2), some (I x1), some (I x2), some (I x3), some (I x4), some (I x5), some (I x6), d7] [(I 1)] (hp iv) else Run sc 55 35 [some (Rf 2), some (I x1), some (I x2), some (I x3), some (I x4), some (I x5), some (I x6), d7] [] (hp iv) else Run sc 55 35 [some (Rf 2), some (I x1), some (I x2), some (I x3), some (I x4), some (I x5), some (I x6), d7] [] (hp iv) :=
  (R_iload mc_55 dX3_neighborsOfColor_15 rfl).trans <|
  (R_iconst mc_55 dX3_neighborsOfColor_17 ⟨by decide, by decide⟩).trans <|
  (R_icmp_gt mc_55 dX3_neighborsOfColor_18 (t := 68) rfl).trans <| ite_c2
  (rfl)
  ((R_iload mc_55 dX3_neighborsOfColor_21 rfl).trans <|
  (R_if_ne mc_55 dX3_neighborsOfColor_23 (t := 35) rfl).trans <| ite_c2
  ((R_iload mc_55 dX3_neighborsOfColor_26 rfl).trans <|
  (R_if_ne mc_55 dX3_neighborsOfColor_28 (t := 35) rfl).trans <| ite_c2
  ((R_iconst mc_55 dX3_neighborsOfColor_31 ⟨by decide, by decide⟩).trans <|
  R_goto mc_55 dX3_neighborsOfColor_32 (t := 36) rfl)
  (rfl))
  (rfl))
theorem B_X3_neighborsOfColor_35 (sc : Nat × (Nat → Int)) (iv : Nat → Nat → Int) (x1 : Int) (x2 : Int) (x3 : Int) (x4 : Int) (x5 : Int) (x6 : Int) (d7 : Option AV) : Run sc 55 35 [some (Rf 2), some (I x1), some (I x2), some (I x3), some (I x4), some (I x5), some (I x6), d7] [] (hp iv) = Run sc 55 36 [some (Rf 2), some (I x1), some (I x2), some (I x3), some (I x4), some (I x5), some (I x6), d7] [(I 0)] (hp iv) :=
  R_iconst mc_55 dX3_neighborsOfColor_35 ⟨by decide, by decide⟩
theorem B_X3_neighborsOfColor_36 (sc : Nat × (Nat → Int)) (iv : Nat → Nat → Int) (x1 : Int) (x2 : Int) (x3 : Int) (x4 : Int) (x5 : Int) (x6 : Int) (d7 : Option AV) (s0 : Int) : Run sc 55 36 [some (Rf 2), some (I x1), some (I x2), some (I x3), some (I x4), some (I x5), some (I x6), d7] [(I s0)] (hp iv) = if s0 = 0 then chk (x1 + x6) (chk (x2 + x5) (aBind (Run sc 51 0 [some (Rf 2), some (I (x1 + x6)), some (I (x2 + x5))] [] (hp iv)) (fun v h2 => Run sc 55 55 [some (Rf 2), some (I x1), some (I x2), some (I x3), some (I x4), some (I x5), some (I x6), some (I s0)] (pushR v []) h2))) else Run sc 55 62 [some (Rf 2), some (I x1), some (I x2), some (I x3), some (I x4), some (I x5), some (I x6), some (I s0)] [] (hp iv) :=
  (R_istore mc_55 dX3_neighborsOfColor_36 (Nat.le_of_ble_eq_true rfl)).trans <|
  (R_iload mc_55 dX3_neighborsOfColor_38 rfl).trans <|
  (R_if_ne mc_55 dX3_neighborsOfColor_40 (t := 62) rfl).trans <| ite_c2
  ((R_aload_n mc_55 dX3_neighborsOfColor_43 rfl).trans <|
  (R_iload_n mc_55 dX3_neighborsOfColor_44 rfl).trans <|
  (R_iload mc_55 dX3_neighborsOfColor_45 rfl).trans <|
  (R_iadd mc_55 dX3_neighborsOfColor_47).trans <| chk_congr <|
  (R_iload_n mc_55 dX3_neighborsOfColor_48 rfl).trans <|
  (R_iload mc_55 dX3_neighborsOfColor_49 rfl).trans <|
  (R_iadd mc_55 dX3_neighborsOfColor_51).trans <| chk_congr <|
  R_invV mc_55 dX3_neighborsOfColor_52 mo_55 ct_3_33 af_55_51 rfl rfl rfl ⟨Nat.le_of_ble_eq_true rfl, Nat.le_of_ble_eq_true rfl⟩)
  (rfl)
theorem B_X3_neighborsOfColor_55 (sc : Nat × (Nat → Int)) (iv : Nat → Nat → Int) (x1 : Int) (x2 : Int) (x3 : Int) (x4 : Int) (x5 : Int) (x6 : Int) (x7 : Int) (s0 : Int) : Run sc 55 55 [some (Rf 2), some (I x1), some (I x2), some (I x3), some (I x4), some (I x5), some (I x6), some (I x7)] [(I s0)] (hp iv) = if s0 = x3 then chk (x4 + 1) (Run sc 55 62 [some (Rf 2), some (I x1), some (I x2), some (I x3), some (I (x4 + 1)), some (I x5), some (I x6), some (I x7)] [] (hp iv)) else Run sc 55 62 [some (Rf 2), some (I x1), some (I x2), some (I x3), some (I x4), some (I x5), some (I x6), some (I x7)] [] (hp iv) :=
  (R_iload_n mc_55 dX3_neighborsOfColor_55 rfl).trans <|
  (R_icmp_ne mc_55 dX3_neighborsOfColor_56 (t := 62) rfl).trans <| ite_c2
  ((R_iinc mc_55 dX3_neighborsOfColor_59 rfl).trans <| chk_congr <|
  rfl)
  (rfl)
theorem B_X3_neighborsOfColor_62 (sc : Nat × (Nat → Int)) (iv : Nat → Nat → Int) (x1 : Int) (x2 : Int) (x3 : Int) (x4 : Int) (x5 : Int) (x6 : Int) (x7 : Int) : Run sc 55 62 [some (Rf 2), some (I x1), some (I x2), some (I x3), some (I x4), some (I x5), some (I x6), some (I x7)] [] (hp iv) = chk (x6 + 1) (Run sc 55 15 [some (Rf 2), some (I x1), some (I x2), some (I x3), some (I x4), some (I x5), some (I (x6 + 1)), some (I x7)] [] (hp iv)) :=
  (R_iinc mc_55 dX3_neighborsOfColor_62 rfl).trans <| chk_congr <|
  R_goto mc_55 dX3_neighborsOfColor_65 (t := 15) rfl
theorem B_X3_neighborsOfColor_68 (sc : Nat × (Nat → Int)) (iv : Nat → Nat → Int) (x1 : Int) (x2 : Int) (x3 : Int) (x4 : Int) (x5 : Int) (x6 : Int) (d7 : Option AV) : Run sc 55 68 [some (Rf 2), some (I x1), some (I x2), some (I x3), some (I x4), some (I x5), some (I x6), d7] [] (hp iv) = chk (x5 + 1) (Run sc 55 6 [some (Rf 2), some (I x1), some (I x2), some (I x3), some (I x4), some (I (x5 + 1)), some (I x6), d7] [] (hp iv)) :=
  (R_iinc mc_55 dX3_neighborsOfColor_68 rfl).trans <| chk_congr <|
  R_goto mc_55 dX3_neighborsOfColor_71 (t := 6) rfl
theorem B_X3_neighborsOfColor_74 (sc : Nat × (Nat → Int)) (iv : Nat → Nat → Int) (x1 : Int) (x2 : Int) (x3 : Int) (x4 : Int) (x5 : Int) (d6 : Option AV) (d7 : Option AV) : Run sc 55 74 [some (Rf 2), some (I x1), some (I x2), some (I x3), some (I x4), some (I x5), d6, d7] [] (hp iv) = some (some (I x4), (hp iv)) :=
  (R_iload mc_55 dX3_neighborsOfColor_74 rfl).trans <|
  R_ireturn mc_55 dX3_neighborsOfColor_76 rfl
theorem B_X3_standsAlone_0 (sc : Nat × (Nat → Int)) (iv : Nat → Nat → Int) (x1 : Int) (x2 : Int) : Run sc 56 0 [some (Rf 2), some (I x1), some (I x2), none] [] (hp iv) = aBind (Run sc 51 0 [some (Rf 2), some (I x1), some (I x2)] [] (hp iv)) (fun v h2 => Run sc 56 6 [some (Rf 2), some (I x1), some (I x2), none] (pushR v []) h2) :=
  (R_aload_n mc_56 dX3_standsAlone_0 rfl).trans <|
  (R_iload_n mc_56 dX3_standsAlone_1 rfl).trans <|
  (R_iload_n mc_56 dX3_standsAlone_2 rfl).trans <|
  R_invV mc_56 dX3_standsAlone_3 mo_56 ct_3_33 af_56_51 rfl rfl rfl ⟨Nat.le_of_ble_eq_true rfl, Nat.le_of_ble_eq_true rfl⟩
theorem B_X3_standsAlone_6 (sc : Nat × (Nat → Int)) (iv : Nat → Nat → Int) (x1 : Int) (x2 : Int) (d3 : Option AV) (s0 : Int) : Run sc 56 6 [some (Rf 2), some (I x1), some (I x2), d3] [(I s0)] (hp iv) = if s0 = 0 then Run sc 56 25 [some (Rf 2), some (I x1), some (I x2), some (I s0)] [] (hp iv) else aBind (Run sc 55 0 [some (Rf 2), some (I x1), some (I x2), some (I s0), none, none, none, none] [] (hp iv)) (fun v h2 => Run sc 56 18 [some (Rf 2), some (I x1), some (I x2), some (I s0)] (pushR v []) h2) :=
  (R_istore_n mc_56 dX3_standsAlone_6 (Nat.le_of_ble_eq_true rfl)).trans <|
  (R_iload_n mc_56 dX3_standsAlone_7 rfl).trans <|
  (R_if_eq mc_56 dX3_standsAlone_8 (t := 25) rfl).trans <| ite_c2
  (rfl)
  ((R_aload_n mc_56 dX3_standsAlone_11 rfl).trans <|
  (R_iload_n mc_56 dX3_standsAlone_12 rfl).trans <|
  (R_iload_n mc_56 dX3_standsAlone_13 rfl).trans <|
  (R_iload_n mc_56 dX3_standsAlone_14 rfl).trans <|
  R_invV mc_56 dX3_standsAlone_15 mo_56 ct_3_49 af_56_55 rfl rfl rfl ⟨Nat.le_of_ble_eq_true rfl, Nat.le_of_ble_eq_true rfl⟩)
theorem B_X3_standsAlone_18 (sc : Nat × (Nat → Int)) (iv : Nat → Nat → Int) (x1 : Int) (x2 : Int) (x3 : Int) (s0 : Int) : Run sc 56 18 [some (Rf 2), some (I x1), some (I x2), some (I x3)] [(I s0)] (hp iv) = if s0 = 0 then Run sc 56 26 [some (Rf 2), some (I x1), some (I x2), some (I x3)] [(I 1)] (hp iv) else Run sc 56 25 [some (Rf 2), some (I x1), some (I x2), some (I x3)] [] (hp iv) :=
  (R_if_ne mc_56 dX3_standsAlone_18 (t := 25) rfl).trans <| ite_c2
  ((R_iconst mc_56 dX3_standsAlone_21 ⟨by decide, by decide⟩).trans <|
  R_goto mc_56 dX3_standsAlone_22 (t := 26) rfl)
  (rfl)
theorem B_X3_standsAlone_25 (sc : Nat × (Nat → Int)) (iv : Nat → Nat → Int) (x1 : Int) (x2 : Int) (x3 : Int) : Run sc 56 25 [some (Rf 2), some (I x1), some (I x2), some (I x3)] [] (hp iv) = Run sc 56 26 [some (Rf 2), some (I x1), some (I x2), some (I x3)] [(I 0)] (hp iv) :=
  R_iconst mc_56 dX3_standsAlone_25 ⟨by decide, by decide⟩
theorem B_X3_standsAlone_26 (sc : Nat × (Nat → Int)) (iv : Nat → Nat → Int) (x1 : Int) (x2 : Int) (x3 : Int) (s0 : Int) : Run sc 56 26 [some (Rf 2), some (I x1), some (I x2), some (I x3)] [(I s0)] (hp iv) = bck 0 1 s0 (some (some (I s0), (hp iv))) :=
  R_ireturnZ mc_56 dX3_standsAlone_26 rfl
theorem B_X3_loneStitches_0 (sc : Nat × (Nat → Int)) (iv : Nat → Nat → Int) (x1 : Int) : Run sc 57 0 [some (Rf 2), some (I x1), none, none, none] [] (hp iv) = Run sc 57 4 [some (Rf 2), some (I x1), some (I 0), some (I 0), none] [] (hp iv) :=
  (R_iconst mc_57 dX3_loneStitches_0 ⟨by decide, by decide⟩).trans <|
  (R_istore_n mc_57 dX3_loneStitches_1 (Nat.le_of_ble_eq_true rfl)).trans <|
  (R_iconst mc_57 dX3_loneStitches_2 ⟨by decide, by decide⟩).trans <|
  R_istore_n mc_57 dX3_loneStitches_3 (Nat.le_of_ble_eq_true rfl)
theorem B_X3_loneStitches_4 (sc : Nat × (Nat → Int)) (iv : Nat → Nat → Int) (x1 : Int) (x2 : Int) (x3 : Int) (d4 : Option AV) : Run sc 57 4 [some (Rf 2), some (I x1), some (I x2), some (I x3), d4] [] (hp iv) = if x3 < (iv 2 1) then Run sc 57 15 [some (Rf 2), some (I x1), some (I x2), some (I x3), some (I 0)] [] (hp iv) else Run sc 57 60 [some (Rf 2), some (I x1), some (I x2), some (I x3), d4] [] (hp iv) :=
  (R_iload_n mc_57 dX3_loneStitches_4 rfl).trans <|
  (R_aload_n mc_57 dX3_loneStitches_5 rfl).trans <|
  (R_getI mc_57 dX3_loneStitches_6 mo_57 ft_3_15 rfl rfl).trans <|
  (R_icmp_ge mc_57 dX3_loneStitches_9 (t := 60) rfl).trans <| ite_c2
  ((R_iconst mc_57 dX3_loneStitches_12 ⟨by decide, by decide⟩).trans <|
  R_istore mc_57 dX3_loneStitches_13 (Nat.le_of_ble_eq_true rfl))
  (rfl)
theorem B_X3_loneStitches_15 (sc : Nat × (Nat → Int)) (iv : Nat → Nat → Int) (x1 : Int) (x2 : Int) (x3 : Int) (x4 : Int) : Run sc 57 15 [some (Rf 2), some (I x1), some (I x2), some (I x3), some (I x4)] [] (hp iv) = if x4 < (iv 2 0) then aBind (Run sc 51 0 [some (Rf 2), some (I x4), some (I x3)] [] (hp iv)) (fun v h2 => Run sc 57 31 [some (Rf 2), some (I x1), some (I x2), some (I x3), some (I x4)] (pushR v []) h2) else Run sc 57 54 [some (Rf 2), some (I x1), some (I x2), some (I x3), some (I x4)] [] (hp iv) :=
  (R_iload mc_57 dX3_loneStitches_15 rfl).trans <|
  (R_aload_n mc_57 dX3_loneStitches_17 rfl).trans <|
  (R_getI mc_57 dX3_loneStitches_18 mo_57 ft_3_9 rfl rfl).trans <|
  (R_icmp_ge mc_57 dX3_loneStitches_21 (t := 54) rfl).trans <| ite_c2
  ((R_aload_n mc_57 dX3_loneStitches_24 rfl).trans <|
  (R_iload mc_57 dX3_loneStitches_25 rfl).trans <|
  (R_iload_n mc_57 dX3_loneStitches_27 rfl).trans <|
  R_invV mc_57 dX3_loneStitches_28 mo_57 ct_3_33 af_57_51 rfl rfl rfl ⟨Nat.le_of_ble_eq_true rfl, Nat.le_of_ble_eq_true rfl⟩)
  (rfl)
theorem B_X3_loneStitches_31 (sc : Nat × (Nat → Int)) (iv : Nat → Nat → Int) (x1 : Int) (x2 : Int) (x3 : Int) (x4 : Int) (s0 : Int) : Run sc 57 31 [some (Rf 2), some (I x1), some (I x2), some (I x3), some (I x4)] [(I s0)] (hp iv) = if s0 = x1 then aBind (Run sc 56 0 [some (Rf 2), some (I x4), some (I x3), none] [] (hp iv)) (fun v h2 => Run sc 57 42 [some (Rf 2), some (I x1), some (I x2), some (I x3), some (I x4)] (pushR v []) h2) else Run sc 57 48 [some (Rf 2), some (I x1), some (I x2), some (I x3), some (I x4)] [] (hp iv) :=
  (R_iload_n mc_57 dX3_loneStitches_31 rfl).trans <|
  (R_icmp_ne mc_57 dX3_loneStitches_32 (t := 48) rfl).trans <| ite_c2
  ((R_aload_n mc_57 dX3_loneStitches_35 rfl).trans <|
  (R_iload mc_57 dX3_loneStitches_36 rfl).trans <|
  (R_iload_n mc_57 dX3_loneStitches_38 rfl).trans <|
  R_invV mc_57 dX3_loneStitches_39 mo_57 ct_3_52 af_57_56 rfl rfl rfl ⟨Nat.le_of_ble_eq_true rfl, Nat.le_of_ble_eq_true rfl⟩)
  (rfl)
theorem B_X3_loneStitches_42 (sc : Nat × (Nat → Int)) (iv : Nat → Nat → Int) (x1 : Int) (x2 : Int) (x3 : Int) (x4 : Int) (s0 : Int) : Run sc 57 42 [some (Rf 2), some (I x1), some (I x2), some (I x3), some (I x4)] [(I s0)] (hp iv) = if s0 = 0 then Run sc 57 48 [some (Rf 2), some (I x1), some (I x2), some (I x3), some (I x4)] [] (hp iv) else chk (x2 + 1) (Run sc 57 48 [some (Rf 2), some (I x1), some (I (x2 + 1)), some (I x3), some (I x4)] [] (hp iv)) :=
  (R_if_eq mc_57 dX3_loneStitches_42 (t := 48) rfl).trans <| ite_c2
  (rfl)
  ((R_iinc mc_57 dX3_loneStitches_45 rfl).trans <| chk_congr <|
  rfl)
theorem B_X3_loneStitches_48 (sc : Nat × (Nat → Int)) (iv : Nat → Nat → Int) (x1 : Int) (x2 : Int) (x3 : Int) (x4 : Int) : Run sc 57 48 [some (Rf 2), some (I x1), some (I x2), some (I x3), some (I x4)] [] (hp iv) = chk (x4 + 1) (Run sc 57 15 [some (Rf 2), some (I x1), some (I x2), some (I x3), some (I (x4 + 1))] [] (hp iv)) :=
  (R_iinc mc_57 dX3_loneStitches_48 rfl).trans <| chk_congr <|
  R_goto mc_57 dX3_loneStitches_51 (t := 15) rfl
theorem B_X3_loneStitches_54 (sc : Nat × (Nat → Int)) (iv : Nat → Nat → Int) (x1 : Int) (x2 : Int) (x3 : Int) (x4 : Int) : Run sc 57 54 [some (Rf 2), some (I x1), some (I x2), some (I x3), some (I x4)] [] (hp iv) = chk (x3 + 1) (Run sc 57 4 [some (Rf 2), some (I x1), some (I x2), some (I (x3 + 1)), some (I x4)] [] (hp iv)) :=
  (R_iinc mc_57 dX3_loneStitches_54 rfl).trans <| chk_congr <|
  R_goto mc_57 dX3_loneStitches_57 (t := 4) rfl
theorem B_X3_loneStitches_60 (sc : Nat × (Nat → Int)) (iv : Nat → Nat → Int) (x1 : Int) (x2 : Int) (x3 : Int) (d4 : Option AV) : Run sc 57 60 [some (Rf 2), some (I x1), some (I x2), some (I x3), d4] [] (hp iv) = some (some (I x2), (hp iv)) :=
  (R_iload_n mc_57 dX3_loneStitches_60 rfl).trans <|
  R_ireturn mc_57 dX3_loneStitches_61 rfl
theorem B_X3_colorAfterMerging_0 (sc : Nat × (Nat → Int)) (iv : Nat → Nat → Int) (x1 : Int) (x2 : Int) : Run sc 58 0 [some (Rf 2), some (I x1), some (I x2), none, none, none, none] [] (hp iv) = aBind (Run sc 51 0 [some (Rf 2), some (I x1), some (I x2)] [] (hp iv)) (fun v h2 => Run sc 58 6 [some (Rf 2), some (I x1), some (I x2), none, none, none, none] (pushR v []) h2) :=
  (R_aload_n mc_58 dX3_colorAfterMerging_0 rfl).trans <|
  (R_iload_n mc_58 dX3_colorAfterMerging_1 rfl).trans <|
  (R_iload_n mc_58 dX3_colorAfterMerging_2 rfl).trans <|
  R_invV mc_58 dX3_colorAfterMerging_3 mo_58 ct_3_33 af_58_51 rfl rfl rfl ⟨Nat.le_of_ble_eq_true rfl, Nat.le_of_ble_eq_true rfl⟩
theorem B_X3_colorAfterMerging_6 (sc : Nat × (Nat → Int)) (iv : Nat → Nat → Int) (x1 : Int) (x2 : Int) (d3 : Option AV) (d4 : Option AV) (d5 : Option AV) (d6 : Option AV) (s0 : Int) : Run sc 58 6 [some (Rf 2), some (I x1), some (I x2), d3, d4, d5, d6] [(I s0)] (hp iv) = aBind (Run sc 56 0 [some (Rf 2), some (I x1), some (I x2), none] [] (hp iv)) (fun v h2 => Run sc 58 13 [some (Rf 2), some (I x1), some (I x2), some (I s0), d4, d5, d6] (pushR v []) h2) :=
  (R_istore_n mc_58 dX3_colorAfterMerging_6 (Nat.le_of_ble_eq_true rfl)).trans <|
  (R_aload_n mc_58 dX3_colorAfterMerging_7 rfl).trans <|
  (R_iload_n mc_58 dX3_colorAfterMerging_8 rfl).trans <|
  (R_iload_n mc_58 dX3_colorAfterMerging_9 rfl).trans <|
  R_invV mc_58 dX3_colorAfterMerging_10 mo_58 ct_3_52 af_58_56 rfl rfl rfl ⟨Nat.le_of_ble_eq_true rfl, Nat.le_of_ble_eq_true rfl⟩
theorem B_X3_colorAfterMerging_13 (sc : Nat × (Nat → Int)) (iv : Nat → Nat → Int) (x1 : Int) (x2 : Int) (x3 : Int) (d4 : Option AV) (d5 : Option AV) (d6 : Option AV) (s0 : Int) : Run sc 58 13 [some (Rf 2), some (I x1), some (I x2), some (I x3), d4, d5, d6] [(I s0)] (hp iv) = if s0 = 0 then some (some (I x3), (hp iv)) else Run sc 58 18 [some (Rf 2), some (I x1), some (I x2), some (I x3), d4, d5, d6] [] (hp iv) :=
  (R_if_ne mc_58 dX3_colorAfterMerging_13 (t := 18) rfl).trans <| ite_c2
  ((R_iload_n mc_58 dX3_colorAfterMerging_16 rfl).trans <|
  R_ireturn mc_58 dX3_colorAfterMerging_17 rfl)
  (rfl)
theorem B_X3_colorAfterMerging_18 (sc : Nat × (Nat → Int)) (iv : Nat → Nat → Int) (x1 : Int) (x2 : Int) (x3 : Int) (d4 : Option AV) (d5 : Option AV) (d6 : Option AV) : Run sc 58 18 [some (Rf 2), some (I x1), some (I x2), some (I x3), d4, d5, d6] [] (hp iv) = Run sc 58 24 [some (Rf 2), some (I x1), some (I x2), some (I x3), some (I 0), some (I 1), d6] [] (hp iv) :=
  (R_iconst mc_58 dX3_colorAfterMerging_18 ⟨by decide, by decide⟩).trans <|
  (R_istore mc_58 dX3_colorAfterMerging_19 (Nat.le_of_ble_eq_true rfl)).trans <|
  (R_iconst mc_58 dX3_colorAfterMerging_21 ⟨by decide, by decide⟩).trans <|
  R_istore mc_58 dX3_colorAfterMerging_22 (Nat.le_of_ble_eq_true rfl)
theorem B_X3_colorAfterMerging_24 (sc : Nat × (Nat → Int)) (iv : Nat → Nat → Int) (x1 : Int) (x2 : Int) (x3 : Int) (x4 : Int) (x5 : Int) (d6 : Option AV) : Run sc 58 24 [some (Rf 2), some (I x1), some (I x2), some (I x3), some (I x4), some (I x5), d6] [] (hp iv) = if 6 < x5 then Run sc 58 61 [some (Rf 2), some (I x1), some (I x2), some (I x3), some (I x4), some (I x5), d6] [] (hp iv) else aBind (Run sc 55 0 [some (Rf 2), some (I x1), some (I x2), some (I x5), none, none, none, none] [] (hp iv)) (fun v h2 => Run sc 58 39 [some (Rf 2), some (I x1), some (I x2), some (I x3), some (I x4), some (I x5), d6] (pushR v []) h2) :=
  (R_iload mc_58 dX3_colorAfterMerging_24 rfl).trans <|
  (R_bipush mc_58 dX3_colorAfterMerging_26 ⟨by decide, by decide⟩).trans <|
  (R_icmp_gt mc_58 dX3_colorAfterMerging_28 (t := 61) rfl).trans <| ite_c2
  (rfl)
  ((R_aload_n mc_58 dX3_colorAfterMerging_31 rfl).trans <|
  (R_iload_n mc_58 dX3_colorAfterMerging_32 rfl).trans <|
  (R_iload_n mc_58 dX3_colorAfterMerging_33 rfl).trans <|
  (R_iload mc_58 dX3_colorAfterMerging_34 rfl).trans <|
  R_invV mc_58 dX3_colorAfterMerging_36 mo_58 ct_3_49 af_58_55 rfl rfl rfl ⟨Nat.le_of_ble_eq_true rfl, Nat.le_of_ble_eq_true rfl⟩)
theorem B_X3_colorAfterMerging_39 (sc : Nat × (Nat → Int)) (iv : Nat → Nat → Int) (x1 : Int) (x2 : Int) (x3 : Int) (x4 : Int) (x5 : Int) (d6 : Option AV) (s0 : Int) : Run sc 58 39 [some (Rf 2), some (I x1), some (I x2), some (I x3), some (I x4), some (I x5), d6] [(I s0)] (hp iv) = if x4 < s0 then Run sc 58 55 [some (Rf 2), some (I x1), some (I x2), some (I x5), some (I s0), some (I x5), some (I s0)] [] (hp iv) else Run sc 58 55 [some (Rf 2), some (I x1), some (I x2), some (I x3), some (I x4), some (I x5), some (I s0)] [] (hp iv) :=
  (R_istore mc_58 dX3_colorAfterMerging_39 (Nat.le_of_ble_eq_true rfl)).trans <|
  (R_iload mc_58 dX3_colorAfterMerging_41 rfl).trans <|
  (R_iload mc_58 dX3_colorAfterMerging_43 rfl).trans <|
  (R_icmp_le mc_58 dX3_colorAfterMerging_45 (t := 55) rfl).trans <| ite_c2
  ((R_iload mc_58 dX3_colorAfterMerging_48 rfl).trans <|
  (R_istore mc_58 dX3_colorAfterMerging_50 (Nat.le_of_ble_eq_true rfl)).trans <|
  (R_iload mc_58 dX3_colorAfterMerging_52 rfl).trans <|
  R_istore_n mc_58 dX3_colorAfterMerging_54 (Nat.le_of_ble_eq_true rfl))
  (rfl)
theorem B_X3_colorAfterMerging_55 (sc : Nat × (Nat → Int)) (iv : Nat → Nat → Int) (x1 : Int) (x2 : Int) (x3 : Int) (x4 : Int) (x5 : Int) (x6 : Int) : Run sc 58 55 [some (Rf 2), some (I x1), some (I x2), some (I x3), some (I x4), some (I x5), some (I x6)] [] (hp iv) = chk (x5 + 1) (Run sc 58 24 [some (Rf 2), some (I x1), some (I x2), some (I x3), some (I x4), some (I (x5 + 1)), some (I x6)] [] (hp iv)) :=
  (R_iinc mc_58 dX3_colorAfterMerging_55 rfl).trans <| chk_congr <|
  R_goto mc_58 dX3_colorAfterMerging_58 (t := 24) rfl
theorem B_X3_colorAfterMerging_61 (sc : Nat × (Nat → Int)) (iv : Nat → Nat → Int) (x1 : Int) (x2 : Int) (x3 : Int) (x4 : Int) (x5 : Int) (d6 : Option AV) : Run sc 58 61 [some (Rf 2), some (I x1), some (I x2), some (I x3), some (I x4), some (I x5), d6] [] (hp iv) = some (some (I x3), (hp iv)) :=
  (R_iload_n mc_58 dX3_colorAfterMerging_61 rfl).trans <|
  R_ireturn mc_58 dX3_colorAfterMerging_62 rfl
theorem B_X3_mergeOnce_0 (sc : Nat × (Nat → Int)) (iv : Nat → Nat → Int)  : Run sc 59 0 [some (Rf 2), none, none, none] [] (hp iv) = Run sc 59 2 [some (Rf 2), some (I 0), none, none] [] (hp iv) :=
  (R_iconst mc_59 dX3_mergeOnce_0 ⟨by decide, by decide⟩).trans <|
  R_istore_n mc_59 dX3_mergeOnce_1 (Nat.le_of_ble_eq_true rfl)
theorem B_X3_mergeOnce_2 (sc : Nat × (Nat → Int)) (iv : Nat → Nat → Int) (x1 : Int) (d2 : Option AV) (d3 : Option AV) : Run sc 59 2 [some (Rf 2), some (I x1), d2, d3] [] (hp iv) = if x1 < (iv 2 1) then Run sc 59 12 [some (Rf 2), some (I x1), some (I 0), d3] [] (hp iv) else Run sc 59 58 [some (Rf 2), some (I x1), d2, d3] [] (hp iv) :=
  (R_iload_n mc_59 dX3_mergeOnce_2 rfl).trans <|
  (R_aload_n mc_59 dX3_mergeOnce_3 rfl).trans <|
  (R_getI mc_59 dX3_mergeOnce_4 mo_59 ft_3_15 rfl rfl).trans <|
  (R_icmp_ge mc_59 dX3_mergeOnce_7 (t := 58) rfl).trans <| ite_c2
  ((R_iconst mc_59 dX3_mergeOnce_10 ⟨by decide, by decide⟩).trans <|
  R_istore_n mc_59 dX3_mergeOnce_11 (Nat.le_of_ble_eq_true rfl))
  (rfl)
theorem B_X3_mergeOnce_12 (sc : Nat × (Nat → Int)) (iv : Nat → Nat → Int) (x1 : Int) (x2 : Int) (d3 : Option AV) : Run sc 59 12 [some (Rf 2), some (I x1), some (I x2), d3] [] (hp iv) = if x2 < (iv 2 0) then aBind (Run sc 50 0 [some (Rf 2), some (I x2), some (I x1)] [] (hp iv)) (fun v h2 => Run sc 59 26 [some (Rf 2), some (I x1), some (I x2), d3] (pushR v []) h2) else Run sc 59 52 [some (Rf 2), some (I x1), some (I x2), d3] [] (hp iv) :=
  (R_iload_n mc_59 dX3_mergeOnce_12 rfl).trans <|
  (R_aload_n mc_59 dX3_mergeOnce_13 rfl).trans <|
  (R_getI mc_59 dX3_mergeOnce_14 mo_59 ft_3_9 rfl rfl).trans <|
  (R_icmp_ge mc_59 dX3_mergeOnce_17 (t := 52) rfl).trans <| ite_c2
  ((R_aload_n mc_59 dX3_mergeOnce_20 rfl).trans <|
  (R_iload_n mc_59 dX3_mergeOnce_21 rfl).trans <|
  (R_iload_n mc_59 dX3_mergeOnce_22 rfl).trans <|
  R_invV mc_59 dX3_mergeOnce_23 mo_59 ct_3_29 af_59_50 rfl rfl rfl ⟨Nat.le_of_ble_eq_true rfl, Nat.le_of_ble_eq_true rfl⟩)
  (rfl)
theorem B_X3_mergeOnce_26 (sc : Nat × (Nat → Int)) (iv : Nat → Nat → Int) (x1 : Int) (x2 : Int) (d3 : Option AV) (s0 : Int) : Run sc 59 26 [some (Rf 2), some (I x1), some (I x2), d3] [(I s0)] (hp iv) = if s0 = 0 then Run sc 59 46 [some (Rf 2), some (I x1), some (I x2), d3] [] (hp iv) else chk (x1 * 24) (chk ((x1 * 24) + x2) (aBind (Run sc 58 0 [some (Rf 2), some (I x2), some (I x1), none, none, none, none] [] (hp iv)) (fun v h2 => Run sc 59 45 [some (Rf 2), some (I x1), some (I x2), d3] (pushR v [(I ((x1 * 24) + x2)), (Rf 5)]) h2))) :=
  (R_if_eq mc_59 dX3_mergeOnce_26 (t := 46) rfl).trans <| ite_c2
  (rfl)
  ((R_aload_n mc_59 dX3_mergeOnce_29 rfl).trans <|
  (R_getR mc_59 dX3_mergeOnce_30 mo_59 ft_3_26 rfl rfl (r := 5) rfl (by decide)).trans <|
  (R_iload_n mc_59 dX3_mergeOnce_33 rfl).trans <|
  (R_bipush mc_59 dX3_mergeOnce_34 ⟨by decide, by decide⟩).trans <|
  (R_imul mc_59 dX3_mergeOnce_36).trans <| chk_congr <|
  (R_iload_n mc_59 dX3_mergeOnce_37 rfl).trans <|
  (R_iadd mc_59 dX3_mergeOnce_38).trans <| chk_congr <|
  (R_aload_n mc_59 dX3_mergeOnce_39 rfl).trans <|
  (R_iload_n mc_59 dX3_mergeOnce_40 rfl).trans <|
  (R_iload_n mc_59 dX3_mergeOnce_41 rfl).trans <|
  R_invV mc_59 dX3_mergeOnce_42 mo_59 ct_3_55 af_59_58 rfl rfl rfl ⟨Nat.le_of_ble_eq_true rfl, Nat.le_of_ble_eq_true rfl⟩)
theorem B_X3_mergeOnce_45 (sc : Nat × (Nat → Int)) (iv : Nat → Nat → Int) (x1 : Int) (x2 : Int) (d3 : Option AV) (s0 : Int) (s1 : Int) : Run sc 59 45 [some (Rf 2), some (I x1), some (I x2), d3] [(I s0), (I s1), (Rf 5)] (hp iv) = bck 0 (((576 : Nat) : Int) - 1) s1 (bck (-2147483648) 2147483647 s0 (Run sc 59 46 [some (Rf 2), some (I x1), some (I x2), d3] [] (hp (setO iv 5 (upI (iv 5) (Int.toNat s1) s0))))) :=
  (R_iastore mc_59 dX3_mergeOnce_45 rfl).trans <| bck_congr <| bck_congr <|
  rfl
theorem B_X3_mergeOnce_46 (sc : Nat × (Nat → Int)) (iv : Nat → Nat → Int) (x1 : Int) (x2 : Int) (d3 : Option AV) : Run sc 59 46 [some (Rf 2), some (I x1), some (I x2), d3] [] (hp iv) = chk (x2 + 1) (Run sc 59 12 [some (Rf 2), some (I x1), some (I (x2 + 1)), d3] [] (hp iv)) :=
  (R_iinc mc_59 dX3_mergeOnce_46 rfl).trans <| chk_congr <|
  R_goto mc_59 dX3_mergeOnce_49 (t := 12) rfl
theorem B_X3_mergeOnce_52 (sc : Nat × (Nat → Int)) (iv : Nat → Nat → Int) (x1 : Int) (x2 : Int) (d3 : Option AV) : Run sc 59 52 [some (Rf 2), some (I x1), some (I x2), d3] [] (hp iv) = chk (x1 + 1) (Run sc 59 2 [some (Rf 2), some (I (x1 + 1)), some (I x2), d3] [] (hp iv)) :=
  (R_iinc mc_59 dX3_mergeOnce_52 rfl).trans <| chk_congr <|
  R_goto mc_59 dX3_mergeOnce_55 (t := 2) rfl
theorem B_X3_mergeOnce_58 (sc : Nat × (Nat → Int)) (iv : Nat → Nat → Int) (x1 : Int) (d2 : Option AV) (d3 : Option AV) : Run sc 59 58 [some (Rf 2), some (I x1), d2, d3] [] (hp iv) = Run sc 59 62 [some (Rf 2), some (I 0), some (I 0), d3] [] (hp iv) :=
  (R_iconst mc_59 dX3_mergeOnce_58 ⟨by decide, by decide⟩).trans <|
  (R_istore_n mc_59 dX3_mergeOnce_59 (Nat.le_of_ble_eq_true rfl)).trans <|
  (R_iconst mc_59 dX3_mergeOnce_60 ⟨by decide, by decide⟩).trans <|
  R_istore_n mc_59 dX3_mergeOnce_61 (Nat.le_of_ble_eq_true rfl)
theorem B_X3_mergeOnce_62 (sc : Nat × (Nat → Int)) (iv : Nat → Nat → Int) (x1 : Int) (x2 : Int) (d3 : Option AV) : Run sc 59 62 [some (Rf 2), some (I x1), some (I x2), d3] [] (hp iv) = if x2 < (iv 2 1) then Run sc 59 72 [some (Rf 2), some (I x1), some (I x2), some (I 0)] [] (hp iv) else Run sc 59 121 [some (Rf 2), some (I x1), some (I x2), d3] [] (hp iv) :=
  (R_iload_n mc_59 dX3_mergeOnce_62 rfl).trans <|
  (R_aload_n mc_59 dX3_mergeOnce_63 rfl).trans <|
  (R_getI mc_59 dX3_mergeOnce_64 mo_59 ft_3_15 rfl rfl).trans <|
  (R_icmp_ge mc_59 dX3_mergeOnce_67 (t := 121) rfl).trans <| ite_c2
  ((R_iconst mc_59 dX3_mergeOnce_70 ⟨by decide, by decide⟩).trans <|
  R_istore_n mc_59 dX3_mergeOnce_71 (Nat.le_of_ble_eq_true rfl))
  (rfl)
theorem B_X3_mergeOnce_72 (sc : Nat × (Nat → Int)) (iv : Nat → Nat → Int) (x1 : Int) (x2 : Int) (x3 : Int) : Run sc 59 72 [some (Rf 2), some (I x1), some (I x2), some (I x3)] [] (hp iv) = if x3 < (iv 2 0) then aBind (Run sc 50 0 [some (Rf 2), some (I x3), some (I x2)] [] (hp iv)) (fun v h2 => Run sc 59 86 [some (Rf 2), some (I x1), some (I x2), some (I x3)] (pushR v []) h2) else Run sc 59 115 [some (Rf 2), some (I x1), some (I x2), some (I x3)] [] (hp iv) :=
  (R_iload_n mc_59 dX3_mergeOnce_72 rfl).trans <|
  (R_aload_n mc_59 dX3_mergeOnce_73 rfl).trans <|
  (R_getI mc_59 dX3_mergeOnce_74 mo_59 ft_3_9 rfl rfl).trans <|
  (R_icmp_ge mc_59 dX3_mergeOnce_77 (t := 115) rfl).trans <| ite_c2
  ((R_aload_n mc_59 dX3_mergeOnce_80 rfl).trans <|
  (R_iload_n mc_59 dX3_mergeOnce_81 rfl).trans <|
  (R_iload_n mc_59 dX3_mergeOnce_82 rfl).trans <|
  R_invV mc_59 dX3_mergeOnce_83 mo_59 ct_3_29 af_59_50 rfl rfl rfl ⟨Nat.le_of_ble_eq_true rfl, Nat.le_of_ble_eq_true rfl⟩)
  (rfl)
theorem B_X3_mergeOnce_86 (sc : Nat × (Nat → Int)) (iv : Nat → Nat → Int) (x1 : Int) (x2 : Int) (x3 : Int) (s0 : Int) : Run sc 59 86 [some (Rf 2), some (I x1), some (I x2), some (I x3)] [(I s0)] (hp iv) = if s0 = 0 then Run sc 59 109 [some (Rf 2), some (I x1), some (I x2), some (I x3)] [] (hp iv) else chk (x2 * 24) (chk ((x2 * 24) + x3) (bck 0 (((576 : Nat) : Int) - 1) ((x2 * 24) + x3) (aBind (Run sc 52 0 [some (Rf 2), some (I x3), some (I x2), some (I (iv 5 (Int.toNat ((x2 * 24) + x3)))), none] [] (hp iv)) (fun v h2 => Run sc 59 107 [some (Rf 2), some (I x1), some (I x2), some (I x3)] (pushR v [(I x1)]) h2)))) :=
  (R_if_eq mc_59 dX3_mergeOnce_86 (t := 109) rfl).trans <| ite_c2
  (rfl)
  ((R_iload_n mc_59 dX3_mergeOnce_89 rfl).trans <|
  (R_aload_n mc_59 dX3_mergeOnce_90 rfl).trans <|
  (R_iload_n mc_59 dX3_mergeOnce_91 rfl).trans <|
  (R_iload_n mc_59 dX3_mergeOnce_92 rfl).trans <|
  (R_aload_n mc_59 dX3_mergeOnce_93 rfl).trans <|
  (R_getR mc_59 dX3_mergeOnce_94 mo_59 ft_3_26 rfl rfl (r := 5) rfl (by decide)).trans <|
  (R_iload_n mc_59 dX3_mergeOnce_97 rfl).trans <|
  (R_bipush mc_59 dX3_mergeOnce_98 ⟨by decide, by decide⟩).trans <|
  (R_imul mc_59 dX3_mergeOnce_100).trans <| chk_congr <|
  (R_iload_n mc_59 dX3_mergeOnce_101 rfl).trans <|
  (R_iadd mc_59 dX3_mergeOnce_102).trans <| chk_congr <|
  (R_iaload mc_59 dX3_mergeOnce_103 rfl).trans <| bck_congr <|
  R_invV mc_59 dX3_mergeOnce_104 mo_59 ct_3_45 af_59_52 rfl rfl rfl ⟨Nat.le_of_ble_eq_true rfl, Nat.le_of_ble_eq_true rfl⟩)
theorem B_X3_mergeOnce_107 (sc : Nat × (Nat → Int)) (iv : Nat → Nat → Int) (x1 : Int) (x2 : Int) (x3 : Int) (s0 : Int) (s1 : Int) : Run sc 59 107 [some (Rf 2), some (I x1), some (I x2), some (I x3)] [(I s0), (I s1)] (hp iv) = chk (s1 + s0) (Run sc 59 109 [some (Rf 2), some (I (s1 + s0)), some (I x2), some (I x3)] [] (hp iv)) :=
  (R_iadd mc_59 dX3_mergeOnce_107).trans <| chk_congr <|
  R_istore_n mc_59 dX3_mergeOnce_108 (Nat.le_of_ble_eq_true rfl)
theorem B_X3_mergeOnce_109 (sc : Nat × (Nat → Int)) (iv : Nat → Nat → Int) (x1 : Int) (x2 : Int) (x3 : Int) : Run sc 59 109 [some (Rf 2), some (I x1), some (I x2), some (I x3)] [] (hp iv) = chk (x3 + 1) (Run sc 59 72 [some (Rf 2), some (I x1), some (I x2), some (I (x3 + 1))] [] (hp iv)) :=
  (R_iinc mc_59 dX3_mergeOnce_109 rfl).trans <| chk_congr <|
  R_goto mc_59 dX3_mergeOnce_112 (t := 72) rfl
theorem B_X3_mergeOnce_115 (sc : Nat × (Nat → Int)) (iv : Nat → Nat → Int) (x1 : Int) (x2 : Int) (x3 : Int) : Run sc 59 115 [some (Rf 2), some (I x1), some (I x2), some (I x3)] [] (hp iv) = chk (x2 + 1) (Run sc 59 62 [some (Rf 2), some (I x1), some (I (x2 + 1)), some (I x3)] [] (hp iv)) :=
  (R_iinc mc_59 dX3_mergeOnce_115 rfl).trans <| chk_congr <|
  R_goto mc_59 dX3_mergeOnce_118 (t := 62) rfl
theorem B_X3_mergeOnce_121 (sc : Nat × (Nat → Int)) (iv : Nat → Nat → Int) (x1 : Int) (x2 : Int) (d3 : Option AV) : Run sc 59 121 [some (Rf 2), some (I x1), some (I x2), d3] [] (hp iv) = some (some (I x1), (hp iv)) :=
  (R_iload_n mc_59 dX3_mergeOnce_121 rfl).trans <|
  R_ireturn mc_59 dX3_mergeOnce_122 rfl
