theorem B_X0_removeAll_0 (sc : Nat × (Nat → Int)) (iv : Nat → Nat → Int)  : Run sc 2 0 [some (Rf 44), none] [] (hp iv) = Run sc 2 2 [some (Rf 44), some (I 0)] [] (hp iv) :=
  (R_iconst mc_2 dX0_removeAll_0 ⟨by decide, by decide⟩).trans <|
  R_istore_n mc_2 dX0_removeAll_1 (Nat.le_of_ble_eq_true rfl)
theorem B_X0_removeAll_2 (sc : Nat × (Nat → Int)) (iv : Nat → Nat → Int) (x1 : Int) : Run sc 2 2 [some (Rf 44), some (I x1)] [] (hp iv) = if x1 < 625 then bck 0 (((625 : Nat) : Int) - 1) x1 (bck 0 1 0 (Run sc 2 16 [some (Rf 44), some (I x1)] [] (hp (setO iv 45 (upI (iv 45) (Int.toNat x1) 0))))) else Run sc 2 29 [some (Rf 44), some (I x1)] [] (hp iv) :=
  (R_iload_n mc_2 dX0_removeAll_2 rfl).trans <|
  (R_sipush mc_2 dX0_removeAll_3 ⟨by decide, by decide⟩).trans <|
  (R_icmp_ge mc_2 dX0_removeAll_6 (t := 29) rfl).trans <| ite_c2
  ((R_aload_n mc_2 dX0_removeAll_9 rfl).trans <|
  (R_getR mc_2 dX0_removeAll_10 mo_2 ft_0_15 rfl rfl (r := 45) rfl (by decide)).trans <|
  (R_iload_n mc_2 dX0_removeAll_13 rfl).trans <|
  (R_iconst mc_2 dX0_removeAll_14 ⟨by decide, by decide⟩).trans <|
  (R_bastore mc_2 dX0_removeAll_15 rfl).trans <| bck_congr <| bck_congr <|
  rfl)
  (rfl)
theorem B_X0_removeAll_16 (sc : Nat × (Nat → Int)) (iv : Nat → Nat → Int) (x1 : Int) : Run sc 2 16 [some (Rf 44), some (I x1)] [] (hp iv) = bck 0 (((625 : Nat) : Int) - 1) x1 (bck 0 1 0 (Run sc 2 23 [some (Rf 44), some (I x1)] [] (hp (setO iv 46 (upI (iv 46) (Int.toNat x1) 0))))) :=
  (R_aload_n mc_2 dX0_removeAll_16 rfl).trans <|
  (R_getR mc_2 dX0_removeAll_17 mo_2 ft_0_19 rfl rfl (r := 46) rfl (by decide)).trans <|
  (R_iload_n mc_2 dX0_removeAll_20 rfl).trans <|
  (R_iconst mc_2 dX0_removeAll_21 ⟨by decide, by decide⟩).trans <|
  (R_bastore mc_2 dX0_removeAll_22 rfl).trans <| bck_congr <| bck_congr <|
  rfl
theorem B_X0_removeAll_23 (sc : Nat × (Nat → Int)) (iv : Nat → Nat → Int) (x1 : Int) : Run sc 2 23 [some (Rf 44), some (I x1)] [] (hp iv) = chk (x1 + 1) (Run sc 2 2 [some (Rf 44), some (I (x1 + 1))] [] (hp iv)) :=
  (R_iinc mc_2 dX0_removeAll_23 rfl).trans <| chk_congr <|
  R_goto mc_2 dX0_removeAll_26 (t := 2) rfl
theorem B_X0_removeAll_29 (sc : Nat × (Nat → Int)) (iv : Nat → Nat → Int) (x1 : Int) : Run sc 2 29 [some (Rf 44), some (I x1)] [] (hp iv) = some (none, (hp iv)) :=
  R_return mc_2 dX0_removeAll_29 rfl
theorem B_X0_hasEdge_0 (sc : Nat × (Nat → Int)) (iv : Nat → Nat → Int) (x1 : Int) (x2 : Int) (x3 : Int) : Run sc 3 0 [some (Rf 44), some (I x1), some (I x2), some (I x3), none, none] [] (hp iv) = if x3 = 0 then Run sc 3 14 [some (Rf 44), some (I x1), some (I x2), some (I x3), none, none] [] (hp iv) else Run sc 3 23 [some (Rf 44), some (I x1), some (I x2), some (I x3), none, none] [(I (iv 2 0))] (hp iv) :=
  (R_iload_n mc_3 dX0_hasEdge_0 rfl).trans <|
  (R_if_eq mc_3 dX0_hasEdge_1 (t := 14) rfl).trans <| ite_c2
  (rfl)
  ((R_aload_n mc_3 dX0_hasEdge_4 rfl).trans <|
  (R_getR mc_3 dX0_hasEdge_5 mo_3 ft_0_11 rfl rfl (r := 2) rfl (by decide)).trans <|
  (R_getI mc_3 dX0_hasEdge_8 mo_3 ft_0_29 rfl rfl).trans <|
  R_goto mc_3 dX0_hasEdge_11 (t := 23) rfl)
theorem B_X0_hasEdge_14 (sc : Nat × (Nat → Int)) (iv : Nat → Nat → Int) (x1 : Int) (x2 : Int) (x3 : Int) (d4 : Option AV) (d5 : Option AV) : Run sc 3 14 [some (Rf 44), some (I x1), some (I x2), some (I x3), d4, d5] [] (hp iv) = chk ((iv 2 0) - 1) (Run sc 3 23 [some (Rf 44), some (I x1), some (I x2), some (I x3), d4, d5] [(I ((iv 2 0) - 1))] (hp iv)) :=
  (R_aload_n mc_3 dX0_hasEdge_14 rfl).trans <|
  (R_getR mc_3 dX0_hasEdge_15 mo_3 ft_0_11 rfl rfl (r := 2) rfl (by decide)).trans <|
  (R_getI mc_3 dX0_hasEdge_18 mo_3 ft_0_29 rfl rfl).trans <|
  (R_iconst mc_3 dX0_hasEdge_21 ⟨by decide, by decide⟩).trans <|
  (R_isub mc_3 dX0_hasEdge_22).trans <| chk_congr <|
  rfl
theorem B_X0_hasEdge_23 (sc : Nat × (Nat → Int)) (iv : Nat → Nat → Int) (x1 : Int) (x2 : Int) (x3 : Int) (d4 : Option AV) (d5 : Option AV) (s0 : Int) : Run sc 3 23 [some (Rf 44), some (I x1), some (I x2), some (I x3), d4, d5] [(I s0)] (hp iv) = if x3 = 0 then Run sc 3 41 [some (Rf 44), some (I x1), some (I x2), some (I x3), some (I s0), d5] [] (hp iv) else chk ((iv 2 1) - 1) (Run sc 3 48 [some (Rf 44), some (I x1), some (I x2), some (I x3), some (I s0), d5] [(I ((iv 2 1) - 1))] (hp iv)) :=
  (R_istore mc_3 dX0_hasEdge_23 (Nat.le_of_ble_eq_true rfl)).trans <|
  (R_iload_n mc_3 dX0_hasEdge_25 rfl).trans <|
  (R_if_eq mc_3 dX0_hasEdge_26 (t := 41) rfl).trans <| ite_c2
  (rfl)
  ((R_aload_n mc_3 dX0_hasEdge_29 rfl).trans <|
  (R_getR mc_3 dX0_hasEdge_30 mo_3 ft_0_11 rfl rfl (r := 2) rfl (by decide)).trans <|
  (R_getI mc_3 dX0_hasEdge_33 mo_3 ft_0_35 rfl rfl).trans <|
  (R_iconst mc_3 dX0_hasEdge_36 ⟨by decide, by decide⟩).trans <|
  (R_isub mc_3 dX0_hasEdge_37).trans <| chk_congr <|
  R_goto mc_3 dX0_hasEdge_38 (t := 48) rfl)
theorem B_X0_hasEdge_41 (sc : Nat × (Nat → Int)) (iv : Nat → Nat → Int) (x1 : Int) (x2 : Int) (x3 : Int) (x4 : Int) (d5 : Option AV) : Run sc 3 41 [some (Rf 44), some (I x1), some (I x2), some (I x3), some (I x4), d5] [] (hp iv) = Run sc 3 48 [some (Rf 44), some (I x1), some (I x2), some (I x3), some (I x4), d5] [(I (iv 2 1))] (hp iv) :=
  (R_aload_n mc_3 dX0_hasEdge_41 rfl).trans <|
  (R_getR mc_3 dX0_hasEdge_42 mo_3 ft_0_11 rfl rfl (r := 2) rfl (by decide)).trans <|
  R_getI mc_3 dX0_hasEdge_45 mo_3 ft_0_35 rfl rfl
theorem B_X0_hasEdge_48 (sc : Nat × (Nat → Int)) (iv : Nat → Nat → Int) (x1 : Int) (x2 : Int) (x3 : Int) (x4 : Int) (d5 : Option AV) (s0 : Int) : Run sc 3 48 [some (Rf 44), some (I x1), some (I x2), some (I x3), some (I x4), d5] [(I s0)] (hp iv) = if x1 < 0 then Run sc 3 74 [some (Rf 44), some (I x1), some (I x2), some (I x3), some (I x4), some (I s0)] [] (hp iv) else if x4 < x1 then Run sc 3 74 [some (Rf 44), some (I x1), some (I x2), some (I x3), some (I x4), some (I s0)] [] (hp iv) else if x2 < 0 then Run sc 3 74 [some (Rf 44), some (I x1), some (I x2), some (I x3), some (I x4), some (I s0)] [] (hp iv) else if s0 < x2 then Run sc 3 74 [some (Rf 44), some (I x1), some (I x2), some (I x3), some (I x4), some (I s0)] [] (hp iv) else Run sc 3 75 [some (Rf 44), some (I x1), some (I x2), some (I x3), some (I x4), some (I s0)] [(I 1)] (hp iv) :=
  (R_istore mc_3 dX0_hasEdge_48 (Nat.le_of_ble_eq_true rfl)).trans <|
  (R_iload_n mc_3 dX0_hasEdge_50 rfl).trans <|
  (R_if_lt mc_3 dX0_hasEdge_51 (t := 74) rfl).trans <| ite_c2
  (rfl)
  ((R_iload_n mc_3 dX0_hasEdge_54 rfl).trans <|
  (R_iload mc_3 dX0_hasEdge_55 rfl).trans <|
  (R_icmp_gt mc_3 dX0_hasEdge_57 (t := 74) rfl).trans <| ite_c2
  (rfl)
  ((R_iload_n mc_3 dX0_hasEdge_60 rfl).trans <|
  (R_if_lt mc_3 dX0_hasEdge_61 (t := 74) rfl).trans <| ite_c2
  (rfl)
  ((R_iload_n mc_3 dX0_hasEdge_64 rfl).trans <|
  (R_iload mc_3 dX0_hasEdge_65 rfl).trans <|
  (R_icmp_gt mc_3 dX0_hasEdge_67 (t := 74) rfl).trans <| ite_c2
  (rfl)
  ((R_iconst mc_3 dX0_hasEdge_70 ⟨by decide, by decide⟩).trans <|
  R_goto mc_3 dX0_hasEdge_71 (t := 75) rfl))))
theorem B_X0_hasEdge_74 (sc : Nat × (Nat → Int)) (iv : Nat → Nat → Int) (x1 : Int) (x2 : Int) (x3 : Int) (x4 : Int) (x5 : Int) : Run sc 3 74 [some (Rf 44), some (I x1), some (I x2), some (I x3), some (I x4), some (I x5)] [] (hp iv) = Run sc 3 75 [some (Rf 44), some (I x1), some (I x2), some (I x3), some (I x4), some (I x5)] [(I 0)] (hp iv) :=
  R_iconst mc_3 dX0_hasEdge_74 ⟨by decide, by decide⟩
theorem B_X0_hasEdge_75 (sc : Nat × (Nat → Int)) (iv : Nat → Nat → Int) (x1 : Int) (x2 : Int) (x3 : Int) (x4 : Int) (x5 : Int) (s0 : Int) : Run sc 3 75 [some (Rf 44), some (I x1), some (I x2), some (I x3), some (I x4), some (I x5)] [(I s0)] (hp iv) = bck 0 1 s0 (some (some (I s0), (hp iv))) :=
  R_ireturnZ mc_3 dX0_hasEdge_75 rfl
theorem B_X0_stitchesAt_0 (sc : Nat × (Nat → Int)) (iv : Nat → Nat → Int) (x1 : Int) (x2 : Int) (x3 : Int) : Run sc 4 0 [some (Rf 44), some (I x1), some (I x2), some (I x3), none] [] (hp iv) = aBind (Run sc 3 0 [some (Rf 44), some (I x1), some (I x2), some (I x3), none, none] [] (hp iv)) (fun v h2 => Run sc 4 7 [some (Rf 44), some (I x1), some (I x2), some (I x3), none] (pushR v []) h2) :=
  (R_aload_n mc_4 dX0_stitchesAt_0 rfl).trans <|
  (R_iload_n mc_4 dX0_stitchesAt_1 rfl).trans <|
  (R_iload_n mc_4 dX0_stitchesAt_2 rfl).trans <|
  (R_iload_n mc_4 dX0_stitchesAt_3 rfl).trans <|
  R_invV mc_4 dX0_stitchesAt_4 mo_4 ct_0_38 af_4_3 rfl rfl rfl ⟨Nat.le_of_ble_eq_true rfl, Nat.le_of_ble_eq_true rfl⟩
theorem B_X0_stitchesAt_7 (sc : Nat × (Nat → Int)) (iv : Nat → Nat → Int) (x1 : Int) (x2 : Int) (x3 : Int) (d4 : Option AV) (s0 : Int) : Run sc 4 7 [some (Rf 44), some (I x1), some (I x2), some (I x3), d4] [(I s0)] (hp iv) = if s0 = 0 then some (some (I 0), (hp iv)) else Run sc 4 12 [some (Rf 44), some (I x1), some (I x2), some (I x3), d4] [] (hp iv) :=
  (R_if_ne mc_4 dX0_stitchesAt_7 (t := 12) rfl).trans <| ite_c2
  ((R_iconst mc_4 dX0_stitchesAt_10 ⟨by decide, by decide⟩).trans <|
  R_ireturn mc_4 dX0_stitchesAt_11 rfl)
  (rfl)
theorem B_X0_stitchesAt_12 (sc : Nat × (Nat → Int)) (iv : Nat → Nat → Int) (x1 : Int) (x2 : Int) (x3 : Int) (d4 : Option AV) : Run sc 4 12 [some (Rf 44), some (I x1), some (I x2), some (I x3), d4] [] (hp iv) = chk (x2 * 25) (chk ((x2 * 25) + x1) (if x3 = 0 then Run sc 4 37 [some (Rf 44), some (I x1), some (I x2), some (I x3), some (I ((x2 * 25) + x1))] [] (hp iv) else bck 0 (((625 : Nat) : Int) - 1) ((x2 * 25) + x1) (if (iv 45 (Int.toNat ((x2 * 25) + x1))) = 0 then Run sc 4 51 [some (Rf 44), some (I x1), some (I x2), some (I x3), some (I ((x2 * 25) + x1))] [] (hp iv) else Run sc 4 47 [some (Rf 44), some (I x1), some (I x2), some (I x3), some (I ((x2 * 25) + x1))] [] (hp iv)))) :=
  (R_iload_n mc_4 dX0_stitchesAt_12 rfl).trans <|
  (R_bipush mc_4 dX0_stitchesAt_13 ⟨by decide, by decide⟩).trans <|
  (R_imul mc_4 dX0_stitchesAt_15).trans <| chk_congr <|
  (R_iload_n mc_4 dX0_stitchesAt_16 rfl).trans <|
  (R_iadd mc_4 dX0_stitchesAt_17).trans <| chk_congr <|
  (R_istore mc_4 dX0_stitchesAt_18 (Nat.le_of_ble_eq_true rfl)).trans <|
  (R_iload_n mc_4 dX0_stitchesAt_20 rfl).trans <|
  (R_if_eq mc_4 dX0_stitchesAt_21 (t := 37) rfl).trans <| ite_c2
  (rfl)
  ((R_aload_n mc_4 dX0_stitchesAt_24 rfl).trans <|
  (R_getR mc_4 dX0_stitchesAt_25 mo_4 ft_0_15 rfl rfl (r := 45) rfl (by decide)).trans <|
  (R_iload mc_4 dX0_stitchesAt_28 rfl).trans <|
  (R_baload mc_4 dX0_stitchesAt_30 rfl).trans <| bck_congr <|
  (R_if_eq mc_4 dX0_stitchesAt_31 (t := 51) rfl).trans <| ite_c2
  (rfl)
  (R_goto mc_4 dX0_stitchesAt_34 (t := 47) rfl))
theorem B_X0_stitchesAt_37 (sc : Nat × (Nat → Int)) (iv : Nat → Nat → Int) (x1 : Int) (x2 : Int) (x3 : Int) (x4 : Int) : Run sc 4 37 [some (Rf 44), some (I x1), some (I x2), some (I x3), some (I x4)] [] (hp iv) = bck 0 (((625 : Nat) : Int) - 1) x4 (if (iv 46 (Int.toNat x4)) = 0 then Run sc 4 51 [some (Rf 44), some (I x1), some (I x2), some (I x3), some (I x4)] [] (hp iv) else Run sc 4 47 [some (Rf 44), some (I x1), some (I x2), some (I x3), some (I x4)] [] (hp iv)) :=
  (R_aload_n mc_4 dX0_stitchesAt_37 rfl).trans <|
  (R_getR mc_4 dX0_stitchesAt_38 mo_4 ft_0_19 rfl rfl (r := 46) rfl (by decide)).trans <|
  (R_iload mc_4 dX0_stitchesAt_41 rfl).trans <|
  (R_baload mc_4 dX0_stitchesAt_43 rfl).trans <| bck_congr <|
  R_if_eq mc_4 dX0_stitchesAt_44 (t := 51) rfl
theorem B_X0_stitchesAt_47 (sc : Nat × (Nat → Int)) (iv : Nat → Nat → Int) (x1 : Int) (x2 : Int) (x3 : Int) (x4 : Int) : Run sc 4 47 [some (Rf 44), some (I x1), some (I x2), some (I x3), some (I x4)] [] (hp iv) = Run sc 4 52 [some (Rf 44), some (I x1), some (I x2), some (I x3), some (I x4)] [(I 1)] (hp iv) :=
  (R_iconst mc_4 dX0_stitchesAt_47 ⟨by decide, by decide⟩).trans <|
  R_goto mc_4 dX0_stitchesAt_48 (t := 52) rfl
theorem B_X0_stitchesAt_51 (sc : Nat × (Nat → Int)) (iv : Nat → Nat → Int) (x1 : Int) (x2 : Int) (x3 : Int) (x4 : Int) : Run sc 4 51 [some (Rf 44), some (I x1), some (I x2), some (I x3), some (I x4)] [] (hp iv) = Run sc 4 52 [some (Rf 44), some (I x1), some (I x2), some (I x3), some (I x4)] [(I 0)] (hp iv) :=
  R_iconst mc_4 dX0_stitchesAt_51 ⟨by decide, by decide⟩
theorem B_X0_stitchesAt_52 (sc : Nat × (Nat → Int)) (iv : Nat → Nat → Int) (x1 : Int) (x2 : Int) (x3 : Int) (x4 : Int) (s0 : Int) : Run sc 4 52 [some (Rf 44), some (I x1), some (I x2), some (I x3), some (I x4)] [(I s0)] (hp iv) = some (some (I s0), (hp iv)) :=
  R_ireturn mc_4 dX0_stitchesAt_52 rfl
theorem B_X0_put_0 (sc : Nat × (Nat → Int)) (iv : Nat → Nat → Int) (x1 : Int) (x2 : Int) (x3 : Int) (x4 : Int) : Run sc 5 0 [some (Rf 44), some (I x1), some (I x2), some (I x3), some (I x4), none, none] [] (hp iv) = aBind (Run sc 4 0 [some (Rf 44), some (I x1), some (I x2), some (I x3), none] [] (hp iv)) (fun v h2 => Run sc 5 7 [some (Rf 44), some (I x1), some (I x2), some (I x3), some (I x4), none, none] (pushR v []) h2) :=
  (R_aload_n mc_5 dX0_put_0 rfl).trans <|
  (R_iload_n mc_5 dX0_put_1 rfl).trans <|
  (R_iload_n mc_5 dX0_put_2 rfl).trans <|
  (R_iload_n mc_5 dX0_put_3 rfl).trans <|
  R_invV mc_5 dX0_put_4 mo_5 ct_0_42 af_5_4 rfl rfl rfl ⟨Nat.le_of_ble_eq_true rfl, Nat.le_of_ble_eq_true rfl⟩
theorem B_X0_put_7 (sc : Nat × (Nat → Int)) (iv : Nat → Nat → Int) (x1 : Int) (x2 : Int) (x3 : Int) (x4 : Int) (d5 : Option AV) (d6 : Option AV) (s0 : Int) : Run sc 5 7 [some (Rf 44), some (I x1), some (I x2), some (I x3), some (I x4), d5, d6] [(I s0)] (hp iv) = if s0 = 1 then Run sc 5 16 [some (Rf 44), some (I x1), some (I x2), some (I x3), some (I x4), d5, d6] [(I 1)] (hp iv) else Run sc 5 15 [some (Rf 44), some (I x1), some (I x2), some (I x3), some (I x4), d5, d6] [] (hp iv) :=
  (R_iconst mc_5 dX0_put_7 ⟨by decide, by decide⟩).trans <|
  (R_icmp_ne mc_5 dX0_put_8 (t := 15) rfl).trans <| ite_c2
  ((R_iconst mc_5 dX0_put_11 ⟨by decide, by decide⟩).trans <|
  R_goto mc_5 dX0_put_12 (t := 16) rfl)
  (rfl)
theorem B_X0_put_15 (sc : Nat × (Nat → Int)) (iv : Nat → Nat → Int) (x1 : Int) (x2 : Int) (x3 : Int) (x4 : Int) (d5 : Option AV) (d6 : Option AV) : Run sc 5 15 [some (Rf 44), some (I x1), some (I x2), some (I x3), some (I x4), d5, d6] [] (hp iv) = Run sc 5 16 [some (Rf 44), some (I x1), some (I x2), some (I x3), some (I x4), d5, d6] [(I 0)] (hp iv) :=
  R_iconst mc_5 dX0_put_15 ⟨by decide, by decide⟩
theorem B_X0_put_16 (sc : Nat × (Nat → Int)) (iv : Nat → Nat → Int) (x1 : Int) (x2 : Int) (x3 : Int) (x4 : Int) (d5 : Option AV) (d6 : Option AV) (s0 : Int) : Run sc 5 16 [some (Rf 44), some (I x1), some (I x2), some (I x3), some (I x4), d5, d6] [(I s0)] (hp iv) = aBind (Run sc 3 0 [some (Rf 44), some (I x1), some (I x2), some (I x3), none, none] [] (hp iv)) (fun v h2 => Run sc 5 25 [some (Rf 44), some (I x1), some (I x2), some (I x3), some (I x4), some (I s0), d6] (pushR v []) h2) :=
  (R_istore mc_5 dX0_put_16 (Nat.le_of_ble_eq_true rfl)).trans <|
  (R_aload_n mc_5 dX0_put_18 rfl).trans <|
  (R_iload_n mc_5 dX0_put_19 rfl).trans <|
  (R_iload_n mc_5 dX0_put_20 rfl).trans <|
  (R_iload_n mc_5 dX0_put_21 rfl).trans <|
  R_invV mc_5 dX0_put_22 mo_5 ct_0_38 af_5_3 rfl rfl rfl ⟨Nat.le_of_ble_eq_true rfl, Nat.le_of_ble_eq_true rfl⟩
theorem B_X0_put_25 (sc : Nat × (Nat → Int)) (iv : Nat → Nat → Int) (x1 : Int) (x2 : Int) (x3 : Int) (x4 : Int) (x5 : Int) (d6 : Option AV) (s0 : Int) : Run sc 5 25 [some (Rf 44), some (I x1), some (I x2), some (I x3), some (I x4), some (I x5), d6] [(I s0)] (hp iv) = if s0 = 0 then Run sc 5 35 [some (Rf 44), some (I x1), some (I x2), some (I x3), some (I x4), some (I x5), d6] [] (hp iv) else if x5 = x4 then Run sc 5 35 [some (Rf 44), some (I x1), some (I x2), some (I x3), some (I x4), some (I x5), d6] [] (hp iv) else Run sc 5 37 [some (Rf 44), some (I x1), some (I x2), some (I x3), some (I x4), some (I x5), d6] [] (hp iv) :=
  (R_if_eq mc_5 dX0_put_25 (t := 35) rfl).trans <| ite_c2
  (rfl)
  ((R_iload mc_5 dX0_put_28 rfl).trans <|
  (R_iload mc_5 dX0_put_30 rfl).trans <|
  R_icmp_ne mc_5 dX0_put_32 (t := 37) rfl)
theorem B_X0_put_35 (sc : Nat × (Nat → Int)) (iv : Nat → Nat → Int) (x1 : Int) (x2 : Int) (x3 : Int) (x4 : Int) (x5 : Int) (d6 : Option AV) : Run sc 5 35 [some (Rf 44), some (I x1), some (I x2), some (I x3), some (I x4), some (I x5), d6] [] (hp iv) = some (some (I 0), (hp iv)) :=
  (R_iconst mc_5 dX0_put_35 ⟨by decide, by decide⟩).trans <|
  R_ireturn mc_5 dX0_put_36 rfl
theorem B_X0_put_37 (sc : Nat × (Nat → Int)) (iv : Nat → Nat → Int) (x1 : Int) (x2 : Int) (x3 : Int) (x4 : Int) (x5 : Int) (d6 : Option AV) : Run sc 5 37 [some (Rf 44), some (I x1), some (I x2), some (I x3), some (I x4), some (I x5), d6] [] (hp iv) = chk (x2 * 25) (chk ((x2 * 25) + x1) (if x3 = 0 then Run sc 5 61 [some (Rf 44), some (I x1), some (I x2), some (I x3), some (I x4), some (I x5), some (I ((x2 * 25) + x1))] [] (hp iv) else bck 0 (((625 : Nat) : Int) - 1) ((x2 * 25) + x1) (bck 0 1 x4 (Run sc 5 58 [some (Rf 44), some (I x1), some (I x2), some (I x3), some (I x4), some (I x5), some (I ((x2 * 25) + x1))] [] (hp (setO iv 45 (upI (iv 45) (Int.toNat ((x2 * 25) + x1)) x4))))))) :=
  (R_iload_n mc_5 dX0_put_37 rfl).trans <|
  (R_bipush mc_5 dX0_put_38 ⟨by decide, by decide⟩).trans <|
  (R_imul mc_5 dX0_put_40).trans <| chk_congr <|
  (R_iload_n mc_5 dX0_put_41 rfl).trans <|
  (R_iadd mc_5 dX0_put_42).trans <| chk_congr <|
  (R_istore mc_5 dX0_put_43 (Nat.le_of_ble_eq_true rfl)).trans <|
  (R_iload_n mc_5 dX0_put_45 rfl).trans <|
  (R_if_eq mc_5 dX0_put_46 (t := 61) rfl).trans <| ite_c2
  (rfl)
  ((R_aload_n mc_5 dX0_put_49 rfl).trans <|
  (R_getR mc_5 dX0_put_50 mo_5 ft_0_15 rfl rfl (r := 45) rfl (by decide)).trans <|
  (R_iload mc_5 dX0_put_53 rfl).trans <|
  (R_iload mc_5 dX0_put_55 rfl).trans <|
  (R_bastore mc_5 dX0_put_57 rfl).trans <| bck_congr <| bck_congr <|
  rfl)
theorem B_X0_put_58 (sc : Nat × (Nat → Int)) (iv : Nat → Nat → Int) (x1 : Int) (x2 : Int) (x3 : Int) (x4 : Int) (x5 : Int) (x6 : Int) : Run sc 5 58 [some (Rf 44), some (I x1), some (I x2), some (I x3), some (I x4), some (I x5), some (I x6)] [] (hp iv) = Run sc 5 70 [some (Rf 44), some (I x1), some (I x2), some (I x3), some (I x4), some (I x5), some (I x6)] [] (hp iv) :=
  R_goto mc_5 dX0_put_58 (t := 70) rfl
theorem B_X0_put_61 (sc : Nat × (Nat → Int)) (iv : Nat → Nat → Int) (x1 : Int) (x2 : Int) (x3 : Int) (x4 : Int) (x5 : Int) (x6 : Int) : Run sc 5 61 [some (Rf 44), some (I x1), some (I x2), some (I x3), some (I x4), some (I x5), some (I x6)] [] (hp iv) = bck 0 (((625 : Nat) : Int) - 1) x6 (bck 0 1 x4 (Run sc 5 70 [some (Rf 44), some (I x1), some (I x2), some (I x3), some (I x4), some (I x5), some (I x6)] [] (hp (setO iv 46 (upI (iv 46) (Int.toNat x6) x4))))) :=
  (R_aload_n mc_5 dX0_put_61 rfl).trans <|
  (R_getR mc_5 dX0_put_62 mo_5 ft_0_19 rfl rfl (r := 46) rfl (by decide)).trans <|
  (R_iload mc_5 dX0_put_65 rfl).trans <|
  (R_iload mc_5 dX0_put_67 rfl).trans <|
  (R_bastore mc_5 dX0_put_69 rfl).trans <| bck_congr <| bck_congr <|
  rfl
theorem B_X0_put_70 (sc : Nat × (Nat → Int)) (iv : Nat → Nat → Int) (x1 : Int) (x2 : Int) (x3 : Int) (x4 : Int) (x5 : Int) (x6 : Int) : Run sc 5 70 [some (Rf 44), some (I x1), some (I x2), some (I x3), some (I x4), some (I x5), some (I x6)] [] (hp iv) = some (some (I 1), (hp iv)) :=
  (R_iconst mc_5 dX0_put_70 ⟨by decide, by decide⟩).trans <|
  R_ireturn mc_5 dX0_put_71 rfl
theorem B_X0_addOutline_0 (sc : Nat × (Nat → Int)) (iv : Nat → Nat → Int) (x1 : Int) : Run sc 6 0 [some (Rf 44), some (I x1), none, none, none, none] [] (hp iv) = Run sc 6 4 [some (Rf 44), some (I x1), some (I 0), some (I 0), none, none] [] (hp iv) :=
  (R_iconst mc_6 dX0_addOutline_0 ⟨by decide, by decide⟩).trans <|
  (R_istore_n mc_6 dX0_addOutline_1 (Nat.le_of_ble_eq_true rfl)).trans <|
  (R_iconst mc_6 dX0_addOutline_2 ⟨by decide, by decide⟩).trans <|
  R_istore_n mc_6 dX0_addOutline_3 (Nat.le_of_ble_eq_true rfl)
theorem B_X0_addOutline_4 (sc : Nat × (Nat → Int)) (iv : Nat → Nat → Int) (x1 : Int) (x2 : Int) (x3 : Int) (d4 : Option AV) (d5 : Option AV) : Run sc 6 4 [some (Rf 44), some (I x1), some (I x2), some (I x3), d4, d5] [] (hp iv) = if (iv 2 1) < x3 then Run sc 6 139 [some (Rf 44), some (I x1), some (I x2), some (I x3), d4, d5] [] (hp iv) else Run sc 6 18 [some (Rf 44), some (I x1), some (I x2), some (I x3), some (I 0), d5] [] (hp iv) :=
  (R_iload_n mc_6 dX0_addOutline_4 rfl).trans <|
  (R_aload_n mc_6 dX0_addOutline_5 rfl).trans <|
  (R_getR mc_6 dX0_addOutline_6 mo_6 ft_0_11 rfl rfl (r := 2) rfl (by decide)).trans <|
  (R_getI mc_6 dX0_addOutline_9 mo_6 ft_0_35 rfl rfl).trans <|
  (R_icmp_gt mc_6 dX0_addOutline_12 (t := 139) rfl).trans <| ite_c2
  (rfl)
  ((R_iconst mc_6 dX0_addOutline_15 ⟨by decide, by decide⟩).trans <|
  R_istore mc_6 dX0_addOutline_16 (Nat.le_of_ble_eq_true rfl))
theorem B_X0_addOutline_18 (sc : Nat × (Nat → Int)) (iv : Nat → Nat → Int) (x1 : Int) (x2 : Int) (x3 : Int) (x4 : Int) (d5 : Option AV) : Run sc 6 18 [some (Rf 44), some (I x1), some (I x2), some (I x3), some (I x4), d5] [] (hp iv) = if (iv 2 0) < x4 then Run sc 6 133 [some (Rf 44), some (I x1), some (I x2), some (I x3), some (I x4), d5] [] (hp iv) else aBind (Run sc 51 0 [some (Rf 2), some (I x4), some (I x3)] [] (hp iv)) (fun v h2 => Run sc 6 40 [some (Rf 44), some (I x1), some (I x2), some (I x3), some (I x4), d5] (pushR v []) h2) :=
  (R_iload mc_6 dX0_addOutline_18 rfl).trans <|
  (R_aload_n mc_6 dX0_addOutline_20 rfl).trans <|
  (R_getR mc_6 dX0_addOutline_21 mo_6 ft_0_11 rfl rfl (r := 2) rfl (by decide)).trans <|
  (R_getI mc_6 dX0_addOutline_24 mo_6 ft_0_29 rfl rfl).trans <|
  (R_icmp_gt mc_6 dX0_addOutline_27 (t := 133) rfl).trans <| ite_c2
  (rfl)
  ((R_aload_n mc_6 dX0_addOutline_30 rfl).trans <|
  (R_getR mc_6 dX0_addOutline_31 mo_6 ft_0_11 rfl rfl (r := 2) rfl (by decide)).trans <|
  (R_iload mc_6 dX0_addOutline_34 rfl).trans <|
  (R_iload_n mc_6 dX0_addOutline_36 rfl).trans <|
  R_invV mc_6 dX0_addOutline_37 mo_6 ct_0_46 af_6_51 rfl rfl rfl ⟨Nat.le_of_ble_eq_true rfl, Nat.le_of_ble_eq_true rfl⟩)
theorem B_X0_addOutline_40 (sc : Nat × (Nat → Int)) (iv : Nat → Nat → Int) (x1 : Int) (x2 : Int) (x3 : Int) (x4 : Int) (d5 : Option AV) (s0 : Int) : Run sc 6 40 [some (Rf 44), some (I x1), some (I x2), some (I x3), some (I x4), d5] [(I s0)] (hp iv) = if s0 = x1 then Run sc 6 49 [some (Rf 44), some (I x1), some (I x2), some (I x3), some (I x4), d5] [(I 1)] (hp iv) else Run sc 6 48 [some (Rf 44), some (I x1), some (I x2), some (I x3), some (I x4), d5] [] (hp iv) :=
  (R_iload_n mc_6 dX0_addOutline_40 rfl).trans <|
  (R_icmp_ne mc_6 dX0_addOutline_41 (t := 48) rfl).trans <| ite_c2
  ((R_iconst mc_6 dX0_addOutline_44 ⟨by decide, by decide⟩).trans <|
  R_goto mc_6 dX0_addOutline_45 (t := 49) rfl)
  (rfl)
theorem B_X0_addOutline_48 (sc : Nat × (Nat → Int)) (iv : Nat → Nat → Int) (x1 : Int) (x2 : Int) (x3 : Int) (x4 : Int) (d5 : Option AV) : Run sc 6 48 [some (Rf 44), some (I x1), some (I x2), some (I x3), some (I x4), d5] [] (hp iv) = Run sc 6 49 [some (Rf 44), some (I x1), some (I x2), some (I x3), some (I x4), d5] [(I 0)] (hp iv) :=
  R_iconst mc_6 dX0_addOutline_48 ⟨by decide, by decide⟩
theorem B_X0_addOutline_49 (sc : Nat × (Nat → Int)) (iv : Nat → Nat → Int) (x1 : Int) (x2 : Int) (x3 : Int) (x4 : Int) (d5 : Option AV) (s0 : Int) : Run sc 6 49 [some (Rf 44), some (I x1), some (I x2), some (I x3), some (I x4), d5] [(I s0)] (hp iv) = chk (x4 - 1) (aBind (Run sc 51 0 [some (Rf 2), some (I (x4 - 1)), some (I x3)] [] (hp iv)) (fun v h2 => Run sc 6 65 [some (Rf 44), some (I x1), some (I x2), some (I x3), some (I x4), some (I s0)] (pushR v [(I s0)]) h2)) :=
  (R_istore mc_6 dX0_addOutline_49 (Nat.le_of_ble_eq_true rfl)).trans <|
  (R_iload mc_6 dX0_addOutline_51 rfl).trans <|
  (R_aload_n mc_6 dX0_addOutline_53 rfl).trans <|
  (R_getR mc_6 dX0_addOutline_54 mo_6 ft_0_11 rfl rfl (r := 2) rfl (by decide)).trans <|
  (R_iload mc_6 dX0_addOutline_57 rfl).trans <|
  (R_iconst mc_6 dX0_addOutline_59 ⟨by decide, by decide⟩).trans <|
  (R_isub mc_6 dX0_addOutline_60).trans <| chk_congr <|
  (R_iload_n mc_6 dX0_addOutline_61 rfl).trans <|
  R_invV mc_6 dX0_addOutline_62 mo_6 ct_0_46 af_6_51 rfl rfl rfl ⟨Nat.le_of_ble_eq_true rfl, Nat.le_of_ble_eq_true rfl⟩
theorem B_X0_addOutline_65 (sc : Nat × (Nat → Int)) (iv : Nat → Nat → Int) (x1 : Int) (x2 : Int) (x3 : Int) (x4 : Int) (x5 : Int) (s0 : Int) (s1 : Int) : Run sc 6 65 [some (Rf 44), some (I x1), some (I x2), some (I x3), some (I x4), some (I x5)] [(I s0), (I s1)] (hp iv) = if s0 = x1 then Run sc 6 74 [some (Rf 44), some (I x1), some (I x2), some (I x3), some (I x4), some (I x5)] [(I 1), (I s1)] (hp iv) else Run sc 6 73 [some (Rf 44), some (I x1), some (I x2), some (I x3), some (I x4), some (I x5)] [(I s1)] (hp iv) :=
  (R_iload_n mc_6 dX0_addOutline_65 rfl).trans <|
  (R_icmp_ne mc_6 dX0_addOutline_66 (t := 73) rfl).trans <| ite_c2
  ((R_iconst mc_6 dX0_addOutline_69 ⟨by decide, by decide⟩).trans <|
  R_goto mc_6 dX0_addOutline_70 (t := 74) rfl)
  (rfl)
theorem B_X0_addOutline_73 (sc : Nat × (Nat → Int)) (iv : Nat → Nat → Int) (x1 : Int) (x2 : Int) (x3 : Int) (x4 : Int) (x5 : Int) (s0 : Int) : Run sc 6 73 [some (Rf 44), some (I x1), some (I x2), some (I x3), some (I x4), some (I x5)] [(I s0)] (hp iv) = Run sc 6 74 [some (Rf 44), some (I x1), some (I x2), some (I x3), some (I x4), some (I x5)] [(I 0), (I s0)] (hp iv) :=
  R_iconst mc_6 dX0_addOutline_73 ⟨by decide, by decide⟩
theorem B_X0_addOutline_74 (sc : Nat × (Nat → Int)) (iv : Nat → Nat → Int) (x1 : Int) (x2 : Int) (x3 : Int) (x4 : Int) (x5 : Int) (s0 : Int) (s1 : Int) : Run sc 6 74 [some (Rf 44), some (I x1), some (I x2), some (I x3), some (I x4), some (I x5)] [(I s0), (I s1)] (hp iv) = if s1 = s0 then Run sc 6 89 [some (Rf 44), some (I x1), some (I x2), some (I x3), some (I x4), some (I x5)] [] (hp iv) else aBind (Run sc 5 0 [some (Rf 44), some (I x4), some (I x3), some (I 1), some (I 1), none, none] [] (hp iv)) (fun v h2 => Run sc 6 87 [some (Rf 44), some (I x1), some (I x2), some (I x3), some (I x4), some (I x5)] (pushR v [(I x2)]) h2) :=
  (R_icmp_eq mc_6 dX0_addOutline_74 (t := 89) rfl).trans <| ite_c2
  (rfl)
  ((R_iload_n mc_6 dX0_addOutline_77 rfl).trans <|
  (R_aload_n mc_6 dX0_addOutline_78 rfl).trans <|
  (R_iload mc_6 dX0_addOutline_79 rfl).trans <|
  (R_iload_n mc_6 dX0_addOutline_81 rfl).trans <|
  (R_iconst mc_6 dX0_addOutline_82 ⟨by decide, by decide⟩).trans <|
  (R_iconst mc_6 dX0_addOutline_83 ⟨by decide, by decide⟩).trans <|
  R_invV mc_6 dX0_addOutline_84 mo_6 ct_0_50 af_6_5 rfl rfl rfl ⟨Nat.le_of_ble_eq_true rfl, Nat.le_of_ble_eq_true rfl⟩)
theorem B_X0_addOutline_87 (sc : Nat × (Nat → Int)) (iv : Nat → Nat → Int) (x1 : Int) (x2 : Int) (x3 : Int) (x4 : Int) (x5 : Int) (s0 : Int) (s1 : Int) : Run sc 6 87 [some (Rf 44), some (I x1), some (I x2), some (I x3), some (I x4), some (I x5)] [(I s0), (I s1)] (hp iv) = chk (s1 + s0) (Run sc 6 89 [some (Rf 44), some (I x1), some (I (s1 + s0)), some (I x3), some (I x4), some (I x5)] [] (hp iv)) :=
  (R_iadd mc_6 dX0_addOutline_87).trans <| chk_congr <|
  R_istore_n mc_6 dX0_addOutline_88 (Nat.le_of_ble_eq_true rfl)
theorem B_X0_addOutline_89 (sc : Nat × (Nat → Int)) (iv : Nat → Nat → Int) (x1 : Int) (x2 : Int) (x3 : Int) (x4 : Int) (x5 : Int) : Run sc 6 89 [some (Rf 44), some (I x1), some (I x2), some (I x3), some (I x4), some (I x5)] [] (hp iv) = chk (x3 - 1) (aBind (Run sc 51 0 [some (Rf 2), some (I x4), some (I (x3 - 1))] [] (hp iv)) (fun v h2 => Run sc 6 103 [some (Rf 44), some (I x1), some (I x2), some (I x3), some (I x4), some (I x5)] (pushR v [(I x5)]) h2)) :=
  (R_iload mc_6 dX0_addOutline_89 rfl).trans <|
  (R_aload_n mc_6 dX0_addOutline_91 rfl).trans <|
  (R_getR mc_6 dX0_addOutline_92 mo_6 ft_0_11 rfl rfl (r := 2) rfl (by decide)).trans <|
  (R_iload mc_6 dX0_addOutline_95 rfl).trans <|
  (R_iload_n mc_6 dX0_addOutline_97 rfl).trans <|
  (R_iconst mc_6 dX0_addOutline_98 ⟨by decide, by decide⟩).trans <|
  (R_isub mc_6 dX0_addOutline_99).trans <| chk_congr <|
  R_invV mc_6 dX0_addOutline_100 mo_6 ct_0_46 af_6_51 rfl rfl rfl ⟨Nat.le_of_ble_eq_true rfl, Nat.le_of_ble_eq_true rfl⟩
theorem B_X0_addOutline_103 (sc : Nat × (Nat → Int)) (iv : Nat → Nat → Int) (x1 : Int) (x2 : Int) (x3 : Int) (x4 : Int) (x5 : Int) (s0 : Int) (s1 : Int) : Run sc 6 103 [some (Rf 44), some (I x1), some (I x2), some (I x3), some (I x4), some (I x5)] [(I s0), (I s1)] (hp iv) = if s0 = x1 then Run sc 6 112 [some (Rf 44), some (I x1), some (I x2), some (I x3), some (I x4), some (I x5)] [(I 1), (I s1)] (hp iv) else Run sc 6 111 [some (Rf 44), some (I x1), some (I x2), some (I x3), some (I x4), some (I x5)] [(I s1)] (hp iv) :=
  (R_iload_n mc_6 dX0_addOutline_103 rfl).trans <|
  (R_icmp_ne mc_6 dX0_addOutline_104 (t := 111) rfl).trans <| ite_c2
  ((R_iconst mc_6 dX0_addOutline_107 ⟨by decide, by decide⟩).trans <|
  R_goto mc_6 dX0_addOutline_108 (t := 112) rfl)
  (rfl)
theorem B_X0_addOutline_111 (sc : Nat × (Nat → Int)) (iv : Nat → Nat → Int) (x1 : Int) (x2 : Int) (x3 : Int) (x4 : Int) (x5 : Int) (s0 : Int) : Run sc 6 111 [some (Rf 44), some (I x1), some (I x2), some (I x3), some (I x4), some (I x5)] [(I s0)] (hp iv) = Run sc 6 112 [some (Rf 44), some (I x1), some (I x2), some (I x3), some (I x4), some (I x5)] [(I 0), (I s0)] (hp iv) :=
  R_iconst mc_6 dX0_addOutline_111 ⟨by decide, by decide⟩
theorem B_X0_addOutline_112 (sc : Nat × (Nat → Int)) (iv : Nat → Nat → Int) (x1 : Int) (x2 : Int) (x3 : Int) (x4 : Int) (x5 : Int) (s0 : Int) (s1 : Int) : Run sc 6 112 [some (Rf 44), some (I x1), some (I x2), some (I x3), some (I x4), some (I x5)] [(I s0), (I s1)] (hp iv) = if s1 = s0 then Run sc 6 127 [some (Rf 44), some (I x1), some (I x2), some (I x3), some (I x4), some (I x5)] [] (hp iv) else aBind (Run sc 5 0 [some (Rf 44), some (I x4), some (I x3), some (I 0), some (I 1), none, none] [] (hp iv)) (fun v h2 => Run sc 6 125 [some (Rf 44), some (I x1), some (I x2), some (I x3), some (I x4), some (I x5)] (pushR v [(I x2)]) h2) :=
  (R_icmp_eq mc_6 dX0_addOutline_112 (t := 127) rfl).trans <| ite_c2
  (rfl)
  ((R_iload_n mc_6 dX0_addOutline_115 rfl).trans <|
  (R_aload_n mc_6 dX0_addOutline_116 rfl).trans <|
  (R_iload mc_6 dX0_addOutline_117 rfl).trans <|
  (R_iload_n mc_6 dX0_addOutline_119 rfl).trans <|
  (R_iconst mc_6 dX0_addOutline_120 ⟨by decide, by decide⟩).trans <|
  (R_iconst mc_6 dX0_addOutline_121 ⟨by decide, by decide⟩).trans <|
  R_invV mc_6 dX0_addOutline_122 mo_6 ct_0_50 af_6_5 rfl rfl rfl ⟨Nat.le_of_ble_eq_true rfl, Nat.le_of_ble_eq_true rfl⟩)
theorem B_X0_addOutline_125 (sc : Nat × (Nat → Int)) (iv : Nat → Nat → Int) (x1 : Int) (x2 : Int) (x3 : Int) (x4 : Int) (x5 : Int) (s0 : Int) (s1 : Int) : Run sc 6 125 [some (Rf 44), some (I x1), some (I x2), some (I x3), some (I x4), some (I x5)] [(I s0), (I s1)] (hp iv) = chk (s1 + s0) (Run sc 6 127 [some (Rf 44), some (I x1), some (I (s1 + s0)), some (I x3), some (I x4), some (I x5)] [] (hp iv)) :=
  (R_iadd mc_6 dX0_addOutline_125).trans <| chk_congr <|
  R_istore_n mc_6 dX0_addOutline_126 (Nat.le_of_ble_eq_true rfl)
theorem B_X0_addOutline_127 (sc : Nat × (Nat → Int)) (iv : Nat → Nat → Int) (x1 : Int) (x2 : Int) (x3 : Int) (x4 : Int) (x5 : Int) : Run sc 6 127 [some (Rf 44), some (I x1), some (I x2), some (I x3), some (I x4), some (I x5)] [] (hp iv) = chk (x4 + 1) (Run sc 6 18 [some (Rf 44), some (I x1), some (I x2), some (I x3), some (I (x4 + 1)), some (I x5)] [] (hp iv)) :=
  (R_iinc mc_6 dX0_addOutline_127 rfl).trans <| chk_congr <|
  R_goto mc_6 dX0_addOutline_130 (t := 18) rfl
theorem B_X0_addOutline_133 (sc : Nat × (Nat → Int)) (iv : Nat → Nat → Int) (x1 : Int) (x2 : Int) (x3 : Int) (x4 : Int) (d5 : Option AV) : Run sc 6 133 [some (Rf 44), some (I x1), some (I x2), some (I x3), some (I x4), d5] [] (hp iv) = chk (x3 + 1) (Run sc 6 4 [some (Rf 44), some (I x1), some (I x2), some (I (x3 + 1)), some (I x4), d5] [] (hp iv)) :=
  (R_iinc mc_6 dX0_addOutline_133 rfl).trans <| chk_congr <|
  R_goto mc_6 dX0_addOutline_136 (t := 4) rfl
theorem B_X0_addOutline_139 (sc : Nat × (Nat → Int)) (iv : Nat → Nat → Int) (x1 : Int) (x2 : Int) (x3 : Int) (d4 : Option AV) (d5 : Option AV) : Run sc 6 139 [some (Rf 44), some (I x1), some (I x2), some (I x3), d4, d5] [] (hp iv) = some (some (I x2), (hp iv)) :=
  (R_iload_n mc_6 dX0_addOutline_139 rfl).trans <|
  R_ireturn mc_6 dX0_addOutline_140 rfl
theorem B_X0_edges_0 (sc : Nat × (Nat → Int)) (iv : Nat → Nat → Int)  : Run sc 7 0 [some (Rf 44), none, none, none] [] (hp iv) = Run sc 7 4 [some (Rf 44), some (I 0), some (I 0), none] [] (hp iv) :=
  (R_iconst mc_7 dX0_edges_0 ⟨by decide, by decide⟩).trans <|
  (R_istore_n mc_7 dX0_edges_1 (Nat.le_of_ble_eq_true rfl)).trans <|
  (R_iconst mc_7 dX0_edges_2 ⟨by decide, by decide⟩).trans <|
  R_istore_n mc_7 dX0_edges_3 (Nat.le_of_ble_eq_true rfl)
theorem B_X0_edges_4 (sc : Nat × (Nat → Int)) (iv : Nat → Nat → Int) (x1 : Int) (x2 : Int) (d3 : Option AV) : Run sc 7 4 [some (Rf 44), some (I x1), some (I x2), d3] [] (hp iv) = if (iv 2 1) < x2 then Run sc 7 58 [some (Rf 44), some (I x1), some (I x2), d3] [] (hp iv) else Run sc 7 17 [some (Rf 44), some (I x1), some (I x2), some (I 0)] [] (hp iv) :=
  (R_iload_n mc_7 dX0_edges_4 rfl).trans <|
  (R_aload_n mc_7 dX0_edges_5 rfl).trans <|
  (R_getR mc_7 dX0_edges_6 mo_7 ft_0_11 rfl rfl (r := 2) rfl (by decide)).trans <|
  (R_getI mc_7 dX0_edges_9 mo_7 ft_0_35 rfl rfl).trans <|
  (R_icmp_gt mc_7 dX0_edges_12 (t := 58) rfl).trans <| ite_c2
  (rfl)
  ((R_iconst mc_7 dX0_edges_15 ⟨by decide, by decide⟩).trans <|
  R_istore_n mc_7 dX0_edges_16 (Nat.le_of_ble_eq_true rfl))
theorem B_X0_edges_17 (sc : Nat × (Nat → Int)) (iv : Nat → Nat → Int) (x1 : Int) (x2 : Int) (x3 : Int) : Run sc 7 17 [some (Rf 44), some (I x1), some (I x2), some (I x3)] [] (hp iv) = if (iv 2 0) < x3 then Run sc 7 52 [some (Rf 44), some (I x1), some (I x2), some (I x3)] [] (hp iv) else aBind (Run sc 4 0 [some (Rf 44), some (I x3), some (I x2), some (I 1), none] [] (hp iv)) (fun v h2 => Run sc 7 36 [some (Rf 44), some (I x1), some (I x2), some (I x3)] (pushR v [(I x1)]) h2) :=
  (R_iload_n mc_7 dX0_edges_17 rfl).trans <|
  (R_aload_n mc_7 dX0_edges_18 rfl).trans <|
  (R_getR mc_7 dX0_edges_19 mo_7 ft_0_11 rfl rfl (r := 2) rfl (by decide)).trans <|
  (R_getI mc_7 dX0_edges_22 mo_7 ft_0_29 rfl rfl).trans <|
  (R_icmp_gt mc_7 dX0_edges_25 (t := 52) rfl).trans <| ite_c2
  (rfl)
  ((R_iload_n mc_7 dX0_edges_28 rfl).trans <|
  (R_aload_n mc_7 dX0_edges_29 rfl).trans <|
  (R_iload_n mc_7 dX0_edges_30 rfl).trans <|
  (R_iload_n mc_7 dX0_edges_31 rfl).trans <|
  (R_iconst mc_7 dX0_edges_32 ⟨by decide, by decide⟩).trans <|
  R_invV mc_7 dX0_edges_33 mo_7 ct_0_42 af_7_4 rfl rfl rfl ⟨Nat.le_of_ble_eq_true rfl, Nat.le_of_ble_eq_true rfl⟩)
theorem B_X0_edges_36 (sc : Nat × (Nat → Int)) (iv : Nat → Nat → Int) (x1 : Int) (x2 : Int) (x3 : Int) (s0 : Int) (s1 : Int) : Run sc 7 36 [some (Rf 44), some (I x1), some (I x2), some (I x3)] [(I s0), (I s1)] (hp iv) = aBind (Run sc 4 0 [some (Rf 44), some (I x3), some (I x2), some (I 0), none] [] (hp iv)) (fun v h2 => Run sc 7 43 [some (Rf 44), some (I x1), some (I x2), some (I x3)] (pushR v [(I s0), (I s1)]) h2) :=
  (R_aload_n mc_7 dX0_edges_36 rfl).trans <|
  (R_iload_n mc_7 dX0_edges_37 rfl).trans <|
  (R_iload_n mc_7 dX0_edges_38 rfl).trans <|
  (R_iconst mc_7 dX0_edges_39 ⟨by decide, by decide⟩).trans <|
  R_invV mc_7 dX0_edges_40 mo_7 ct_0_42 af_7_4 rfl rfl rfl ⟨Nat.le_of_ble_eq_true rfl, Nat.le_of_ble_eq_true rfl⟩
theorem B_X0_edges_43 (sc : Nat × (Nat → Int)) (iv : Nat → Nat → Int) (x1 : Int) (x2 : Int) (x3 : Int) (s0 : Int) (s1 : Int) (s2 : Int) : Run sc 7 43 [some (Rf 44), some (I x1), some (I x2), some (I x3)] [(I s0), (I s1), (I s2)] (hp iv) = chk (s1 + s0) (chk (s2 + (s1 + s0)) (chk (x3 + 1) (Run sc 7 17 [some (Rf 44), some (I (s2 + (s1 + s0))), some (I x2), some (I (x3 + 1))] [] (hp iv)))) :=
  (R_iadd mc_7 dX0_edges_43).trans <| chk_congr <|
  (R_iadd mc_7 dX0_edges_44).trans <| chk_congr <|
  (R_istore_n mc_7 dX0_edges_45 (Nat.le_of_ble_eq_true rfl)).trans <|
  (R_iinc mc_7 dX0_edges_46 rfl).trans <| chk_congr <|
  R_goto mc_7 dX0_edges_49 (t := 17) rfl
theorem B_X0_edges_52 (sc : Nat × (Nat → Int)) (iv : Nat → Nat → Int) (x1 : Int) (x2 : Int) (x3 : Int) : Run sc 7 52 [some (Rf 44), some (I x1), some (I x2), some (I x3)] [] (hp iv) = chk (x2 + 1) (Run sc 7 4 [some (Rf 44), some (I x1), some (I (x2 + 1)), some (I x3)] [] (hp iv)) :=
  (R_iinc mc_7 dX0_edges_52 rfl).trans <| chk_congr <|
  R_goto mc_7 dX0_edges_55 (t := 4) rfl
theorem B_X0_edges_58 (sc : Nat × (Nat → Int)) (iv : Nat → Nat → Int) (x1 : Int) (x2 : Int) (d3 : Option AV) : Run sc 7 58 [some (Rf 44), some (I x1), some (I x2), d3] [] (hp iv) = some (some (I x1), (hp iv)) :=
  (R_iload_n mc_7 dX0_edges_58 rfl).trans <|
  R_ireturn mc_7 dX0_edges_59 rfl
theorem B_X0_stitchesAtPoint_0 (sc : Nat × (Nat → Int)) (iv : Nat → Nat → Int) (x1 : Int) (x2 : Int) : Run sc 8 0 [some (Rf 44), some (I x1), some (I x2)] [] (hp iv) = aBind (Run sc 4 0 [some (Rf 44), some (I x1), some (I x2), some (I 1), none] [] (hp iv)) (fun v h2 => Run sc 8 7 [some (Rf 44), some (I x1), some (I x2)] (pushR v []) h2) :=
  (R_aload_n mc_8 dX0_stitchesAtPoint_0 rfl).trans <|
  (R_iload_n mc_8 dX0_stitchesAtPoint_1 rfl).trans <|
  (R_iload_n mc_8 dX0_stitchesAtPoint_2 rfl).trans <|
  (R_iconst mc_8 dX0_stitchesAtPoint_3 ⟨by decide, by decide⟩).trans <|
  R_invV mc_8 dX0_stitchesAtPoint_4 mo_8 ct_0_42 af_8_4 rfl rfl rfl ⟨Nat.le_of_ble_eq_true rfl, Nat.le_of_ble_eq_true rfl⟩
theorem B_X0_stitchesAtPoint_7 (sc : Nat × (Nat → Int)) (iv : Nat → Nat → Int) (x1 : Int) (x2 : Int) (s0 : Int) : Run sc 8 7 [some (Rf 44), some (I x1), some (I x2)] [(I s0)] (hp iv) = chk (x2 - 1) (aBind (Run sc 4 0 [some (Rf 44), some (I x1), some (I (x2 - 1)), some (I 1), none] [] (hp iv)) (fun v h2 => Run sc 8 16 [some (Rf 44), some (I x1), some (I x2)] (pushR v [(I s0)]) h2)) :=
  (R_aload_n mc_8 dX0_stitchesAtPoint_7 rfl).trans <|
  (R_iload_n mc_8 dX0_stitchesAtPoint_8 rfl).trans <|
  (R_iload_n mc_8 dX0_stitchesAtPoint_9 rfl).trans <|
  (R_iconst mc_8 dX0_stitchesAtPoint_10 ⟨by decide, by decide⟩).trans <|
  (R_isub mc_8 dX0_stitchesAtPoint_11).trans <| chk_congr <|
  (R_iconst mc_8 dX0_stitchesAtPoint_12 ⟨by decide, by decide⟩).trans <|
  R_invV mc_8 dX0_stitchesAtPoint_13 mo_8 ct_0_42 af_8_4 rfl rfl rfl ⟨Nat.le_of_ble_eq_true rfl, Nat.le_of_ble_eq_true rfl⟩
theorem B_X0_stitchesAtPoint_16 (sc : Nat × (Nat → Int)) (iv : Nat → Nat → Int) (x1 : Int) (x2 : Int) (s0 : Int) (s1 : Int) : Run sc 8 16 [some (Rf 44), some (I x1), some (I x2)] [(I s0), (I s1)] (hp iv) = chk (s1 + s0) (aBind (Run sc 4 0 [some (Rf 44), some (I x1), some (I x2), some (I 0), none] [] (hp iv)) (fun v h2 => Run sc 8 24 [some (Rf 44), some (I x1), some (I x2)] (pushR v [(I (s1 + s0))]) h2)) :=
  (R_iadd mc_8 dX0_stitchesAtPoint_16).trans <| chk_congr <|
  (R_aload_n mc_8 dX0_stitchesAtPoint_17 rfl).trans <|
  (R_iload_n mc_8 dX0_stitchesAtPoint_18 rfl).trans <|
  (R_iload_n mc_8 dX0_stitchesAtPoint_19 rfl).trans <|
  (R_iconst mc_8 dX0_stitchesAtPoint_20 ⟨by decide, by decide⟩).trans <|
  R_invV mc_8 dX0_stitchesAtPoint_21 mo_8 ct_0_42 af_8_4 rfl rfl rfl ⟨Nat.le_of_ble_eq_true rfl, Nat.le_of_ble_eq_true rfl⟩
theorem B_X0_stitchesAtPoint_24 (sc : Nat × (Nat → Int)) (iv : Nat → Nat → Int) (x1 : Int) (x2 : Int) (s0 : Int) (s1 : Int) : Run sc 8 24 [some (Rf 44), some (I x1), some (I x2)] [(I s0), (I s1)] (hp iv) = chk (s1 + s0) (chk (x1 - 1) (aBind (Run sc 4 0 [some (Rf 44), some (I (x1 - 1)), some (I x2), some (I 0), none] [] (hp iv)) (fun v h2 => Run sc 8 34 [some (Rf 44), some (I x1), some (I x2)] (pushR v [(I (s1 + s0))]) h2))) :=
  (R_iadd mc_8 dX0_stitchesAtPoint_24).trans <| chk_congr <|
  (R_aload_n mc_8 dX0_stitchesAtPoint_25 rfl).trans <|
  (R_iload_n mc_8 dX0_stitchesAtPoint_26 rfl).trans <|
  (R_iconst mc_8 dX0_stitchesAtPoint_27 ⟨by decide, by decide⟩).trans <|
  (R_isub mc_8 dX0_stitchesAtPoint_28).trans <| chk_congr <|
  (R_iload_n mc_8 dX0_stitchesAtPoint_29 rfl).trans <|
  (R_iconst mc_8 dX0_stitchesAtPoint_30 ⟨by decide, by decide⟩).trans <|
  R_invV mc_8 dX0_stitchesAtPoint_31 mo_8 ct_0_42 af_8_4 rfl rfl rfl ⟨Nat.le_of_ble_eq_true rfl, Nat.le_of_ble_eq_true rfl⟩
theorem B_X0_stitchesAtPoint_34 (sc : Nat × (Nat → Int)) (iv : Nat → Nat → Int) (x1 : Int) (x2 : Int) (s0 : Int) (s1 : Int) : Run sc 8 34 [some (Rf 44), some (I x1), some (I x2)] [(I s0), (I s1)] (hp iv) = chk (s1 + s0) (some (some (I (s1 + s0)), (hp iv))) :=
  (R_iadd mc_8 dX0_stitchesAtPoint_34).trans <| chk_congr <|
  R_ireturn mc_8 dX0_stitchesAtPoint_35 rfl
theorem B_X0_oddPoints_0 (sc : Nat × (Nat → Int)) (iv : Nat → Nat → Int)  : Run sc 9 0 [some (Rf 44), none, none, none] [] (hp iv) = Run sc 9 4 [some (Rf 44), some (I 0), some (I 0), none] [] (hp iv) :=
  (R_iconst mc_9 dX0_oddPoints_0 ⟨by decide, by decide⟩).trans <|
  (R_istore_n mc_9 dX0_oddPoints_1 (Nat.le_of_ble_eq_true rfl)).trans <|
  (R_iconst mc_9 dX0_oddPoints_2 ⟨by decide, by decide⟩).trans <|
  R_istore_n mc_9 dX0_oddPoints_3 (Nat.le_of_ble_eq_true rfl)
theorem B_X0_oddPoints_4 (sc : Nat × (Nat → Int)) (iv : Nat → Nat → Int) (x1 : Int) (x2 : Int) (d3 : Option AV) : Run sc 9 4 [some (Rf 44), some (I x1), some (I x2), d3] [] (hp iv) = if (iv 2 1) < x2 then Run sc 9 51 [some (Rf 44), some (I x1), some (I x2), d3] [] (hp iv) else Run sc 9 17 [some (Rf 44), some (I x1), some (I x2), some (I 0)] [] (hp iv) :=
  (R_iload_n mc_9 dX0_oddPoints_4 rfl).trans <|
  (R_aload_n mc_9 dX0_oddPoints_5 rfl).trans <|
  (R_getR mc_9 dX0_oddPoints_6 mo_9 ft_0_11 rfl rfl (r := 2) rfl (by decide)).trans <|
  (R_getI mc_9 dX0_oddPoints_9 mo_9 ft_0_35 rfl rfl).trans <|
  (R_icmp_gt mc_9 dX0_oddPoints_12 (t := 51) rfl).trans <| ite_c2
  (rfl)
  ((R_iconst mc_9 dX0_oddPoints_15 ⟨by decide, by decide⟩).trans <|
  R_istore_n mc_9 dX0_oddPoints_16 (Nat.le_of_ble_eq_true rfl))
theorem B_X0_oddPoints_17 (sc : Nat × (Nat → Int)) (iv : Nat → Nat → Int) (x1 : Int) (x2 : Int) (x3 : Int) : Run sc 9 17 [some (Rf 44), some (I x1), some (I x2), some (I x3)] [] (hp iv) = if (iv 2 0) < x3 then Run sc 9 45 [some (Rf 44), some (I x1), some (I x2), some (I x3)] [] (hp iv) else aBind (Run sc 8 0 [some (Rf 44), some (I x3), some (I x2)] [] (hp iv)) (fun v h2 => Run sc 9 35 [some (Rf 44), some (I x1), some (I x2), some (I x3)] (pushR v [(I x1)]) h2) :=
  (R_iload_n mc_9 dX0_oddPoints_17 rfl).trans <|
  (R_aload_n mc_9 dX0_oddPoints_18 rfl).trans <|
  (R_getR mc_9 dX0_oddPoints_19 mo_9 ft_0_11 rfl rfl (r := 2) rfl (by decide)).trans <|
  (R_getI mc_9 dX0_oddPoints_22 mo_9 ft_0_29 rfl rfl).trans <|
  (R_icmp_gt mc_9 dX0_oddPoints_25 (t := 45) rfl).trans <| ite_c2
  (rfl)
  ((R_iload_n mc_9 dX0_oddPoints_28 rfl).trans <|
  (R_aload_n mc_9 dX0_oddPoints_29 rfl).trans <|
  (R_iload_n mc_9 dX0_oddPoints_30 rfl).trans <|
  (R_iload_n mc_9 dX0_oddPoints_31 rfl).trans <|
  R_invV mc_9 dX0_oddPoints_32 mo_9 ct_0_54 af_9_8 rfl rfl rfl ⟨Nat.le_of_ble_eq_true rfl, Nat.le_of_ble_eq_true rfl⟩)
theorem B_X0_oddPoints_35 (sc : Nat × (Nat → Int)) (iv : Nat → Nat → Int) (x1 : Int) (x2 : Int) (x3 : Int) (s0 : Int) (s1 : Int) : Run sc 9 35 [some (Rf 44), some (I x1), some (I x2), some (I x3)] [(I s0), (I s1)] (hp iv) = chk (s1 + (s0 % (1 + 1))) (chk (x3 + 1) (Run sc 9 17 [some (Rf 44), some (I (s1 + (s0 % (1 + 1)))), some (I x2), some (I (x3 + 1))] [] (hp iv))) :=
  (R_iconst mc_9 dX0_oddPoints_35 ⟨by decide, by decide⟩).trans <|
  (R_iand mc_9 dX0_oddPoints_36 (by decide)).trans <|
  (R_iadd mc_9 dX0_oddPoints_37).trans <| chk_congr <|
  (R_istore_n mc_9 dX0_oddPoints_38 (Nat.le_of_ble_eq_true rfl)).trans <|
  (R_iinc mc_9 dX0_oddPoints_39 rfl).trans <| chk_congr <|
  R_goto mc_9 dX0_oddPoints_42 (t := 17) rfl
theorem B_X0_oddPoints_45 (sc : Nat × (Nat → Int)) (iv : Nat → Nat → Int) (x1 : Int) (x2 : Int) (x3 : Int) : Run sc 9 45 [some (Rf 44), some (I x1), some (I x2), some (I x3)] [] (hp iv) = chk (x2 + 1) (Run sc 9 4 [some (Rf 44), some (I x1), some (I (x2 + 1)), some (I x3)] [] (hp iv)) :=
  (R_iinc mc_9 dX0_oddPoints_45 rfl).trans <| chk_congr <|
  R_goto mc_9 dX0_oddPoints_48 (t := 4) rfl
theorem B_X0_oddPoints_51 (sc : Nat × (Nat → Int)) (iv : Nat → Nat → Int) (x1 : Int) (x2 : Int) (d3 : Option AV) : Run sc 9 51 [some (Rf 44), some (I x1), some (I x2), d3] [] (hp iv) = some (some (I x1), (hp iv)) :=
  (R_iload_n mc_9 dX0_oddPoints_51 rfl).trans <|
  R_ireturn mc_9 dX0_oddPoints_52 rfl
theorem B_X0_groups_0 (sc : Nat × (Nat → Int)) (iv : Nat → Nat → Int)  : Run sc 10 0 [some (Rf 44)] [] (hp iv) = aBind (Run sc 12 0 [some (Rf 44), some (I 0), none, none, none, none] [] (hp iv)) (fun v h2 => Run sc 10 5 [some (Rf 44)] (pushR v []) h2) :=
  (R_aload_n mc_10 dX0_groups_0 rfl).trans <|
  (R_iconst mc_10 dX0_groups_1 ⟨by decide, by decide⟩).trans <|
  R_invV mc_10 dX0_groups_2 mo_10 ct_0_57 af_10_12 rfl rfl rfl ⟨Nat.le_of_ble_eq_true rfl, Nat.le_of_ble_eq_true rfl⟩
theorem B_X0_groups_5 (sc : Nat × (Nat → Int)) (iv : Nat → Nat → Int) (s0 : Int) : Run sc 10 5 [some (Rf 44)] [(I s0)] (hp iv) = some (some (I s0), (hp iv)) :=
  R_ireturn mc_10 dX0_groups_5 rfl
theorem B_X0_strands_0 (sc : Nat × (Nat → Int)) (iv : Nat → Nat → Int)  : Run sc 11 0 [some (Rf 44)] [] (hp iv) = aBind (Run sc 12 0 [some (Rf 44), some (I 1), none, none, none, none] [] (hp iv)) (fun v h2 => Run sc 11 5 [some (Rf 44)] (pushR v []) h2) :=
  (R_aload_n mc_11 dX0_strands_0 rfl).trans <|
  (R_iconst mc_11 dX0_strands_1 ⟨by decide, by decide⟩).trans <|
  R_invV mc_11 dX0_strands_2 mo_11 ct_0_57 af_11_12 rfl rfl rfl ⟨Nat.le_of_ble_eq_true rfl, Nat.le_of_ble_eq_true rfl⟩
theorem B_X0_strands_5 (sc : Nat × (Nat → Int)) (iv : Nat → Nat → Int) (s0 : Int) : Run sc 11 5 [some (Rf 44)] [(I s0)] (hp iv) = some (some (I s0), (hp iv)) :=
  R_ireturn mc_11 dX0_strands_5 rfl
theorem B_X0_sumOverGroups_0 (sc : Nat × (Nat → Int)) (iv : Nat → Nat → Int) (x1 : Int) : Run sc 12 0 [some (Rf 44), some (I x1), none, none, none, none] [] (hp iv) = Run sc 12 2 [some (Rf 44), some (I x1), some (I 0), none, none, none] [] (hp iv) :=
  (R_iconst mc_12 dX0_sumOverGroups_0 ⟨by decide, by decide⟩).trans <|
  R_istore_n mc_12 dX0_sumOverGroups_1 (Nat.le_of_ble_eq_true rfl)
theorem B_X0_sumOverGroups_2 (sc : Nat × (Nat → Int)) (iv : Nat → Nat → Int) (x1 : Int) (x2 : Int) (d3 : Option AV) (d4 : Option AV) (d5 : Option AV) : Run sc 12 2 [some (Rf 44), some (I x1), some (I x2), d3, d4, d5] [] (hp iv) = if x2 < 625 then bck 0 (((625 : Nat) : Int) - 1) x2 (bck 0 1 0 (Run sc 12 16 [some (Rf 44), some (I x1), some (I x2), d3, d4, d5] [] (hp (setO iv 47 (upI (iv 47) (Int.toNat x2) 0))))) else Run sc 12 22 [some (Rf 44), some (I x1), some (I x2), d3, d4, d5] [] (hp iv) :=
  (R_iload_n mc_12 dX0_sumOverGroups_2 rfl).trans <|
  (R_sipush mc_12 dX0_sumOverGroups_3 ⟨by decide, by decide⟩).trans <|
  (R_icmp_ge mc_12 dX0_sumOverGroups_6 (t := 22) rfl).trans <| ite_c2
  ((R_aload_n mc_12 dX0_sumOverGroups_9 rfl).trans <|
  (R_getR mc_12 dX0_sumOverGroups_10 mo_12 ft_0_22 rfl rfl (r := 47) rfl (by decide)).trans <|
  (R_iload_n mc_12 dX0_sumOverGroups_13 rfl).trans <|
  (R_iconst mc_12 dX0_sumOverGroups_14 ⟨by decide, by decide⟩).trans <|
  (R_bastore mc_12 dX0_sumOverGroups_15 rfl).trans <| bck_congr <| bck_congr <|
  rfl)
  (rfl)
theorem B_X0_sumOverGroups_16 (sc : Nat × (Nat → Int)) (iv : Nat → Nat → Int) (x1 : Int) (x2 : Int) (d3 : Option AV) (d4 : Option AV) (d5 : Option AV) : Run sc 12 16 [some (Rf 44), some (I x1), some (I x2), d3, d4, d5] [] (hp iv) = chk (x2 + 1) (Run sc 12 2 [some (Rf 44), some (I x1), some (I (x2 + 1)), d3, d4, d5] [] (hp iv)) :=
  (R_iinc mc_12 dX0_sumOverGroups_16 rfl).trans <| chk_congr <|
  R_goto mc_12 dX0_sumOverGroups_19 (t := 2) rfl
theorem B_X0_sumOverGroups_22 (sc : Nat × (Nat → Int)) (iv : Nat → Nat → Int) (x1 : Int) (x2 : Int) (d3 : Option AV) (d4 : Option AV) (d5 : Option AV) : Run sc 12 22 [some (Rf 44), some (I x1), some (I x2), d3, d4, d5] [] (hp iv) = Run sc 12 26 [some (Rf 44), some (I x1), some (I 0), some (I 0), d4, d5] [] (hp iv) :=
  (R_iconst mc_12 dX0_sumOverGroups_22 ⟨by decide, by decide⟩).trans <|
  (R_istore_n mc_12 dX0_sumOverGroups_23 (Nat.le_of_ble_eq_true rfl)).trans <|
  (R_iconst mc_12 dX0_sumOverGroups_24 ⟨by decide, by decide⟩).trans <|
  R_istore_n mc_12 dX0_sumOverGroups_25 (Nat.le_of_ble_eq_true rfl)
theorem B_X0_sumOverGroups_26 (sc : Nat × (Nat → Int)) (iv : Nat → Nat → Int) (x1 : Int) (x2 : Int) (x3 : Int) (d4 : Option AV) (d5 : Option AV) : Run sc 12 26 [some (Rf 44), some (I x1), some (I x2), some (I x3), d4, d5] [] (hp iv) = if (iv 2 1) < x3 then Run sc 12 110 [some (Rf 44), some (I x1), some (I x2), some (I x3), d4, d5] [] (hp iv) else Run sc 12 40 [some (Rf 44), some (I x1), some (I x2), some (I x3), some (I 0), d5] [] (hp iv) :=
  (R_iload_n mc_12 dX0_sumOverGroups_26 rfl).trans <|
  (R_aload_n mc_12 dX0_sumOverGroups_27 rfl).trans <|
  (R_getR mc_12 dX0_sumOverGroups_28 mo_12 ft_0_11 rfl rfl (r := 2) rfl (by decide)).trans <|
  (R_getI mc_12 dX0_sumOverGroups_31 mo_12 ft_0_35 rfl rfl).trans <|
  (R_icmp_gt mc_12 dX0_sumOverGroups_34 (t := 110) rfl).trans <| ite_c2
  (rfl)
  ((R_iconst mc_12 dX0_sumOverGroups_37 ⟨by decide, by decide⟩).trans <|
  R_istore mc_12 dX0_sumOverGroups_38 (Nat.le_of_ble_eq_true rfl))
theorem B_X0_sumOverGroups_40 (sc : Nat × (Nat → Int)) (iv : Nat → Nat → Int) (x1 : Int) (x2 : Int) (x3 : Int) (x4 : Int) (d5 : Option AV) : Run sc 12 40 [some (Rf 44), some (I x1), some (I x2), some (I x3), some (I x4), d5] [] (hp iv) = if (iv 2 0) < x4 then Run sc 12 104 [some (Rf 44), some (I x1), some (I x2), some (I x3), some (I x4), d5] [] (hp iv) else aBind (Run sc 8 0 [some (Rf 44), some (I x4), some (I x3)] [] (hp iv)) (fun v h2 => Run sc 12 59 [some (Rf 44), some (I x1), some (I x2), some (I x3), some (I x4), d5] (pushR v []) h2) :=
  (R_iload mc_12 dX0_sumOverGroups_40 rfl).trans <|
  (R_aload_n mc_12 dX0_sumOverGroups_42 rfl).trans <|
  (R_getR mc_12 dX0_sumOverGroups_43 mo_12 ft_0_11 rfl rfl (r := 2) rfl (by decide)).trans <|
  (R_getI mc_12 dX0_sumOverGroups_46 mo_12 ft_0_29 rfl rfl).trans <|
  (R_icmp_gt mc_12 dX0_sumOverGroups_49 (t := 104) rfl).trans <| ite_c2
  (rfl)
  ((R_aload_n mc_12 dX0_sumOverGroups_52 rfl).trans <|
  (R_iload mc_12 dX0_sumOverGroups_53 rfl).trans <|
  (R_iload_n mc_12 dX0_sumOverGroups_55 rfl).trans <|
  R_invV mc_12 dX0_sumOverGroups_56 mo_12 ct_0_54 af_12_8 rfl rfl rfl ⟨Nat.le_of_ble_eq_true rfl, Nat.le_of_ble_eq_true rfl⟩)
theorem B_X0_sumOverGroups_59 (sc : Nat × (Nat → Int)) (iv : Nat → Nat → Int) (x1 : Int) (x2 : Int) (x3 : Int) (x4 : Int) (d5 : Option AV) (s0 : Int) : Run sc 12 59 [some (Rf 44), some (I x1), some (I x2), some (I x3), some (I x4), d5] [(I s0)] (hp iv) = if 0 < s0 then aBind (Run sc 13 0 [some (Rf 44), some (I x4), some (I x3), some (I 1), none, none] [] (hp iv)) (fun v h2 => Run sc 12 70 [some (Rf 44), some (I x1), some (I x2), some (I x3), some (I x4), d5] (pushR v []) h2) else Run sc 12 98 [some (Rf 44), some (I x1), some (I x2), some (I x3), some (I x4), d5] [] (hp iv) :=
  (R_if_le mc_12 dX0_sumOverGroups_59 (t := 98) rfl).trans <| ite_c2
  ((R_aload_n mc_12 dX0_sumOverGroups_62 rfl).trans <|
  (R_iload mc_12 dX0_sumOverGroups_63 rfl).trans <|
  (R_iload_n mc_12 dX0_sumOverGroups_65 rfl).trans <|
  (R_iconst mc_12 dX0_sumOverGroups_66 ⟨by decide, by decide⟩).trans <|
  R_invV mc_12 dX0_sumOverGroups_67 mo_12 ct_0_61 af_12_13 rfl rfl rfl ⟨Nat.le_of_ble_eq_true rfl, Nat.le_of_ble_eq_true rfl⟩)
  (rfl)
theorem B_X0_sumOverGroups_70 (sc : Nat × (Nat → Int)) (iv : Nat → Nat → Int) (x1 : Int) (x2 : Int) (x3 : Int) (x4 : Int) (d5 : Option AV) (s0 : Int) : Run sc 12 70 [some (Rf 44), some (I x1), some (I x2), some (I x3), some (I x4), d5] [(I s0)] (hp iv) = if s0 = 0 then Run sc 12 98 [some (Rf 44), some (I x1), some (I x2), some (I x3), some (I x4), d5] [] (hp iv) else aBind (Run sc 14 0 [some (Rf 44), none, none, none, none] [] (hp iv)) (fun v h2 => Run sc 12 77 [some (Rf 44), some (I x1), some (I x2), some (I x3), some (I x4), d5] (pushR v []) h2) :=
  (R_if_eq mc_12 dX0_sumOverGroups_70 (t := 98) rfl).trans <| ite_c2
  (rfl)
  ((R_aload_n mc_12 dX0_sumOverGroups_73 rfl).trans <|
  R_invV mc_12 dX0_sumOverGroups_74 mo_12 ct_0_64 af_12_14 rfl rfl rfl ⟨Nat.le_of_ble_eq_true rfl, Nat.le_of_ble_eq_true rfl⟩)
theorem B_X0_sumOverGroups_77 (sc : Nat × (Nat → Int)) (iv : Nat → Nat → Int) (x1 : Int) (x2 : Int) (x3 : Int) (x4 : Int) (d5 : Option AV) (s0 : Int) : Run sc 12 77 [some (Rf 44), some (I x1), some (I x2), some (I x3), some (I x4), d5] [(I s0)] (hp iv) = if x1 = 0 then Run sc 12 95 [some (Rf 44), some (I x1), some (I x2), some (I x3), some (I x4), some (I s0)] [(I x2)] (hp iv) else bck 1 2147483647 2 (bck 0 2147483647 s0 (Run sc 12 96 [some (Rf 44), some (I x1), some (I x2), some (I x3), some (I x4), some (I s0)] [(I (if 1 < (s0 / 2) then (s0 / 2) else 1)), (I x2)] (hp iv))) :=
  (R_istore mc_12 dX0_sumOverGroups_77 (Nat.le_of_ble_eq_true rfl)).trans <|
  (R_iload_n mc_12 dX0_sumOverGroups_79 rfl).trans <|
  (R_iload_n mc_12 dX0_sumOverGroups_80 rfl).trans <|
  (R_if_eq mc_12 dX0_sumOverGroups_81 (t := 95) rfl).trans <| ite_c2
  (rfl)
  ((R_iconst mc_12 dX0_sumOverGroups_84 ⟨by decide, by decide⟩).trans <|
  (R_iload mc_12 dX0_sumOverGroups_85 rfl).trans <|
  (R_iconst mc_12 dX0_sumOverGroups_87 ⟨by decide, by decide⟩).trans <|
  (R_idiv mc_12 dX0_sumOverGroups_88).trans <| bck_congr <| bck_congr <|
  (R_max mc_12 dX0_sumOverGroups_89 mo_12 ct_0_68 ⟨Nat.le_of_ble_eq_true rfl, Nat.le_of_ble_eq_true rfl⟩).trans <|
  R_goto mc_12 dX0_sumOverGroups_92 (t := 96) rfl)
theorem B_X0_sumOverGroups_95 (sc : Nat × (Nat → Int)) (iv : Nat → Nat → Int) (x1 : Int) (x2 : Int) (x3 : Int) (x4 : Int) (x5 : Int) (s0 : Int) : Run sc 12 95 [some (Rf 44), some (I x1), some (I x2), some (I x3), some (I x4), some (I x5)] [(I s0)] (hp iv) = Run sc 12 96 [some (Rf 44), some (I x1), some (I x2), some (I x3), some (I x4), some (I x5)] [(I 1), (I s0)] (hp iv) :=
  R_iconst mc_12 dX0_sumOverGroups_95 ⟨by decide, by decide⟩
theorem B_X0_sumOverGroups_96 (sc : Nat × (Nat → Int)) (iv : Nat → Nat → Int) (x1 : Int) (x2 : Int) (x3 : Int) (x4 : Int) (x5 : Int) (s0 : Int) (s1 : Int) : Run sc 12 96 [some (Rf 44), some (I x1), some (I x2), some (I x3), some (I x4), some (I x5)] [(I s0), (I s1)] (hp iv) = chk (s1 + s0) (Run sc 12 98 [some (Rf 44), some (I x1), some (I (s1 + s0)), some (I x3), some (I x4), some (I x5)] [] (hp iv)) :=
  (R_iadd mc_12 dX0_sumOverGroups_96).trans <| chk_congr <|
  R_istore_n mc_12 dX0_sumOverGroups_97 (Nat.le_of_ble_eq_true rfl)
theorem B_X0_sumOverGroups_98 (sc : Nat × (Nat → Int)) (iv : Nat → Nat → Int) (x1 : Int) (x2 : Int) (x3 : Int) (x4 : Int) (d5 : Option AV) : Run sc 12 98 [some (Rf 44), some (I x1), some (I x2), some (I x3), some (I x4), d5] [] (hp iv) = chk (x4 + 1) (Run sc 12 40 [some (Rf 44), some (I x1), some (I x2), some (I x3), some (I (x4 + 1)), d5] [] (hp iv)) :=
  (R_iinc mc_12 dX0_sumOverGroups_98 rfl).trans <| chk_congr <|
  R_goto mc_12 dX0_sumOverGroups_101 (t := 40) rfl
theorem B_X0_sumOverGroups_104 (sc : Nat × (Nat → Int)) (iv : Nat → Nat → Int) (x1 : Int) (x2 : Int) (x3 : Int) (x4 : Int) (d5 : Option AV) : Run sc 12 104 [some (Rf 44), some (I x1), some (I x2), some (I x3), some (I x4), d5] [] (hp iv) = chk (x3 + 1) (Run sc 12 26 [some (Rf 44), some (I x1), some (I x2), some (I (x3 + 1)), some (I x4), d5] [] (hp iv)) :=
  (R_iinc mc_12 dX0_sumOverGroups_104 rfl).trans <| chk_congr <|
  R_goto mc_12 dX0_sumOverGroups_107 (t := 26) rfl
theorem B_X0_sumOverGroups_110 (sc : Nat × (Nat → Int)) (iv : Nat → Nat → Int) (x1 : Int) (x2 : Int) (x3 : Int) (d4 : Option AV) (d5 : Option AV) : Run sc 12 110 [some (Rf 44), some (I x1), some (I x2), some (I x3), d4, d5] [] (hp iv) = some (some (I x2), (hp iv)) :=
  (R_iload_n mc_12 dX0_sumOverGroups_110 rfl).trans <|
  R_ireturn mc_12 dX0_sumOverGroups_111 rfl
theorem B_X0_reach_0 (sc : Nat × (Nat → Int)) (iv : Nat → Nat → Int) (x1 : Int) (x2 : Int) (x3 : Int) : Run sc 13 0 [some (Rf 44), some (I x1), some (I x2), some (I x3), none, none] [] (hp iv) = aBind (Run sc 103 0 [some (I x1), some (I 0), some (I 24)] [] (hp iv)) (fun v h2 => Run sc 13 7 [some (Rf 44), some (I x1), some (I x2), some (I x3), none, none] (pushR v []) h2) :=
  (R_iload_n mc_13 dX0_reach_0 rfl).trans <|
  (R_iconst mc_13 dX0_reach_1 ⟨by decide, by decide⟩).trans <|
  (R_bipush mc_13 dX0_reach_2 ⟨by decide, by decide⟩).trans <|
  R_invS mc_13 dX0_reach_4 mo_13 ct_0_73 (Or.inr rfl) af_13_103 (Nat.le_of_ble_eq_true rfl) rfl rfl ⟨Nat.le_of_ble_eq_true rfl, Nat.le_of_ble_eq_true rfl⟩
theorem B_X0_reach_7 (sc : Nat × (Nat → Int)) (iv : Nat → Nat → Int) (x1 : Int) (x2 : Int) (x3 : Int) (d4 : Option AV) (d5 : Option AV) (s0 : Int) : Run sc 13 7 [some (Rf 44), some (I x1), some (I x2), some (I x3), d4, d5] [(I s0)] (hp iv) = if s0 = 0 then Run sc 13 20 [some (Rf 44), some (I x1), some (I x2), some (I x3), d4, d5] [] (hp iv) else aBind (Run sc 103 0 [some (I x2), some (I 0), some (I 24)] [] (hp iv)) (fun v h2 => Run sc 13 17 [some (Rf 44), some (I x1), some (I x2), some (I x3), d4, d5] (pushR v []) h2) :=
  (R_if_eq mc_13 dX0_reach_7 (t := 20) rfl).trans <| ite_c2
  (rfl)
  ((R_iload_n mc_13 dX0_reach_10 rfl).trans <|
  (R_iconst mc_13 dX0_reach_11 ⟨by decide, by decide⟩).trans <|
  (R_bipush mc_13 dX0_reach_12 ⟨by decide, by decide⟩).trans <|
  R_invS mc_13 dX0_reach_14 mo_13 ct_0_73 (Or.inr rfl) af_13_103 (Nat.le_of_ble_eq_true rfl) rfl rfl ⟨Nat.le_of_ble_eq_true rfl, Nat.le_of_ble_eq_true rfl⟩)
theorem B_X0_reach_17 (sc : Nat × (Nat → Int)) (iv : Nat → Nat → Int) (x1 : Int) (x2 : Int) (x3 : Int) (d4 : Option AV) (d5 : Option AV) (s0 : Int) : Run sc 13 17 [some (Rf 44), some (I x1), some (I x2), some (I x3), d4, d5] [(I s0)] (hp iv) = if s0 = 0 then Run sc 13 20 [some (Rf 44), some (I x1), some (I x2), some (I x3), d4, d5] [] (hp iv) else Run sc 13 22 [some (Rf 44), some (I x1), some (I x2), some (I x3), d4, d5] [] (hp iv) :=
  R_if_ne mc_13 dX0_reach_17 (t := 22) rfl
theorem B_X0_reach_20 (sc : Nat × (Nat → Int)) (iv : Nat → Nat → Int) (x1 : Int) (x2 : Int) (x3 : Int) (d4 : Option AV) (d5 : Option AV) : Run sc 13 20 [some (Rf 44), some (I x1), some (I x2), some (I x3), d4, d5] [] (hp iv) = bck 0 1 0 (some (some (I 0), (hp iv))) :=
  (R_iconst mc_13 dX0_reach_20 ⟨by decide, by decide⟩).trans <|
  R_ireturnZ mc_13 dX0_reach_21 rfl
theorem B_X0_reach_22 (sc : Nat × (Nat → Int)) (iv : Nat → Nat → Int) (x1 : Int) (x2 : Int) (x3 : Int) (d4 : Option AV) (d5 : Option AV) : Run sc 13 22 [some (Rf 44), some (I x1), some (I x2), some (I x3), d4, d5] [] (hp iv) = chk (x2 * 25) (chk ((x2 * 25) + x1) (if x3 = 0 then Run sc 13 38 [some (Rf 44), some (I x1), some (I x2), some (I x3), some (I ((x2 * 25) + x1)), d5] [] (hp iv) else Run sc 13 42 [some (Rf 44), some (I x1), some (I x2), some (I x3), some (I ((x2 * 25) + x1)), d5] [(I 0)] (hp iv))) :=
  (R_iload_n mc_13 dX0_reach_22 rfl).trans <|
  (R_bipush mc_13 dX0_reach_23 ⟨by decide, by decide⟩).trans <|
  (R_imul mc_13 dX0_reach_25).trans <| chk_congr <|
  (R_iload_n mc_13 dX0_reach_26 rfl).trans <|
  (R_iadd mc_13 dX0_reach_27).trans <| chk_congr <|
  (R_istore mc_13 dX0_reach_28 (Nat.le_of_ble_eq_true rfl)).trans <|
  (R_iload_n mc_13 dX0_reach_30 rfl).trans <|
  (R_if_eq mc_13 dX0_reach_31 (t := 38) rfl).trans <| ite_c2
  (rfl)
  ((R_iconst mc_13 dX0_reach_34 ⟨by decide, by decide⟩).trans <|
  R_goto mc_13 dX0_reach_35 (t := 42) rfl)
theorem B_X0_reach_38 (sc : Nat × (Nat → Int)) (iv : Nat → Nat → Int) (x1 : Int) (x2 : Int) (x3 : Int) (x4 : Int) (d5 : Option AV) : Run sc 13 38 [some (Rf 44), some (I x1), some (I x2), some (I x3), some (I x4), d5] [] (hp iv) = Run sc 13 42 [some (Rf 44), some (I x1), some (I x2), some (I x3), some (I x4), d5] [(I (iv 44 5))] (hp iv) :=
  (R_aload_n mc_13 dX0_reach_38 rfl).trans <|
  R_getI mc_13 dX0_reach_39 mo_13 ft_0_77 rfl rfl
theorem B_X0_reach_42 (sc : Nat × (Nat → Int)) (iv : Nat → Nat → Int) (x1 : Int) (x2 : Int) (x3 : Int) (x4 : Int) (d5 : Option AV) (s0 : Int) : Run sc 13 42 [some (Rf 44), some (I x1), some (I x2), some (I x3), some (I x4), d5] [(I s0)] (hp iv) = bck 0 (((625 : Nat) : Int) - 1) x4 (if (iv 47 (Int.toNat x4)) = 0 then aBind (Run sc 103 0 [some (I s0), some (I 0), some (I 624)] [] (hp iv)) (fun v h2 => Run sc 13 63 [some (Rf 44), some (I x1), some (I x2), some (I x3), some (I x4), some (I s0)] (pushR v []) h2) else Run sc 13 66 [some (Rf 44), some (I x1), some (I x2), some (I x3), some (I x4), some (I s0)] [] (hp iv)) :=
  (R_istore mc_13 dX0_reach_42 (Nat.le_of_ble_eq_true rfl)).trans <|
  (R_aload_n mc_13 dX0_reach_44 rfl).trans <|
  (R_getR mc_13 dX0_reach_45 mo_13 ft_0_22 rfl rfl (r := 47) rfl (by decide)).trans <|
  (R_iload mc_13 dX0_reach_48 rfl).trans <|
  (R_baload mc_13 dX0_reach_50 rfl).trans <| bck_congr <|
  (R_if_ne mc_13 dX0_reach_51 (t := 66) rfl).trans <| ite_c2
  ((R_iload mc_13 dX0_reach_54 rfl).trans <|
  (R_iconst mc_13 dX0_reach_56 ⟨by decide, by decide⟩).trans <|
  (R_sipush mc_13 dX0_reach_57 ⟨by decide, by decide⟩).trans <|
  R_invS mc_13 dX0_reach_60 mo_13 ct_0_73 (Or.inr rfl) af_13_103 (Nat.le_of_ble_eq_true rfl) rfl rfl ⟨Nat.le_of_ble_eq_true rfl, Nat.le_of_ble_eq_true rfl⟩)
  (rfl)
theorem B_X0_reach_63 (sc : Nat × (Nat → Int)) (iv : Nat → Nat → Int) (x1 : Int) (x2 : Int) (x3 : Int) (x4 : Int) (x5 : Int) (s0 : Int) : Run sc 13 63 [some (Rf 44), some (I x1), some (I x2), some (I x3), some (I x4), some (I x5)] [(I s0)] (hp iv) = if s0 = 0 then Run sc 13 66 [some (Rf 44), some (I x1), some (I x2), some (I x3), some (I x4), some (I x5)] [] (hp iv) else Run sc 13 68 [some (Rf 44), some (I x1), some (I x2), some (I x3), some (I x4), some (I x5)] [] (hp iv) :=
  R_if_ne mc_13 dX0_reach_63 (t := 68) rfl
theorem B_X0_reach_66 (sc : Nat × (Nat → Int)) (iv : Nat → Nat → Int) (x1 : Int) (x2 : Int) (x3 : Int) (x4 : Int) (x5 : Int) : Run sc 13 66 [some (Rf 44), some (I x1), some (I x2), some (I x3), some (I x4), some (I x5)] [] (hp iv) = bck 0 1 0 (some (some (I 0), (hp iv))) :=
  (R_iconst mc_13 dX0_reach_66 ⟨by decide, by decide⟩).trans <|
  R_ireturnZ mc_13 dX0_reach_67 rfl
theorem B_X0_reach_68 (sc : Nat × (Nat → Int)) (iv : Nat → Nat → Int) (x1 : Int) (x2 : Int) (x3 : Int) (x4 : Int) (x5 : Int) : Run sc 13 68 [some (Rf 44), some (I x1), some (I x2), some (I x3), some (I x4), some (I x5)] [] (hp iv) = bck 0 (((625 : Nat) : Int) - 1) x4 (bck 0 1 1 (Run sc 13 76 [some (Rf 44), some (I x1), some (I x2), some (I x3), some (I x4), some (I x5)] [] (hp (setO iv 47 (upI (iv 47) (Int.toNat x4) 1))))) :=
  (R_aload_n mc_13 dX0_reach_68 rfl).trans <|
  (R_getR mc_13 dX0_reach_69 mo_13 ft_0_22 rfl rfl (r := 47) rfl (by decide)).trans <|
  (R_iload mc_13 dX0_reach_72 rfl).trans <|
  (R_iconst mc_13 dX0_reach_74 ⟨by decide, by decide⟩).trans <|
  (R_bastore mc_13 dX0_reach_75 rfl).trans <| bck_congr <| bck_congr <|
  rfl
theorem B_X0_reach_76 (sc : Nat × (Nat → Int)) (iv : Nat → Nat → Int) (x1 : Int) (x2 : Int) (x3 : Int) (x4 : Int) (x5 : Int) : Run sc 13 76 [some (Rf 44), some (I x1), some (I x2), some (I x3), some (I x4), some (I x5)] [] (hp iv) = bck 0 (((625 : Nat) : Int) - 1) x5 (bck (-2147483648) 2147483647 x4 (Run sc 13 85 [some (Rf 44), some (I x1), some (I x2), some (I x3), some (I x4), some (I x5)] [] (hp (setO iv 48 (upI (iv 48) (Int.toNat x5) x4))))) :=
  (R_aload_n mc_13 dX0_reach_76 rfl).trans <|
  (R_getR mc_13 dX0_reach_77 mo_13 ft_0_25 rfl rfl (r := 48) rfl (by decide)).trans <|
  (R_iload mc_13 dX0_reach_80 rfl).trans <|
  (R_iload mc_13 dX0_reach_82 rfl).trans <|
  (R_iastore mc_13 dX0_reach_84 rfl).trans <| bck_congr <| bck_congr <|
  rfl
theorem B_X0_reach_85 (sc : Nat × (Nat → Int)) (iv : Nat → Nat → Int) (x1 : Int) (x2 : Int) (x3 : Int) (x4 : Int) (x5 : Int) : Run sc 13 85 [some (Rf 44), some (I x1), some (I x2), some (I x3), some (I x4), some (I x5)] [] (hp iv) = chk (x5 + 1) (bck (-2147483648) 2147483647 (x5 + 1) (Run sc 13 93 [some (Rf 44), some (I x1), some (I x2), some (I x3), some (I x4), some (I x5)] [] (hp (setO iv 44 (upI (iv 44) 5 (x5 + 1)))))) :=
  (R_aload_n mc_13 dX0_reach_85 rfl).trans <|
  (R_iload mc_13 dX0_reach_86 rfl).trans <|
  (R_iconst mc_13 dX0_reach_88 ⟨by decide, by decide⟩).trans <|
  (R_iadd mc_13 dX0_reach_89).trans <| chk_congr <|
  (R_putI mc_13 dX0_reach_90 mo_13 ft_0_77 rfl rfl rfl (lo := (-2147483648)) (hi := 2147483647) rfl rfl).trans <| bck_congr <|
  rfl
theorem B_X0_reach_93 (sc : Nat × (Nat → Int)) (iv : Nat → Nat → Int) (x1 : Int) (x2 : Int) (x3 : Int) (x4 : Int) (x5 : Int) : Run sc 13 93 [some (Rf 44), some (I x1), some (I x2), some (I x3), some (I x4), some (I x5)] [] (hp iv) = bck 0 1 1 (some (some (I 1), (hp iv))) :=
  (R_iconst mc_13 dX0_reach_93 ⟨by decide, by decide⟩).trans <|
  R_ireturnZ mc_13 dX0_reach_94 rfl
theorem B_X0_oddPointsOfGroup_0 (sc : Nat × (Nat → Int)) (iv : Nat → Nat → Int)  : Run sc 14 0 [some (Rf 44), none, none, none, none] [] (hp iv) = Run sc 14 4 [some (Rf 44), some (I 0), some (I 0), none, none] [] (hp iv) :=
  (R_iconst mc_14 dX0_oddPointsOfGroup_0 ⟨by decide, by decide⟩).trans <|
  (R_istore_n mc_14 dX0_oddPointsOfGroup_1 (Nat.le_of_ble_eq_true rfl)).trans <|
  (R_iconst mc_14 dX0_oddPointsOfGroup_2 ⟨by decide, by decide⟩).trans <|
  R_istore_n mc_14 dX0_oddPointsOfGroup_3 (Nat.le_of_ble_eq_true rfl)
theorem B_X0_oddPointsOfGroup_4 (sc : Nat × (Nat → Int)) (iv : Nat → Nat → Int) (x1 : Int) (x2 : Int) (d3 : Option AV) (d4 : Option AV) : Run sc 14 4 [some (Rf 44), some (I x1), some (I x2), d3, d4] [] (hp iv) = if x2 < (iv 44 5) then if x2 < 625 then bck 0 (((625 : Nat) : Int) - 1) x2 (bck 1 2147483647 25 (bck 0 2147483647 (iv 48 (Int.toNat x2)) (bck 0 (((625 : Nat) : Int) - 1) x2 (bck 1 2147483647 25 (bck 0 2147483647 (iv 48 (Int.toNat x2)) (aBind (Run sc 8 0 [some (Rf 44), some (I ((iv 48 (Int.toNat x2)) % 25)), some (I ((iv 48 (Int.toNat x2)) / 25))] [] (hp iv)) (fun v h2 => Run sc 14 48 [some (Rf 44), some (I x1), some (I x2), some (I ((iv 48 (Int.toNat x2)) % 25)), some (I ((iv 48 (Int.toNat x2)) / 25))] (pushR v [(I x1)]) h2))))))) else Run sc 14 65 [some (Rf 44), some (I x1), some (I x2), d3, d4] [] (hp iv) else Run sc 14 65 [some (Rf 44), some (I x1), some (I x2), d3, d4] [] (hp iv) :=
  (R_iload_n mc_14 dX0_oddPointsOfGroup_4 rfl).trans <|
  (R_aload_n mc_14 dX0_oddPointsOfGroup_5 rfl).trans <|
  (R_getI mc_14 dX0_oddPointsOfGroup_6 mo_14 ft_0_77 rfl rfl).trans <|
  (R_icmp_ge mc_14 dX0_oddPointsOfGroup_9 (t := 65) rfl).trans <| ite_c2
  ((R_iload_n mc_14 dX0_oddPointsOfGroup_12 rfl).trans <|
  (R_sipush mc_14 dX0_oddPointsOfGroup_13 ⟨by decide, by decide⟩).trans <|
  (R_icmp_ge mc_14 dX0_oddPointsOfGroup_16 (t := 65) rfl).trans <| ite_c2
  ((R_aload_n mc_14 dX0_oddPointsOfGroup_19 rfl).trans <|
  (R_getR mc_14 dX0_oddPointsOfGroup_20 mo_14 ft_0_25 rfl rfl (r := 48) rfl (by decide)).trans <|
  (R_iload_n mc_14 dX0_oddPointsOfGroup_23 rfl).trans <|
  (R_iaload mc_14 dX0_oddPointsOfGroup_24 rfl).trans <| bck_congr <|
  (R_bipush mc_14 dX0_oddPointsOfGroup_25 ⟨by decide, by decide⟩).trans <|
  (R_irem mc_14 dX0_oddPointsOfGroup_27).trans <| bck_congr <| bck_congr <|
  (R_istore_n mc_14 dX0_oddPointsOfGroup_28 (Nat.le_of_ble_eq_true rfl)).trans <|
  (R_aload_n mc_14 dX0_oddPointsOfGroup_29 rfl).trans <|
  (R_getR mc_14 dX0_oddPointsOfGroup_30 mo_14 ft_0_25 rfl rfl (r := 48) rfl (by decide)).trans <|
  (R_iload_n mc_14 dX0_oddPointsOfGroup_33 rfl).trans <|
  (R_iaload mc_14 dX0_oddPointsOfGroup_34 rfl).trans <| bck_congr <|
  (R_bipush mc_14 dX0_oddPointsOfGroup_35 ⟨by decide, by decide⟩).trans <|
  (R_idiv mc_14 dX0_oddPointsOfGroup_37).trans <| bck_congr <| bck_congr <|
  (R_istore mc_14 dX0_oddPointsOfGroup_38 (Nat.le_of_ble_eq_true rfl)).trans <|
  (R_iload_n mc_14 dX0_oddPointsOfGroup_40 rfl).trans <|
  (R_aload_n mc_14 dX0_oddPointsOfGroup_41 rfl).trans <|
  (R_iload_n mc_14 dX0_oddPointsOfGroup_42 rfl).trans <|
  (R_iload mc_14 dX0_oddPointsOfGroup_43 rfl).trans <|
  R_invV mc_14 dX0_oddPointsOfGroup_45 mo_14 ct_0_54 af_14_8 rfl rfl rfl ⟨Nat.le_of_ble_eq_true rfl, Nat.le_of_ble_eq_true rfl⟩)
  (rfl))
  (rfl)
theorem B_X0_oddPointsOfGroup_48 (sc : Nat × (Nat → Int)) (iv : Nat → Nat → Int) (x1 : Int) (x2 : Int) (x3 : Int) (x4 : Int) (s0 : Int) (s1 : Int) : Run sc 14 48 [some (Rf 44), some (I x1), some (I x2), some (I x3), some (I x4)] [(I s0), (I s1)] (hp iv) = chk (s1 + (s0 % (1 + 1))) (aBind (Run sc 15 0 [some (Rf 44), some (I x3), some (I x4)] [] (hp iv)) (fun v h2 => Run sc 14 59 [some (Rf 44), some (I (s1 + (s0 % (1 + 1)))), some (I x2), some (I x3), some (I x4)] (pushR v []) h2)) :=
  (R_iconst mc_14 dX0_oddPointsOfGroup_48 ⟨by decide, by decide⟩).trans <|
  (R_iand mc_14 dX0_oddPointsOfGroup_49 (by decide)).trans <|
  (R_iadd mc_14 dX0_oddPointsOfGroup_50).trans <| chk_congr <|
  (R_istore_n mc_14 dX0_oddPointsOfGroup_51 (Nat.le_of_ble_eq_true rfl)).trans <|
  (R_aload_n mc_14 dX0_oddPointsOfGroup_52 rfl).trans <|
  (R_iload_n mc_14 dX0_oddPointsOfGroup_53 rfl).trans <|
  (R_iload mc_14 dX0_oddPointsOfGroup_54 rfl).trans <|
  R_invV mc_14 dX0_oddPointsOfGroup_56 mo_14 ct_0_80 af_14_15 rfl rfl rfl ⟨Nat.le_of_ble_eq_true rfl, Nat.le_of_ble_eq_true rfl⟩
theorem B_X0_oddPointsOfGroup_59 (sc : Nat × (Nat → Int)) (iv : Nat → Nat → Int) (x1 : Int) (x2 : Int) (x3 : Int) (x4 : Int) : Run sc 14 59 [some (Rf 44), some (I x1), some (I x2), some (I x3), some (I x4)] [] (hp iv) = chk (x2 + 1) (Run sc 14 4 [some (Rf 44), some (I x1), some (I (x2 + 1)), some (I x3), some (I x4)] [] (hp iv)) :=
  (R_iinc mc_14 dX0_oddPointsOfGroup_59 rfl).trans <| chk_congr <|
  R_goto mc_14 dX0_oddPointsOfGroup_62 (t := 4) rfl
theorem B_X0_oddPointsOfGroup_65 (sc : Nat × (Nat → Int)) (iv : Nat → Nat → Int) (x1 : Int) (x2 : Int) (d3 : Option AV) (d4 : Option AV) : Run sc 14 65 [some (Rf 44), some (I x1), some (I x2), d3, d4] [] (hp iv) = some (some (I x1), (hp iv)) :=
  (R_iload_n mc_14 dX0_oddPointsOfGroup_65 rfl).trans <|
  R_ireturn mc_14 dX0_oddPointsOfGroup_66 rfl
theorem B_X0_reachNextPoints_0 (sc : Nat × (Nat → Int)) (iv : Nat → Nat → Int) (x1 : Int) (x2 : Int) : Run sc 15 0 [some (Rf 44), some (I x1), some (I x2)] [] (hp iv) = aBind (Run sc 4 0 [some (Rf 44), some (I x1), some (I x2), some (I 1), none] [] (hp iv)) (fun v h2 => Run sc 15 7 [some (Rf 44), some (I x1), some (I x2)] (pushR v []) h2) :=
  (R_aload_n mc_15 dX0_reachNextPoints_0 rfl).trans <|
  (R_iload_n mc_15 dX0_reachNextPoints_1 rfl).trans <|
  (R_iload_n mc_15 dX0_reachNextPoints_2 rfl).trans <|
  (R_iconst mc_15 dX0_reachNextPoints_3 ⟨by decide, by decide⟩).trans <|
  R_invV mc_15 dX0_reachNextPoints_4 mo_15 ct_0_42 af_15_4 rfl rfl rfl ⟨Nat.le_of_ble_eq_true rfl, Nat.le_of_ble_eq_true rfl⟩
theorem B_X0_reachNextPoints_7 (sc : Nat × (Nat → Int)) (iv : Nat → Nat → Int) (x1 : Int) (x2 : Int) (s0 : Int) : Run sc 15 7 [some (Rf 44), some (I x1), some (I x2)] [(I s0)] (hp iv) = if s0 = 1 then chk (x2 + 1) (aBind (Run sc 13 0 [some (Rf 44), some (I x1), some (I (x2 + 1)), some (I 0), none, none] [] (hp iv)) (fun v h2 => Run sc 15 20 [some (Rf 44), some (I x1), some (I x2)] (pushR v []) h2)) else Run sc 15 21 [some (Rf 44), some (I x1), some (I x2)] [] (hp iv) :=
  (R_iconst mc_15 dX0_reachNextPoints_7 ⟨by decide, by decide⟩).trans <|
  (R_icmp_ne mc_15 dX0_reachNextPoints_8 (t := 21) rfl).trans <| ite_c2
  ((R_aload_n mc_15 dX0_reachNextPoints_11 rfl).trans <|
  (R_iload_n mc_15 dX0_reachNextPoints_12 rfl).trans <|
  (R_iload_n mc_15 dX0_reachNextPoints_13 rfl).trans <|
  (R_iconst mc_15 dX0_reachNextPoints_14 ⟨by decide, by decide⟩).trans <|
  (R_iadd mc_15 dX0_reachNextPoints_15).trans <| chk_congr <|
  (R_iconst mc_15 dX0_reachNextPoints_16 ⟨by decide, by decide⟩).trans <|
  R_invV mc_15 dX0_reachNextPoints_17 mo_15 ct_0_61 af_15_13 rfl rfl rfl ⟨Nat.le_of_ble_eq_true rfl, Nat.le_of_ble_eq_true rfl⟩)
  (rfl)
theorem B_X0_reachNextPoints_20 (sc : Nat × (Nat → Int)) (iv : Nat → Nat → Int) (x1 : Int) (x2 : Int) (s0 : Int) : Run sc 15 20 [some (Rf 44), some (I x1), some (I x2)] [(I s0)] (hp iv) = Run sc 15 21 [some (Rf 44), some (I x1), some (I x2)] [] (hp iv) :=
  R_pop mc_15 dX0_reachNextPoints_20
theorem B_X0_reachNextPoints_21 (sc : Nat × (Nat → Int)) (iv : Nat → Nat → Int) (x1 : Int) (x2 : Int) : Run sc 15 21 [some (Rf 44), some (I x1), some (I x2)] [] (hp iv) = chk (x2 - 1) (aBind (Run sc 4 0 [some (Rf 44), some (I x1), some (I (x2 - 1)), some (I 1), none] [] (hp iv)) (fun v h2 => Run sc 15 30 [some (Rf 44), some (I x1), some (I x2)] (pushR v []) h2)) :=
  (R_aload_n mc_15 dX0_reachNextPoints_21 rfl).trans <|
  (R_iload_n mc_15 dX0_reachNextPoints_22 rfl).trans <|
  (R_iload_n mc_15 dX0_reachNextPoints_23 rfl).trans <|
  (R_iconst mc_15 dX0_reachNextPoints_24 ⟨by decide, by decide⟩).trans <|
  (R_isub mc_15 dX0_reachNextPoints_25).trans <| chk_congr <|
  (R_iconst mc_15 dX0_reachNextPoints_26 ⟨by decide, by decide⟩).trans <|
  R_invV mc_15 dX0_reachNextPoints_27 mo_15 ct_0_42 af_15_4 rfl rfl rfl ⟨Nat.le_of_ble_eq_true rfl, Nat.le_of_ble_eq_true rfl⟩
theorem B_X0_reachNextPoints_30 (sc : Nat × (Nat → Int)) (iv : Nat → Nat → Int) (x1 : Int) (x2 : Int) (s0 : Int) : Run sc 15 30 [some (Rf 44), some (I x1), some (I x2)] [(I s0)] (hp iv) = if s0 = 1 then chk (x2 - 1) (aBind (Run sc 13 0 [some (Rf 44), some (I x1), some (I (x2 - 1)), some (I 0), none, none] [] (hp iv)) (fun v h2 => Run sc 15 43 [some (Rf 44), some (I x1), some (I x2)] (pushR v []) h2)) else Run sc 15 44 [some (Rf 44), some (I x1), some (I x2)] [] (hp iv) :=
  (R_iconst mc_15 dX0_reachNextPoints_30 ⟨by decide, by decide⟩).trans <|
  (R_icmp_ne mc_15 dX0_reachNextPoints_31 (t := 44) rfl).trans <| ite_c2
  ((R_aload_n mc_15 dX0_reachNextPoints_34 rfl).trans <|
  (R_iload_n mc_15 dX0_reachNextPoints_35 rfl).trans <|
  (R_iload_n mc_15 dX0_reachNextPoints_36 rfl).trans <|
  (R_iconst mc_15 dX0_reachNextPoints_37 ⟨by decide, by decide⟩).trans <|
  (R_isub mc_15 dX0_reachNextPoints_38).trans <| chk_congr <|
  (R_iconst mc_15 dX0_reachNextPoints_39 ⟨by decide, by decide⟩).trans <|
  R_invV mc_15 dX0_reachNextPoints_40 mo_15 ct_0_61 af_15_13 rfl rfl rfl ⟨Nat.le_of_ble_eq_true rfl, Nat.le_of_ble_eq_true rfl⟩)
  (rfl)
theorem B_X0_reachNextPoints_43 (sc : Nat × (Nat → Int)) (iv : Nat → Nat → Int) (x1 : Int) (x2 : Int) (s0 : Int) : Run sc 15 43 [some (Rf 44), some (I x1), some (I x2)] [(I s0)] (hp iv) = Run sc 15 44 [some (Rf 44), some (I x1), some (I x2)] [] (hp iv) :=
  R_pop mc_15 dX0_reachNextPoints_43
theorem B_X0_reachNextPoints_44 (sc : Nat × (Nat → Int)) (iv : Nat → Nat → Int) (x1 : Int) (x2 : Int) : Run sc 15 44 [some (Rf 44), some (I x1), some (I x2)] [] (hp iv) = aBind (Run sc 4 0 [some (Rf 44), some (I x1), some (I x2), some (I 0), none] [] (hp iv)) (fun v h2 => Run sc 15 51 [some (Rf 44), some (I x1), some (I x2)] (pushR v []) h2) :=
  (R_aload_n mc_15 dX0_reachNextPoints_44 rfl).trans <|
  (R_iload_n mc_15 dX0_reachNextPoints_45 rfl).trans <|
  (R_iload_n mc_15 dX0_reachNextPoints_46 rfl).trans <|
  (R_iconst mc_15 dX0_reachNextPoints_47 ⟨by decide, by decide⟩).trans <|
  R_invV mc_15 dX0_reachNextPoints_48 mo_15 ct_0_42 af_15_4 rfl rfl rfl ⟨Nat.le_of_ble_eq_true rfl, Nat.le_of_ble_eq_true rfl⟩
theorem B_X0_reachNextPoints_51 (sc : Nat × (Nat → Int)) (iv : Nat → Nat → Int) (x1 : Int) (x2 : Int) (s0 : Int) : Run sc 15 51 [some (Rf 44), some (I x1), some (I x2)] [(I s0)] (hp iv) = if s0 = 1 then chk (x1 + 1) (aBind (Run sc 13 0 [some (Rf 44), some (I (x1 + 1)), some (I x2), some (I 0), none, none] [] (hp iv)) (fun v h2 => Run sc 15 64 [some (Rf 44), some (I x1), some (I x2)] (pushR v []) h2)) else Run sc 15 65 [some (Rf 44), some (I x1), some (I x2)] [] (hp iv) :=
  (R_iconst mc_15 dX0_reachNextPoints_51 ⟨by decide, by decide⟩).trans <|
  (R_icmp_ne mc_15 dX0_reachNextPoints_52 (t := 65) rfl).trans <| ite_c2
  ((R_aload_n mc_15 dX0_reachNextPoints_55 rfl).trans <|
  (R_iload_n mc_15 dX0_reachNextPoints_56 rfl).trans <|
  (R_iconst mc_15 dX0_reachNextPoints_57 ⟨by decide, by decide⟩).trans <|
  (R_iadd mc_15 dX0_reachNextPoints_58).trans <| chk_congr <|
  (R_iload_n mc_15 dX0_reachNextPoints_59 rfl).trans <|
  (R_iconst mc_15 dX0_reachNextPoints_60 ⟨by decide, by decide⟩).trans <|
  R_invV mc_15 dX0_reachNextPoints_61 mo_15 ct_0_61 af_15_13 rfl rfl rfl ⟨Nat.le_of_ble_eq_true rfl, Nat.le_of_ble_eq_true rfl⟩)
  (rfl)
theorem B_X0_reachNextPoints_64 (sc : Nat × (Nat → Int)) (iv : Nat → Nat → Int) (x1 : Int) (x2 : Int) (s0 : Int) : Run sc 15 64 [some (Rf 44), some (I x1), some (I x2)] [(I s0)] (hp iv) = Run sc 15 65 [some (Rf 44), some (I x1), some (I x2)] [] (hp iv) :=
  R_pop mc_15 dX0_reachNextPoints_64
theorem B_X0_reachNextPoints_65 (sc : Nat × (Nat → Int)) (iv : Nat → Nat → Int) (x1 : Int) (x2 : Int) : Run sc 15 65 [some (Rf 44), some (I x1), some (I x2)] [] (hp iv) = chk (x1 - 1) (aBind (Run sc 4 0 [some (Rf 44), some (I (x1 - 1)), some (I x2), some (I 0), none] [] (hp iv)) (fun v h2 => Run sc 15 74 [some (Rf 44), some (I x1), some (I x2)] (pushR v []) h2)) :=
  (R_aload_n mc_15 dX0_reachNextPoints_65 rfl).trans <|
  (R_iload_n mc_15 dX0_reachNextPoints_66 rfl).trans <|
  (R_iconst mc_15 dX0_reachNextPoints_67 ⟨by decide, by decide⟩).trans <|
  (R_isub mc_15 dX0_reachNextPoints_68).trans <| chk_congr <|
  (R_iload_n mc_15 dX0_reachNextPoints_69 rfl).trans <|
  (R_iconst mc_15 dX0_reachNextPoints_70 ⟨by decide, by decide⟩).trans <|
  R_invV mc_15 dX0_reachNextPoints_71 mo_15 ct_0_42 af_15_4 rfl rfl rfl ⟨Nat.le_of_ble_eq_true rfl, Nat.le_of_ble_eq_true rfl⟩
theorem B_X0_reachNextPoints_74 (sc : Nat × (Nat → Int)) (iv : Nat → Nat → Int) (x1 : Int) (x2 : Int) (s0 : Int) : Run sc 15 74 [some (Rf 44), some (I x1), some (I x2)] [(I s0)] (hp iv) = if s0 = 1 then chk (x1 - 1) (aBind (Run sc 13 0 [some (Rf 44), some (I (x1 - 1)), some (I x2), some (I 0), none, none] [] (hp iv)) (fun v h2 => Run sc 15 87 [some (Rf 44), some (I x1), some (I x2)] (pushR v []) h2)) else Run sc 15 88 [some (Rf 44), some (I x1), some (I x2)] [] (hp iv) :=
  (R_iconst mc_15 dX0_reachNextPoints_74 ⟨by decide, by decide⟩).trans <|
  (R_icmp_ne mc_15 dX0_reachNextPoints_75 (t := 88) rfl).trans <| ite_c2
  ((R_aload_n mc_15 dX0_reachNextPoints_78 rfl).trans <|
  (R_iload_n mc_15 dX0_reachNextPoints_79 rfl).trans <|
  (R_iconst mc_15 dX0_reachNextPoints_80 ⟨by decide, by decide⟩).trans <|
  (R_isub mc_15 dX0_reachNextPoints_81).trans <| chk_congr <|
  (R_iload_n mc_15 dX0_reachNextPoints_82 rfl).trans <|
  (R_iconst mc_15 dX0_reachNextPoints_83 ⟨by decide, by decide⟩).trans <|
  R_invV mc_15 dX0_reachNextPoints_84 mo_15 ct_0_61 af_15_13 rfl rfl rfl ⟨Nat.le_of_ble_eq_true rfl, Nat.le_of_ble_eq_true rfl⟩)
  (rfl)
theorem B_X0_reachNextPoints_87 (sc : Nat × (Nat → Int)) (iv : Nat → Nat → Int) (x1 : Int) (x2 : Int) (s0 : Int) : Run sc 15 87 [some (Rf 44), some (I x1), some (I x2)] [(I s0)] (hp iv) = Run sc 15 88 [some (Rf 44), some (I x1), some (I x2)] [] (hp iv) :=
  R_pop mc_15 dX0_reachNextPoints_87
theorem B_X0_reachNextPoints_88 (sc : Nat × (Nat → Int)) (iv : Nat → Nat → Int) (x1 : Int) (x2 : Int) : Run sc 15 88 [some (Rf 44), some (I x1), some (I x2)] [] (hp iv) = some (none, (hp iv)) :=
  R_return mc_15 dX0_reachNextPoints_88 rfl
