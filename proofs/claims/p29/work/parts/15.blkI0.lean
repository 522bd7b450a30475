theorem B_L_cell_0 (sc : Nat × (Nat → Int)) (iv : Nat → Nat → Int) (cs : List (Nat × Nat)) (x1 : Int) : Run sc 108 0 [some (Rf 0), some (I x1)] [] (hq cs iv) = if x1 < (sc.1 : Int) then bck 0 ((sc.1 : Int) - 1) x1 (Run sc 108 20 [some (Rf 0), some (I x1)] [(I (sc.2 (Int.toNat x1)))] (hq cs iv)) else Run sc 108 12 [some (Rf 0), some (I x1)] [] (hq cs iv) :=
  (R_iload_n mc_108 dL_cell_0 rfl).trans <|
  (R_aload_n mc_108 dL_cell_1 rfl).trans <|
  (R_scriptlen mc_108 dL_cell_2).trans <|
  (R_icmp_ge mc_108 dL_cell_3 (t := 12) rfl).trans <| ite_c2
  ((R_aload_n mc_108 dL_cell_6 rfl).trans <|
  (R_iload_n mc_108 dL_cell_7 rfl).trans <|
  (R_script mc_108 dL_cell_8).trans <| bck_congr <|
  R_goto mc_108 dL_cell_9 (t := 20) rfl)
  (rfl)
theorem B_L_cell_12 (sc : Nat × (Nat → Int)) (iv : Nat → Nat → Int) (cs : List (Nat × Nat)) (x1 : Int) : Run sc 108 12 [some (Rf 0), some (I x1)] [] (hq cs iv) = chk (5710007 * x1) (chk ((5710007 * x1) + 2203) (Run sc 108 20 [some (Rf 0), some (I x1)] [(I ((5710007 * x1) + 2203))] (hq cs iv))) :=
  (R_ldc mc_108 dL_cell_12 mo_108 rfl).trans <|
  (R_iload_n mc_108 dL_cell_14 rfl).trans <|
  (R_imul mc_108 dL_cell_15).trans <| chk_congr <|
  (R_sipush mc_108 dL_cell_16 ⟨by decide, by decide⟩).trans <|
  (R_iadd mc_108 dL_cell_19).trans <| chk_congr <|
  rfl
theorem B_L_cell_20 (sc : Nat × (Nat → Int)) (iv : Nat → Nat → Int) (cs : List (Nat × Nat)) (x1 : Int) (s0 : Int) : Run sc 108 20 [some (Rf 0), some (I x1)] [(I s0)] (hq cs iv) = some (some (I s0), (hq cs iv)) :=
  R_ireturn mc_108 dL_cell_20 rfl
theorem B_L_low_0 (sc : Nat × (Nat → Int)) (iv : Nat → Nat → Int) (cs : List (Nat × Nat)) (x0 : Int) (x1 : Int) : Run sc 109 0 [some (I x0), some (I x1)] [] (hq cs iv) = bck 1 2147483647 x1 (bck 0 2147483647 (x0 % (2147483647 + 1)) (some (some (I ((x0 % (2147483647 + 1)) % x1)), (hq cs iv)))) :=
  (R_iload_n mc_109 dL_low_0 rfl).trans <|
  (R_ldc mc_109 dL_low_1 mo_109 rfl).trans <|
  (R_iand mc_109 dL_low_3 (by decide)).trans <|
  (R_iload_n mc_109 dL_low_4 rfl).trans <|
  (R_irem mc_109 dL_low_5).trans <| bck_congr <| bck_congr <|
  R_ireturn mc_109 dL_low_6 rfl
theorem B_L_size_0 (sc : Nat × (Nat → Int)) (iv : Nat → Nat → Int) (cs : List (Nat × Nat)) (x0 : Int) : Run sc 110 0 [some (I x0)] [] (hq cs iv) = if x0 < 0 then chk (-x0) (Run sc 110 10 [some (I x0)] [(I (-x0))] (hq cs iv)) else Run sc 110 9 [some (I x0)] [] (hq cs iv) :=
  (R_iload_n mc_110 dL_size_0 rfl).trans <|
  (R_if_ge mc_110 dL_size_1 (t := 9) rfl).trans <| ite_c2
  ((R_iload_n mc_110 dL_size_4 rfl).trans <|
  (R_ineg mc_110 dL_size_5).trans <| chk_congr <|
  R_goto mc_110 dL_size_6 (t := 10) rfl)
  (rfl)
theorem B_L_size_9 (sc : Nat × (Nat → Int)) (iv : Nat → Nat → Int) (cs : List (Nat × Nat)) (x0 : Int) : Run sc 110 9 [some (I x0)] [] (hq cs iv) = Run sc 110 10 [some (I x0)] [(I x0)] (hq cs iv) :=
  R_iload_n mc_110 dL_size_9 rfl
theorem B_L_size_10 (sc : Nat × (Nat → Int)) (iv : Nat → Nat → Int) (cs : List (Nat × Nat)) (x0 : Int) (s0 : Int) : Run sc 110 10 [some (I x0)] [(I s0)] (hq cs iv) = some (some (I s0), (hq cs iv)) :=
  R_ireturn mc_110 dL_size_10 rfl
theorem B_L_lone_0 (sc : Nat × (Nat → Int)) (iv : Nat → Nat → Int) (cs : List (Nat × Nat)) (x1 : Int) (x2 : Int) : Run sc 113 0 [some (Rf 1), some (I x1), some (I x2), none, none] [] (hq cs iv) = aBind (Run sc 83 0 [some (Rf 1), some (I x1), some (I x2)] [] (hq cs iv)) (fun v h2 => Run sc 113 6 [some (Rf 1), some (I x1), some (I x2), none, none] (pushR v []) h2) :=
  (R_aload_n mc_113 dL_lone_0 rfl).trans <|
  (R_iload_n mc_113 dL_lone_1 rfl).trans <|
  (R_iload_n mc_113 dL_lone_2 rfl).trans <|
  R_invV mc_113 dL_lone_3 mo_113 ct_7_15 af_113_83 rfl rfl rfl ⟨Nat.le_of_ble_eq_true rfl, Nat.le_of_ble_eq_true rfl⟩
theorem B_L_lone_6 (sc : Nat × (Nat → Int)) (iv : Nat → Nat → Int) (cs : List (Nat × Nat)) (x1 : Int) (x2 : Int) (d3 : Option AV) (d4 : Option AV) (s0 : Int) : Run sc 113 6 [some (Rf 1), some (I x1), some (I x2), d3, d4] [(I s0)] (hq cs iv) = Run sc 113 10 [some (Rf 1), some (I x1), some (I x2), some (I s0), some (I 0)] [] (hq cs iv) :=
  (R_istore_n mc_113 dL_lone_6 (Nat.le_of_ble_eq_true rfl)).trans <|
  (R_iconst mc_113 dL_lone_7 ⟨by decide, by decide⟩).trans <|
  R_istore mc_113 dL_lone_8 (Nat.le_of_ble_eq_true rfl)
theorem B_L_lone_10 (sc : Nat × (Nat → Int)) (iv : Nat → Nat → Int) (cs : List (Nat × Nat)) (x1 : Int) (x2 : Int) (x3 : Int) (x4 : Int) : Run sc 113 10 [some (Rf 1), some (I x1), some (I x2), some (I x3), some (I x4)] [] (hq cs iv) = if x4 < 9 then if x4 = 4 then Run sc 113 53 [some (Rf 1), some (I x1), some (I x2), some (I x3), some (I x4)] [] (hq cs iv) else if 0 < x3 then bck 1 2147483647 3 (bck 0 2147483647 x4 (chk (x1 + (x4 % 3)) (chk ((x1 + (x4 % 3)) - 1) (bck 1 2147483647 3 (bck 0 2147483647 x4 (chk (x2 + (x4 / 3)) (chk ((x2 + (x4 / 3)) - 1) (aBind (Run sc 83 0 [some (Rf 1), some (I ((x1 + (x4 % 3)) - 1)), some (I ((x2 + (x4 / 3)) - 1))] [] (hq cs iv)) (fun v h2 => Run sc 113 47 [some (Rf 1), some (I x1), some (I x2), some (I x3), some (I x4)] (pushR v []) h2))))))))) else Run sc 113 53 [some (Rf 1), some (I x1), some (I x2), some (I x3), some (I x4)] [] (hq cs iv) else Run sc 113 59 [some (Rf 1), some (I x1), some (I x2), some (I x3), some (I x4)] [] (hq cs iv) :=
  (R_iload mc_113 dL_lone_10 rfl).trans <|
  (R_bipush mc_113 dL_lone_12 ⟨by decide, by decide⟩).trans <|
  (R_icmp_ge mc_113 dL_lone_14 (t := 59) rfl).trans <| ite_c2
  ((R_iload mc_113 dL_lone_17 rfl).trans <|
  (R_iconst mc_113 dL_lone_19 ⟨by decide, by decide⟩).trans <|
  (R_icmp_eq mc_113 dL_lone_20 (t := 53) rfl).trans <| ite_c2
  (rfl)
  ((R_iload_n mc_113 dL_lone_23 rfl).trans <|
  (R_if_le mc_113 dL_lone_24 (t := 53) rfl).trans <| ite_c2
  ((R_aload_n mc_113 dL_lone_27 rfl).trans <|
  (R_iload_n mc_113 dL_lone_28 rfl).trans <|
  (R_iload mc_113 dL_lone_29 rfl).trans <|
  (R_iconst mc_113 dL_lone_31 ⟨by decide, by decide⟩).trans <|
  (R_irem mc_113 dL_lone_32).trans <| bck_congr <| bck_congr <|
  (R_iadd mc_113 dL_lone_33).trans <| chk_congr <|
  (R_iconst mc_113 dL_lone_34 ⟨by decide, by decide⟩).trans <|
  (R_isub mc_113 dL_lone_35).trans <| chk_congr <|
  (R_iload_n mc_113 dL_lone_36 rfl).trans <|
  (R_iload mc_113 dL_lone_37 rfl).trans <|
  (R_iconst mc_113 dL_lone_39 ⟨by decide, by decide⟩).trans <|
  (R_idiv mc_113 dL_lone_40).trans <| bck_congr <| bck_congr <|
  (R_iadd mc_113 dL_lone_41).trans <| chk_congr <|
  (R_iconst mc_113 dL_lone_42 ⟨by decide, by decide⟩).trans <|
  (R_isub mc_113 dL_lone_43).trans <| chk_congr <|
  R_invV mc_113 dL_lone_44 mo_113 ct_7_15 af_113_83 rfl rfl rfl ⟨Nat.le_of_ble_eq_true rfl, Nat.le_of_ble_eq_true rfl⟩)
  (rfl)))
  (rfl)
theorem B_L_lone_47 (sc : Nat × (Nat → Int)) (iv : Nat → Nat → Int) (cs : List (Nat × Nat)) (x1 : Int) (x2 : Int) (x3 : Int) (x4 : Int) (s0 : Int) : Run sc 113 47 [some (Rf 1), some (I x1), some (I x2), some (I x3), some (I x4)] [(I s0)] (hq cs iv) = if s0 = x3 then some (some (I 0), (hq cs iv)) else Run sc 113 53 [some (Rf 1), some (I x1), some (I x2), some (I x3), some (I x4)] [] (hq cs iv) :=
  (R_iload_n mc_113 dL_lone_47 rfl).trans <|
  (R_icmp_ne mc_113 dL_lone_48 (t := 53) rfl).trans <| ite_c2
  ((R_iconst mc_113 dL_lone_51 ⟨by decide, by decide⟩).trans <|
  R_ireturn mc_113 dL_lone_52 rfl)
  (rfl)
theorem B_L_lone_53 (sc : Nat × (Nat → Int)) (iv : Nat → Nat → Int) (cs : List (Nat × Nat)) (x1 : Int) (x2 : Int) (x3 : Int) (x4 : Int) : Run sc 113 53 [some (Rf 1), some (I x1), some (I x2), some (I x3), some (I x4)] [] (hq cs iv) = chk (x4 + 1) (Run sc 113 10 [some (Rf 1), some (I x1), some (I x2), some (I x3), some (I (x4 + 1))] [] (hq cs iv)) :=
  (R_iinc mc_113 dL_lone_53 rfl).trans <| chk_congr <|
  R_goto mc_113 dL_lone_56 (t := 10) rfl
theorem B_L_lone_59 (sc : Nat × (Nat → Int)) (iv : Nat → Nat → Int) (cs : List (Nat × Nat)) (x1 : Int) (x2 : Int) (x3 : Int) (x4 : Int) : Run sc 113 59 [some (Rf 1), some (I x1), some (I x2), some (I x3), some (I x4)] [] (hq cs iv) = if 0 < x3 then Run sc 113 68 [some (Rf 1), some (I x1), some (I x2), some (I x3), some (I x4)] [(I 1)] (hq cs iv) else Run sc 113 67 [some (Rf 1), some (I x1), some (I x2), some (I x3), some (I x4)] [] (hq cs iv) :=
  (R_iload_n mc_113 dL_lone_59 rfl).trans <|
  (R_if_le mc_113 dL_lone_60 (t := 67) rfl).trans <| ite_c2
  ((R_iconst mc_113 dL_lone_63 ⟨by decide, by decide⟩).trans <|
  R_goto mc_113 dL_lone_64 (t := 68) rfl)
  (rfl)
theorem B_L_lone_67 (sc : Nat × (Nat → Int)) (iv : Nat → Nat → Int) (cs : List (Nat × Nat)) (x1 : Int) (x2 : Int) (x3 : Int) (x4 : Int) : Run sc 113 67 [some (Rf 1), some (I x1), some (I x2), some (I x3), some (I x4)] [] (hq cs iv) = Run sc 113 68 [some (Rf 1), some (I x1), some (I x2), some (I x3), some (I x4)] [(I 0)] (hq cs iv) :=
  R_iconst mc_113 dL_lone_67 ⟨by decide, by decide⟩
theorem B_L_lone_68 (sc : Nat × (Nat → Int)) (iv : Nat → Nat → Int) (cs : List (Nat × Nat)) (x1 : Int) (x2 : Int) (x3 : Int) (x4 : Int) (s0 : Int) : Run sc 113 68 [some (Rf 1), some (I x1), some (I x2), some (I x3), some (I x4)] [(I s0)] (hq cs iv) = some (some (I s0), (hq cs iv)) :=
  R_ireturn mc_113 dL_lone_68 rfl
theorem B_L_at_0 (sc : Nat × (Nat → Int)) (iv : Nat → Nat → Int) (cs : List (Nat × Nat)) (x1 : Int) (x2 : Int) : Run sc 116 0 [some (Rf 1), some (I x1), some (I x2), none] [] (hq cs iv) = aBind (Run sc 94 0 [some (Rf 1), some (I x1), some (I x2), some (I 1)] [] (hq cs iv)) (fun v h2 => Run sc 116 7 [some (Rf 1), some (I x1), some (I x2), none] (pushR v []) h2) :=
  (R_aload_n mc_116 dL_at_0 rfl).trans <|
  (R_iload_n mc_116 dL_at_1 rfl).trans <|
  (R_iload_n mc_116 dL_at_2 rfl).trans <|
  (R_iconst mc_116 dL_at_3 ⟨by decide, by decide⟩).trans <|
  R_invV mc_116 dL_at_4 mo_116 ct_7_41 af_116_94 rfl rfl rfl ⟨Nat.le_of_ble_eq_true rfl, Nat.le_of_ble_eq_true rfl⟩
theorem B_L_at_7 (sc : Nat × (Nat → Int)) (iv : Nat → Nat → Int) (cs : List (Nat × Nat)) (x1 : Int) (x2 : Int) (d3 : Option AV) (s0 : Int) : Run sc 116 7 [some (Rf 1), some (I x1), some (I x2), d3] [(I s0)] (hq cs iv) = if s0 = 1 then Run sc 116 16 [some (Rf 1), some (I x1), some (I x2), d3] [(I 1)] (hq cs iv) else Run sc 116 15 [some (Rf 1), some (I x1), some (I x2), d3] [] (hq cs iv) :=
  (R_iconst mc_116 dL_at_7 ⟨by decide, by decide⟩).trans <|
  (R_icmp_ne mc_116 dL_at_8 (t := 15) rfl).trans <| ite_c2
  ((R_iconst mc_116 dL_at_11 ⟨by decide, by decide⟩).trans <|
  R_goto mc_116 dL_at_12 (t := 16) rfl)
  (rfl)
theorem B_L_at_15 (sc : Nat × (Nat → Int)) (iv : Nat → Nat → Int) (cs : List (Nat × Nat)) (x1 : Int) (x2 : Int) (d3 : Option AV) : Run sc 116 15 [some (Rf 1), some (I x1), some (I x2), d3] [] (hq cs iv) = Run sc 116 16 [some (Rf 1), some (I x1), some (I x2), d3] [(I 0)] (hq cs iv) :=
  R_iconst mc_116 dL_at_15 ⟨by decide, by decide⟩
theorem B_L_at_16 (sc : Nat × (Nat → Int)) (iv : Nat → Nat → Int) (cs : List (Nat × Nat)) (x1 : Int) (x2 : Int) (d3 : Option AV) (s0 : Int) : Run sc 116 16 [some (Rf 1), some (I x1), some (I x2), d3] [(I s0)] (hq cs iv) = aBind (Run sc 94 0 [some (Rf 1), some (I x1), some (I x2), some (I 0)] [] (hq cs iv)) (fun v h2 => Run sc 116 25 [some (Rf 1), some (I x1), some (I x2), some (I s0)] (pushR v [(I s0)]) h2) :=
  (R_istore_n mc_116 dL_at_16 (Nat.le_of_ble_eq_true rfl)).trans <|
  (R_iload_n mc_116 dL_at_17 rfl).trans <|
  (R_aload_n mc_116 dL_at_18 rfl).trans <|
  (R_iload_n mc_116 dL_at_19 rfl).trans <|
  (R_iload_n mc_116 dL_at_20 rfl).trans <|
  (R_iconst mc_116 dL_at_21 ⟨by decide, by decide⟩).trans <|
  R_invV mc_116 dL_at_22 mo_116 ct_7_41 af_116_94 rfl rfl rfl ⟨Nat.le_of_ble_eq_true rfl, Nat.le_of_ble_eq_true rfl⟩
theorem B_L_at_25 (sc : Nat × (Nat → Int)) (iv : Nat → Nat → Int) (cs : List (Nat × Nat)) (x1 : Int) (x2 : Int) (x3 : Int) (s0 : Int) (s1 : Int) : Run sc 116 25 [some (Rf 1), some (I x1), some (I x2), some (I x3)] [(I s0), (I s1)] (hq cs iv) = if s0 = 1 then Run sc 116 34 [some (Rf 1), some (I x1), some (I x2), some (I x3)] [(I 1), (I s1)] (hq cs iv) else Run sc 116 33 [some (Rf 1), some (I x1), some (I x2), some (I x3)] [(I s1)] (hq cs iv) :=
  (R_iconst mc_116 dL_at_25 ⟨by decide, by decide⟩).trans <|
  (R_icmp_ne mc_116 dL_at_26 (t := 33) rfl).trans <| ite_c2
  ((R_iconst mc_116 dL_at_29 ⟨by decide, by decide⟩).trans <|
  R_goto mc_116 dL_at_30 (t := 34) rfl)
  (rfl)
theorem B_L_at_33 (sc : Nat × (Nat → Int)) (iv : Nat → Nat → Int) (cs : List (Nat × Nat)) (x1 : Int) (x2 : Int) (x3 : Int) (s0 : Int) : Run sc 116 33 [some (Rf 1), some (I x1), some (I x2), some (I x3)] [(I s0)] (hq cs iv) = Run sc 116 34 [some (Rf 1), some (I x1), some (I x2), some (I x3)] [(I 0), (I s0)] (hq cs iv) :=
  R_iconst mc_116 dL_at_33 ⟨by decide, by decide⟩
theorem B_L_at_34 (sc : Nat × (Nat → Int)) (iv : Nat → Nat → Int) (cs : List (Nat × Nat)) (x1 : Int) (x2 : Int) (x3 : Int) (s0 : Int) (s1 : Int) : Run sc 116 34 [some (Rf 1), some (I x1), some (I x2), some (I x3)] [(I s0), (I s1)] (hq cs iv) = chk (s1 + s0) (chk (x2 - 1) (aBind (Run sc 94 0 [some (Rf 1), some (I x1), some (I (x2 - 1)), some (I 1)] [] (hq cs iv)) (fun v h2 => Run sc 116 46 [some (Rf 1), some (I x1), some (I x2), some (I (s1 + s0))] (pushR v [(I (s1 + s0))]) h2))) :=
  (R_iadd mc_116 dL_at_34).trans <| chk_congr <|
  (R_istore_n mc_116 dL_at_35 (Nat.le_of_ble_eq_true rfl)).trans <|
  (R_iload_n mc_116 dL_at_36 rfl).trans <|
  (R_aload_n mc_116 dL_at_37 rfl).trans <|
  (R_iload_n mc_116 dL_at_38 rfl).trans <|
  (R_iload_n mc_116 dL_at_39 rfl).trans <|
  (R_iconst mc_116 dL_at_40 ⟨by decide, by decide⟩).trans <|
  (R_isub mc_116 dL_at_41).trans <| chk_congr <|
  (R_iconst mc_116 dL_at_42 ⟨by decide, by decide⟩).trans <|
  R_invV mc_116 dL_at_43 mo_116 ct_7_41 af_116_94 rfl rfl rfl ⟨Nat.le_of_ble_eq_true rfl, Nat.le_of_ble_eq_true rfl⟩
theorem B_L_at_46 (sc : Nat × (Nat → Int)) (iv : Nat → Nat → Int) (cs : List (Nat × Nat)) (x1 : Int) (x2 : Int) (x3 : Int) (s0 : Int) (s1 : Int) : Run sc 116 46 [some (Rf 1), some (I x1), some (I x2), some (I x3)] [(I s0), (I s1)] (hq cs iv) = if s0 = 1 then Run sc 116 55 [some (Rf 1), some (I x1), some (I x2), some (I x3)] [(I 1), (I s1)] (hq cs iv) else Run sc 116 54 [some (Rf 1), some (I x1), some (I x2), some (I x3)] [(I s1)] (hq cs iv) :=
  (R_iconst mc_116 dL_at_46 ⟨by decide, by decide⟩).trans <|
  (R_icmp_ne mc_116 dL_at_47 (t := 54) rfl).trans <| ite_c2
  ((R_iconst mc_116 dL_at_50 ⟨by decide, by decide⟩).trans <|
  R_goto mc_116 dL_at_51 (t := 55) rfl)
  (rfl)
theorem B_L_at_54 (sc : Nat × (Nat → Int)) (iv : Nat → Nat → Int) (cs : List (Nat × Nat)) (x1 : Int) (x2 : Int) (x3 : Int) (s0 : Int) : Run sc 116 54 [some (Rf 1), some (I x1), some (I x2), some (I x3)] [(I s0)] (hq cs iv) = Run sc 116 55 [some (Rf 1), some (I x1), some (I x2), some (I x3)] [(I 0), (I s0)] (hq cs iv) :=
  R_iconst mc_116 dL_at_54 ⟨by decide, by decide⟩
theorem B_L_at_55 (sc : Nat × (Nat → Int)) (iv : Nat → Nat → Int) (cs : List (Nat × Nat)) (x1 : Int) (x2 : Int) (x3 : Int) (s0 : Int) (s1 : Int) : Run sc 116 55 [some (Rf 1), some (I x1), some (I x2), some (I x3)] [(I s0), (I s1)] (hq cs iv) = chk (s1 + s0) (chk (x1 - 1) (aBind (Run sc 94 0 [some (Rf 1), some (I (x1 - 1)), some (I x2), some (I 0)] [] (hq cs iv)) (fun v h2 => Run sc 116 67 [some (Rf 1), some (I x1), some (I x2), some (I (s1 + s0))] (pushR v [(I (s1 + s0))]) h2))) :=
  (R_iadd mc_116 dL_at_55).trans <| chk_congr <|
  (R_istore_n mc_116 dL_at_56 (Nat.le_of_ble_eq_true rfl)).trans <|
  (R_iload_n mc_116 dL_at_57 rfl).trans <|
  (R_aload_n mc_116 dL_at_58 rfl).trans <|
  (R_iload_n mc_116 dL_at_59 rfl).trans <|
  (R_iconst mc_116 dL_at_60 ⟨by decide, by decide⟩).trans <|
  (R_isub mc_116 dL_at_61).trans <| chk_congr <|
  (R_iload_n mc_116 dL_at_62 rfl).trans <|
  (R_iconst mc_116 dL_at_63 ⟨by decide, by decide⟩).trans <|
  R_invV mc_116 dL_at_64 mo_116 ct_7_41 af_116_94 rfl rfl rfl ⟨Nat.le_of_ble_eq_true rfl, Nat.le_of_ble_eq_true rfl⟩
theorem B_L_at_67 (sc : Nat × (Nat → Int)) (iv : Nat → Nat → Int) (cs : List (Nat × Nat)) (x1 : Int) (x2 : Int) (x3 : Int) (s0 : Int) (s1 : Int) : Run sc 116 67 [some (Rf 1), some (I x1), some (I x2), some (I x3)] [(I s0), (I s1)] (hq cs iv) = if s0 = 1 then Run sc 116 76 [some (Rf 1), some (I x1), some (I x2), some (I x3)] [(I 1), (I s1)] (hq cs iv) else Run sc 116 75 [some (Rf 1), some (I x1), some (I x2), some (I x3)] [(I s1)] (hq cs iv) :=
  (R_iconst mc_116 dL_at_67 ⟨by decide, by decide⟩).trans <|
  (R_icmp_ne mc_116 dL_at_68 (t := 75) rfl).trans <| ite_c2
  ((R_iconst mc_116 dL_at_71 ⟨by decide, by decide⟩).trans <|
  R_goto mc_116 dL_at_72 (t := 76) rfl)
  (rfl)
theorem B_L_at_75 (sc : Nat × (Nat → Int)) (iv : Nat → Nat → Int) (cs : List (Nat × Nat)) (x1 : Int) (x2 : Int) (x3 : Int) (s0 : Int) : Run sc 116 75 [some (Rf 1), some (I x1), some (I x2), some (I x3)] [(I s0)] (hq cs iv) = Run sc 116 76 [some (Rf 1), some (I x1), some (I x2), some (I x3)] [(I 0), (I s0)] (hq cs iv) :=
  R_iconst mc_116 dL_at_75 ⟨by decide, by decide⟩
theorem B_L_at_76 (sc : Nat × (Nat → Int)) (iv : Nat → Nat → Int) (cs : List (Nat × Nat)) (x1 : Int) (x2 : Int) (x3 : Int) (s0 : Int) (s1 : Int) : Run sc 116 76 [some (Rf 1), some (I x1), some (I x2), some (I x3)] [(I s0), (I s1)] (hq cs iv) = chk (s1 + s0) (some (some (I (s1 + s0)), (hq cs iv))) :=
  (R_iadd mc_116 dL_at_76).trans <| chk_congr <|
  R_ireturn mc_116 dL_at_77 rfl
theorem B_L_nearest_0 (sc : Nat × (Nat → Int)) (iv : Nat → Nat → Int) (cs : List (Nat × Nat)) (x1 : Int) : Run sc 112 0 [some (Rf 1), some (I x1), none, none, none, none, none, none, none, none] [] (hq cs iv) = aBind (Run sc 84 0 [some (Rf 1), some (I x1), some (I 2), none, none] [] (hq cs iv)) (fun v h2 => Run sc 112 6 [some (Rf 1), some (I x1), none, none, none, none, none, none, none, none] (pushR v []) h2) :=
  (R_aload_n mc_112 dL_nearest_0 rfl).trans <|
  (R_iload_n mc_112 dL_nearest_1 rfl).trans <|
  (R_iconst mc_112 dL_nearest_2 ⟨by decide, by decide⟩).trans <|
  R_invV mc_112 dL_nearest_3 mo_112 ct_7_9 af_112_84 rfl rfl rfl ⟨Nat.le_of_ble_eq_true rfl, Nat.le_of_ble_eq_true rfl⟩
theorem B_L_nearest_6 (sc : Nat × (Nat → Int)) (iv : Nat → Nat → Int) (cs : List (Nat × Nat)) (x1 : Int) (d2 : Option AV) (d3 : Option AV) (d4 : Option AV) (d5 : Option AV) (d6 : Option AV) (d7 : Option AV) (d8 : Option AV) (d9 : Option AV) (s0 : Int) : Run sc 112 6 [some (Rf 1), some (I x1), d2, d3, d4, d5, d6, d7, d8, d9] [(I s0)] (hq cs iv) = if 40 < s0 then bck 0 1 1 (some (some (I 1), (hq cs iv))) else Run sc 112 15 [some (Rf 1), some (I x1), some (I s0), d3, d4, d5, d6, d7, d8, d9] [] (hq cs iv) :=
  (R_istore_n mc_112 dL_nearest_6 (Nat.le_of_ble_eq_true rfl)).trans <|
  (R_iload_n mc_112 dL_nearest_7 rfl).trans <|
  (R_bipush mc_112 dL_nearest_8 ⟨by decide, by decide⟩).trans <|
  (R_icmp_le mc_112 dL_nearest_10 (t := 15) rfl).trans <| ite_c2
  ((R_iconst mc_112 dL_nearest_13 ⟨by decide, by decide⟩).trans <|
  R_ireturnZ mc_112 dL_nearest_14 rfl)
  (rfl)
theorem B_L_nearest_15 (sc : Nat × (Nat → Int)) (iv : Nat → Nat → Int) (cs : List (Nat × Nat)) (x1 : Int) (x2 : Int) (d3 : Option AV) (d4 : Option AV) (d5 : Option AV) (d6 : Option AV) (d7 : Option AV) (d8 : Option AV) (d9 : Option AV) : Run sc 112 15 [some (Rf 1), some (I x1), some (I x2), d3, d4, d5, d6, d7, d8, d9] [] (hq cs iv) = Run sc 112 17 [some (Rf 1), some (I x1), some (I x2), some (I 0), d4, d5, d6, d7, d8, d9] [] (hq cs iv) :=
  (R_iconst mc_112 dL_nearest_15 ⟨by decide, by decide⟩).trans <|
  R_istore_n mc_112 dL_nearest_16 (Nat.le_of_ble_eq_true rfl)
theorem B_L_nearest_17 (sc : Nat × (Nat → Int)) (iv : Nat → Nat → Int) (cs : List (Nat × Nat)) (x1 : Int) (x2 : Int) (x3 : Int) (d4 : Option AV) (d5 : Option AV) (d6 : Option AV) (d7 : Option AV) (d8 : Option AV) (d9 : Option AV) : Run sc 112 17 [some (Rf 1), some (I x1), some (I x2), some (I x3), d4, d5, d6, d7, d8, d9] [] (hq cs iv) = if x3 < x2 then if x3 = 0 then Run sc 112 35 [some (Rf 1), some (I x1), some (I x2), some (I x3), d4, d5, d6, d7, d8, d9] [(I 0), (I x1), (Rf 1)] (hq cs iv) else Run sc 112 32 [some (Rf 1), some (I x1), some (I x2), some (I x3), d4, d5, d6, d7, d8, d9] [(I x1), (Rf 1)] (hq cs iv) else Run sc 112 204 [some (Rf 1), some (I x1), some (I x2), some (I x3), d4, d5, d6, d7, d8, d9] [] (hq cs iv) :=
  (R_iload_n mc_112 dL_nearest_17 rfl).trans <|
  (R_iload_n mc_112 dL_nearest_18 rfl).trans <|
  (R_icmp_ge mc_112 dL_nearest_19 (t := 204) rfl).trans <| ite_c2
  ((R_aload_n mc_112 dL_nearest_22 rfl).trans <|
  (R_iload_n mc_112 dL_nearest_23 rfl).trans <|
  (R_iload_n mc_112 dL_nearest_24 rfl).trans <|
  (R_if_ne mc_112 dL_nearest_25 (t := 32) rfl).trans <| ite_c2
  ((R_iconst mc_112 dL_nearest_28 ⟨by decide, by decide⟩).trans <|
  R_goto mc_112 dL_nearest_29 (t := 35) rfl)
  (rfl))
  (rfl)
theorem B_L_nearest_32 (sc : Nat × (Nat → Int)) (iv : Nat → Nat → Int) (cs : List (Nat × Nat)) (x1 : Int) (x2 : Int) (x3 : Int) (d4 : Option AV) (d5 : Option AV) (d6 : Option AV) (d7 : Option AV) (d8 : Option AV) (d9 : Option AV) (s0 : Int) : Run sc 112 32 [some (Rf 1), some (I x1), some (I x2), some (I x3), d4, d5, d6, d7, d8, d9] [(I s0), (Rf 1)] (hq cs iv) = chk (x3 - 1) (Run sc 112 35 [some (Rf 1), some (I x1), some (I x2), some (I x3), d4, d5, d6, d7, d8, d9] [(I (x3 - 1)), (I s0), (Rf 1)] (hq cs iv)) :=
  (R_iload_n mc_112 dL_nearest_32 rfl).trans <|
  (R_iconst mc_112 dL_nearest_33 ⟨by decide, by decide⟩).trans <|
  (R_isub mc_112 dL_nearest_34).trans <| chk_congr <|
  rfl
theorem B_L_nearest_35 (sc : Nat × (Nat → Int)) (iv : Nat → Nat → Int) (cs : List (Nat × Nat)) (x1 : Int) (x2 : Int) (x3 : Int) (d4 : Option AV) (d5 : Option AV) (d6 : Option AV) (d7 : Option AV) (d8 : Option AV) (d9 : Option AV) (s0 : Int) (s1 : Int) : Run sc 112 35 [some (Rf 1), some (I x1), some (I x2), some (I x3), d4, d5, d6, d7, d8, d9] [(I s0), (I s1), (Rf 1)] (hq cs iv) = aBind (Run sc 88 0 [some (Rf 1), some (I s1), some (I s0), none] [] (hq cs iv)) (fun v h2 => Run sc 112 38 [some (Rf 1), some (I x1), some (I x2), some (I x3), d4, d5, d6, d7, d8, d9] (pushR v []) h2) :=
  R_invV mc_112 dL_nearest_35 mo_112 ct_7_22 af_112_88 rfl rfl rfl ⟨Nat.le_of_ble_eq_true rfl, Nat.le_of_ble_eq_true rfl⟩
theorem B_L_nearest_38 (sc : Nat × (Nat → Int)) (iv : Nat → Nat → Int) (cs : List (Nat × Nat)) (x1 : Int) (x2 : Int) (x3 : Int) (d4 : Option AV) (d5 : Option AV) (d6 : Option AV) (d7 : Option AV) (d8 : Option AV) (d9 : Option AV) (s0 : Int) : Run sc 112 38 [some (Rf 1), some (I x1), some (I x2), some (I x3), d4, d5, d6, d7, d8, d9] [(I s0)] (hq cs iv) = aBind (Run sc 88 0 [some (Rf 1), some (I x1), some (I x3), none] [] (hq cs iv)) (fun v h2 => Run sc 112 46 [some (Rf 1), some (I x1), some (I x2), some (I x3), some (I s0), d5, d6, d7, d8, d9] (pushR v []) h2) :=
  (R_istore mc_112 dL_nearest_38 (Nat.le_of_ble_eq_true rfl)).trans <|
  (R_aload_n mc_112 dL_nearest_40 rfl).trans <|
  (R_iload_n mc_112 dL_nearest_41 rfl).trans <|
  (R_iload_n mc_112 dL_nearest_42 rfl).trans <|
  R_invV mc_112 dL_nearest_43 mo_112 ct_7_22 af_112_88 rfl rfl rfl ⟨Nat.le_of_ble_eq_true rfl, Nat.le_of_ble_eq_true rfl⟩
theorem B_L_nearest_46 (sc : Nat × (Nat → Int)) (iv : Nat → Nat → Int) (cs : List (Nat × Nat)) (x1 : Int) (x2 : Int) (x3 : Int) (x4 : Int) (d5 : Option AV) (d6 : Option AV) (d7 : Option AV) (d8 : Option AV) (d9 : Option AV) (s0 : Int) : Run sc 112 46 [some (Rf 1), some (I x1), some (I x2), some (I x3), some (I x4), d5, d6, d7, d8, d9] [(I s0)] (hq cs iv) = aBind (Run sc 87 0 [some (Rf 1), some (I x1), some (I x4), some (I 0), none] [] (hq cs iv)) (fun v h2 => Run sc 112 56 [some (Rf 1), some (I x1), some (I x2), some (I x3), some (I x4), some (I s0), d6, d7, d8, d9] (pushR v []) h2) :=
  (R_istore mc_112 dL_nearest_46 (Nat.le_of_ble_eq_true rfl)).trans <|
  (R_aload_n mc_112 dL_nearest_48 rfl).trans <|
  (R_iload_n mc_112 dL_nearest_49 rfl).trans <|
  (R_iload mc_112 dL_nearest_50 rfl).trans <|
  (R_iconst mc_112 dL_nearest_52 ⟨by decide, by decide⟩).trans <|
  R_invV mc_112 dL_nearest_53 mo_112 ct_7_18 af_112_87 rfl rfl rfl ⟨Nat.le_of_ble_eq_true rfl, Nat.le_of_ble_eq_true rfl⟩
theorem B_L_nearest_56 (sc : Nat × (Nat → Int)) (iv : Nat → Nat → Int) (cs : List (Nat × Nat)) (x1 : Int) (x2 : Int) (x3 : Int) (x4 : Int) (x5 : Int) (d6 : Option AV) (d7 : Option AV) (d8 : Option AV) (d9 : Option AV) (s0 : Int) : Run sc 112 56 [some (Rf 1), some (I x1), some (I x2), some (I x3), some (I x4), some (I x5), d6, d7, d8, d9] [(I s0)] (hq cs iv) = aBind (Run sc 87 0 [some (Rf 1), some (I x1), some (I x5), some (I 0), none] [] (hq cs iv)) (fun v h2 => Run sc 112 64 [some (Rf 1), some (I x1), some (I x2), some (I x3), some (I x4), some (I x5), d6, d7, d8, d9] (pushR v [(I s0)]) h2) :=
  (R_aload_n mc_112 dL_nearest_56 rfl).trans <|
  (R_iload_n mc_112 dL_nearest_57 rfl).trans <|
  (R_iload mc_112 dL_nearest_58 rfl).trans <|
  (R_iconst mc_112 dL_nearest_60 ⟨by decide, by decide⟩).trans <|
  R_invV mc_112 dL_nearest_61 mo_112 ct_7_18 af_112_87 rfl rfl rfl ⟨Nat.le_of_ble_eq_true rfl, Nat.le_of_ble_eq_true rfl⟩
theorem B_L_nearest_64 (sc : Nat × (Nat → Int)) (iv : Nat → Nat → Int) (cs : List (Nat × Nat)) (x1 : Int) (x2 : Int) (x3 : Int) (x4 : Int) (x5 : Int) (d6 : Option AV) (d7 : Option AV) (d8 : Option AV) (d9 : Option AV) (s0 : Int) (s1 : Int) : Run sc 112 64 [some (Rf 1), some (I x1), some (I x2), some (I x3), some (I x4), some (I x5), d6, d7, d8, d9] [(I s0), (I s1)] (hq cs iv) = chk (s1 - s0) (aBind (Run sc 110 0 [some (I (s1 - s0))] [] (hq cs iv)) (fun v h2 => Run sc 112 68 [some (Rf 1), some (I x1), some (I x2), some (I x3), some (I x4), some (I x5), d6, d7, d8, d9] (pushR v []) h2)) :=
  (R_isub mc_112 dL_nearest_64).trans <| chk_congr <|
  R_invS mc_112 dL_nearest_65 mo_112 ct_7_25 (Or.inl rfl) af_112_110 (Nat.le_of_ble_eq_true rfl) rfl rfl ⟨Nat.le_of_ble_eq_true rfl, Nat.le_of_ble_eq_true rfl⟩
theorem B_L_nearest_68 (sc : Nat × (Nat → Int)) (iv : Nat → Nat → Int) (cs : List (Nat × Nat)) (x1 : Int) (x2 : Int) (x3 : Int) (x4 : Int) (x5 : Int) (d6 : Option AV) (d7 : Option AV) (d8 : Option AV) (d9 : Option AV) (s0 : Int) : Run sc 112 68 [some (Rf 1), some (I x1), some (I x2), some (I x3), some (I x4), some (I x5), d6, d7, d8, d9] [(I s0)] (hq cs iv) = aBind (Run sc 87 0 [some (Rf 1), some (I x1), some (I x4), some (I 1), none] [] (hq cs iv)) (fun v h2 => Run sc 112 76 [some (Rf 1), some (I x1), some (I x2), some (I x3), some (I x4), some (I x5), d6, d7, d8, d9] (pushR v [(I s0)]) h2) :=
  (R_aload_n mc_112 dL_nearest_68 rfl).trans <|
  (R_iload_n mc_112 dL_nearest_69 rfl).trans <|
  (R_iload mc_112 dL_nearest_70 rfl).trans <|
  (R_iconst mc_112 dL_nearest_72 ⟨by decide, by decide⟩).trans <|
  R_invV mc_112 dL_nearest_73 mo_112 ct_7_18 af_112_87 rfl rfl rfl ⟨Nat.le_of_ble_eq_true rfl, Nat.le_of_ble_eq_true rfl⟩
theorem B_L_nearest_76 (sc : Nat × (Nat → Int)) (iv : Nat → Nat → Int) (cs : List (Nat × Nat)) (x1 : Int) (x2 : Int) (x3 : Int) (x4 : Int) (x5 : Int) (d6 : Option AV) (d7 : Option AV) (d8 : Option AV) (d9 : Option AV) (s0 : Int) (s1 : Int) : Run sc 112 76 [some (Rf 1), some (I x1), some (I x2), some (I x3), some (I x4), some (I x5), d6, d7, d8, d9] [(I s0), (I s1)] (hq cs iv) = aBind (Run sc 87 0 [some (Rf 1), some (I x1), some (I x5), some (I 1), none] [] (hq cs iv)) (fun v h2 => Run sc 112 84 [some (Rf 1), some (I x1), some (I x2), some (I x3), some (I x4), some (I x5), d6, d7, d8, d9] (pushR v [(I s0), (I s1)]) h2) :=
  (R_aload_n mc_112 dL_nearest_76 rfl).trans <|
  (R_iload_n mc_112 dL_nearest_77 rfl).trans <|
  (R_iload mc_112 dL_nearest_78 rfl).trans <|
  (R_iconst mc_112 dL_nearest_80 ⟨by decide, by decide⟩).trans <|
  R_invV mc_112 dL_nearest_81 mo_112 ct_7_18 af_112_87 rfl rfl rfl ⟨Nat.le_of_ble_eq_true rfl, Nat.le_of_ble_eq_true rfl⟩
theorem B_L_nearest_84 (sc : Nat × (Nat → Int)) (iv : Nat → Nat → Int) (cs : List (Nat × Nat)) (x1 : Int) (x2 : Int) (x3 : Int) (x4 : Int) (x5 : Int) (d6 : Option AV) (d7 : Option AV) (d8 : Option AV) (d9 : Option AV) (s0 : Int) (s1 : Int) (s2 : Int) : Run sc 112 84 [some (Rf 1), some (I x1), some (I x2), some (I x3), some (I x4), some (I x5), d6, d7, d8, d9] [(I s0), (I s1), (I s2)] (hq cs iv) = chk (s1 - s0) (aBind (Run sc 110 0 [some (I (s1 - s0))] [] (hq cs iv)) (fun v h2 => Run sc 112 88 [some (Rf 1), some (I x1), some (I x2), some (I x3), some (I x4), some (I x5), d6, d7, d8, d9] (pushR v [(I s2)]) h2)) :=
  (R_isub mc_112 dL_nearest_84).trans <| chk_congr <|
  R_invS mc_112 dL_nearest_85 mo_112 ct_7_25 (Or.inl rfl) af_112_110 (Nat.le_of_ble_eq_true rfl) rfl rfl ⟨Nat.le_of_ble_eq_true rfl, Nat.le_of_ble_eq_true rfl⟩
theorem B_L_nearest_88 (sc : Nat × (Nat → Int)) (iv : Nat → Nat → Int) (cs : List (Nat × Nat)) (x1 : Int) (x2 : Int) (x3 : Int) (x4 : Int) (x5 : Int) (d6 : Option AV) (d7 : Option AV) (d8 : Option AV) (d9 : Option AV) (s0 : Int) (s1 : Int) : Run sc 112 88 [some (Rf 1), some (I x1), some (I x2), some (I x3), some (I x4), some (I x5), d6, d7, d8, d9] [(I s0), (I s1)] (hq cs iv) = chk (s1 + s0) (if x3 = 0 then if x5 = 0 then Run sc 112 102 [some (Rf 1), some (I x1), some (I x2), some (I x3), some (I x4), some (I x5), some (I (s1 + s0)), d7, d8, d9] [] (hq cs iv) else bck 0 1 0 (some (some (I 0), (hq cs iv))) else Run sc 112 102 [some (Rf 1), some (I x1), some (I x2), some (I x3), some (I x4), some (I x5), some (I (s1 + s0)), d7, d8, d9] [] (hq cs iv)) :=
  (R_iadd mc_112 dL_nearest_88).trans <| chk_congr <|
  (R_istore mc_112 dL_nearest_89 (Nat.le_of_ble_eq_true rfl)).trans <|
  (R_iload_n mc_112 dL_nearest_91 rfl).trans <|
  (R_if_ne mc_112 dL_nearest_92 (t := 102) rfl).trans <| ite_c2
  ((R_iload mc_112 dL_nearest_95 rfl).trans <|
  (R_if_eq mc_112 dL_nearest_97 (t := 102) rfl).trans <| ite_c2
  (rfl)
  ((R_iconst mc_112 dL_nearest_100 ⟨by decide, by decide⟩).trans <|
  R_ireturnZ mc_112 dL_nearest_101 rfl))
  (rfl)
theorem B_L_nearest_102 (sc : Nat × (Nat → Int)) (iv : Nat → Nat → Int) (cs : List (Nat × Nat)) (x1 : Int) (x2 : Int) (x3 : Int) (x4 : Int) (x5 : Int) (x6 : Int) (d7 : Option AV) (d8 : Option AV) (d9 : Option AV) : Run sc 112 102 [some (Rf 1), some (I x1), some (I x2), some (I x3), some (I x4), some (I x5), some (I x6), d7, d8, d9] [] (hq cs iv) = chk (x3 + 1) (Run sc 112 107 [some (Rf 1), some (I x1), some (I x2), some (I x3), some (I x4), some (I x5), some (I x6), some (I (x3 + 1)), d8, d9] [] (hq cs iv)) :=
  (R_iload_n mc_112 dL_nearest_102 rfl).trans <|
  (R_iconst mc_112 dL_nearest_103 ⟨by decide, by decide⟩).trans <|
  (R_iadd mc_112 dL_nearest_104).trans <| chk_congr <|
  R_istore mc_112 dL_nearest_105 (Nat.le_of_ble_eq_true rfl)
theorem B_L_nearest_107 (sc : Nat × (Nat → Int)) (iv : Nat → Nat → Int) (cs : List (Nat × Nat)) (x1 : Int) (x2 : Int) (x3 : Int) (x4 : Int) (x5 : Int) (x6 : Int) (x7 : Int) (d8 : Option AV) (d9 : Option AV) : Run sc 112 107 [some (Rf 1), some (I x1), some (I x2), some (I x3), some (I x4), some (I x5), some (I x6), some (I x7), d8, d9] [] (hq cs iv) = if x7 < x2 then if 0 < x3 then aBind (Run sc 88 0 [some (Rf 1), some (I x1), some (I x7), none] [] (hq cs iv)) (fun v h2 => Run sc 112 124 [some (Rf 1), some (I x1), some (I x2), some (I x3), some (I x4), some (I x5), some (I x6), some (I x7), d8, d9] (pushR v []) h2) else Run sc 112 198 [some (Rf 1), some (I x1), some (I x2), some (I x3), some (I x4), some (I x5), some (I x6), some (I x7), d8, d9] [] (hq cs iv) else Run sc 112 198 [some (Rf 1), some (I x1), some (I x2), some (I x3), some (I x4), some (I x5), some (I x6), some (I x7), d8, d9] [] (hq cs iv) :=
  (R_iload mc_112 dL_nearest_107 rfl).trans <|
  (R_iload_n mc_112 dL_nearest_109 rfl).trans <|
  (R_icmp_ge mc_112 dL_nearest_110 (t := 198) rfl).trans <| ite_c2
  ((R_iload_n mc_112 dL_nearest_113 rfl).trans <|
  (R_if_le mc_112 dL_nearest_114 (t := 198) rfl).trans <| ite_c2
  ((R_aload_n mc_112 dL_nearest_117 rfl).trans <|
  (R_iload_n mc_112 dL_nearest_118 rfl).trans <|
  (R_iload mc_112 dL_nearest_119 rfl).trans <|
  R_invV mc_112 dL_nearest_121 mo_112 ct_7_22 af_112_88 rfl rfl rfl ⟨Nat.le_of_ble_eq_true rfl, Nat.le_of_ble_eq_true rfl⟩)
  (rfl))
  (rfl)
theorem B_L_nearest_124 (sc : Nat × (Nat → Int)) (iv : Nat → Nat → Int) (cs : List (Nat × Nat)) (x1 : Int) (x2 : Int) (x3 : Int) (x4 : Int) (x5 : Int) (x6 : Int) (x7 : Int) (d8 : Option AV) (d9 : Option AV) (s0 : Int) : Run sc 112 124 [some (Rf 1), some (I x1), some (I x2), some (I x3), some (I x4), some (I x5), some (I x6), some (I x7), d8, d9] [(I s0)] (hq cs iv) = aBind (Run sc 87 0 [some (Rf 1), some (I x1), some (I x4), some (I 0), none] [] (hq cs iv)) (fun v h2 => Run sc 112 134 [some (Rf 1), some (I x1), some (I x2), some (I x3), some (I x4), some (I x5), some (I x6), some (I x7), some (I s0), d9] (pushR v []) h2) :=
  (R_istore mc_112 dL_nearest_124 (Nat.le_of_ble_eq_true rfl)).trans <|
  (R_aload_n mc_112 dL_nearest_126 rfl).trans <|
  (R_iload_n mc_112 dL_nearest_127 rfl).trans <|
  (R_iload mc_112 dL_nearest_128 rfl).trans <|
  (R_iconst mc_112 dL_nearest_130 ⟨by decide, by decide⟩).trans <|
  R_invV mc_112 dL_nearest_131 mo_112 ct_7_18 af_112_87 rfl rfl rfl ⟨Nat.le_of_ble_eq_true rfl, Nat.le_of_ble_eq_true rfl⟩
theorem B_L_nearest_134 (sc : Nat × (Nat → Int)) (iv : Nat → Nat → Int) (cs : List (Nat × Nat)) (x1 : Int) (x2 : Int) (x3 : Int) (x4 : Int) (x5 : Int) (x6 : Int) (x7 : Int) (x8 : Int) (d9 : Option AV) (s0 : Int) : Run sc 112 134 [some (Rf 1), some (I x1), some (I x2), some (I x3), some (I x4), some (I x5), some (I x6), some (I x7), some (I x8), d9] [(I s0)] (hq cs iv) = aBind (Run sc 87 0 [some (Rf 1), some (I x1), some (I x8), some (I 0), none] [] (hq cs iv)) (fun v h2 => Run sc 112 142 [some (Rf 1), some (I x1), some (I x2), some (I x3), some (I x4), some (I x5), some (I x6), some (I x7), some (I x8), d9] (pushR v [(I s0)]) h2) :=
  (R_aload_n mc_112 dL_nearest_134 rfl).trans <|
  (R_iload_n mc_112 dL_nearest_135 rfl).trans <|
  (R_iload mc_112 dL_nearest_136 rfl).trans <|
  (R_iconst mc_112 dL_nearest_138 ⟨by decide, by decide⟩).trans <|
  R_invV mc_112 dL_nearest_139 mo_112 ct_7_18 af_112_87 rfl rfl rfl ⟨Nat.le_of_ble_eq_true rfl, Nat.le_of_ble_eq_true rfl⟩
theorem B_L_nearest_142 (sc : Nat × (Nat → Int)) (iv : Nat → Nat → Int) (cs : List (Nat × Nat)) (x1 : Int) (x2 : Int) (x3 : Int) (x4 : Int) (x5 : Int) (x6 : Int) (x7 : Int) (x8 : Int) (d9 : Option AV) (s0 : Int) (s1 : Int) : Run sc 112 142 [some (Rf 1), some (I x1), some (I x2), some (I x3), some (I x4), some (I x5), some (I x6), some (I x7), some (I x8), d9] [(I s0), (I s1)] (hq cs iv) = chk (s1 - s0) (aBind (Run sc 110 0 [some (I (s1 - s0))] [] (hq cs iv)) (fun v h2 => Run sc 112 146 [some (Rf 1), some (I x1), some (I x2), some (I x3), some (I x4), some (I x5), some (I x6), some (I x7), some (I x8), d9] (pushR v []) h2)) :=
  (R_isub mc_112 dL_nearest_142).trans <| chk_congr <|
  R_invS mc_112 dL_nearest_143 mo_112 ct_7_25 (Or.inl rfl) af_112_110 (Nat.le_of_ble_eq_true rfl) rfl rfl ⟨Nat.le_of_ble_eq_true rfl, Nat.le_of_ble_eq_true rfl⟩
theorem B_L_nearest_146 (sc : Nat × (Nat → Int)) (iv : Nat → Nat → Int) (cs : List (Nat × Nat)) (x1 : Int) (x2 : Int) (x3 : Int) (x4 : Int) (x5 : Int) (x6 : Int) (x7 : Int) (x8 : Int) (d9 : Option AV) (s0 : Int) : Run sc 112 146 [some (Rf 1), some (I x1), some (I x2), some (I x3), some (I x4), some (I x5), some (I x6), some (I x7), some (I x8), d9] [(I s0)] (hq cs iv) = aBind (Run sc 87 0 [some (Rf 1), some (I x1), some (I x4), some (I 1), none] [] (hq cs iv)) (fun v h2 => Run sc 112 154 [some (Rf 1), some (I x1), some (I x2), some (I x3), some (I x4), some (I x5), some (I x6), some (I x7), some (I x8), d9] (pushR v [(I s0)]) h2) :=
  (R_aload_n mc_112 dL_nearest_146 rfl).trans <|
  (R_iload_n mc_112 dL_nearest_147 rfl).trans <|
  (R_iload mc_112 dL_nearest_148 rfl).trans <|
  (R_iconst mc_112 dL_nearest_150 ⟨by decide, by decide⟩).trans <|
  R_invV mc_112 dL_nearest_151 mo_112 ct_7_18 af_112_87 rfl rfl rfl ⟨Nat.le_of_ble_eq_true rfl, Nat.le_of_ble_eq_true rfl⟩
theorem B_L_nearest_154 (sc : Nat × (Nat → Int)) (iv : Nat → Nat → Int) (cs : List (Nat × Nat)) (x1 : Int) (x2 : Int) (x3 : Int) (x4 : Int) (x5 : Int) (x6 : Int) (x7 : Int) (x8 : Int) (d9 : Option AV) (s0 : Int) (s1 : Int) : Run sc 112 154 [some (Rf 1), some (I x1), some (I x2), some (I x3), some (I x4), some (I x5), some (I x6), some (I x7), some (I x8), d9] [(I s0), (I s1)] (hq cs iv) = aBind (Run sc 87 0 [some (Rf 1), some (I x1), some (I x8), some (I 1), none] [] (hq cs iv)) (fun v h2 => Run sc 112 162 [some (Rf 1), some (I x1), some (I x2), some (I x3), some (I x4), some (I x5), some (I x6), some (I x7), some (I x8), d9] (pushR v [(I s0), (I s1)]) h2) :=
  (R_aload_n mc_112 dL_nearest_154 rfl).trans <|
  (R_iload_n mc_112 dL_nearest_155 rfl).trans <|
  (R_iload mc_112 dL_nearest_156 rfl).trans <|
  (R_iconst mc_112 dL_nearest_158 ⟨by decide, by decide⟩).trans <|
  R_invV mc_112 dL_nearest_159 mo_112 ct_7_18 af_112_87 rfl rfl rfl ⟨Nat.le_of_ble_eq_true rfl, Nat.le_of_ble_eq_true rfl⟩
theorem B_L_nearest_162 (sc : Nat × (Nat → Int)) (iv : Nat → Nat → Int) (cs : List (Nat × Nat)) (x1 : Int) (x2 : Int) (x3 : Int) (x4 : Int) (x5 : Int) (x6 : Int) (x7 : Int) (x8 : Int) (d9 : Option AV) (s0 : Int) (s1 : Int) (s2 : Int) : Run sc 112 162 [some (Rf 1), some (I x1), some (I x2), some (I x3), some (I x4), some (I x5), some (I x6), some (I x7), some (I x8), d9] [(I s0), (I s1), (I s2)] (hq cs iv) = chk (s1 - s0) (aBind (Run sc 110 0 [some (I (s1 - s0))] [] (hq cs iv)) (fun v h2 => Run sc 112 166 [some (Rf 1), some (I x1), some (I x2), some (I x3), some (I x4), some (I x5), some (I x6), some (I x7), some (I x8), d9] (pushR v [(I s2)]) h2)) :=
  (R_isub mc_112 dL_nearest_162).trans <| chk_congr <|
  R_invS mc_112 dL_nearest_163 mo_112 ct_7_25 (Or.inl rfl) af_112_110 (Nat.le_of_ble_eq_true rfl) rfl rfl ⟨Nat.le_of_ble_eq_true rfl, Nat.le_of_ble_eq_true rfl⟩
theorem B_L_nearest_166 (sc : Nat × (Nat → Int)) (iv : Nat → Nat → Int) (cs : List (Nat × Nat)) (x1 : Int) (x2 : Int) (x3 : Int) (x4 : Int) (x5 : Int) (x6 : Int) (x7 : Int) (x8 : Int) (d9 : Option AV) (s0 : Int) (s1 : Int) : Run sc 112 166 [some (Rf 1), some (I x1), some (I x2), some (I x3), some (I x4), some (I x5), some (I x6), some (I x7), some (I x8), d9] [(I s0), (I s1)] (hq cs iv) = chk (s1 + s0) (if (s1 + s0) < x6 then Run sc 112 190 [some (Rf 1), some (I x1), some (I x2), some (I x3), some (I x4), some (I x5), some (I x6), some (I x7), some (I x8), some (I (s1 + s0))] [] (hq cs iv) else if (s1 + s0) = x6 then if x8 < x5 then Run sc 112 190 [some (Rf 1), some (I x1), some (I x2), some (I x3), some (I x4), some (I x5), some (I x6), some (I x7), some (I x8), some (I (s1 + s0))] [] (hq cs iv) else Run sc 112 192 [some (Rf 1), some (I x1), some (I x2), some (I x3), some (I x4), some (I x5), some (I x6), some (I x7), some (I x8), some (I (s1 + s0))] [] (hq cs iv) else Run sc 112 192 [some (Rf 1), some (I x1), some (I x2), some (I x3), some (I x4), some (I x5), some (I x6), some (I x7), some (I x8), some (I (s1 + s0))] [] (hq cs iv)) :=
  (R_iadd mc_112 dL_nearest_166).trans <| chk_congr <|
  (R_istore mc_112 dL_nearest_167 (Nat.le_of_ble_eq_true rfl)).trans <|
  (R_iload mc_112 dL_nearest_169 rfl).trans <|
  (R_iload mc_112 dL_nearest_171 rfl).trans <|
  (R_icmp_lt mc_112 dL_nearest_173 (t := 190) rfl).trans <| ite_c2
  (rfl)
  ((R_iload mc_112 dL_nearest_176 rfl).trans <|
  (R_iload mc_112 dL_nearest_178 rfl).trans <|
  (R_icmp_ne mc_112 dL_nearest_180 (t := 192) rfl).trans <| ite_c2
  ((R_iload mc_112 dL_nearest_183 rfl).trans <|
  (R_iload mc_112 dL_nearest_185 rfl).trans <|
  R_icmp_ge mc_112 dL_nearest_187 (t := 192) rfl)
  (rfl))
theorem B_L_nearest_190 (sc : Nat × (Nat → Int)) (iv : Nat → Nat → Int) (cs : List (Nat × Nat)) (x1 : Int) (x2 : Int) (x3 : Int) (x4 : Int) (x5 : Int) (x6 : Int) (x7 : Int) (x8 : Int) (x9 : Int) : Run sc 112 190 [some (Rf 1), some (I x1), some (I x2), some (I x3), some (I x4), some (I x5), some (I x6), some (I x7), some (I x8), some (I x9)] [] (hq cs iv) = bck 0 1 0 (some (some (I 0), (hq cs iv))) :=
  (R_iconst mc_112 dL_nearest_190 ⟨by decide, by decide⟩).trans <|
  R_ireturnZ mc_112 dL_nearest_191 rfl
theorem B_L_nearest_192 (sc : Nat × (Nat → Int)) (iv : Nat → Nat → Int) (cs : List (Nat × Nat)) (x1 : Int) (x2 : Int) (x3 : Int) (x4 : Int) (x5 : Int) (x6 : Int) (x7 : Int) (x8 : Int) (x9 : Int) : Run sc 112 192 [some (Rf 1), some (I x1), some (I x2), some (I x3), some (I x4), some (I x5), some (I x6), some (I x7), some (I x8), some (I x9)] [] (hq cs iv) = chk (x7 + 1) (Run sc 112 107 [some (Rf 1), some (I x1), some (I x2), some (I x3), some (I x4), some (I x5), some (I x6), some (I (x7 + 1)), some (I x8), some (I x9)] [] (hq cs iv)) :=
  (R_iinc mc_112 dL_nearest_192 rfl).trans <| chk_congr <|
  R_goto mc_112 dL_nearest_195 (t := 107) rfl
theorem B_L_nearest_198 (sc : Nat × (Nat → Int)) (iv : Nat → Nat → Int) (cs : List (Nat × Nat)) (x1 : Int) (x2 : Int) (x3 : Int) (x4 : Int) (x5 : Int) (x6 : Int) (x7 : Int) (d8 : Option AV) (d9 : Option AV) : Run sc 112 198 [some (Rf 1), some (I x1), some (I x2), some (I x3), some (I x4), some (I x5), some (I x6), some (I x7), d8, d9] [] (hq cs iv) = chk (x3 + 1) (Run sc 112 17 [some (Rf 1), some (I x1), some (I x2), some (I (x3 + 1)), some (I x4), some (I x5), some (I x6), some (I x7), d8, d9] [] (hq cs iv)) :=
  (R_iinc mc_112 dL_nearest_198 rfl).trans <| chk_congr <|
  R_goto mc_112 dL_nearest_201 (t := 17) rfl
theorem B_L_nearest_204 (sc : Nat × (Nat → Int)) (iv : Nat → Nat → Int) (cs : List (Nat × Nat)) (x1 : Int) (x2 : Int) (x3 : Int) (d4 : Option AV) (d5 : Option AV) (d6 : Option AV) (d7 : Option AV) (d8 : Option AV) (d9 : Option AV) : Run sc 112 204 [some (Rf 1), some (I x1), some (I x2), some (I x3), d4, d5, d6, d7, d8, d9] [] (hq cs iv) = bck 0 1 1 (some (some (I 1), (hq cs iv))) :=
  (R_iconst mc_112 dL_nearest_204 ⟨by decide, by decide⟩).trans <|
  R_ireturnZ mc_112 dL_nearest_205 rfl
theorem B_L_alone_0 (sc : Nat × (Nat → Int)) (iv : Nat → Nat → Int) (cs : List (Nat × Nat)) (x1 : Int) (x2 : Int) : Run sc 114 0 [some (Rf 1), some (I x1), some (I x2), none, none, none, none] [] (hq cs iv) = Run sc 114 4 [some (Rf 1), some (I x1), some (I x2), none, none, none, none] [(Rf (52 + cs.length))] (hq (cs ++ [(8, 7)]) iv) :=
  (R_bipush mc_114 dL_alone_0 ⟨by decide, by decide⟩).trans <|
  R_newX mc_114 dL_alone_2 ⟨by decide, by decide⟩ (m := 7) rfl
theorem B_L_alone_4 (sc : Nat × (Nat → Int)) (iv : Nat → Nat → Int) (cs : List (Nat × Nat)) (a0 : Nat) (x1 : Int) (x2 : Int) (d3 : Option AV) (d4 : Option AV) (d5 : Option AV) (d6 : Option AV) : Run sc 114 4 [some (Rf 1), some (I x1), some (I x2), d3, d4, d5, d6] [(Rf a0)] (hq cs iv) = Run sc 114 8 [some (Rf 1), some (I x1), some (I x2), some (Rf a0), some (I 0), d5, d6] [] (hq cs iv) :=
  (R_astore_n mc_114 dL_alone_4 (Nat.le_of_ble_eq_true rfl)).trans <|
  (R_iconst mc_114 dL_alone_5 ⟨by decide, by decide⟩).trans <|
  R_istore mc_114 dL_alone_6 (Nat.le_of_ble_eq_true rfl)
theorem B_L_alone_8 (sc : Nat × (Nat → Int)) (iv : Nat → Nat → Int) (cs : List (Nat × Nat)) (a0 : Nat) (x1 : Int) (x2 : Int) (x4 : Int) (d5 : Option AV) (d6 : Option AV) : Run sc 114 8 [some (Rf 1), some (I x1), some (I x2), some (Rf a0), some (I x4), d5, d6] [] (hq cs iv) = if x4 < x2 then Run sc 114 17 [some (Rf 1), some (I x1), some (I x2), some (Rf a0), some (I x4), some (I 0), d6] [] (hq cs iv) else Run sc 114 75 [some (Rf 1), some (I x1), some (I x2), some (Rf a0), some (I x4), d5, d6] [] (hq cs iv) :=
  (R_iload mc_114 dL_alone_8 rfl).trans <|
  (R_iload_n mc_114 dL_alone_10 rfl).trans <|
  (R_icmp_ge mc_114 dL_alone_11 (t := 75) rfl).trans <| ite_c2
  ((R_iconst mc_114 dL_alone_14 ⟨by decide, by decide⟩).trans <|
  R_istore mc_114 dL_alone_15 (Nat.le_of_ble_eq_true rfl))
  (rfl)
theorem B_L_alone_17 (sc : Nat × (Nat → Int)) (iv : Nat → Nat → Int) (cs : List (Nat × Nat)) (a0 : Nat) (x1 : Int) (x2 : Int) (x4 : Int) (x5 : Int) (d6 : Option AV) : Run sc 114 17 [some (Rf 1), some (I x1), some (I x2), some (Rf a0), some (I x4), some (I x5), d6] [] (hq cs iv) = if x5 < x1 then aBind (Run sc 113 0 [some (Rf 1), some (I x5), some (I x4), none, none] [] (hq cs iv)) (fun v h2 => Run sc 114 31 [some (Rf 1), some (I x1), some (I x2), some (Rf a0), some (I x4), some (I x5), d6] (pushR v []) h2) else Run sc 114 69 [some (Rf 1), some (I x1), some (I x2), some (Rf a0), some (I x4), some (I x5), d6] [] (hq cs iv) :=
  (R_iload mc_114 dL_alone_17 rfl).trans <|
  (R_iload_n mc_114 dL_alone_19 rfl).trans <|
  (R_icmp_ge mc_114 dL_alone_20 (t := 69) rfl).trans <| ite_c2
  ((R_aload_n mc_114 dL_alone_23 rfl).trans <|
  (R_iload mc_114 dL_alone_24 rfl).trans <|
  (R_iload mc_114 dL_alone_26 rfl).trans <|
  R_invS mc_114 dL_alone_28 mo_114 ct_7_31 (Or.inl rfl) af_114_113 (Nat.le_of_ble_eq_true rfl) rfl rfl ⟨Nat.le_of_ble_eq_true rfl, Nat.le_of_ble_eq_true rfl⟩)
  (rfl)
theorem B_L_alone_31 (sc : Nat × (Nat → Int)) (iv : Nat → Nat → Int) (cs : List (Nat × Nat)) (a0 : Nat) (x1 : Int) (x2 : Int) (x4 : Int) (x5 : Int) (d6 : Option AV) (s0 : Int) : Run sc 114 31 [some (Rf 1), some (I x1), some (I x2), some (Rf a0), some (I x4), some (I x5), d6] [(I s0)] (hq cs iv) = aBind (Run sc 85 0 [some (Rf 1), some (I x5), some (I x4)] [] (hq cs iv)) (fun v h2 => Run sc 114 41 [some (Rf 1), some (I x1), some (I x2), some (Rf a0), some (I x4), some (I x5), some (I s0)] (pushR v []) h2) :=
  (R_istore mc_114 dL_alone_31 (Nat.le_of_ble_eq_true rfl)).trans <|
  (R_aload_n mc_114 dL_alone_33 rfl).trans <|
  (R_iload mc_114 dL_alone_34 rfl).trans <|
  (R_iload mc_114 dL_alone_36 rfl).trans <|
  R_invV mc_114 dL_alone_38 mo_114 ct_7_35 af_114_85 rfl rfl rfl ⟨Nat.le_of_ble_eq_true rfl, Nat.le_of_ble_eq_true rfl⟩
theorem B_L_alone_41 (sc : Nat × (Nat → Int)) (iv : Nat → Nat → Int) (cs : List (Nat × Nat)) (a0 : Nat) (x1 : Int) (x2 : Int) (x4 : Int) (x5 : Int) (x6 : Int) (s0 : Int) : Run sc 114 41 [some (Rf 1), some (I x1), some (I x2), some (Rf a0), some (I x4), some (I x5), some (I x6)] [(I s0)] (hq cs iv) = if s0 = x6 then Run sc 114 48 [some (Rf 1), some (I x1), some (I x2), some (Rf a0), some (I x4), some (I x5), some (I x6)] [] (hq cs iv) else bck 0 1 0 (some (some (I 0), (hq cs iv))) :=
  (R_iload mc_114 dL_alone_41 rfl).trans <|
  (R_icmp_eq mc_114 dL_alone_43 (t := 48) rfl).trans <| ite_c2
  (rfl)
  ((R_iconst mc_114 dL_alone_46 ⟨by decide, by decide⟩).trans <|
  R_ireturnZ mc_114 dL_alone_47 rfl)
theorem B_L_alone_48 (sc : Nat × (Nat → Int)) (iv : Nat → Nat → Int) (cs : List (Nat × Nat)) (a0 : Nat) (x1 : Int) (x2 : Int) (x4 : Int) (x5 : Int) (x6 : Int) : Run sc 114 48 [some (Rf 1), some (I x1), some (I x2), some (Rf a0), some (I x4), some (I x5), some (I x6)] [] (hq cs iv) = aBind (Run sc 83 0 [some (Rf 1), some (I x5), some (I x4)] [] (hq cs iv)) (fun v h2 => Run sc 114 57 [some (Rf 1), some (I x1), some (I x2), some (Rf a0), some (I x4), some (I x5), some (I x6)] (pushR v [(Rf a0)]) h2) :=
  (R_aload_n mc_114 dL_alone_48 rfl).trans <|
  (R_aload_n mc_114 dL_alone_49 rfl).trans <|
  (R_iload mc_114 dL_alone_50 rfl).trans <|
  (R_iload mc_114 dL_alone_52 rfl).trans <|
  R_invV mc_114 dL_alone_54 mo_114 ct_7_15 af_114_83 rfl rfl rfl ⟨Nat.le_of_ble_eq_true rfl, Nat.le_of_ble_eq_true rfl⟩
theorem B_L_alone_57 (sc : Nat × (Nat → Int)) (iv : Nat → Nat → Int) (cs : List (Nat × Nat)) (a0 : Nat) (x1 : Int) (x2 : Int) (x4 : Int) (x5 : Int) (x6 : Int) (s0 : Int) (ha0 : kOf (hq cs iv).1 a0 = some (8, 7)) : Run sc 114 57 [some (Rf 1), some (I x1), some (I x2), some (Rf a0), some (I x4), some (I x5), some (I x6)] [(I s0), (Rf a0)] (hq cs iv) = bck 0 (((7 : Nat) : Int) - 1) s0 (chk ((iv a0 (Int.toNat s0)) + x6) (bck 0 (((7 : Nat) : Int) - 1) s0 (bck (-2147483648) 2147483647 ((iv a0 (Int.toNat s0)) + x6) (Run sc 114 63 [some (Rf 1), some (I x1), some (I x2), some (Rf a0), some (I x4), some (I x5), some (I x6)] [] (hq cs (setO iv a0 (upI (iv a0) (Int.toNat s0) ((iv a0 (Int.toNat s0)) + x6)))))))) :=
  (R_dup2 mc_114 dL_alone_57).trans <|
  (R_iaload mc_114 dL_alone_58 ha0).trans <| bck_congr <|
  (R_iload mc_114 dL_alone_59 rfl).trans <|
  (R_iadd mc_114 dL_alone_61).trans <| chk_congr <|
  (R_iastore mc_114 dL_alone_62 ha0).trans <| bck_congr <| bck_congr <|
  rfl
theorem B_L_alone_63 (sc : Nat × (Nat → Int)) (iv : Nat → Nat → Int) (cs : List (Nat × Nat)) (a0 : Nat) (x1 : Int) (x2 : Int) (x4 : Int) (x5 : Int) (x6 : Int) : Run sc 114 63 [some (Rf 1), some (I x1), some (I x2), some (Rf a0), some (I x4), some (I x5), some (I x6)] [] (hq cs iv) = chk (x5 + 1) (Run sc 114 17 [some (Rf 1), some (I x1), some (I x2), some (Rf a0), some (I x4), some (I (x5 + 1)), some (I x6)] [] (hq cs iv)) :=
  (R_iinc mc_114 dL_alone_63 rfl).trans <| chk_congr <|
  R_goto mc_114 dL_alone_66 (t := 17) rfl
theorem B_L_alone_69 (sc : Nat × (Nat → Int)) (iv : Nat → Nat → Int) (cs : List (Nat × Nat)) (a0 : Nat) (x1 : Int) (x2 : Int) (x4 : Int) (x5 : Int) (d6 : Option AV) : Run sc 114 69 [some (Rf 1), some (I x1), some (I x2), some (Rf a0), some (I x4), some (I x5), d6] [] (hq cs iv) = chk (x4 + 1) (Run sc 114 8 [some (Rf 1), some (I x1), some (I x2), some (Rf a0), some (I (x4 + 1)), some (I x5), d6] [] (hq cs iv)) :=
  (R_iinc mc_114 dL_alone_69 rfl).trans <| chk_congr <|
  R_goto mc_114 dL_alone_72 (t := 8) rfl
theorem B_L_alone_75 (sc : Nat × (Nat → Int)) (iv : Nat → Nat → Int) (cs : List (Nat × Nat)) (a0 : Nat) (x1 : Int) (x2 : Int) (x4 : Int) (d5 : Option AV) (d6 : Option AV) : Run sc 114 75 [some (Rf 1), some (I x1), some (I x2), some (Rf a0), some (I x4), d5, d6] [] (hq cs iv) = Run sc 114 81 [some (Rf 1), some (I x1), some (I x2), some (Rf a0), some (I 0), some (I 1), d6] [] (hq cs iv) :=
  (R_iconst mc_114 dL_alone_75 ⟨by decide, by decide⟩).trans <|
  (R_istore mc_114 dL_alone_76 (Nat.le_of_ble_eq_true rfl)).trans <|
  (R_iconst mc_114 dL_alone_78 ⟨by decide, by decide⟩).trans <|
  R_istore mc_114 dL_alone_79 (Nat.le_of_ble_eq_true rfl)
theorem B_L_alone_81 (sc : Nat × (Nat → Int)) (iv : Nat → Nat → Int) (cs : List (Nat × Nat)) (a0 : Nat) (x1 : Int) (x2 : Int) (x4 : Int) (x5 : Int) (d6 : Option AV) (ha0 : kOf (hq cs iv).1 a0 = some (8, 7)) : Run sc 114 81 [some (Rf 1), some (I x1), some (I x2), some (Rf a0), some (I x4), some (I x5), d6] [] (hq cs iv) = if x5 < 7 then bck 0 (((7 : Nat) : Int) - 1) x5 (chk (x4 + (iv a0 (Int.toNat x5))) (aBind (Run sc 84 0 [some (Rf 1), some (I x5), some (I 1), none, none] [] (hq cs iv)) (fun v h2 => Run sc 114 104 [some (Rf 1), some (I x1), some (I x2), some (Rf a0), some (I (x4 + (iv a0 (Int.toNat x5)))), some (I x5), d6] (pushR v []) h2))) else Run sc 114 119 [some (Rf 1), some (I x1), some (I x2), some (Rf a0), some (I x4), some (I x5), d6] [] (hq cs iv) :=
  (R_iload mc_114 dL_alone_81 rfl).trans <|
  (R_bipush mc_114 dL_alone_83 ⟨by decide, by decide⟩).trans <|
  (R_icmp_ge mc_114 dL_alone_85 (t := 119) rfl).trans <| ite_c2
  ((R_iload mc_114 dL_alone_88 rfl).trans <|
  (R_aload_n mc_114 dL_alone_90 rfl).trans <|
  (R_iload mc_114 dL_alone_91 rfl).trans <|
  (R_iaload mc_114 dL_alone_93 ha0).trans <| bck_congr <|
  (R_iadd mc_114 dL_alone_94).trans <| chk_congr <|
  (R_istore mc_114 dL_alone_95 (Nat.le_of_ble_eq_true rfl)).trans <|
  (R_aload_n mc_114 dL_alone_97 rfl).trans <|
  (R_iload mc_114 dL_alone_98 rfl).trans <|
  (R_iconst mc_114 dL_alone_100 ⟨by decide, by decide⟩).trans <|
  R_invV mc_114 dL_alone_101 mo_114 ct_7_9 af_114_84 rfl rfl rfl ⟨Nat.le_of_ble_eq_true rfl, Nat.le_of_ble_eq_true rfl⟩)
  (rfl)
theorem B_L_alone_104 (sc : Nat × (Nat → Int)) (iv : Nat → Nat → Int) (cs : List (Nat × Nat)) (a0 : Nat) (x1 : Int) (x2 : Int) (x4 : Int) (x5 : Int) (d6 : Option AV) (s0 : Int) (ha0 : kOf (hq cs iv).1 a0 = some (8, 7)) : Run sc 114 104 [some (Rf 1), some (I x1), some (I x2), some (Rf a0), some (I x4), some (I x5), d6] [(I s0)] (hq cs iv) = bck 0 (((7 : Nat) : Int) - 1) x5 (if s0 = (iv a0 (Int.toNat x5)) then Run sc 114 113 [some (Rf 1), some (I x1), some (I x2), some (Rf a0), some (I x4), some (I x5), d6] [] (hq cs iv) else bck 0 1 0 (some (some (I 0), (hq cs iv)))) :=
  (R_aload_n mc_114 dL_alone_104 rfl).trans <|
  (R_iload mc_114 dL_alone_105 rfl).trans <|
  (R_iaload mc_114 dL_alone_107 ha0).trans <| bck_congr <|
  (R_icmp_eq mc_114 dL_alone_108 (t := 113) rfl).trans <| ite_c2
  (rfl)
  ((R_iconst mc_114 dL_alone_111 ⟨by decide, by decide⟩).trans <|
  R_ireturnZ mc_114 dL_alone_112 rfl)
theorem B_L_alone_113 (sc : Nat × (Nat → Int)) (iv : Nat → Nat → Int) (cs : List (Nat × Nat)) (a0 : Nat) (x1 : Int) (x2 : Int) (x4 : Int) (x5 : Int) (d6 : Option AV) : Run sc 114 113 [some (Rf 1), some (I x1), some (I x2), some (Rf a0), some (I x4), some (I x5), d6] [] (hq cs iv) = chk (x5 + 1) (Run sc 114 81 [some (Rf 1), some (I x1), some (I x2), some (Rf a0), some (I x4), some (I (x5 + 1)), d6] [] (hq cs iv)) :=
  (R_iinc mc_114 dL_alone_113 rfl).trans <| chk_congr <|
  R_goto mc_114 dL_alone_116 (t := 81) rfl
theorem B_L_alone_119 (sc : Nat × (Nat → Int)) (iv : Nat → Nat → Int) (cs : List (Nat × Nat)) (a0 : Nat) (x1 : Int) (x2 : Int) (x4 : Int) (x5 : Int) (d6 : Option AV) : Run sc 114 119 [some (Rf 1), some (I x1), some (I x2), some (Rf a0), some (I x4), some (I x5), d6] [] (hq cs iv) = aBind (Run sc 84 0 [some (Rf 1), some (I 0), some (I 1), none, none] [] (hq cs iv)) (fun v h2 => Run sc 114 125 [some (Rf 1), some (I x1), some (I x2), some (Rf a0), some (I x4), some (I x5), d6] (pushR v []) h2) :=
  (R_aload_n mc_114 dL_alone_119 rfl).trans <|
  (R_iconst mc_114 dL_alone_120 ⟨by decide, by decide⟩).trans <|
  (R_iconst mc_114 dL_alone_121 ⟨by decide, by decide⟩).trans <|
  R_invV mc_114 dL_alone_122 mo_114 ct_7_9 af_114_84 rfl rfl rfl ⟨Nat.le_of_ble_eq_true rfl, Nat.le_of_ble_eq_true rfl⟩
theorem B_L_alone_125 (sc : Nat × (Nat → Int)) (iv : Nat → Nat → Int) (cs : List (Nat × Nat)) (a0 : Nat) (x1 : Int) (x2 : Int) (x4 : Int) (x5 : Int) (d6 : Option AV) (s0 : Int) : Run sc 114 125 [some (Rf 1), some (I x1), some (I x2), some (Rf a0), some (I x4), some (I x5), d6] [(I s0)] (hq cs iv) = if s0 = x4 then aBind (Run sc 85 0 [some (Rf 1), some (I x1), some (I 0)] [] (hq cs iv)) (fun v h2 => Run sc 114 136 [some (Rf 1), some (I x1), some (I x2), some (Rf a0), some (I x4), some (I x5), d6] (pushR v []) h2) else Run sc 114 154 [some (Rf 1), some (I x1), some (I x2), some (Rf a0), some (I x4), some (I x5), d6] [] (hq cs iv) :=
  (R_iload mc_114 dL_alone_125 rfl).trans <|
  (R_icmp_ne mc_114 dL_alone_127 (t := 154) rfl).trans <| ite_c2
  ((R_aload_n mc_114 dL_alone_130 rfl).trans <|
  (R_iload_n mc_114 dL_alone_131 rfl).trans <|
  (R_iconst mc_114 dL_alone_132 ⟨by decide, by decide⟩).trans <|
  R_invV mc_114 dL_alone_133 mo_114 ct_7_35 af_114_85 rfl rfl rfl ⟨Nat.le_of_ble_eq_true rfl, Nat.le_of_ble_eq_true rfl⟩)
  (rfl)
theorem B_L_alone_136 (sc : Nat × (Nat → Int)) (iv : Nat → Nat → Int) (cs : List (Nat × Nat)) (a0 : Nat) (x1 : Int) (x2 : Int) (x4 : Int) (x5 : Int) (d6 : Option AV) (s0 : Int) : Run sc 114 136 [some (Rf 1), some (I x1), some (I x2), some (Rf a0), some (I x4), some (I x5), d6] [(I s0)] (hq cs iv) = if s0 = (-1) then aBind (Run sc 83 0 [some (Rf 1), some (I 0), some (I x2)] [] (hq cs iv)) (fun v h2 => Run sc 114 146 [some (Rf 1), some (I x1), some (I x2), some (Rf a0), some (I x4), some (I x5), d6] (pushR v []) h2) else Run sc 114 154 [some (Rf 1), some (I x1), some (I x2), some (Rf a0), some (I x4), some (I x5), d6] [] (hq cs iv) :=
  (R_iconst mc_114 dL_alone_136 ⟨by decide, by decide⟩).trans <|
  (R_icmp_ne mc_114 dL_alone_137 (t := 154) rfl).trans <| ite_c2
  ((R_aload_n mc_114 dL_alone_140 rfl).trans <|
  (R_iconst mc_114 dL_alone_141 ⟨by decide, by decide⟩).trans <|
  (R_iload_n mc_114 dL_alone_142 rfl).trans <|
  R_invV mc_114 dL_alone_143 mo_114 ct_7_15 af_114_83 rfl rfl rfl ⟨Nat.le_of_ble_eq_true rfl, Nat.le_of_ble_eq_true rfl⟩)
  (rfl)
theorem B_L_alone_146 (sc : Nat × (Nat → Int)) (iv : Nat → Nat → Int) (cs : List (Nat × Nat)) (a0 : Nat) (x1 : Int) (x2 : Int) (x4 : Int) (x5 : Int) (d6 : Option AV) (s0 : Int) : Run sc 114 146 [some (Rf 1), some (I x1), some (I x2), some (Rf a0), some (I x4), some (I x5), d6] [(I s0)] (hq cs iv) = if s0 = (-1) then Run sc 114 155 [some (Rf 1), some (I x1), some (I x2), some (Rf a0), some (I x4), some (I x5), d6] [(I 1)] (hq cs iv) else Run sc 114 154 [some (Rf 1), some (I x1), some (I x2), some (Rf a0), some (I x4), some (I x5), d6] [] (hq cs iv) :=
  (R_iconst mc_114 dL_alone_146 ⟨by decide, by decide⟩).trans <|
  (R_icmp_ne mc_114 dL_alone_147 (t := 154) rfl).trans <| ite_c2
  ((R_iconst mc_114 dL_alone_150 ⟨by decide, by decide⟩).trans <|
  R_goto mc_114 dL_alone_151 (t := 155) rfl)
  (rfl)
theorem B_L_alone_154 (sc : Nat × (Nat → Int)) (iv : Nat → Nat → Int) (cs : List (Nat × Nat)) (a0 : Nat) (x1 : Int) (x2 : Int) (x4 : Int) (x5 : Int) (d6 : Option AV) : Run sc 114 154 [some (Rf 1), some (I x1), some (I x2), some (Rf a0), some (I x4), some (I x5), d6] [] (hq cs iv) = Run sc 114 155 [some (Rf 1), some (I x1), some (I x2), some (Rf a0), some (I x4), some (I x5), d6] [(I 0)] (hq cs iv) :=
  R_iconst mc_114 dL_alone_154 ⟨by decide, by decide⟩
theorem B_L_alone_155 (sc : Nat × (Nat → Int)) (iv : Nat → Nat → Int) (cs : List (Nat × Nat)) (a0 : Nat) (x1 : Int) (x2 : Int) (x4 : Int) (x5 : Int) (d6 : Option AV) (s0 : Int) : Run sc 114 155 [some (Rf 1), some (I x1), some (I x2), some (Rf a0), some (I x4), some (I x5), d6] [(I s0)] (hq cs iv) = bck 0 1 s0 (some (some (I s0), (hq cs iv))) :=
  R_ireturnZ mc_114 dL_alone_155 rfl
