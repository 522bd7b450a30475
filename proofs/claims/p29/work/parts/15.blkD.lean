theorem B_X2_has_0 (sc : Nat × (Nat → Int)) (iv : Nat → Nat → Int) (k : Nat) (hk : k < 6) (x1 : Int) : Run sc 30 0 [some (Rf (8 + 6 * k)), some (I x1)] [] (hp iv) = if x1 < 0 then Run sc 30 16 [some (Rf (8 + 6 * k)), some (I x1)] [] (hp iv) else if x1 < (iv (8 + 6 * k) 3) then Run sc 30 17 [some (Rf (8 + 6 * k)), some (I x1)] [(I 1)] (hp iv) else Run sc 30 16 [some (Rf (8 + 6 * k)), some (I x1)] [] (hp iv) :=
  (R_iload_n mc_30 dX2_has_0 rfl).trans <|
  (R_if_lt mc_30 dX2_has_1 (t := 16) rfl).trans <| ite_c2
  (rfl)
  ((R_iload_n mc_30 dX2_has_4 rfl).trans <|
  (R_aload_n mc_30 dX2_has_5 rfl).trans <|
  (R_getI mc_30 dX2_has_6 mo_30 ft_2_39 (kCR hk) rfl).trans <|
  (R_icmp_ge mc_30 dX2_has_9 (t := 16) rfl).trans <| ite_c2
  ((R_iconst mc_30 dX2_has_12 ⟨by decide, by decide⟩).trans <|
  R_goto mc_30 dX2_has_13 (t := 17) rfl)
  (rfl))
theorem B_X2_has_16 (sc : Nat × (Nat → Int)) (iv : Nat → Nat → Int) (k : Nat) (hk : k < 6) (x1 : Int) : Run sc 30 16 [some (Rf (8 + 6 * k)), some (I x1)] [] (hp iv) = Run sc 30 17 [some (Rf (8 + 6 * k)), some (I x1)] [(I 0)] (hp iv) :=
  R_iconst mc_30 dX2_has_16 ⟨by decide, by decide⟩
theorem B_X2_has_17 (sc : Nat × (Nat → Int)) (iv : Nat → Nat → Int) (k : Nat) (hk : k < 6) (x1 : Int) (s0 : Int) : Run sc 30 17 [some (Rf (8 + 6 * k)), some (I x1)] [(I s0)] (hp iv) = bck 0 1 s0 (some (some (I s0), (hp iv))) :=
  R_ireturnZ mc_30 dX2_has_17 rfl
theorem B_X2_findRuns_0 (sc : Nat × (Nat → Int)) (iv : Nat → Nat → Int) (k : Nat) (hk : k < 6)  : Run sc 31 0 [some (Rf (8 + 6 * k)), none, none] [] (hp iv) = bck (-2147483648) 2147483647 0 (Run sc 31 5 [some (Rf (8 + 6 * k)), none, none] [] (hp (setO iv (8 + 6 * k) (upI (iv (8 + 6 * k)) 3 0)))) :=
  (R_aload_n mc_31 dX2_findRuns_0 rfl).trans <|
  (R_iconst mc_31 dX2_findRuns_1 ⟨by decide, by decide⟩).trans <|
  (R_putI mc_31 dX2_findRuns_2 mo_31 ft_2_39 rfl (kCR hk) rfl (lo := (-2147483648)) (hi := 2147483647) rfl rfl).trans <| bck_congr <|
  rfl
theorem B_X2_findRuns_5 (sc : Nat × (Nat → Int)) (iv : Nat → Nat → Int) (k : Nat) (hk : k < 6) (d1 : Option AV) (d2 : Option AV) : Run sc 31 5 [some (Rf (8 + 6 * k)), d1, d2] [] (hp iv) = Run sc 31 7 [some (Rf (8 + 6 * k)), some (I 0), d2] [] (hp iv) :=
  (R_iconst mc_31 dX2_findRuns_5 ⟨by decide, by decide⟩).trans <|
  R_istore_n mc_31 dX2_findRuns_6 (Nat.le_of_ble_eq_true rfl)
theorem B_X2_findRuns_7 (sc : Nat × (Nat → Int)) (iv : Nat → Nat → Int) (k : Nat) (hk : k < 6) (x1 : Int) (d2 : Option AV) : Run sc 31 7 [some (Rf (8 + 6 * k)), some (I x1), d2] [] (hp iv) = if x1 < (iv 2 1) then Run sc 31 20 [some (Rf (8 + 6 * k)), some (I x1), some (I 0)] [] (hp iv) else Run sc 31 83 [some (Rf (8 + 6 * k)), some (I x1), d2] [] (hp iv) :=
  (R_iload_n mc_31 dX2_findRuns_7 rfl).trans <|
  (R_aload_n mc_31 dX2_findRuns_8 rfl).trans <|
  (R_getR mc_31 dX2_findRuns_9 mo_31 ft_2_9 (kCR hk) rfl (rCR0 hk) (by omega)).trans <|
  (R_getI mc_31 dX2_findRuns_12 mo_31 ft_2_42 rfl rfl).trans <|
  (R_icmp_ge mc_31 dX2_findRuns_15 (t := 83) rfl).trans <| ite_c2
  ((R_iconst mc_31 dX2_findRuns_18 ⟨by decide, by decide⟩).trans <|
  R_istore_n mc_31 dX2_findRuns_19 (Nat.le_of_ble_eq_true rfl))
  (rfl)
theorem B_X2_findRuns_20 (sc : Nat × (Nat → Int)) (iv : Nat → Nat → Int) (k : Nat) (hk : k < 6) (x1 : Int) (x2 : Int) : Run sc 31 20 [some (Rf (8 + 6 * k)), some (I x1), some (I x2)] [] (hp iv) = if x2 < (iv 2 0) then aBind (Run sc 51 0 [some (Rf 2), some (I x2), some (I x1)] [] (hp iv)) (fun v h2 => Run sc 31 40 [some (Rf (8 + 6 * k)), some (I x1), some (I x2)] (pushR v []) h2) else Run sc 31 77 [some (Rf (8 + 6 * k)), some (I x1), some (I x2)] [] (hp iv) :=
  (R_iload_n mc_31 dX2_findRuns_20 rfl).trans <|
  (R_aload_n mc_31 dX2_findRuns_21 rfl).trans <|
  (R_getR mc_31 dX2_findRuns_22 mo_31 ft_2_9 (kCR hk) rfl (rCR0 hk) (by omega)).trans <|
  (R_getI mc_31 dX2_findRuns_25 mo_31 ft_2_47 rfl rfl).trans <|
  (R_icmp_ge mc_31 dX2_findRuns_28 (t := 77) rfl).trans <| ite_c2
  ((R_aload_n mc_31 dX2_findRuns_31 rfl).trans <|
  (R_getR mc_31 dX2_findRuns_32 mo_31 ft_2_9 (kCR hk) rfl (rCR0 hk) (by omega)).trans <|
  (R_iload_n mc_31 dX2_findRuns_35 rfl).trans <|
  (R_iload_n mc_31 dX2_findRuns_36 rfl).trans <|
  R_invV mc_31 dX2_findRuns_37 mo_31 ct_2_50 af_31_51 rfl rfl rfl ⟨Nat.le_of_ble_eq_true rfl, Nat.le_of_ble_eq_true rfl⟩)
  (rfl)
theorem B_X2_findRuns_40 (sc : Nat × (Nat → Int)) (iv : Nat → Nat → Int) (k : Nat) (hk : k < 6) (x1 : Int) (x2 : Int) (s0 : Int) : Run sc 31 40 [some (Rf (8 + 6 * k)), some (I x1), some (I x2)] [(I s0)] (hp iv) = if s0 = (iv (8 + 6 * k) 2) then chk (x2 - 1) (aBind (Run sc 51 0 [some (Rf 2), some (I (x2 - 1)), some (I x1)] [] (hp iv)) (fun v h2 => Run sc 31 58 [some (Rf (8 + 6 * k)), some (I x1), some (I x2)] (pushR v []) h2)) else Run sc 31 71 [some (Rf (8 + 6 * k)), some (I x1), some (I x2)] [] (hp iv) :=
  (R_aload_n mc_31 dX2_findRuns_40 rfl).trans <|
  (R_getI mc_31 dX2_findRuns_41 mo_31 ft_2_19 (kCR hk) rfl).trans <|
  (R_icmp_ne mc_31 dX2_findRuns_44 (t := 71) rfl).trans <| ite_c2
  ((R_aload_n mc_31 dX2_findRuns_47 rfl).trans <|
  (R_getR mc_31 dX2_findRuns_48 mo_31 ft_2_9 (kCR hk) rfl (rCR0 hk) (by omega)).trans <|
  (R_iload_n mc_31 dX2_findRuns_51 rfl).trans <|
  (R_iconst mc_31 dX2_findRuns_52 ⟨by decide, by decide⟩).trans <|
  (R_isub mc_31 dX2_findRuns_53).trans <| chk_congr <|
  (R_iload_n mc_31 dX2_findRuns_54 rfl).trans <|
  R_invV mc_31 dX2_findRuns_55 mo_31 ct_2_50 af_31_51 rfl rfl rfl ⟨Nat.le_of_ble_eq_true rfl, Nat.le_of_ble_eq_true rfl⟩)
  (rfl)
theorem B_X2_findRuns_58 (sc : Nat × (Nat → Int)) (iv : Nat → Nat → Int) (k : Nat) (hk : k < 6) (x1 : Int) (x2 : Int) (s0 : Int) : Run sc 31 58 [some (Rf (8 + 6 * k)), some (I x1), some (I x2)] [(I s0)] (hp iv) = if s0 = (iv (8 + 6 * k) 2) then Run sc 31 71 [some (Rf (8 + 6 * k)), some (I x1), some (I x2)] [] (hp iv) else aBind (Run sc 32 0 [some (Rf (8 + 6 * k)), some (I x2), some (I x1), none] [] (hp iv)) (fun v h2 => Run sc 31 71 [some (Rf (8 + 6 * k)), some (I x1), some (I x2)] (pushR v []) h2) :=
  (R_aload_n mc_31 dX2_findRuns_58 rfl).trans <|
  (R_getI mc_31 dX2_findRuns_59 mo_31 ft_2_19 (kCR hk) rfl).trans <|
  (R_icmp_eq mc_31 dX2_findRuns_62 (t := 71) rfl).trans <| ite_c2
  (rfl)
  ((R_aload_n mc_31 dX2_findRuns_65 rfl).trans <|
  (R_iload_n mc_31 dX2_findRuns_66 rfl).trans <|
  (R_iload_n mc_31 dX2_findRuns_67 rfl).trans <|
  R_invV mc_31 dX2_findRuns_68 mo_31 ct_2_54 af_31_32 rfl (kCR hk) rfl ⟨Nat.le_of_ble_eq_true rfl, Nat.le_of_ble_eq_true rfl⟩)
theorem B_X2_findRuns_71 (sc : Nat × (Nat → Int)) (iv : Nat → Nat → Int) (k : Nat) (hk : k < 6) (x1 : Int) (x2 : Int) : Run sc 31 71 [some (Rf (8 + 6 * k)), some (I x1), some (I x2)] [] (hp iv) = chk (x2 + 1) (Run sc 31 20 [some (Rf (8 + 6 * k)), some (I x1), some (I (x2 + 1))] [] (hp iv)) :=
  (R_iinc mc_31 dX2_findRuns_71 rfl).trans <| chk_congr <|
  R_goto mc_31 dX2_findRuns_74 (t := 20) rfl
theorem B_X2_findRuns_77 (sc : Nat × (Nat → Int)) (iv : Nat → Nat → Int) (k : Nat) (hk : k < 6) (x1 : Int) (x2 : Int) : Run sc 31 77 [some (Rf (8 + 6 * k)), some (I x1), some (I x2)] [] (hp iv) = chk (x1 + 1) (Run sc 31 7 [some (Rf (8 + 6 * k)), some (I (x1 + 1)), some (I x2)] [] (hp iv)) :=
  (R_iinc mc_31 dX2_findRuns_77 rfl).trans <| chk_congr <|
  R_goto mc_31 dX2_findRuns_80 (t := 7) rfl
theorem B_X2_findRuns_83 (sc : Nat × (Nat → Int)) (iv : Nat → Nat → Int) (k : Nat) (hk : k < 6) (x1 : Int) (d2 : Option AV) : Run sc 31 83 [some (Rf (8 + 6 * k)), some (I x1), d2] [] (hp iv) = some (none, (hp iv)) :=
  R_return mc_31 dX2_findRuns_83 rfl
theorem B_X2_addRun_0 (sc : Nat × (Nat → Int)) (iv : Nat → Nat → Int) (k : Nat) (hk : k < 6) (x1 : Int) (x2 : Int) : Run sc 32 0 [some (Rf (8 + 6 * k)), some (I x1), some (I x2), none] [] (hp iv) = if (iv (8 + 6 * k) 3) < 0 then Run sc 32 17 [some (Rf (8 + 6 * k)), some (I x1), some (I x2), none] [] (hp iv) else if (iv (8 + 6 * k) 3) < 288 then Run sc 32 18 [some (Rf (8 + 6 * k)), some (I x1), some (I x2), none] [] (hp iv) else Run sc 32 17 [some (Rf (8 + 6 * k)), some (I x1), some (I x2), none] [] (hp iv) :=
  (R_aload_n mc_32 dX2_addRun_0 rfl).trans <|
  (R_getI mc_32 dX2_addRun_1 mo_32 ft_2_39 (kCR hk) rfl).trans <|
  (R_if_lt mc_32 dX2_addRun_4 (t := 17) rfl).trans <| ite_c2
  (rfl)
  ((R_aload_n mc_32 dX2_addRun_7 rfl).trans <|
  (R_getI mc_32 dX2_addRun_8 mo_32 ft_2_39 (kCR hk) rfl).trans <|
  (R_sipush mc_32 dX2_addRun_11 ⟨by decide, by decide⟩).trans <|
  R_icmp_lt mc_32 dX2_addRun_14 (t := 18) rfl)
theorem B_X2_addRun_17 (sc : Nat × (Nat → Int)) (iv : Nat → Nat → Int) (k : Nat) (hk : k < 6) (x1 : Int) (x2 : Int) (d3 : Option AV) : Run sc 32 17 [some (Rf (8 + 6 * k)), some (I x1), some (I x2), d3] [] (hp iv) = some (none, (hp iv)) :=
  R_return mc_32 dX2_addRun_17 rfl
theorem B_X2_addRun_18 (sc : Nat × (Nat → Int)) (iv : Nat → Nat → Int) (k : Nat) (hk : k < 6) (x1 : Int) (x2 : Int) (d3 : Option AV) : Run sc 32 18 [some (Rf (8 + 6 * k)), some (I x1), some (I x2), d3] [] (hp iv) = Run sc 32 20 [some (Rf (8 + 6 * k)), some (I x1), some (I x2), some (I 1)] [] (hp iv) :=
  (R_iconst mc_32 dX2_addRun_18 ⟨by decide, by decide⟩).trans <|
  R_istore_n mc_32 dX2_addRun_19 (Nat.le_of_ble_eq_true rfl)
theorem B_X2_addRun_20 (sc : Nat × (Nat → Int)) (iv : Nat → Nat → Int) (k : Nat) (hk : k < 6) (x1 : Int) (x2 : Int) (x3 : Int) : Run sc 32 20 [some (Rf (8 + 6 * k)), some (I x1), some (I x2), some (I x3)] [] (hp iv) = if x3 < 24 then chk (x1 + x3) (aBind (Run sc 51 0 [some (Rf 2), some (I (x1 + x3)), some (I x2)] [] (hp iv)) (fun v h2 => Run sc 32 37 [some (Rf (8 + 6 * k)), some (I x1), some (I x2), some (I x3)] (pushR v []) h2)) else Run sc 32 50 [some (Rf (8 + 6 * k)), some (I x1), some (I x2), some (I x3)] [] (hp iv) :=
  (R_iload_n mc_32 dX2_addRun_20 rfl).trans <|
  (R_bipush mc_32 dX2_addRun_21 ⟨by decide, by decide⟩).trans <|
  (R_icmp_ge mc_32 dX2_addRun_23 (t := 50) rfl).trans <| ite_c2
  ((R_aload_n mc_32 dX2_addRun_26 rfl).trans <|
  (R_getR mc_32 dX2_addRun_27 mo_32 ft_2_9 (kCR hk) rfl (rCR0 hk) (by omega)).trans <|
  (R_iload_n mc_32 dX2_addRun_30 rfl).trans <|
  (R_iload_n mc_32 dX2_addRun_31 rfl).trans <|
  (R_iadd mc_32 dX2_addRun_32).trans <| chk_congr <|
  (R_iload_n mc_32 dX2_addRun_33 rfl).trans <|
  R_invV mc_32 dX2_addRun_34 mo_32 ct_2_50 af_32_51 rfl rfl rfl ⟨Nat.le_of_ble_eq_true rfl, Nat.le_of_ble_eq_true rfl⟩)
  (rfl)
theorem B_X2_addRun_37 (sc : Nat × (Nat → Int)) (iv : Nat → Nat → Int) (k : Nat) (hk : k < 6) (x1 : Int) (x2 : Int) (x3 : Int) (s0 : Int) : Run sc 32 37 [some (Rf (8 + 6 * k)), some (I x1), some (I x2), some (I x3)] [(I s0)] (hp iv) = if s0 = (iv (8 + 6 * k) 2) then chk (x3 + 1) (Run sc 32 20 [some (Rf (8 + 6 * k)), some (I x1), some (I x2), some (I (x3 + 1))] [] (hp iv)) else Run sc 32 50 [some (Rf (8 + 6 * k)), some (I x1), some (I x2), some (I x3)] [] (hp iv) :=
  (R_aload_n mc_32 dX2_addRun_37 rfl).trans <|
  (R_getI mc_32 dX2_addRun_38 mo_32 ft_2_19 (kCR hk) rfl).trans <|
  (R_icmp_ne mc_32 dX2_addRun_41 (t := 50) rfl).trans <| ite_c2
  ((R_iinc mc_32 dX2_addRun_44 rfl).trans <| chk_congr <|
  R_goto mc_32 dX2_addRun_47 (t := 20) rfl)
  (rfl)
theorem B_X2_addRun_50 (sc : Nat × (Nat → Int)) (iv : Nat → Nat → Int) (k : Nat) (hk : k < 6) (x1 : Int) (x2 : Int) (x3 : Int) : Run sc 32 50 [some (Rf (8 + 6 * k)), some (I x1), some (I x2), some (I x3)] [] (hp iv) = bck 0 (((288 : Nat) : Int) - 1) (iv (8 + 6 * k) 3) (bck (-2147483648) 2147483647 x1 (Run sc 32 60 [some (Rf (8 + 6 * k)), some (I x1), some (I x2), some (I x3)] [] (hp (setO iv (9 + 6 * k) (upI (iv (9 + 6 * k)) (Int.toNat (iv (8 + 6 * k) 3)) x1))))) :=
  (R_aload_n mc_32 dX2_addRun_50 rfl).trans <|
  (R_getR mc_32 dX2_addRun_51 mo_32 ft_2_23 (kCR hk) rfl (rCR4 hk) (by omega)).trans <|
  (R_aload_n mc_32 dX2_addRun_54 rfl).trans <|
  (R_getI mc_32 dX2_addRun_55 mo_32 ft_2_39 (kCR hk) rfl).trans <|
  (R_iload_n mc_32 dX2_addRun_58 rfl).trans <|
  (R_iastore mc_32 dX2_addRun_59 (kCA0 hk)).trans <| bck_congr <| bck_congr <|
  rfl
theorem B_X2_addRun_60 (sc : Nat × (Nat → Int)) (iv : Nat → Nat → Int) (k : Nat) (hk : k < 6) (x1 : Int) (x2 : Int) (x3 : Int) : Run sc 32 60 [some (Rf (8 + 6 * k)), some (I x1), some (I x2), some (I x3)] [] (hp iv) = bck 0 (((288 : Nat) : Int) - 1) (iv (8 + 6 * k) 3) (bck (-2147483648) 2147483647 x2 (Run sc 32 70 [some (Rf (8 + 6 * k)), some (I x1), some (I x2), some (I x3)] [] (hp (setO iv (10 + 6 * k) (upI (iv (10 + 6 * k)) (Int.toNat (iv (8 + 6 * k) 3)) x2))))) :=
  (R_aload_n mc_32 dX2_addRun_60 rfl).trans <|
  (R_getR mc_32 dX2_addRun_61 mo_32 ft_2_27 (kCR hk) rfl (rCR5 hk) (by omega)).trans <|
  (R_aload_n mc_32 dX2_addRun_64 rfl).trans <|
  (R_getI mc_32 dX2_addRun_65 mo_32 ft_2_39 (kCR hk) rfl).trans <|
  (R_iload_n mc_32 dX2_addRun_68 rfl).trans <|
  (R_iastore mc_32 dX2_addRun_69 (kCA1 hk)).trans <| bck_congr <| bck_congr <|
  rfl
theorem B_X2_addRun_70 (sc : Nat × (Nat → Int)) (iv : Nat → Nat → Int) (k : Nat) (hk : k < 6) (x1 : Int) (x2 : Int) (x3 : Int) : Run sc 32 70 [some (Rf (8 + 6 * k)), some (I x1), some (I x2), some (I x3)] [] (hp iv) = bck 0 (((288 : Nat) : Int) - 1) (iv (8 + 6 * k) 3) (bck (-2147483648) 2147483647 x3 (Run sc 32 80 [some (Rf (8 + 6 * k)), some (I x1), some (I x2), some (I x3)] [] (hp (setO iv (11 + 6 * k) (upI (iv (11 + 6 * k)) (Int.toNat (iv (8 + 6 * k) 3)) x3))))) :=
  (R_aload_n mc_32 dX2_addRun_70 rfl).trans <|
  (R_getR mc_32 dX2_addRun_71 mo_32 ft_2_30 (kCR hk) rfl (rCR6 hk) (by omega)).trans <|
  (R_aload_n mc_32 dX2_addRun_74 rfl).trans <|
  (R_getI mc_32 dX2_addRun_75 mo_32 ft_2_39 (kCR hk) rfl).trans <|
  (R_iload_n mc_32 dX2_addRun_78 rfl).trans <|
  (R_iastore mc_32 dX2_addRun_79 (kCA2 hk)).trans <| bck_congr <| bck_congr <|
  rfl
theorem B_X2_addRun_80 (sc : Nat × (Nat → Int)) (iv : Nat → Nat → Int) (k : Nat) (hk : k < 6) (x1 : Int) (x2 : Int) (x3 : Int) : Run sc 32 80 [some (Rf (8 + 6 * k)), some (I x1), some (I x2), some (I x3)] [] (hp iv) = chk ((iv (8 + 6 * k) 3) + 1) (bck (-2147483648) 2147483647 ((iv (8 + 6 * k) 3) + 1) (Run sc 32 90 [some (Rf (8 + 6 * k)), some (I x1), some (I x2), some (I x3)] [] (hp (setO iv (8 + 6 * k) (upI (iv (8 + 6 * k)) 3 ((iv (8 + 6 * k) 3) + 1)))))) :=
  (R_aload_n mc_32 dX2_addRun_80 rfl).trans <|
  (R_dup mc_32 dX2_addRun_81).trans <|
  (R_getI mc_32 dX2_addRun_82 mo_32 ft_2_39 (kCR hk) rfl).trans <|
  (R_iconst mc_32 dX2_addRun_85 ⟨by decide, by decide⟩).trans <|
  (R_iadd mc_32 dX2_addRun_86).trans <| chk_congr <|
  (R_putI mc_32 dX2_addRun_87 mo_32 ft_2_39 rfl (kCR hk) rfl (lo := (-2147483648)) (hi := 2147483647) rfl rfl).trans <| bck_congr <|
  rfl
theorem B_X2_addRun_90 (sc : Nat × (Nat → Int)) (iv : Nat → Nat → Int) (k : Nat) (hk : k < 6) (x1 : Int) (x2 : Int) (x3 : Int) : Run sc 32 90 [some (Rf (8 + 6 * k)), some (I x1), some (I x2), some (I x3)] [] (hp iv) = some (none, (hp iv)) :=
  R_return mc_32 dX2_addRun_90 rfl
theorem B_X2_makeOrderFirst_0 (sc : Nat × (Nat → Int)) (iv : Nat → Nat → Int) (k : Nat) (hk : k < 6)  : Run sc 33 0 [some (Rf (8 + 6 * k)), none, none] [] (hp iv) = Run sc 33 2 [some (Rf (8 + 6 * k)), some (I 0), none] [] (hp iv) :=
  (R_iconst mc_33 dX2_makeOrderFirst_0 ⟨by decide, by decide⟩).trans <|
  R_istore_n mc_33 dX2_makeOrderFirst_1 (Nat.le_of_ble_eq_true rfl)
theorem B_X2_makeOrderFirst_2 (sc : Nat × (Nat → Int)) (iv : Nat → Nat → Int) (k : Nat) (hk : k < 6) (x1 : Int) (d2 : Option AV) : Run sc 33 2 [some (Rf (8 + 6 * k)), some (I x1), d2] [] (hp iv) = if x1 < (iv (8 + 6 * k) 3) then bck 0 (((288 : Nat) : Int) - 1) x1 (bck (-2147483648) 2147483647 (-1) (Run sc 33 17 [some (Rf (8 + 6 * k)), some (I x1), d2] [] (hp (setO iv (13 + 6 * k) (upI (iv (13 + 6 * k)) (Int.toNat x1) (-1)))))) else Run sc 33 23 [some (Rf (8 + 6 * k)), some (I x1), d2] [] (hp iv) :=
  (R_iload_n mc_33 dX2_makeOrderFirst_2 rfl).trans <|
  (R_aload_n mc_33 dX2_makeOrderFirst_3 rfl).trans <|
  (R_getI mc_33 dX2_makeOrderFirst_4 mo_33 ft_2_39 (kCR hk) rfl).trans <|
  (R_icmp_ge mc_33 dX2_makeOrderFirst_7 (t := 23) rfl).trans <| ite_c2
  ((R_aload_n mc_33 dX2_makeOrderFirst_10 rfl).trans <|
  (R_getR mc_33 dX2_makeOrderFirst_11 mo_33 ft_2_36 (kCR hk) rfl (rCR8 hk) (by omega)).trans <|
  (R_iload_n mc_33 dX2_makeOrderFirst_14 rfl).trans <|
  (R_iconst mc_33 dX2_makeOrderFirst_15 ⟨by decide, by decide⟩).trans <|
  (R_iastore mc_33 dX2_makeOrderFirst_16 (kCA4 hk)).trans <| bck_congr <| bck_congr <|
  rfl)
  (rfl)
theorem B_X2_makeOrderFirst_17 (sc : Nat × (Nat → Int)) (iv : Nat → Nat → Int) (k : Nat) (hk : k < 6) (x1 : Int) (d2 : Option AV) : Run sc 33 17 [some (Rf (8 + 6 * k)), some (I x1), d2] [] (hp iv) = chk (x1 + 1) (Run sc 33 2 [some (Rf (8 + 6 * k)), some (I (x1 + 1)), d2] [] (hp iv)) :=
  (R_iinc mc_33 dX2_makeOrderFirst_17 rfl).trans <| chk_congr <|
  R_goto mc_33 dX2_makeOrderFirst_20 (t := 2) rfl
theorem B_X2_makeOrderFirst_23 (sc : Nat × (Nat → Int)) (iv : Nat → Nat → Int) (k : Nat) (hk : k < 6) (x1 : Int) (d2 : Option AV) : Run sc 33 23 [some (Rf (8 + 6 * k)), some (I x1), d2] [] (hp iv) = Run sc 33 27 [some (Rf (8 + 6 * k)), some (I 0), some (I 0)] [] (hp iv) :=
  (R_iconst mc_33 dX2_makeOrderFirst_23 ⟨by decide, by decide⟩).trans <|
  (R_istore_n mc_33 dX2_makeOrderFirst_24 (Nat.le_of_ble_eq_true rfl)).trans <|
  (R_iconst mc_33 dX2_makeOrderFirst_25 ⟨by decide, by decide⟩).trans <|
  R_istore_n mc_33 dX2_makeOrderFirst_26 (Nat.le_of_ble_eq_true rfl)
theorem B_X2_makeOrderFirst_27 (sc : Nat × (Nat → Int)) (iv : Nat → Nat → Int) (k : Nat) (hk : k < 6) (x1 : Int) (x2 : Int) : Run sc 33 27 [some (Rf (8 + 6 * k)), some (I x1), some (I x2)] [] (hp iv) = if x2 < (iv (8 + 6 * k) 3) then if 0 < x2 then aBind (Run sc 34 0 [some (Rf (8 + 6 * k)), some (I x1), none, none, none, none] [] (hp iv)) (fun v h2 => Run sc 33 44 [some (Rf (8 + 6 * k)), some (I x1), some (I x2)] (pushR v []) h2) else Run sc 33 45 [some (Rf (8 + 6 * k)), some (I x1), some (I x2)] [] (hp iv) else Run sc 33 73 [some (Rf (8 + 6 * k)), some (I x1), some (I x2)] [] (hp iv) :=
  (R_iload_n mc_33 dX2_makeOrderFirst_27 rfl).trans <|
  (R_aload_n mc_33 dX2_makeOrderFirst_28 rfl).trans <|
  (R_getI mc_33 dX2_makeOrderFirst_29 mo_33 ft_2_39 (kCR hk) rfl).trans <|
  (R_icmp_ge mc_33 dX2_makeOrderFirst_32 (t := 73) rfl).trans <| ite_c2
  ((R_iload_n mc_33 dX2_makeOrderFirst_35 rfl).trans <|
  (R_if_le mc_33 dX2_makeOrderFirst_36 (t := 45) rfl).trans <| ite_c2
  ((R_aload_n mc_33 dX2_makeOrderFirst_39 rfl).trans <|
  (R_iload_n mc_33 dX2_makeOrderFirst_40 rfl).trans <|
  R_invV mc_33 dX2_makeOrderFirst_41 mo_33 ct_2_58 af_33_34 rfl (kCR hk) rfl ⟨Nat.le_of_ble_eq_true rfl, Nat.le_of_ble_eq_true rfl⟩)
  (rfl))
  (rfl)
theorem B_X2_makeOrderFirst_44 (sc : Nat × (Nat → Int)) (iv : Nat → Nat → Int) (k : Nat) (hk : k < 6) (x1 : Int) (x2 : Int) (s0 : Int) : Run sc 33 44 [some (Rf (8 + 6 * k)), some (I x1), some (I x2)] [(I s0)] (hp iv) = Run sc 33 45 [some (Rf (8 + 6 * k)), some (I s0), some (I x2)] [] (hp iv) :=
  R_istore_n mc_33 dX2_makeOrderFirst_44 (Nat.le_of_ble_eq_true rfl)
theorem B_X2_makeOrderFirst_45 (sc : Nat × (Nat → Int)) (iv : Nat → Nat → Int) (k : Nat) (hk : k < 6) (x1 : Int) (x2 : Int) : Run sc 33 45 [some (Rf (8 + 6 * k)), some (I x1), some (I x2)] [] (hp iv) = aBind (Run sc 30 0 [some (Rf (8 + 6 * k)), some (I x1)] [] (hp iv)) (fun v h2 => Run sc 33 50 [some (Rf (8 + 6 * k)), some (I x1), some (I x2)] (pushR v []) h2) :=
  (R_aload_n mc_33 dX2_makeOrderFirst_45 rfl).trans <|
  (R_iload_n mc_33 dX2_makeOrderFirst_46 rfl).trans <|
  R_invV mc_33 dX2_makeOrderFirst_47 mo_33 ct_2_62 af_33_30 rfl (kCR hk) rfl ⟨Nat.le_of_ble_eq_true rfl, Nat.le_of_ble_eq_true rfl⟩
theorem B_X2_makeOrderFirst_50 (sc : Nat × (Nat → Int)) (iv : Nat → Nat → Int) (k : Nat) (hk : k < 6) (x1 : Int) (x2 : Int) (s0 : Int) : Run sc 33 50 [some (Rf (8 + 6 * k)), some (I x1), some (I x2)] [(I s0)] (hp iv) = if s0 = 0 then Run sc 33 67 [some (Rf (8 + 6 * k)), some (I x1), some (I x2)] [] (hp iv) else bck 0 (((288 : Nat) : Int) - 1) x2 (bck (-2147483648) 2147483647 x1 (Run sc 33 60 [some (Rf (8 + 6 * k)), some (I x1), some (I x2)] [] (hp (setO iv (12 + 6 * k) (upI (iv (12 + 6 * k)) (Int.toNat x2) x1))))) :=
  (R_if_eq mc_33 dX2_makeOrderFirst_50 (t := 67) rfl).trans <| ite_c2
  (rfl)
  ((R_aload_n mc_33 dX2_makeOrderFirst_53 rfl).trans <|
  (R_getR mc_33 dX2_makeOrderFirst_54 mo_33 ft_2_33 (kCR hk) rfl (rCR7 hk) (by omega)).trans <|
  (R_iload_n mc_33 dX2_makeOrderFirst_57 rfl).trans <|
  (R_iload_n mc_33 dX2_makeOrderFirst_58 rfl).trans <|
  (R_iastore mc_33 dX2_makeOrderFirst_59 (kCA3 hk)).trans <| bck_congr <| bck_congr <|
  rfl)
theorem B_X2_makeOrderFirst_60 (sc : Nat × (Nat → Int)) (iv : Nat → Nat → Int) (k : Nat) (hk : k < 6) (x1 : Int) (x2 : Int) : Run sc 33 60 [some (Rf (8 + 6 * k)), some (I x1), some (I x2)] [] (hp iv) = bck 0 (((288 : Nat) : Int) - 1) x1 (bck (-2147483648) 2147483647 x2 (Run sc 33 67 [some (Rf (8 + 6 * k)), some (I x1), some (I x2)] [] (hp (setO iv (13 + 6 * k) (upI (iv (13 + 6 * k)) (Int.toNat x1) x2))))) :=
  (R_aload_n mc_33 dX2_makeOrderFirst_60 rfl).trans <|
  (R_getR mc_33 dX2_makeOrderFirst_61 mo_33 ft_2_36 (kCR hk) rfl (rCR8 hk) (by omega)).trans <|
  (R_iload_n mc_33 dX2_makeOrderFirst_64 rfl).trans <|
  (R_iload_n mc_33 dX2_makeOrderFirst_65 rfl).trans <|
  (R_iastore mc_33 dX2_makeOrderFirst_66 (kCA4 hk)).trans <| bck_congr <| bck_congr <|
  rfl
theorem B_X2_makeOrderFirst_67 (sc : Nat × (Nat → Int)) (iv : Nat → Nat → Int) (k : Nat) (hk : k < 6) (x1 : Int) (x2 : Int) : Run sc 33 67 [some (Rf (8 + 6 * k)), some (I x1), some (I x2)] [] (hp iv) = chk (x2 + 1) (Run sc 33 27 [some (Rf (8 + 6 * k)), some (I x1), some (I (x2 + 1))] [] (hp iv)) :=
  (R_iinc mc_33 dX2_makeOrderFirst_67 rfl).trans <| chk_congr <|
  R_goto mc_33 dX2_makeOrderFirst_70 (t := 27) rfl
theorem B_X2_makeOrderFirst_73 (sc : Nat × (Nat → Int)) (iv : Nat → Nat → Int) (k : Nat) (hk : k < 6) (x1 : Int) (x2 : Int) : Run sc 33 73 [some (Rf (8 + 6 * k)), some (I x1), some (I x2)] [] (hp iv) = some (none, (hp iv)) :=
  R_return mc_33 dX2_makeOrderFirst_73 rfl
theorem B_X2_nearestWithoutPlace_0 (sc : Nat × (Nat → Int)) (iv : Nat → Nat → Int) (k : Nat) (hk : k < 6) (x1 : Int) : Run sc 34 0 [some (Rf (8 + 6 * k)), some (I x1), none, none, none, none] [] (hp iv) = Run sc 34 7 [some (Rf (8 + 6 * k)), some (I x1), some (I (-1)), some (I 0), some (I 0), none] [] (hp iv) :=
  (R_iconst mc_34 dX2_nearestWithoutPlace_0 ⟨by decide, by decide⟩).trans <|
  (R_istore_n mc_34 dX2_nearestWithoutPlace_1 (Nat.le_of_ble_eq_true rfl)).trans <|
  (R_iconst mc_34 dX2_nearestWithoutPlace_2 ⟨by decide, by decide⟩).trans <|
  (R_istore_n mc_34 dX2_nearestWithoutPlace_3 (Nat.le_of_ble_eq_true rfl)).trans <|
  (R_iconst mc_34 dX2_nearestWithoutPlace_4 ⟨by decide, by decide⟩).trans <|
  R_istore mc_34 dX2_nearestWithoutPlace_5 (Nat.le_of_ble_eq_true rfl)
theorem B_X2_nearestWithoutPlace_7 (sc : Nat × (Nat → Int)) (iv : Nat → Nat → Int) (k : Nat) (hk : k < 6) (x1 : Int) (x2 : Int) (x3 : Int) (x4 : Int) (d5 : Option AV) : Run sc 34 7 [some (Rf (8 + 6 * k)), some (I x1), some (I x2), some (I x3), some (I x4), d5] [] (hp iv) = if x4 < (iv (8 + 6 * k) 3) then bck 0 (((288 : Nat) : Int) - 1) x4 (if (iv (13 + 6 * k) (Int.toNat x4)) = (-1) then aBind (Run sc 35 0 [some (Rf (8 + 6 * k)), some (I x1), some (I x4)] [] (hp iv)) (fun v h2 => Run sc 34 34 [some (Rf (8 + 6 * k)), some (I x1), some (I x2), some (I x3), some (I x4), d5] (pushR v []) h2) else Run sc 34 53 [some (Rf (8 + 6 * k)), some (I x1), some (I x2), some (I x3), some (I x4), d5] [] (hp iv)) else Run sc 34 59 [some (Rf (8 + 6 * k)), some (I x1), some (I x2), some (I x3), some (I x4), d5] [] (hp iv) :=
  (R_iload mc_34 dX2_nearestWithoutPlace_7 rfl).trans <|
  (R_aload_n mc_34 dX2_nearestWithoutPlace_9 rfl).trans <|
  (R_getI mc_34 dX2_nearestWithoutPlace_10 mo_34 ft_2_39 (kCR hk) rfl).trans <|
  (R_icmp_ge mc_34 dX2_nearestWithoutPlace_13 (t := 59) rfl).trans <| ite_c2
  ((R_aload_n mc_34 dX2_nearestWithoutPlace_16 rfl).trans <|
  (R_getR mc_34 dX2_nearestWithoutPlace_17 mo_34 ft_2_36 (kCR hk) rfl (rCR8 hk) (by omega)).trans <|
  (R_iload mc_34 dX2_nearestWithoutPlace_20 rfl).trans <|
  (R_iaload mc_34 dX2_nearestWithoutPlace_22 (kCA4 hk)).trans <| bck_congr <|
  (R_iconst mc_34 dX2_nearestWithoutPlace_23 ⟨by decide, by decide⟩).trans <|
  (R_icmp_ne mc_34 dX2_nearestWithoutPlace_24 (t := 53) rfl).trans <| ite_c2
  ((R_aload_n mc_34 dX2_nearestWithoutPlace_27 rfl).trans <|
  (R_iload_n mc_34 dX2_nearestWithoutPlace_28 rfl).trans <|
  (R_iload mc_34 dX2_nearestWithoutPlace_29 rfl).trans <|
  R_invV mc_34 dX2_nearestWithoutPlace_31 mo_34 ct_2_66 af_34_35 rfl (kCR hk) rfl ⟨Nat.le_of_ble_eq_true rfl, Nat.le_of_ble_eq_true rfl⟩)
  (rfl))
  (rfl)
theorem B_X2_nearestWithoutPlace_34 (sc : Nat × (Nat → Int)) (iv : Nat → Nat → Int) (k : Nat) (hk : k < 6) (x1 : Int) (x2 : Int) (x3 : Int) (x4 : Int) (d5 : Option AV) (s0 : Int) : Run sc 34 34 [some (Rf (8 + 6 * k)), some (I x1), some (I x2), some (I x3), some (I x4), d5] [(I s0)] (hp iv) = if x2 = (-1) then Run sc 34 47 [some (Rf (8 + 6 * k)), some (I x1), some (I x2), some (I x3), some (I x4), some (I s0)] [] (hp iv) else if s0 < x3 then Run sc 34 47 [some (Rf (8 + 6 * k)), some (I x1), some (I x2), some (I x3), some (I x4), some (I s0)] [] (hp iv) else Run sc 34 53 [some (Rf (8 + 6 * k)), some (I x1), some (I x2), some (I x3), some (I x4), some (I s0)] [] (hp iv) :=
  (R_istore mc_34 dX2_nearestWithoutPlace_34 (Nat.le_of_ble_eq_true rfl)).trans <|
  (R_iload_n mc_34 dX2_nearestWithoutPlace_36 rfl).trans <|
  (R_iconst mc_34 dX2_nearestWithoutPlace_37 ⟨by decide, by decide⟩).trans <|
  (R_icmp_eq mc_34 dX2_nearestWithoutPlace_38 (t := 47) rfl).trans <| ite_c2
  (rfl)
  ((R_iload mc_34 dX2_nearestWithoutPlace_41 rfl).trans <|
  (R_iload_n mc_34 dX2_nearestWithoutPlace_43 rfl).trans <|
  R_icmp_ge mc_34 dX2_nearestWithoutPlace_44 (t := 53) rfl)
theorem B_X2_nearestWithoutPlace_47 (sc : Nat × (Nat → Int)) (iv : Nat → Nat → Int) (k : Nat) (hk : k < 6) (x1 : Int) (x2 : Int) (x3 : Int) (x4 : Int) (x5 : Int) : Run sc 34 47 [some (Rf (8 + 6 * k)), some (I x1), some (I x2), some (I x3), some (I x4), some (I x5)] [] (hp iv) = Run sc 34 53 [some (Rf (8 + 6 * k)), some (I x1), some (I x4), some (I x5), some (I x4), some (I x5)] [] (hp iv) :=
  (R_iload mc_34 dX2_nearestWithoutPlace_47 rfl).trans <|
  (R_istore_n mc_34 dX2_nearestWithoutPlace_49 (Nat.le_of_ble_eq_true rfl)).trans <|
  (R_iload mc_34 dX2_nearestWithoutPlace_50 rfl).trans <|
  R_istore_n mc_34 dX2_nearestWithoutPlace_52 (Nat.le_of_ble_eq_true rfl)
theorem B_X2_nearestWithoutPlace_53 (sc : Nat × (Nat → Int)) (iv : Nat → Nat → Int) (k : Nat) (hk : k < 6) (x1 : Int) (x2 : Int) (x3 : Int) (x4 : Int) (d5 : Option AV) : Run sc 34 53 [some (Rf (8 + 6 * k)), some (I x1), some (I x2), some (I x3), some (I x4), d5] [] (hp iv) = chk (x4 + 1) (Run sc 34 7 [some (Rf (8 + 6 * k)), some (I x1), some (I x2), some (I x3), some (I (x4 + 1)), d5] [] (hp iv)) :=
  (R_iinc mc_34 dX2_nearestWithoutPlace_53 rfl).trans <| chk_congr <|
  R_goto mc_34 dX2_nearestWithoutPlace_56 (t := 7) rfl
theorem B_X2_nearestWithoutPlace_59 (sc : Nat × (Nat → Int)) (iv : Nat → Nat → Int) (k : Nat) (hk : k < 6) (x1 : Int) (x2 : Int) (x3 : Int) (x4 : Int) (d5 : Option AV) : Run sc 34 59 [some (Rf (8 + 6 * k)), some (I x1), some (I x2), some (I x3), some (I x4), d5] [] (hp iv) = some (some (I x2), (hp iv)) :=
  (R_iload_n mc_34 dX2_nearestWithoutPlace_59 rfl).trans <|
  R_ireturn mc_34 dX2_nearestWithoutPlace_60 rfl
theorem B_X2_wayBetween_0 (sc : Nat × (Nat → Int)) (iv : Nat → Nat → Int) (k : Nat) (hk : k < 6) (x1 : Int) (x2 : Int) : Run sc 35 0 [some (Rf (8 + 6 * k)), some (I x1), some (I x2)] [] (hp iv) = aBind (Run sc 30 0 [some (Rf (8 + 6 * k)), some (I x1)] [] (hp iv)) (fun v h2 => Run sc 35 5 [some (Rf (8 + 6 * k)), some (I x1), some (I x2)] (pushR v []) h2) :=
  (R_aload_n mc_35 dX2_wayBetween_0 rfl).trans <|
  (R_iload_n mc_35 dX2_wayBetween_1 rfl).trans <|
  R_invV mc_35 dX2_wayBetween_2 mo_35 ct_2_62 af_35_30 rfl (kCR hk) rfl ⟨Nat.le_of_ble_eq_true rfl, Nat.le_of_ble_eq_true rfl⟩
theorem B_X2_wayBetween_5 (sc : Nat × (Nat → Int)) (iv : Nat → Nat → Int) (k : Nat) (hk : k < 6) (x1 : Int) (x2 : Int) (s0 : Int) : Run sc 35 5 [some (Rf (8 + 6 * k)), some (I x1), some (I x2)] [(I s0)] (hp iv) = if s0 = 0 then Run sc 35 16 [some (Rf (8 + 6 * k)), some (I x1), some (I x2)] [] (hp iv) else aBind (Run sc 30 0 [some (Rf (8 + 6 * k)), some (I x2)] [] (hp iv)) (fun v h2 => Run sc 35 13 [some (Rf (8 + 6 * k)), some (I x1), some (I x2)] (pushR v []) h2) :=
  (R_if_eq mc_35 dX2_wayBetween_5 (t := 16) rfl).trans <| ite_c2
  (rfl)
  ((R_aload_n mc_35 dX2_wayBetween_8 rfl).trans <|
  (R_iload_n mc_35 dX2_wayBetween_9 rfl).trans <|
  R_invV mc_35 dX2_wayBetween_10 mo_35 ct_2_62 af_35_30 rfl (kCR hk) rfl ⟨Nat.le_of_ble_eq_true rfl, Nat.le_of_ble_eq_true rfl⟩)
theorem B_X2_wayBetween_13 (sc : Nat × (Nat → Int)) (iv : Nat → Nat → Int) (k : Nat) (hk : k < 6) (x1 : Int) (x2 : Int) (s0 : Int) : Run sc 35 13 [some (Rf (8 + 6 * k)), some (I x1), some (I x2)] [(I s0)] (hp iv) = if s0 = 0 then Run sc 35 16 [some (Rf (8 + 6 * k)), some (I x1), some (I x2)] [] (hp iv) else Run sc 35 18 [some (Rf (8 + 6 * k)), some (I x1), some (I x2)] [] (hp iv) :=
  R_if_ne mc_35 dX2_wayBetween_13 (t := 18) rfl
theorem B_X2_wayBetween_16 (sc : Nat × (Nat → Int)) (iv : Nat → Nat → Int) (k : Nat) (hk : k < 6) (x1 : Int) (x2 : Int) : Run sc 35 16 [some (Rf (8 + 6 * k)), some (I x1), some (I x2)] [] (hp iv) = some (some (I 0), (hp iv)) :=
  (R_iconst mc_35 dX2_wayBetween_16 ⟨by decide, by decide⟩).trans <|
  R_ireturn mc_35 dX2_wayBetween_17 rfl
theorem B_X2_wayBetween_18 (sc : Nat × (Nat → Int)) (iv : Nat → Nat → Int) (k : Nat) (hk : k < 6) (x1 : Int) (x2 : Int) : Run sc 35 18 [some (Rf (8 + 6 * k)), some (I x1), some (I x2)] [] (hp iv) = bck 0 (((288 : Nat) : Int) - 1) x1 (bck 0 (((288 : Nat) : Int) - 1) x2 (chk ((iv (9 + 6 * k) (Int.toNat x1)) - (iv (9 + 6 * k) (Int.toNat x2))) (bck (-2147483647) 2147483647 ((iv (9 + 6 * k) (Int.toNat x1)) - (iv (9 + 6 * k) (Int.toNat x2))) (bck 0 (((288 : Nat) : Int) - 1) x1 (bck 0 (((288 : Nat) : Int) - 1) x2 (chk ((iv (10 + 6 * k) (Int.toNat x1)) - (iv (10 + 6 * k) (Int.toNat x2))) (bck (-2147483647) 2147483647 ((iv (10 + 6 * k) (Int.toNat x1)) - (iv (10 + 6 * k) (Int.toNat x2))) (chk ((if 0 ≤ ((iv (9 + 6 * k) (Int.toNat x1)) - (iv (9 + 6 * k) (Int.toNat x2))) then ((iv (9 + 6 * k) (Int.toNat x1)) - (iv (9 + 6 * k) (Int.toNat x2))) else 0 - ((iv (9 + 6 * k) (Int.toNat x1)) - (iv (9 + 6 * k) (Int.toNat x2)))) + (if 0 ≤ ((iv (10 + 6 * k) (Int.toNat x1)) - (iv (10 + 6 * k) (Int.toNat x2))) then ((iv (10 + 6 * k) (Int.toNat x1)) - (iv (10 + 6 * k) (Int.toNat x2))) else 0 - ((iv (10 + 6 * k) (Int.toNat x1)) - (iv (10 + 6 * k) (Int.toNat x2))))) (chk (10 * ((if 0 ≤ ((iv (9 + 6 * k) (Int.toNat x1)) - (iv (9 + 6 * k) (Int.toNat x2))) then ((iv (9 + 6 * k) (Int.toNat x1)) - (iv (9 + 6 * k) (Int.toNat x2))) else 0 - ((iv (9 + 6 * k) (Int.toNat x1)) - (iv (9 + 6 * k) (Int.toNat x2)))) + (if 0 ≤ ((iv (10 + 6 * k) (Int.toNat x1)) - (iv (10 + 6 * k) (Int.toNat x2))) then ((iv (10 + 6 * k) (Int.toNat x1)) - (iv (10 + 6 * k) (Int.toNat x2))) else 0 - ((iv (10 + 6 * k) (Int.toNat x1)) - (iv (10 + 6 * k) (Int.toNat x2)))))) (some (some (I (10 * ((if 0 ≤ ((iv (9 + 6 * k) (Int.toNat x1)) - (iv (9 + 6 * k) (Int.toNat x2))) then ((iv (9 + 6 * k) (Int.toNat x1)) - (iv (9 + 6 * k) (Int.toNat x2))) else 0 - ((iv (9 + 6 * k) (Int.toNat x1)) - (iv (9 + 6 * k) (Int.toNat x2)))) + (if 0 ≤ ((iv (10 + 6 * k) (Int.toNat x1)) - (iv (10 + 6 * k) (Int.toNat x2))) then ((iv (10 + 6 * k) (Int.toNat x1)) - (iv (10 + 6 * k) (Int.toNat x2))) else 0 - ((iv (10 + 6 * k) (Int.toNat x1)) - (iv (10 + 6 * k) (Int.toNat x2))))))), (hp iv)))))))))))) :=
  (R_bipush mc_35 dX2_wayBetween_18 ⟨by decide, by decide⟩).trans <|
  (R_aload_n mc_35 dX2_wayBetween_20 rfl).trans <|
  (R_getR mc_35 dX2_wayBetween_21 mo_35 ft_2_23 (kCR hk) rfl (rCR4 hk) (by omega)).trans <|
  (R_iload_n mc_35 dX2_wayBetween_24 rfl).trans <|
  (R_iaload mc_35 dX2_wayBetween_25 (kCA0 hk)).trans <| bck_congr <|
  (R_aload_n mc_35 dX2_wayBetween_26 rfl).trans <|
  (R_getR mc_35 dX2_wayBetween_27 mo_35 ft_2_23 (kCR hk) rfl (rCR4 hk) (by omega)).trans <|
  (R_iload_n mc_35 dX2_wayBetween_30 rfl).trans <|
  (R_iaload mc_35 dX2_wayBetween_31 (kCA0 hk)).trans <| bck_congr <|
  (R_isub mc_35 dX2_wayBetween_32).trans <| chk_congr <|
  (R_abs mc_35 dX2_wayBetween_33 mo_35 ct_2_69 ⟨Nat.le_of_ble_eq_true rfl, Nat.le_of_ble_eq_true rfl⟩).trans <| bck_congr <|
  (R_aload_n mc_35 dX2_wayBetween_36 rfl).trans <|
  (R_getR mc_35 dX2_wayBetween_37 mo_35 ft_2_27 (kCR hk) rfl (rCR5 hk) (by omega)).trans <|
  (R_iload_n mc_35 dX2_wayBetween_40 rfl).trans <|
  (R_iaload mc_35 dX2_wayBetween_41 (kCA1 hk)).trans <| bck_congr <|
  (R_aload_n mc_35 dX2_wayBetween_42 rfl).trans <|
  (R_getR mc_35 dX2_wayBetween_43 mo_35 ft_2_27 (kCR hk) rfl (rCR5 hk) (by omega)).trans <|
  (R_iload_n mc_35 dX2_wayBetween_46 rfl).trans <|
  (R_iaload mc_35 dX2_wayBetween_47 (kCA1 hk)).trans <| bck_congr <|
  (R_isub mc_35 dX2_wayBetween_48).trans <| chk_congr <|
  (R_abs mc_35 dX2_wayBetween_49 mo_35 ct_2_69 ⟨Nat.le_of_ble_eq_true rfl, Nat.le_of_ble_eq_true rfl⟩).trans <| bck_congr <|
  (R_iadd mc_35 dX2_wayBetween_52).trans <| chk_congr <|
  (R_imul mc_35 dX2_wayBetween_53).trans <| chk_congr <|
  R_ireturn mc_35 dX2_wayBetween_54 rfl
theorem B_X2_runAtPlace_0 (sc : Nat × (Nat → Int)) (iv : Nat → Nat → Int) (k : Nat) (hk : k < 6) (x1 : Int) : Run sc 36 0 [some (Rf (8 + 6 * k)), some (I x1)] [] (hp iv) = aBind (Run sc 30 0 [some (Rf (8 + 6 * k)), some (I x1)] [] (hp iv)) (fun v h2 => Run sc 36 5 [some (Rf (8 + 6 * k)), some (I x1)] (pushR v []) h2) :=
  (R_aload_n mc_36 dX2_runAtPlace_0 rfl).trans <|
  (R_iload_n mc_36 dX2_runAtPlace_1 rfl).trans <|
  R_invV mc_36 dX2_runAtPlace_2 mo_36 ct_2_62 af_36_30 rfl (kCR hk) rfl ⟨Nat.le_of_ble_eq_true rfl, Nat.le_of_ble_eq_true rfl⟩
theorem B_X2_runAtPlace_5 (sc : Nat × (Nat → Int)) (iv : Nat → Nat → Int) (k : Nat) (hk : k < 6) (x1 : Int) (s0 : Int) : Run sc 36 5 [some (Rf (8 + 6 * k)), some (I x1)] [(I s0)] (hp iv) = if s0 = 0 then Run sc 36 17 [some (Rf (8 + 6 * k)), some (I x1)] [] (hp iv) else bck 0 (((288 : Nat) : Int) - 1) x1 (Run sc 36 18 [some (Rf (8 + 6 * k)), some (I x1)] [(I (iv (12 + 6 * k) (Int.toNat x1)))] (hp iv)) :=
  (R_if_eq mc_36 dX2_runAtPlace_5 (t := 17) rfl).trans <| ite_c2
  (rfl)
  ((R_aload_n mc_36 dX2_runAtPlace_8 rfl).trans <|
  (R_getR mc_36 dX2_runAtPlace_9 mo_36 ft_2_33 (kCR hk) rfl (rCR7 hk) (by omega)).trans <|
  (R_iload_n mc_36 dX2_runAtPlace_12 rfl).trans <|
  (R_iaload mc_36 dX2_runAtPlace_13 (kCA3 hk)).trans <| bck_congr <|
  R_goto mc_36 dX2_runAtPlace_14 (t := 18) rfl)
theorem B_X2_runAtPlace_17 (sc : Nat × (Nat → Int)) (iv : Nat → Nat → Int) (k : Nat) (hk : k < 6) (x1 : Int) : Run sc 36 17 [some (Rf (8 + 6 * k)), some (I x1)] [] (hp iv) = Run sc 36 18 [some (Rf (8 + 6 * k)), some (I x1)] [(I (-1))] (hp iv) :=
  R_iconst mc_36 dX2_runAtPlace_17 ⟨by decide, by decide⟩
theorem B_X2_runAtPlace_18 (sc : Nat × (Nat → Int)) (iv : Nat → Nat → Int) (k : Nat) (hk : k < 6) (x1 : Int) (s0 : Int) : Run sc 36 18 [some (Rf (8 + 6 * k)), some (I x1)] [(I s0)] (hp iv) = some (some (I s0), (hp iv)) :=
  R_ireturn mc_36 dX2_runAtPlace_18 rfl
theorem B_X2_costBetween_0 (sc : Nat × (Nat → Int)) (iv : Nat → Nat → Int) (k : Nat) (hk : k < 6) (x1 : Int) (x2 : Int) : Run sc 37 0 [some (Rf (8 + 6 * k)), some (I x1), some (I x2)] [] (hp iv) = aBind (Run sc 30 0 [some (Rf (8 + 6 * k)), some (I x1)] [] (hp iv)) (fun v h2 => Run sc 37 5 [some (Rf (8 + 6 * k)), some (I x1), some (I x2)] (pushR v []) h2) :=
  (R_aload_n mc_37 dX2_costBetween_0 rfl).trans <|
  (R_iload_n mc_37 dX2_costBetween_1 rfl).trans <|
  R_invV mc_37 dX2_costBetween_2 mo_37 ct_2_62 af_37_30 rfl (kCR hk) rfl ⟨Nat.le_of_ble_eq_true rfl, Nat.le_of_ble_eq_true rfl⟩
theorem B_X2_costBetween_5 (sc : Nat × (Nat → Int)) (iv : Nat → Nat → Int) (k : Nat) (hk : k < 6) (x1 : Int) (x2 : Int) (s0 : Int) : Run sc 37 5 [some (Rf (8 + 6 * k)), some (I x1), some (I x2)] [(I s0)] (hp iv) = if s0 = 0 then Run sc 37 32 [some (Rf (8 + 6 * k)), some (I x1), some (I x2)] [] (hp iv) else aBind (Run sc 30 0 [some (Rf (8 + 6 * k)), some (I x2)] [] (hp iv)) (fun v h2 => Run sc 37 13 [some (Rf (8 + 6 * k)), some (I x1), some (I x2)] (pushR v []) h2) :=
  (R_if_eq mc_37 dX2_costBetween_5 (t := 32) rfl).trans <| ite_c2
  (rfl)
  ((R_aload_n mc_37 dX2_costBetween_8 rfl).trans <|
  (R_iload_n mc_37 dX2_costBetween_9 rfl).trans <|
  R_invV mc_37 dX2_costBetween_10 mo_37 ct_2_62 af_37_30 rfl (kCR hk) rfl ⟨Nat.le_of_ble_eq_true rfl, Nat.le_of_ble_eq_true rfl⟩)
theorem B_X2_costBetween_13 (sc : Nat × (Nat → Int)) (iv : Nat → Nat → Int) (k : Nat) (hk : k < 6) (x1 : Int) (x2 : Int) (s0 : Int) : Run sc 37 13 [some (Rf (8 + 6 * k)), some (I x1), some (I x2)] [(I s0)] (hp iv) = if s0 = 0 then Run sc 37 32 [some (Rf (8 + 6 * k)), some (I x1), some (I x2)] [] (hp iv) else aBind (Run sc 35 0 [some (Rf (8 + 6 * k)), some (I x1), some (I x2)] [] (hp iv)) (fun v h2 => Run sc 37 26 [some (Rf (8 + 6 * k)), some (I x1), some (I x2)] (pushR v [(Rf 6)]) h2) :=
  (R_if_eq mc_37 dX2_costBetween_13 (t := 32) rfl).trans <| ite_c2
  (rfl)
  ((R_aload_n mc_37 dX2_costBetween_16 rfl).trans <|
  (R_getR mc_37 dX2_costBetween_17 mo_37 ft_2_15 (kCR hk) rfl (rCR1 hk) (by omega)).trans <|
  (R_aload_n mc_37 dX2_costBetween_20 rfl).trans <|
  (R_iload_n mc_37 dX2_costBetween_21 rfl).trans <|
  (R_iload_n mc_37 dX2_costBetween_22 rfl).trans <|
  R_invV mc_37 dX2_costBetween_23 mo_37 ct_2_66 af_37_35 rfl (kCR hk) rfl ⟨Nat.le_of_ble_eq_true rfl, Nat.le_of_ble_eq_true rfl⟩)
theorem B_X2_costBetween_26 (sc : Nat × (Nat → Int)) (iv : Nat → Nat → Int) (k : Nat) (hk : k < 6) (x1 : Int) (x2 : Int) (s0 : Int) : Run sc 37 26 [some (Rf (8 + 6 * k)), some (I x1), some (I x2)] [(I s0), (Rf 6)] (hp iv) = aBind (Run sc 75 0 [some (Rf 6), some (I s0)] [] (hp iv)) (fun v h2 => Run sc 37 29 [some (Rf (8 + 6 * k)), some (I x1), some (I x2)] (pushR v []) h2) :=
  R_invV mc_37 dX2_costBetween_26 mo_37 ct_2_74 af_37_75 rfl rfl rfl ⟨Nat.le_of_ble_eq_true rfl, Nat.le_of_ble_eq_true rfl⟩
theorem B_X2_costBetween_29 (sc : Nat × (Nat → Int)) (iv : Nat → Nat → Int) (k : Nat) (hk : k < 6) (x1 : Int) (x2 : Int) (s0 : Int) : Run sc 37 29 [some (Rf (8 + 6 * k)), some (I x1), some (I x2)] [(I s0)] (hp iv) = Run sc 37 33 [some (Rf (8 + 6 * k)), some (I x1), some (I x2)] [(I s0)] (hp iv) :=
  R_goto mc_37 dX2_costBetween_29 (t := 33) rfl
theorem B_X2_costBetween_32 (sc : Nat × (Nat → Int)) (iv : Nat → Nat → Int) (k : Nat) (hk : k < 6) (x1 : Int) (x2 : Int) : Run sc 37 32 [some (Rf (8 + 6 * k)), some (I x1), some (I x2)] [] (hp iv) = Run sc 37 33 [some (Rf (8 + 6 * k)), some (I x1), some (I x2)] [(I 0)] (hp iv) :=
  R_iconst mc_37 dX2_costBetween_32 ⟨by decide, by decide⟩
theorem B_X2_costBetween_33 (sc : Nat × (Nat → Int)) (iv : Nat → Nat → Int) (k : Nat) (hk : k < 6) (x1 : Int) (x2 : Int) (s0 : Int) : Run sc 37 33 [some (Rf (8 + 6 * k)), some (I x1), some (I x2)] [(I s0)] (hp iv) = some (some (I s0), (hp iv)) :=
  R_ireturn mc_37 dX2_costBetween_33 rfl
theorem B_X2_stitches_0 (sc : Nat × (Nat → Int)) (iv : Nat → Nat → Int) (k : Nat) (hk : k < 6)  : Run sc 38 0 [some (Rf (8 + 6 * k)), none, none] [] (hp iv) = Run sc 38 4 [some (Rf (8 + 6 * k)), some (I 0), some (I 0)] [] (hp iv) :=
  (R_iconst mc_38 dX2_stitches_0 ⟨by decide, by decide⟩).trans <|
  (R_istore_n mc_38 dX2_stitches_1 (Nat.le_of_ble_eq_true rfl)).trans <|
  (R_iconst mc_38 dX2_stitches_2 ⟨by decide, by decide⟩).trans <|
  R_istore_n mc_38 dX2_stitches_3 (Nat.le_of_ble_eq_true rfl)
theorem B_X2_stitches_4 (sc : Nat × (Nat → Int)) (iv : Nat → Nat → Int) (k : Nat) (hk : k < 6) (x1 : Int) (x2 : Int) : Run sc 38 4 [some (Rf (8 + 6 * k)), some (I x1), some (I x2)] [] (hp iv) = if x2 < (iv (8 + 6 * k) 3) then bck 0 (((288 : Nat) : Int) - 1) x2 (chk (x1 + (iv (11 + 6 * k) (Int.toNat x2))) (chk (x2 + 1) (Run sc 38 4 [some (Rf (8 + 6 * k)), some (I (x1 + (iv (11 + 6 * k) (Int.toNat x2)))), some (I (x2 + 1))] [] (hp iv)))) else Run sc 38 27 [some (Rf (8 + 6 * k)), some (I x1), some (I x2)] [] (hp iv) :=
  (R_iload_n mc_38 dX2_stitches_4 rfl).trans <|
  (R_aload_n mc_38 dX2_stitches_5 rfl).trans <|
  (R_getI mc_38 dX2_stitches_6 mo_38 ft_2_39 (kCR hk) rfl).trans <|
  (R_icmp_ge mc_38 dX2_stitches_9 (t := 27) rfl).trans <| ite_c2
  ((R_iload_n mc_38 dX2_stitches_12 rfl).trans <|
  (R_aload_n mc_38 dX2_stitches_13 rfl).trans <|
  (R_getR mc_38 dX2_stitches_14 mo_38 ft_2_30 (kCR hk) rfl (rCR6 hk) (by omega)).trans <|
  (R_iload_n mc_38 dX2_stitches_17 rfl).trans <|
  (R_iaload mc_38 dX2_stitches_18 (kCA2 hk)).trans <| bck_congr <|
  (R_iadd mc_38 dX2_stitches_19).trans <| chk_congr <|
  (R_istore_n mc_38 dX2_stitches_20 (Nat.le_of_ble_eq_true rfl)).trans <|
  (R_iinc mc_38 dX2_stitches_21 rfl).trans <| chk_congr <|
  R_goto mc_38 dX2_stitches_24 (t := 4) rfl)
  (rfl)
theorem B_X2_stitches_27 (sc : Nat × (Nat → Int)) (iv : Nat → Nat → Int) (k : Nat) (hk : k < 6) (x1 : Int) (x2 : Int) : Run sc 38 27 [some (Rf (8 + 6 * k)), some (I x1), some (I x2)] [] (hp iv) = some (some (I x1), (hp iv)) :=
  (R_iload_n mc_38 dX2_stitches_27 rfl).trans <|
  R_ireturn mc_38 dX2_stitches_28 rfl
theorem B_X2_threadLength_0 (sc : Nat × (Nat → Int)) (iv : Nat → Nat → Int) (k : Nat) (hk : k < 6)  : Run sc 39 0 [some (Rf (8 + 6 * k)), none, none] [] (hp iv) = if (iv (8 + 6 * k) 3) = 0 then some (some (I 0), (hp iv)) else Run sc 39 9 [some (Rf (8 + 6 * k)), none, none] [] (hp iv) :=
  (R_aload_n mc_39 dX2_threadLength_0 rfl).trans <|
  (R_getI mc_39 dX2_threadLength_1 mo_39 ft_2_39 (kCR hk) rfl).trans <|
  (R_if_ne mc_39 dX2_threadLength_4 (t := 9) rfl).trans <| ite_c2
  ((R_iconst mc_39 dX2_threadLength_7 ⟨by decide, by decide⟩).trans <|
  R_ireturn mc_39 dX2_threadLength_8 rfl)
  (rfl)
theorem B_X2_threadLength_9 (sc : Nat × (Nat → Int)) (iv : Nat → Nat → Int) (k : Nat) (hk : k < 6) (d1 : Option AV) (d2 : Option AV) : Run sc 39 9 [some (Rf (8 + 6 * k)), d1, d2] [] (hp iv) = chk (2 * (iv 6 1)) (aBind (Run sc 38 0 [some (Rf (8 + 6 * k)), none, none] [] (hp iv)) (fun v h2 => Run sc 39 24 [some (Rf (8 + 6 * k)), d1, d2] (pushR v [(I 48), (I (2 * (iv 6 1)))]) h2)) :=
  (R_iconst mc_39 dX2_threadLength_9 ⟨by decide, by decide⟩).trans <|
  (R_aload_n mc_39 dX2_threadLength_10 rfl).trans <|
  (R_getR mc_39 dX2_threadLength_11 mo_39 ft_2_15 (kCR hk) rfl (rCR1 hk) (by omega)).trans <|
  (R_getI mc_39 dX2_threadLength_14 mo_39 ft_2_79 rfl rfl).trans <|
  (R_imul mc_39 dX2_threadLength_17).trans <| chk_congr <|
  (R_bipush mc_39 dX2_threadLength_18 ⟨by decide, by decide⟩).trans <|
  (R_aload_n mc_39 dX2_threadLength_20 rfl).trans <|
  R_invV mc_39 dX2_threadLength_21 mo_39 ct_2_82 af_39_38 rfl (kCR hk) rfl ⟨Nat.le_of_ble_eq_true rfl, Nat.le_of_ble_eq_true rfl⟩
theorem B_X2_threadLength_24 (sc : Nat × (Nat → Int)) (iv : Nat → Nat → Int) (k : Nat) (hk : k < 6) (d1 : Option AV) (d2 : Option AV) (s0 : Int) (s1 : Int) (s2 : Int) : Run sc 39 24 [some (Rf (8 + 6 * k)), d1, d2] [(I s0), (I s1), (I s2)] (hp iv) = chk (s1 * s0) (chk (s2 + (s1 * s0)) (Run sc 39 29 [some (Rf (8 + 6 * k)), some (I (s2 + (s1 * s0))), some (I 1)] [] (hp iv))) :=
  (R_imul mc_39 dX2_threadLength_24).trans <| chk_congr <|
  (R_iadd mc_39 dX2_threadLength_25).trans <| chk_congr <|
  (R_istore_n mc_39 dX2_threadLength_26 (Nat.le_of_ble_eq_true rfl)).trans <|
  (R_iconst mc_39 dX2_threadLength_27 ⟨by decide, by decide⟩).trans <|
  R_istore_n mc_39 dX2_threadLength_28 (Nat.le_of_ble_eq_true rfl)
theorem B_X2_threadLength_29 (sc : Nat × (Nat → Int)) (iv : Nat → Nat → Int) (k : Nat) (hk : k < 6) (x1 : Int) (x2 : Int) : Run sc 39 29 [some (Rf (8 + 6 * k)), some (I x1), some (I x2)] [] (hp iv) = if x2 < (iv (8 + 6 * k) 3) then chk (x2 - 1) (aBind (Run sc 36 0 [some (Rf (8 + 6 * k)), some (I (x2 - 1))] [] (hp iv)) (fun v h2 => Run sc 39 46 [some (Rf (8 + 6 * k)), some (I x1), some (I x2)] (pushR v [(Rf (8 + 6 * k)), (I x1)]) h2)) else Run sc 39 62 [some (Rf (8 + 6 * k)), some (I x1), some (I x2)] [] (hp iv) :=
  (R_iload_n mc_39 dX2_threadLength_29 rfl).trans <|
  (R_aload_n mc_39 dX2_threadLength_30 rfl).trans <|
  (R_getI mc_39 dX2_threadLength_31 mo_39 ft_2_39 (kCR hk) rfl).trans <|
  (R_icmp_ge mc_39 dX2_threadLength_34 (t := 62) rfl).trans <| ite_c2
  ((R_iload_n mc_39 dX2_threadLength_37 rfl).trans <|
  (R_aload_n mc_39 dX2_threadLength_38 rfl).trans <|
  (R_aload_n mc_39 dX2_threadLength_39 rfl).trans <|
  (R_iload_n mc_39 dX2_threadLength_40 rfl).trans <|
  (R_iconst mc_39 dX2_threadLength_41 ⟨by decide, by decide⟩).trans <|
  (R_isub mc_39 dX2_threadLength_42).trans <| chk_congr <|
  R_invV mc_39 dX2_threadLength_43 mo_39 ct_2_86 af_39_36 rfl (kCR hk) rfl ⟨Nat.le_of_ble_eq_true rfl, Nat.le_of_ble_eq_true rfl⟩)
  (rfl)
theorem B_X2_threadLength_46 (sc : Nat × (Nat → Int)) (iv : Nat → Nat → Int) (k : Nat) (hk : k < 6) (x1 : Int) (x2 : Int) (s0 : Int) (s2 : Int) : Run sc 39 46 [some (Rf (8 + 6 * k)), some (I x1), some (I x2)] [(I s0), (Rf (8 + 6 * k)), (I s2)] (hp iv) = aBind (Run sc 36 0 [some (Rf (8 + 6 * k)), some (I x2)] [] (hp iv)) (fun v h2 => Run sc 39 51 [some (Rf (8 + 6 * k)), some (I x1), some (I x2)] (pushR v [(I s0), (Rf (8 + 6 * k)), (I s2)]) h2) :=
  (R_aload_n mc_39 dX2_threadLength_46 rfl).trans <|
  (R_iload_n mc_39 dX2_threadLength_47 rfl).trans <|
  R_invV mc_39 dX2_threadLength_48 mo_39 ct_2_86 af_39_36 rfl (kCR hk) rfl ⟨Nat.le_of_ble_eq_true rfl, Nat.le_of_ble_eq_true rfl⟩
theorem B_X2_threadLength_51 (sc : Nat × (Nat → Int)) (iv : Nat → Nat → Int) (k : Nat) (hk : k < 6) (x1 : Int) (x2 : Int) (s0 : Int) (s1 : Int) (s3 : Int) : Run sc 39 51 [some (Rf (8 + 6 * k)), some (I x1), some (I x2)] [(I s0), (I s1), (Rf (8 + 6 * k)), (I s3)] (hp iv) = aBind (Run sc 37 0 [some (Rf (8 + 6 * k)), some (I s1), some (I s0)] [] (hp iv)) (fun v h2 => Run sc 39 54 [some (Rf (8 + 6 * k)), some (I x1), some (I x2)] (pushR v [(I s3)]) h2) :=
  R_invV mc_39 dX2_threadLength_51 mo_39 ct_2_89 af_39_37 rfl (kCR hk) rfl ⟨Nat.le_of_ble_eq_true rfl, Nat.le_of_ble_eq_true rfl⟩
theorem B_X2_threadLength_54 (sc : Nat × (Nat → Int)) (iv : Nat → Nat → Int) (k : Nat) (hk : k < 6) (x1 : Int) (x2 : Int) (s0 : Int) (s1 : Int) : Run sc 39 54 [some (Rf (8 + 6 * k)), some (I x1), some (I x2)] [(I s0), (I s1)] (hp iv) = chk (s1 + s0) (chk (x2 + 1) (Run sc 39 29 [some (Rf (8 + 6 * k)), some (I (s1 + s0)), some (I (x2 + 1))] [] (hp iv))) :=
  (R_iadd mc_39 dX2_threadLength_54).trans <| chk_congr <|
  (R_istore_n mc_39 dX2_threadLength_55 (Nat.le_of_ble_eq_true rfl)).trans <|
  (R_iinc mc_39 dX2_threadLength_56 rfl).trans <| chk_congr <|
  R_goto mc_39 dX2_threadLength_59 (t := 29) rfl
theorem B_X2_threadLength_62 (sc : Nat × (Nat → Int)) (iv : Nat → Nat → Int) (k : Nat) (hk : k < 6) (x1 : Int) (x2 : Int) : Run sc 39 62 [some (Rf (8 + 6 * k)), some (I x1), some (I x2)] [] (hp iv) = some (some (I x1), (hp iv)) :=
  (R_iload_n mc_39 dX2_threadLength_62 rfl).trans <|
  R_ireturn mc_39 dX2_threadLength_63 rfl
theorem B_X2_starts_0 (sc : Nat × (Nat → Int)) (iv : Nat → Nat → Int) (k : Nat) (hk : k < 6)  : Run sc 40 0 [some (Rf (8 + 6 * k)), none, none] [] (hp iv) = if (iv (8 + 6 * k) 3) = 0 then some (some (I 0), (hp iv)) else Run sc 40 9 [some (Rf (8 + 6 * k)), none, none] [] (hp iv) :=
  (R_aload_n mc_40 dX2_starts_0 rfl).trans <|
  (R_getI mc_40 dX2_starts_1 mo_40 ft_2_39 (kCR hk) rfl).trans <|
  (R_if_ne mc_40 dX2_starts_4 (t := 9) rfl).trans <| ite_c2
  ((R_iconst mc_40 dX2_starts_7 ⟨by decide, by decide⟩).trans <|
  R_ireturn mc_40 dX2_starts_8 rfl)
  (rfl)
theorem B_X2_starts_9 (sc : Nat × (Nat → Int)) (iv : Nat → Nat → Int) (k : Nat) (hk : k < 6) (d1 : Option AV) (d2 : Option AV) : Run sc 40 9 [some (Rf (8 + 6 * k)), d1, d2] [] (hp iv) = Run sc 40 13 [some (Rf (8 + 6 * k)), some (I 1), some (I 1)] [] (hp iv) :=
  (R_iconst mc_40 dX2_starts_9 ⟨by decide, by decide⟩).trans <|
  (R_istore_n mc_40 dX2_starts_10 (Nat.le_of_ble_eq_true rfl)).trans <|
  (R_iconst mc_40 dX2_starts_11 ⟨by decide, by decide⟩).trans <|
  R_istore_n mc_40 dX2_starts_12 (Nat.le_of_ble_eq_true rfl)
theorem B_X2_starts_13 (sc : Nat × (Nat → Int)) (iv : Nat → Nat → Int) (k : Nat) (hk : k < 6) (x1 : Int) (x2 : Int) : Run sc 40 13 [some (Rf (8 + 6 * k)), some (I x1), some (I x2)] [] (hp iv) = if x2 < (iv (8 + 6 * k) 3) then chk (x2 - 1) (aBind (Run sc 36 0 [some (Rf (8 + 6 * k)), some (I (x2 - 1))] [] (hp iv)) (fun v h2 => Run sc 40 33 [some (Rf (8 + 6 * k)), some (I x1), some (I x2)] (pushR v [(Rf (8 + 6 * k)), (Rf 6)]) h2)) else Run sc 40 56 [some (Rf (8 + 6 * k)), some (I x1), some (I x2)] [] (hp iv) :=
  (R_iload_n mc_40 dX2_starts_13 rfl).trans <|
  (R_aload_n mc_40 dX2_starts_14 rfl).trans <|
  (R_getI mc_40 dX2_starts_15 mo_40 ft_2_39 (kCR hk) rfl).trans <|
  (R_icmp_ge mc_40 dX2_starts_18 (t := 56) rfl).trans <| ite_c2
  ((R_aload_n mc_40 dX2_starts_21 rfl).trans <|
  (R_getR mc_40 dX2_starts_22 mo_40 ft_2_15 (kCR hk) rfl (rCR1 hk) (by omega)).trans <|
  (R_aload_n mc_40 dX2_starts_25 rfl).trans <|
  (R_aload_n mc_40 dX2_starts_26 rfl).trans <|
  (R_iload_n mc_40 dX2_starts_27 rfl).trans <|
  (R_iconst mc_40 dX2_starts_28 ⟨by decide, by decide⟩).trans <|
  (R_isub mc_40 dX2_starts_29).trans <| chk_congr <|
  R_invV mc_40 dX2_starts_30 mo_40 ct_2_86 af_40_36 rfl (kCR hk) rfl ⟨Nat.le_of_ble_eq_true rfl, Nat.le_of_ble_eq_true rfl⟩)
  (rfl)
theorem B_X2_starts_33 (sc : Nat × (Nat → Int)) (iv : Nat → Nat → Int) (k : Nat) (hk : k < 6) (x1 : Int) (x2 : Int) (s0 : Int) : Run sc 40 33 [some (Rf (8 + 6 * k)), some (I x1), some (I x2)] [(I s0), (Rf (8 + 6 * k)), (Rf 6)] (hp iv) = aBind (Run sc 36 0 [some (Rf (8 + 6 * k)), some (I x2)] [] (hp iv)) (fun v h2 => Run sc 40 38 [some (Rf (8 + 6 * k)), some (I x1), some (I x2)] (pushR v [(I s0), (Rf (8 + 6 * k)), (Rf 6)]) h2) :=
  (R_aload_n mc_40 dX2_starts_33 rfl).trans <|
  (R_iload_n mc_40 dX2_starts_34 rfl).trans <|
  R_invV mc_40 dX2_starts_35 mo_40 ct_2_86 af_40_36 rfl (kCR hk) rfl ⟨Nat.le_of_ble_eq_true rfl, Nat.le_of_ble_eq_true rfl⟩
theorem B_X2_starts_38 (sc : Nat × (Nat → Int)) (iv : Nat → Nat → Int) (k : Nat) (hk : k < 6) (x1 : Int) (x2 : Int) (s0 : Int) (s1 : Int) : Run sc 40 38 [some (Rf (8 + 6 * k)), some (I x1), some (I x2)] [(I s0), (I s1), (Rf (8 + 6 * k)), (Rf 6)] (hp iv) = aBind (Run sc 35 0 [some (Rf (8 + 6 * k)), some (I s1), some (I s0)] [] (hp iv)) (fun v h2 => Run sc 40 41 [some (Rf (8 + 6 * k)), some (I x1), some (I x2)] (pushR v [(Rf 6)]) h2) :=
  R_invV mc_40 dX2_starts_38 mo_40 ct_2_66 af_40_35 rfl (kCR hk) rfl ⟨Nat.le_of_ble_eq_true rfl, Nat.le_of_ble_eq_true rfl⟩
theorem B_X2_starts_41 (sc : Nat × (Nat → Int)) (iv : Nat → Nat → Int) (k : Nat) (hk : k < 6) (x1 : Int) (x2 : Int) (s0 : Int) : Run sc 40 41 [some (Rf (8 + 6 * k)), some (I x1), some (I x2)] [(I s0), (Rf 6)] (hp iv) = aBind (Run sc 74 0 [some (Rf 6), some (I s0)] [] (hp iv)) (fun v h2 => Run sc 40 44 [some (Rf (8 + 6 * k)), some (I x1), some (I x2)] (pushR v []) h2) :=
  R_invV mc_40 dX2_starts_41 mo_40 ct_2_92 af_40_74 rfl rfl rfl ⟨Nat.le_of_ble_eq_true rfl, Nat.le_of_ble_eq_true rfl⟩
theorem B_X2_starts_44 (sc : Nat × (Nat → Int)) (iv : Nat → Nat → Int) (k : Nat) (hk : k < 6) (x1 : Int) (x2 : Int) (s0 : Int) : Run sc 40 44 [some (Rf (8 + 6 * k)), some (I x1), some (I x2)] [(I s0)] (hp iv) = if s0 = 0 then chk (x1 + 1) (Run sc 40 50 [some (Rf (8 + 6 * k)), some (I (x1 + 1)), some (I x2)] [] (hp iv)) else Run sc 40 50 [some (Rf (8 + 6 * k)), some (I x1), some (I x2)] [] (hp iv) :=
  (R_if_ne mc_40 dX2_starts_44 (t := 50) rfl).trans <| ite_c2
  ((R_iinc mc_40 dX2_starts_47 rfl).trans <| chk_congr <|
  rfl)
  (rfl)
theorem B_X2_starts_50 (sc : Nat × (Nat → Int)) (iv : Nat → Nat → Int) (k : Nat) (hk : k < 6) (x1 : Int) (x2 : Int) : Run sc 40 50 [some (Rf (8 + 6 * k)), some (I x1), some (I x2)] [] (hp iv) = chk (x2 + 1) (Run sc 40 13 [some (Rf (8 + 6 * k)), some (I x1), some (I (x2 + 1))] [] (hp iv)) :=
  (R_iinc mc_40 dX2_starts_50 rfl).trans <| chk_congr <|
  R_goto mc_40 dX2_starts_53 (t := 13) rfl
theorem B_X2_starts_56 (sc : Nat × (Nat → Int)) (iv : Nat → Nat → Int) (k : Nat) (hk : k < 6) (x1 : Int) (x2 : Int) : Run sc 40 56 [some (Rf (8 + 6 * k)), some (I x1), some (I x2)] [] (hp iv) = some (some (I x1), (hp iv)) :=
  (R_iload_n mc_40 dX2_starts_56 rfl).trans <|
  R_ireturn mc_40 dX2_starts_57 rfl
theorem B_X2_relocate_0 (sc : Nat × (Nat → Int)) (iv : Nat → Nat → Int) (k : Nat) (hk : k < 6) (x1 : Int) (x2 : Int) : Run sc 41 0 [some (Rf (8 + 6 * k)), some (I x1), some (I x2), none, none] [] (hp iv) = aBind (Run sc 30 0 [some (Rf (8 + 6 * k)), some (I x1)] [] (hp iv)) (fun v h2 => Run sc 41 5 [some (Rf (8 + 6 * k)), some (I x1), some (I x2), none, none] (pushR v []) h2) :=
  (R_aload_n mc_41 dX2_relocate_0 rfl).trans <|
  (R_iload_n mc_41 dX2_relocate_1 rfl).trans <|
  R_invV mc_41 dX2_relocate_2 mo_41 ct_2_62 af_41_30 rfl (kCR hk) rfl ⟨Nat.le_of_ble_eq_true rfl, Nat.le_of_ble_eq_true rfl⟩
theorem B_X2_relocate_5 (sc : Nat × (Nat → Int)) (iv : Nat → Nat → Int) (k : Nat) (hk : k < 6) (x1 : Int) (x2 : Int) (d3 : Option AV) (d4 : Option AV) (s0 : Int) : Run sc 41 5 [some (Rf (8 + 6 * k)), some (I x1), some (I x2), d3, d4] [(I s0)] (hp iv) = if s0 = 0 then Run sc 41 16 [some (Rf (8 + 6 * k)), some (I x1), some (I x2), d3, d4] [] (hp iv) else aBind (Run sc 30 0 [some (Rf (8 + 6 * k)), some (I x2)] [] (hp iv)) (fun v h2 => Run sc 41 13 [some (Rf (8 + 6 * k)), some (I x1), some (I x2), d3, d4] (pushR v []) h2) :=
  (R_if_eq mc_41 dX2_relocate_5 (t := 16) rfl).trans <| ite_c2
  (rfl)
  ((R_aload_n mc_41 dX2_relocate_8 rfl).trans <|
  (R_iload_n mc_41 dX2_relocate_9 rfl).trans <|
  R_invV mc_41 dX2_relocate_10 mo_41 ct_2_62 af_41_30 rfl (kCR hk) rfl ⟨Nat.le_of_ble_eq_true rfl, Nat.le_of_ble_eq_true rfl⟩)
theorem B_X2_relocate_13 (sc : Nat × (Nat → Int)) (iv : Nat → Nat → Int) (k : Nat) (hk : k < 6) (x1 : Int) (x2 : Int) (d3 : Option AV) (d4 : Option AV) (s0 : Int) : Run sc 41 13 [some (Rf (8 + 6 * k)), some (I x1), some (I x2), d3, d4] [(I s0)] (hp iv) = if s0 = 0 then Run sc 41 16 [some (Rf (8 + 6 * k)), some (I x1), some (I x2), d3, d4] [] (hp iv) else Run sc 41 17 [some (Rf (8 + 6 * k)), some (I x1), some (I x2), d3, d4] [] (hp iv) :=
  R_if_ne mc_41 dX2_relocate_13 (t := 17) rfl
theorem B_X2_relocate_16 (sc : Nat × (Nat → Int)) (iv : Nat → Nat → Int) (k : Nat) (hk : k < 6) (x1 : Int) (x2 : Int) (d3 : Option AV) (d4 : Option AV) : Run sc 41 16 [some (Rf (8 + 6 * k)), some (I x1), some (I x2), d3, d4] [] (hp iv) = some (none, (hp iv)) :=
  R_return mc_41 dX2_relocate_16 rfl
theorem B_X2_relocate_17 (sc : Nat × (Nat → Int)) (iv : Nat → Nat → Int) (k : Nat) (hk : k < 6) (x1 : Int) (x2 : Int) (d3 : Option AV) (d4 : Option AV) : Run sc 41 17 [some (Rf (8 + 6 * k)), some (I x1), some (I x2), d3, d4] [] (hp iv) = bck 0 (((288 : Nat) : Int) - 1) x1 (Run sc 41 27 [some (Rf (8 + 6 * k)), some (I x1), some (I x2), some (I (iv (12 + 6 * k) (Int.toNat x1))), some (I x1)] [] (hp iv)) :=
  (R_aload_n mc_41 dX2_relocate_17 rfl).trans <|
  (R_getR mc_41 dX2_relocate_18 mo_41 ft_2_33 (kCR hk) rfl (rCR7 hk) (by omega)).trans <|
  (R_iload_n mc_41 dX2_relocate_21 rfl).trans <|
  (R_iaload mc_41 dX2_relocate_22 (kCA3 hk)).trans <| bck_congr <|
  (R_istore_n mc_41 dX2_relocate_23 (Nat.le_of_ble_eq_true rfl)).trans <|
  (R_iload_n mc_41 dX2_relocate_24 rfl).trans <|
  R_istore mc_41 dX2_relocate_25 (Nat.le_of_ble_eq_true rfl)
theorem B_X2_relocate_27 (sc : Nat × (Nat → Int)) (iv : Nat → Nat → Int) (k : Nat) (hk : k < 6) (x1 : Int) (x2 : Int) (x3 : Int) (x4 : Int) : Run sc 41 27 [some (Rf (8 + 6 * k)), some (I x1), some (I x2), some (I x3), some (I x4)] [] (hp iv) = if x4 < x2 then chk (x4 + 1) (aBind (Run sc 36 0 [some (Rf (8 + 6 * k)), some (I (x4 + 1))] [] (hp iv)) (fun v h2 => Run sc 41 42 [some (Rf (8 + 6 * k)), some (I x1), some (I x2), some (I x3), some (I x4)] (pushR v [(Rf (8 + 6 * k))]) h2)) else Run sc 41 53 [some (Rf (8 + 6 * k)), some (I x1), some (I x2), some (I x3), some (I x4)] [] (hp iv) :=
  (R_iload mc_41 dX2_relocate_27 rfl).trans <|
  (R_iload_n mc_41 dX2_relocate_29 rfl).trans <|
  (R_icmp_ge mc_41 dX2_relocate_30 (t := 53) rfl).trans <| ite_c2
  ((R_aload_n mc_41 dX2_relocate_33 rfl).trans <|
  (R_aload_n mc_41 dX2_relocate_34 rfl).trans <|
  (R_iload mc_41 dX2_relocate_35 rfl).trans <|
  (R_iconst mc_41 dX2_relocate_37 ⟨by decide, by decide⟩).trans <|
  (R_iadd mc_41 dX2_relocate_38).trans <| chk_congr <|
  R_invV mc_41 dX2_relocate_39 mo_41 ct_2_86 af_41_36 rfl (kCR hk) rfl ⟨Nat.le_of_ble_eq_true rfl, Nat.le_of_ble_eq_true rfl⟩)
  (rfl)
theorem B_X2_relocate_42 (sc : Nat × (Nat → Int)) (iv : Nat → Nat → Int) (k : Nat) (hk : k < 6) (x1 : Int) (x2 : Int) (x3 : Int) (x4 : Int) (s0 : Int) : Run sc 41 42 [some (Rf (8 + 6 * k)), some (I x1), some (I x2), some (I x3), some (I x4)] [(I s0), (Rf (8 + 6 * k))] (hp iv) = aBind (Run sc 42 0 [some (Rf (8 + 6 * k)), some (I s0), some (I x4)] [] (hp iv)) (fun v h2 => Run sc 41 47 [some (Rf (8 + 6 * k)), some (I x1), some (I x2), some (I x3), some (I x4)] (pushR v []) h2) :=
  (R_iload mc_41 dX2_relocate_42 rfl).trans <|
  R_invV mc_41 dX2_relocate_44 mo_41 ct_2_95 af_41_42 rfl (kCR hk) rfl ⟨Nat.le_of_ble_eq_true rfl, Nat.le_of_ble_eq_true rfl⟩
theorem B_X2_relocate_47 (sc : Nat × (Nat → Int)) (iv : Nat → Nat → Int) (k : Nat) (hk : k < 6) (x1 : Int) (x2 : Int) (x3 : Int) (x4 : Int) : Run sc 41 47 [some (Rf (8 + 6 * k)), some (I x1), some (I x2), some (I x3), some (I x4)] [] (hp iv) = chk (x4 + 1) (Run sc 41 27 [some (Rf (8 + 6 * k)), some (I x1), some (I x2), some (I x3), some (I (x4 + 1))] [] (hp iv)) :=
  (R_iinc mc_41 dX2_relocate_47 rfl).trans <| chk_congr <|
  R_goto mc_41 dX2_relocate_50 (t := 27) rfl
theorem B_X2_relocate_53 (sc : Nat × (Nat → Int)) (iv : Nat → Nat → Int) (k : Nat) (hk : k < 6) (x1 : Int) (x2 : Int) (x3 : Int) (x4 : Int) : Run sc 41 53 [some (Rf (8 + 6 * k)), some (I x1), some (I x2), some (I x3), some (I x4)] [] (hp iv) = Run sc 41 56 [some (Rf (8 + 6 * k)), some (I x1), some (I x2), some (I x3), some (I x1)] [] (hp iv) :=
  (R_iload_n mc_41 dX2_relocate_53 rfl).trans <|
  R_istore mc_41 dX2_relocate_54 (Nat.le_of_ble_eq_true rfl)
theorem B_X2_relocate_56 (sc : Nat × (Nat → Int)) (iv : Nat → Nat → Int) (k : Nat) (hk : k < 6) (x1 : Int) (x2 : Int) (x3 : Int) (x4 : Int) : Run sc 41 56 [some (Rf (8 + 6 * k)), some (I x1), some (I x2), some (I x3), some (I x4)] [] (hp iv) = if x2 < x4 then chk (x4 - 1) (aBind (Run sc 36 0 [some (Rf (8 + 6 * k)), some (I (x4 - 1))] [] (hp iv)) (fun v h2 => Run sc 41 71 [some (Rf (8 + 6 * k)), some (I x1), some (I x2), some (I x3), some (I x4)] (pushR v [(Rf (8 + 6 * k))]) h2)) else Run sc 41 82 [some (Rf (8 + 6 * k)), some (I x1), some (I x2), some (I x3), some (I x4)] [] (hp iv) :=
  (R_iload mc_41 dX2_relocate_56 rfl).trans <|
  (R_iload_n mc_41 dX2_relocate_58 rfl).trans <|
  (R_icmp_le mc_41 dX2_relocate_59 (t := 82) rfl).trans <| ite_c2
  ((R_aload_n mc_41 dX2_relocate_62 rfl).trans <|
  (R_aload_n mc_41 dX2_relocate_63 rfl).trans <|
  (R_iload mc_41 dX2_relocate_64 rfl).trans <|
  (R_iconst mc_41 dX2_relocate_66 ⟨by decide, by decide⟩).trans <|
  (R_isub mc_41 dX2_relocate_67).trans <| chk_congr <|
  R_invV mc_41 dX2_relocate_68 mo_41 ct_2_86 af_41_36 rfl (kCR hk) rfl ⟨Nat.le_of_ble_eq_true rfl, Nat.le_of_ble_eq_true rfl⟩)
  (rfl)
theorem B_X2_relocate_71 (sc : Nat × (Nat → Int)) (iv : Nat → Nat → Int) (k : Nat) (hk : k < 6) (x1 : Int) (x2 : Int) (x3 : Int) (x4 : Int) (s0 : Int) : Run sc 41 71 [some (Rf (8 + 6 * k)), some (I x1), some (I x2), some (I x3), some (I x4)] [(I s0), (Rf (8 + 6 * k))] (hp iv) = aBind (Run sc 42 0 [some (Rf (8 + 6 * k)), some (I s0), some (I x4)] [] (hp iv)) (fun v h2 => Run sc 41 76 [some (Rf (8 + 6 * k)), some (I x1), some (I x2), some (I x3), some (I x4)] (pushR v []) h2) :=
  (R_iload mc_41 dX2_relocate_71 rfl).trans <|
  R_invV mc_41 dX2_relocate_73 mo_41 ct_2_95 af_41_42 rfl (kCR hk) rfl ⟨Nat.le_of_ble_eq_true rfl, Nat.le_of_ble_eq_true rfl⟩
theorem B_X2_relocate_76 (sc : Nat × (Nat → Int)) (iv : Nat → Nat → Int) (k : Nat) (hk : k < 6) (x1 : Int) (x2 : Int) (x3 : Int) (x4 : Int) : Run sc 41 76 [some (Rf (8 + 6 * k)), some (I x1), some (I x2), some (I x3), some (I x4)] [] (hp iv) = chk (x4 + (-1)) (Run sc 41 56 [some (Rf (8 + 6 * k)), some (I x1), some (I x2), some (I x3), some (I (x4 + (-1)))] [] (hp iv)) :=
  (R_iinc mc_41 dX2_relocate_76 rfl).trans <| chk_congr <|
  R_goto mc_41 dX2_relocate_79 (t := 56) rfl
theorem B_X2_relocate_82 (sc : Nat × (Nat → Int)) (iv : Nat → Nat → Int) (k : Nat) (hk : k < 6) (x1 : Int) (x2 : Int) (x3 : Int) (x4 : Int) : Run sc 41 82 [some (Rf (8 + 6 * k)), some (I x1), some (I x2), some (I x3), some (I x4)] [] (hp iv) = aBind (Run sc 42 0 [some (Rf (8 + 6 * k)), some (I x3), some (I x2)] [] (hp iv)) (fun v h2 => Run sc 41 88 [some (Rf (8 + 6 * k)), some (I x1), some (I x2), some (I x3), some (I x4)] (pushR v []) h2) :=
  (R_aload_n mc_41 dX2_relocate_82 rfl).trans <|
  (R_iload_n mc_41 dX2_relocate_83 rfl).trans <|
  (R_iload_n mc_41 dX2_relocate_84 rfl).trans <|
  R_invV mc_41 dX2_relocate_85 mo_41 ct_2_95 af_41_42 rfl (kCR hk) rfl ⟨Nat.le_of_ble_eq_true rfl, Nat.le_of_ble_eq_true rfl⟩
theorem B_X2_relocate_88 (sc : Nat × (Nat → Int)) (iv : Nat → Nat → Int) (k : Nat) (hk : k < 6) (x1 : Int) (x2 : Int) (x3 : Int) (x4 : Int) : Run sc 41 88 [some (Rf (8 + 6 * k)), some (I x1), some (I x2), some (I x3), some (I x4)] [] (hp iv) = some (none, (hp iv)) :=
  R_return mc_41 dX2_relocate_88 rfl
theorem B_X2_lay_0 (sc : Nat × (Nat → Int)) (iv : Nat → Nat → Int) (k : Nat) (hk : k < 6) (x1 : Int) (x2 : Int) : Run sc 42 0 [some (Rf (8 + 6 * k)), some (I x1), some (I x2)] [] (hp iv) = aBind (Run sc 30 0 [some (Rf (8 + 6 * k)), some (I x1)] [] (hp iv)) (fun v h2 => Run sc 42 5 [some (Rf (8 + 6 * k)), some (I x1), some (I x2)] (pushR v []) h2) :=
  (R_aload_n mc_42 dX2_lay_0 rfl).trans <|
  (R_iload_n mc_42 dX2_lay_1 rfl).trans <|
  R_invV mc_42 dX2_lay_2 mo_42 ct_2_62 af_42_30 rfl (kCR hk) rfl ⟨Nat.le_of_ble_eq_true rfl, Nat.le_of_ble_eq_true rfl⟩
theorem B_X2_lay_5 (sc : Nat × (Nat → Int)) (iv : Nat → Nat → Int) (k : Nat) (hk : k < 6) (x1 : Int) (x2 : Int) (s0 : Int) : Run sc 42 5 [some (Rf (8 + 6 * k)), some (I x1), some (I x2)] [(I s0)] (hp iv) = if s0 = 0 then Run sc 42 30 [some (Rf (8 + 6 * k)), some (I x1), some (I x2)] [] (hp iv) else aBind (Run sc 30 0 [some (Rf (8 + 6 * k)), some (I x2)] [] (hp iv)) (fun v h2 => Run sc 42 13 [some (Rf (8 + 6 * k)), some (I x1), some (I x2)] (pushR v []) h2) :=
  (R_if_eq mc_42 dX2_lay_5 (t := 30) rfl).trans <| ite_c2
  (rfl)
  ((R_aload_n mc_42 dX2_lay_8 rfl).trans <|
  (R_iload_n mc_42 dX2_lay_9 rfl).trans <|
  R_invV mc_42 dX2_lay_10 mo_42 ct_2_62 af_42_30 rfl (kCR hk) rfl ⟨Nat.le_of_ble_eq_true rfl, Nat.le_of_ble_eq_true rfl⟩)
theorem B_X2_lay_13 (sc : Nat × (Nat → Int)) (iv : Nat → Nat → Int) (k : Nat) (hk : k < 6) (x1 : Int) (x2 : Int) (s0 : Int) : Run sc 42 13 [some (Rf (8 + 6 * k)), some (I x1), some (I x2)] [(I s0)] (hp iv) = if s0 = 0 then Run sc 42 30 [some (Rf (8 + 6 * k)), some (I x1), some (I x2)] [] (hp iv) else bck 0 (((288 : Nat) : Int) - 1) x2 (bck (-2147483648) 2147483647 x1 (Run sc 42 23 [some (Rf (8 + 6 * k)), some (I x1), some (I x2)] [] (hp (setO iv (12 + 6 * k) (upI (iv (12 + 6 * k)) (Int.toNat x2) x1))))) :=
  (R_if_eq mc_42 dX2_lay_13 (t := 30) rfl).trans <| ite_c2
  (rfl)
  ((R_aload_n mc_42 dX2_lay_16 rfl).trans <|
  (R_getR mc_42 dX2_lay_17 mo_42 ft_2_33 (kCR hk) rfl (rCR7 hk) (by omega)).trans <|
  (R_iload_n mc_42 dX2_lay_20 rfl).trans <|
  (R_iload_n mc_42 dX2_lay_21 rfl).trans <|
  (R_iastore mc_42 dX2_lay_22 (kCA3 hk)).trans <| bck_congr <| bck_congr <|
  rfl)
theorem B_X2_lay_23 (sc : Nat × (Nat → Int)) (iv : Nat → Nat → Int) (k : Nat) (hk : k < 6) (x1 : Int) (x2 : Int) : Run sc 42 23 [some (Rf (8 + 6 * k)), some (I x1), some (I x2)] [] (hp iv) = bck 0 (((288 : Nat) : Int) - 1) x1 (bck (-2147483648) 2147483647 x2 (Run sc 42 30 [some (Rf (8 + 6 * k)), some (I x1), some (I x2)] [] (hp (setO iv (13 + 6 * k) (upI (iv (13 + 6 * k)) (Int.toNat x1) x2))))) :=
  (R_aload_n mc_42 dX2_lay_23 rfl).trans <|
  (R_getR mc_42 dX2_lay_24 mo_42 ft_2_36 (kCR hk) rfl (rCR8 hk) (by omega)).trans <|
  (R_iload_n mc_42 dX2_lay_27 rfl).trans <|
  (R_iload_n mc_42 dX2_lay_28 rfl).trans <|
  (R_iastore mc_42 dX2_lay_29 (kCA4 hk)).trans <| bck_congr <| bck_congr <|
  rfl
theorem B_X2_lay_30 (sc : Nat × (Nat → Int)) (iv : Nat → Nat → Int) (k : Nat) (hk : k < 6) (x1 : Int) (x2 : Int) : Run sc 42 30 [some (Rf (8 + 6 * k)), some (I x1), some (I x2)] [] (hp iv) = some (none, (hp iv)) :=
  R_return mc_42 dX2_lay_30 rfl
theorem B_X2_shortenOrder_0 (sc : Nat × (Nat → Int)) (iv : Nat → Nat → Int) (k : Nat) (hk : k < 6)  : Run sc 43 0 [some (Rf (8 + 6 * k)), none, none, none] [] (hp iv) = Run sc 43 4 [some (Rf (8 + 6 * k)), some (I 0), some (I 0), none] [] (hp iv) :=
  (R_iconst mc_43 dX2_shortenOrder_0 ⟨by decide, by decide⟩).trans <|
  (R_istore_n mc_43 dX2_shortenOrder_1 (Nat.le_of_ble_eq_true rfl)).trans <|
  (R_iconst mc_43 dX2_shortenOrder_2 ⟨by decide, by decide⟩).trans <|
  R_istore_n mc_43 dX2_shortenOrder_3 (Nat.le_of_ble_eq_true rfl)
theorem B_X2_shortenOrder_4 (sc : Nat × (Nat → Int)) (iv : Nat → Nat → Int) (k : Nat) (hk : k < 6) (x1 : Int) (x2 : Int) (d3 : Option AV) : Run sc 43 4 [some (Rf (8 + 6 * k)), some (I x1), some (I x2), d3] [] (hp iv) = if x2 < 1000000 then aBind (Run sc 44 0 [some (Rf (8 + 6 * k)), none, none, none] [] (hp iv)) (fun v h2 => Run sc 43 14 [some (Rf (8 + 6 * k)), some (I x1), some (I x2), d3] (pushR v []) h2) else Run sc 43 32 [some (Rf (8 + 6 * k)), some (I x1), some (I x2), d3] [] (hp iv) :=
  (R_iload_n mc_43 dX2_shortenOrder_4 rfl).trans <|
  (R_ldc mc_43 dX2_shortenOrder_5 mo_43 rfl).trans <|
  (R_icmp_ge mc_43 dX2_shortenOrder_7 (t := 32) rfl).trans <| ite_c2
  ((R_aload_n mc_43 dX2_shortenOrder_10 rfl).trans <|
  R_invV mc_43 dX2_shortenOrder_11 mo_43 ct_2_99 af_43_44 rfl (kCR hk) rfl ⟨Nat.le_of_ble_eq_true rfl, Nat.le_of_ble_eq_true rfl⟩)
  (rfl)
theorem B_X2_shortenOrder_14 (sc : Nat × (Nat → Int)) (iv : Nat → Nat → Int) (k : Nat) (hk : k < 6) (x1 : Int) (x2 : Int) (d3 : Option AV) (s0 : Int) : Run sc 43 14 [some (Rf (8 + 6 * k)), some (I x1), some (I x2), d3] [(I s0)] (hp iv) = if s0 = 0 then Run sc 43 32 [some (Rf (8 + 6 * k)), some (I x1), some (I x2), some (I s0)] [] (hp iv) else Run sc 43 22 [some (Rf (8 + 6 * k)), some (I x1), some (I x2), some (I s0)] [] (hp iv) :=
  (R_istore_n mc_43 dX2_shortenOrder_14 (Nat.le_of_ble_eq_true rfl)).trans <|
  (R_iload_n mc_43 dX2_shortenOrder_15 rfl).trans <|
  (R_if_ne mc_43 dX2_shortenOrder_16 (t := 22) rfl).trans <| ite_c2
  (R_goto mc_43 dX2_shortenOrder_19 (t := 32) rfl)
  (rfl)
theorem B_X2_shortenOrder_22 (sc : Nat × (Nat → Int)) (iv : Nat → Nat → Int) (k : Nat) (hk : k < 6) (x1 : Int) (x2 : Int) (x3 : Int) : Run sc 43 22 [some (Rf (8 + 6 * k)), some (I x1), some (I x2), some (I x3)] [] (hp iv) = chk (x1 + x3) (chk (x2 + 1) (Run sc 43 4 [some (Rf (8 + 6 * k)), some (I (x1 + x3)), some (I (x2 + 1)), some (I x3)] [] (hp iv))) :=
  (R_iload_n mc_43 dX2_shortenOrder_22 rfl).trans <|
  (R_iload_n mc_43 dX2_shortenOrder_23 rfl).trans <|
  (R_iadd mc_43 dX2_shortenOrder_24).trans <| chk_congr <|
  (R_istore_n mc_43 dX2_shortenOrder_25 (Nat.le_of_ble_eq_true rfl)).trans <|
  (R_iinc mc_43 dX2_shortenOrder_26 rfl).trans <| chk_congr <|
  R_goto mc_43 dX2_shortenOrder_29 (t := 4) rfl
theorem B_X2_shortenOrder_32 (sc : Nat × (Nat → Int)) (iv : Nat → Nat → Int) (k : Nat) (hk : k < 6) (x1 : Int) (x2 : Int) (d3 : Option AV) : Run sc 43 32 [some (Rf (8 + 6 * k)), some (I x1), some (I x2), d3] [] (hp iv) = some (some (I x1), (hp iv)) :=
  (R_iload_n mc_43 dX2_shortenOrder_32 rfl).trans <|
  R_ireturn mc_43 dX2_shortenOrder_33 rfl
theorem B_X2_shortenOnce_0 (sc : Nat × (Nat → Int)) (iv : Nat → Nat → Int) (k : Nat) (hk : k < 6)  : Run sc 44 0 [some (Rf (8 + 6 * k)), none, none, none] [] (hp iv) = Run sc 44 4 [some (Rf (8 + 6 * k)), some (I 0), some (I 0), none] [] (hp iv) :=
  (R_iconst mc_44 dX2_shortenOnce_0 ⟨by decide, by decide⟩).trans <|
  (R_istore_n mc_44 dX2_shortenOnce_1 (Nat.le_of_ble_eq_true rfl)).trans <|
  (R_iconst mc_44 dX2_shortenOnce_2 ⟨by decide, by decide⟩).trans <|
  R_istore_n mc_44 dX2_shortenOnce_3 (Nat.le_of_ble_eq_true rfl)
theorem B_X2_shortenOnce_4 (sc : Nat × (Nat → Int)) (iv : Nat → Nat → Int) (k : Nat) (hk : k < 6) (x1 : Int) (x2 : Int) (d3 : Option AV) : Run sc 44 4 [some (Rf (8 + 6 * k)), some (I x1), some (I x2), d3] [] (hp iv) = if x2 < (iv (8 + 6 * k) 3) then Run sc 44 14 [some (Rf (8 + 6 * k)), some (I x1), some (I x2), some (I 0)] [] (hp iv) else Run sc 44 57 [some (Rf (8 + 6 * k)), some (I x1), some (I x2), d3] [] (hp iv) :=
  (R_iload_n mc_44 dX2_shortenOnce_4 rfl).trans <|
  (R_aload_n mc_44 dX2_shortenOnce_5 rfl).trans <|
  (R_getI mc_44 dX2_shortenOnce_6 mo_44 ft_2_39 (kCR hk) rfl).trans <|
  (R_icmp_ge mc_44 dX2_shortenOnce_9 (t := 57) rfl).trans <| ite_c2
  ((R_iconst mc_44 dX2_shortenOnce_12 ⟨by decide, by decide⟩).trans <|
  R_istore_n mc_44 dX2_shortenOnce_13 (Nat.le_of_ble_eq_true rfl))
  (rfl)
theorem B_X2_shortenOnce_14 (sc : Nat × (Nat → Int)) (iv : Nat → Nat → Int) (k : Nat) (hk : k < 6) (x1 : Int) (x2 : Int) (x3 : Int) : Run sc 44 14 [some (Rf (8 + 6 * k)), some (I x1), some (I x2), some (I x3)] [] (hp iv) = if x3 < (iv (8 + 6 * k) 3) then if x3 = x2 then Run sc 44 45 [some (Rf (8 + 6 * k)), some (I x1), some (I x2), some (I x3)] [] (hp iv) else aBind (Run sc 45 0 [some (Rf (8 + 6 * k)), some (I x2), some (I x3), none, none, none, none, none, none, none] [] (hp iv)) (fun v h2 => Run sc 44 33 [some (Rf (8 + 6 * k)), some (I x1), some (I x2), some (I x3)] (pushR v []) h2) else Run sc 44 51 [some (Rf (8 + 6 * k)), some (I x1), some (I x2), some (I x3)] [] (hp iv) :=
  (R_iload_n mc_44 dX2_shortenOnce_14 rfl).trans <|
  (R_aload_n mc_44 dX2_shortenOnce_15 rfl).trans <|
  (R_getI mc_44 dX2_shortenOnce_16 mo_44 ft_2_39 (kCR hk) rfl).trans <|
  (R_icmp_ge mc_44 dX2_shortenOnce_19 (t := 51) rfl).trans <| ite_c2
  ((R_iload_n mc_44 dX2_shortenOnce_22 rfl).trans <|
  (R_iload_n mc_44 dX2_shortenOnce_23 rfl).trans <|
  (R_icmp_eq mc_44 dX2_shortenOnce_24 (t := 45) rfl).trans <| ite_c2
  (rfl)
  ((R_aload_n mc_44 dX2_shortenOnce_27 rfl).trans <|
  (R_iload_n mc_44 dX2_shortenOnce_28 rfl).trans <|
  (R_iload_n mc_44 dX2_shortenOnce_29 rfl).trans <|
  R_invV mc_44 dX2_shortenOnce_30 mo_44 ct_2_102 af_44_45 rfl (kCR hk) rfl ⟨Nat.le_of_ble_eq_true rfl, Nat.le_of_ble_eq_true rfl⟩))
  (rfl)
theorem B_X2_shortenOnce_33 (sc : Nat × (Nat → Int)) (iv : Nat → Nat → Int) (k : Nat) (hk : k < 6) (x1 : Int) (x2 : Int) (x3 : Int) (s0 : Int) : Run sc 44 33 [some (Rf (8 + 6 * k)), some (I x1), some (I x2), some (I x3)] [(I s0)] (hp iv) = if 0 < s0 then aBind (Run sc 41 0 [some (Rf (8 + 6 * k)), some (I x2), some (I x3), none, none] [] (hp iv)) (fun v h2 => Run sc 44 42 [some (Rf (8 + 6 * k)), some (I x1), some (I x2), some (I x3)] (pushR v []) h2) else Run sc 44 45 [some (Rf (8 + 6 * k)), some (I x1), some (I x2), some (I x3)] [] (hp iv) :=
  (R_if_le mc_44 dX2_shortenOnce_33 (t := 45) rfl).trans <| ite_c2
  ((R_aload_n mc_44 dX2_shortenOnce_36 rfl).trans <|
  (R_iload_n mc_44 dX2_shortenOnce_37 rfl).trans <|
  (R_iload_n mc_44 dX2_shortenOnce_38 rfl).trans <|
  R_invV mc_44 dX2_shortenOnce_39 mo_44 ct_2_105 af_44_41 rfl (kCR hk) rfl ⟨Nat.le_of_ble_eq_true rfl, Nat.le_of_ble_eq_true rfl⟩)
  (rfl)
theorem B_X2_shortenOnce_42 (sc : Nat × (Nat → Int)) (iv : Nat → Nat → Int) (k : Nat) (hk : k < 6) (x1 : Int) (x2 : Int) (x3 : Int) : Run sc 44 42 [some (Rf (8 + 6 * k)), some (I x1), some (I x2), some (I x3)] [] (hp iv) = chk (x1 + 1) (Run sc 44 45 [some (Rf (8 + 6 * k)), some (I (x1 + 1)), some (I x2), some (I x3)] [] (hp iv)) :=
  (R_iinc mc_44 dX2_shortenOnce_42 rfl).trans <| chk_congr <|
  rfl
theorem B_X2_shortenOnce_45 (sc : Nat × (Nat → Int)) (iv : Nat → Nat → Int) (k : Nat) (hk : k < 6) (x1 : Int) (x2 : Int) (x3 : Int) : Run sc 44 45 [some (Rf (8 + 6 * k)), some (I x1), some (I x2), some (I x3)] [] (hp iv) = chk (x3 + 1) (Run sc 44 14 [some (Rf (8 + 6 * k)), some (I x1), some (I x2), some (I (x3 + 1))] [] (hp iv)) :=
  (R_iinc mc_44 dX2_shortenOnce_45 rfl).trans <| chk_congr <|
  R_goto mc_44 dX2_shortenOnce_48 (t := 14) rfl
theorem B_X2_shortenOnce_51 (sc : Nat × (Nat → Int)) (iv : Nat → Nat → Int) (k : Nat) (hk : k < 6) (x1 : Int) (x2 : Int) (x3 : Int) : Run sc 44 51 [some (Rf (8 + 6 * k)), some (I x1), some (I x2), some (I x3)] [] (hp iv) = chk (x2 + 1) (Run sc 44 4 [some (Rf (8 + 6 * k)), some (I x1), some (I (x2 + 1)), some (I x3)] [] (hp iv)) :=
  (R_iinc mc_44 dX2_shortenOnce_51 rfl).trans <| chk_congr <|
  R_goto mc_44 dX2_shortenOnce_54 (t := 4) rfl
theorem B_X2_shortenOnce_57 (sc : Nat × (Nat → Int)) (iv : Nat → Nat → Int) (k : Nat) (hk : k < 6) (x1 : Int) (x2 : Int) (d3 : Option AV) : Run sc 44 57 [some (Rf (8 + 6 * k)), some (I x1), some (I x2), d3] [] (hp iv) = some (some (I x1), (hp iv)) :=
  (R_iload_n mc_44 dX2_shortenOnce_57 rfl).trans <|
  R_ireturn mc_44 dX2_shortenOnce_58 rfl
theorem B_X2_savedByMove_0 (sc : Nat × (Nat → Int)) (iv : Nat → Nat → Int) (k : Nat) (hk : k < 6) (x1 : Int) (x2 : Int) : Run sc 45 0 [some (Rf (8 + 6 * k)), some (I x1), some (I x2), none, none, none, none, none, none, none] [] (hp iv) = aBind (Run sc 36 0 [some (Rf (8 + 6 * k)), some (I x1)] [] (hp iv)) (fun v h2 => Run sc 45 5 [some (Rf (8 + 6 * k)), some (I x1), some (I x2), none, none, none, none, none, none, none] (pushR v []) h2) :=
  (R_aload_n mc_45 dX2_savedByMove_0 rfl).trans <|
  (R_iload_n mc_45 dX2_savedByMove_1 rfl).trans <|
  R_invV mc_45 dX2_savedByMove_2 mo_45 ct_2_86 af_45_36 rfl (kCR hk) rfl ⟨Nat.le_of_ble_eq_true rfl, Nat.le_of_ble_eq_true rfl⟩
theorem B_X2_savedByMove_5 (sc : Nat × (Nat → Int)) (iv : Nat → Nat → Int) (k : Nat) (hk : k < 6) (x1 : Int) (x2 : Int) (d3 : Option AV) (d4 : Option AV) (d5 : Option AV) (d6 : Option AV) (d7 : Option AV) (d8 : Option AV) (d9 : Option AV) (s0 : Int) : Run sc 45 5 [some (Rf (8 + 6 * k)), some (I x1), some (I x2), d3, d4, d5, d6, d7, d8, d9] [(I s0)] (hp iv) = chk (x1 - 1) (aBind (Run sc 36 0 [some (Rf (8 + 6 * k)), some (I (x1 - 1))] [] (hp iv)) (fun v h2 => Run sc 45 13 [some (Rf (8 + 6 * k)), some (I x1), some (I x2), some (I s0), d4, d5, d6, d7, d8, d9] (pushR v []) h2)) :=
  (R_istore_n mc_45 dX2_savedByMove_5 (Nat.le_of_ble_eq_true rfl)).trans <|
  (R_aload_n mc_45 dX2_savedByMove_6 rfl).trans <|
  (R_iload_n mc_45 dX2_savedByMove_7 rfl).trans <|
  (R_iconst mc_45 dX2_savedByMove_8 ⟨by decide, by decide⟩).trans <|
  (R_isub mc_45 dX2_savedByMove_9).trans <| chk_congr <|
  R_invV mc_45 dX2_savedByMove_10 mo_45 ct_2_86 af_45_36 rfl (kCR hk) rfl ⟨Nat.le_of_ble_eq_true rfl, Nat.le_of_ble_eq_true rfl⟩
theorem B_X2_savedByMove_13 (sc : Nat × (Nat → Int)) (iv : Nat → Nat → Int) (k : Nat) (hk : k < 6) (x1 : Int) (x2 : Int) (x3 : Int) (d4 : Option AV) (d5 : Option AV) (d6 : Option AV) (d7 : Option AV) (d8 : Option AV) (d9 : Option AV) (s0 : Int) : Run sc 45 13 [some (Rf (8 + 6 * k)), some (I x1), some (I x2), some (I x3), d4, d5, d6, d7, d8, d9] [(I s0)] (hp iv) = chk (x1 + 1) (aBind (Run sc 36 0 [some (Rf (8 + 6 * k)), some (I (x1 + 1))] [] (hp iv)) (fun v h2 => Run sc 45 22 [some (Rf (8 + 6 * k)), some (I x1), some (I x2), some (I x3), some (I s0), d5, d6, d7, d8, d9] (pushR v []) h2)) :=
  (R_istore mc_45 dX2_savedByMove_13 (Nat.le_of_ble_eq_true rfl)).trans <|
  (R_aload_n mc_45 dX2_savedByMove_15 rfl).trans <|
  (R_iload_n mc_45 dX2_savedByMove_16 rfl).trans <|
  (R_iconst mc_45 dX2_savedByMove_17 ⟨by decide, by decide⟩).trans <|
  (R_iadd mc_45 dX2_savedByMove_18).trans <| chk_congr <|
  R_invV mc_45 dX2_savedByMove_19 mo_45 ct_2_86 af_45_36 rfl (kCR hk) rfl ⟨Nat.le_of_ble_eq_true rfl, Nat.le_of_ble_eq_true rfl⟩
theorem B_X2_savedByMove_22 (sc : Nat × (Nat → Int)) (iv : Nat → Nat → Int) (k : Nat) (hk : k < 6) (x1 : Int) (x2 : Int) (x3 : Int) (x4 : Int) (d5 : Option AV) (d6 : Option AV) (d7 : Option AV) (d8 : Option AV) (d9 : Option AV) (s0 : Int) : Run sc 45 22 [some (Rf (8 + 6 * k)), some (I x1), some (I x2), some (I x3), some (I x4), d5, d6, d7, d8, d9] [(I s0)] (hp iv) = if x1 < x2 then Run sc 45 37 [some (Rf (8 + 6 * k)), some (I x1), some (I x2), some (I x3), some (I x4), some (I s0), d6, d7, d8, d9] [(I x2), (Rf (8 + 6 * k))] (hp iv) else Run sc 45 34 [some (Rf (8 + 6 * k)), some (I x1), some (I x2), some (I x3), some (I x4), some (I s0), d6, d7, d8, d9] [(Rf (8 + 6 * k))] (hp iv) :=
  (R_istore mc_45 dX2_savedByMove_22 (Nat.le_of_ble_eq_true rfl)).trans <|
  (R_aload_n mc_45 dX2_savedByMove_24 rfl).trans <|
  (R_iload_n mc_45 dX2_savedByMove_25 rfl).trans <|
  (R_iload_n mc_45 dX2_savedByMove_26 rfl).trans <|
  (R_icmp_le mc_45 dX2_savedByMove_27 (t := 34) rfl).trans <| ite_c2
  ((R_iload_n mc_45 dX2_savedByMove_30 rfl).trans <|
  R_goto mc_45 dX2_savedByMove_31 (t := 37) rfl)
  (rfl)
theorem B_X2_savedByMove_34 (sc : Nat × (Nat → Int)) (iv : Nat → Nat → Int) (k : Nat) (hk : k < 6) (x1 : Int) (x2 : Int) (x3 : Int) (x4 : Int) (x5 : Int) (d6 : Option AV) (d7 : Option AV) (d8 : Option AV) (d9 : Option AV) : Run sc 45 34 [some (Rf (8 + 6 * k)), some (I x1), some (I x2), some (I x3), some (I x4), some (I x5), d6, d7, d8, d9] [(Rf (8 + 6 * k))] (hp iv) = chk (x2 - 1) (Run sc 45 37 [some (Rf (8 + 6 * k)), some (I x1), some (I x2), some (I x3), some (I x4), some (I x5), d6, d7, d8, d9] [(I (x2 - 1)), (Rf (8 + 6 * k))] (hp iv)) :=
  (R_iload_n mc_45 dX2_savedByMove_34 rfl).trans <|
  (R_iconst mc_45 dX2_savedByMove_35 ⟨by decide, by decide⟩).trans <|
  (R_isub mc_45 dX2_savedByMove_36).trans <| chk_congr <|
  rfl
theorem B_X2_savedByMove_37 (sc : Nat × (Nat → Int)) (iv : Nat → Nat → Int) (k : Nat) (hk : k < 6) (x1 : Int) (x2 : Int) (x3 : Int) (x4 : Int) (x5 : Int) (d6 : Option AV) (d7 : Option AV) (d8 : Option AV) (d9 : Option AV) (s0 : Int) : Run sc 45 37 [some (Rf (8 + 6 * k)), some (I x1), some (I x2), some (I x3), some (I x4), some (I x5), d6, d7, d8, d9] [(I s0), (Rf (8 + 6 * k))] (hp iv) = aBind (Run sc 36 0 [some (Rf (8 + 6 * k)), some (I s0)] [] (hp iv)) (fun v h2 => Run sc 45 40 [some (Rf (8 + 6 * k)), some (I x1), some (I x2), some (I x3), some (I x4), some (I x5), d6, d7, d8, d9] (pushR v []) h2) :=
  R_invV mc_45 dX2_savedByMove_37 mo_45 ct_2_86 af_45_36 rfl (kCR hk) rfl ⟨Nat.le_of_ble_eq_true rfl, Nat.le_of_ble_eq_true rfl⟩
theorem B_X2_savedByMove_40 (sc : Nat × (Nat → Int)) (iv : Nat → Nat → Int) (k : Nat) (hk : k < 6) (x1 : Int) (x2 : Int) (x3 : Int) (x4 : Int) (x5 : Int) (d6 : Option AV) (d7 : Option AV) (d8 : Option AV) (d9 : Option AV) (s0 : Int) : Run sc 45 40 [some (Rf (8 + 6 * k)), some (I x1), some (I x2), some (I x3), some (I x4), some (I x5), d6, d7, d8, d9] [(I s0)] (hp iv) = if x1 < x2 then chk (x2 + 1) (Run sc 45 55 [some (Rf (8 + 6 * k)), some (I x1), some (I x2), some (I x3), some (I x4), some (I x5), some (I s0), d7, d8, d9] [(I (x2 + 1)), (Rf (8 + 6 * k))] (hp iv)) else Run sc 45 54 [some (Rf (8 + 6 * k)), some (I x1), some (I x2), some (I x3), some (I x4), some (I x5), some (I s0), d7, d8, d9] [(Rf (8 + 6 * k))] (hp iv) :=
  (R_istore mc_45 dX2_savedByMove_40 (Nat.le_of_ble_eq_true rfl)).trans <|
  (R_aload_n mc_45 dX2_savedByMove_42 rfl).trans <|
  (R_iload_n mc_45 dX2_savedByMove_43 rfl).trans <|
  (R_iload_n mc_45 dX2_savedByMove_44 rfl).trans <|
  (R_icmp_le mc_45 dX2_savedByMove_45 (t := 54) rfl).trans <| ite_c2
  ((R_iload_n mc_45 dX2_savedByMove_48 rfl).trans <|
  (R_iconst mc_45 dX2_savedByMove_49 ⟨by decide, by decide⟩).trans <|
  (R_iadd mc_45 dX2_savedByMove_50).trans <| chk_congr <|
  R_goto mc_45 dX2_savedByMove_51 (t := 55) rfl)
  (rfl)
theorem B_X2_savedByMove_54 (sc : Nat × (Nat → Int)) (iv : Nat → Nat → Int) (k : Nat) (hk : k < 6) (x1 : Int) (x2 : Int) (x3 : Int) (x4 : Int) (x5 : Int) (x6 : Int) (d7 : Option AV) (d8 : Option AV) (d9 : Option AV) : Run sc 45 54 [some (Rf (8 + 6 * k)), some (I x1), some (I x2), some (I x3), some (I x4), some (I x5), some (I x6), d7, d8, d9] [(Rf (8 + 6 * k))] (hp iv) = Run sc 45 55 [some (Rf (8 + 6 * k)), some (I x1), some (I x2), some (I x3), some (I x4), some (I x5), some (I x6), d7, d8, d9] [(I x2), (Rf (8 + 6 * k))] (hp iv) :=
  R_iload_n mc_45 dX2_savedByMove_54 rfl
theorem B_X2_savedByMove_55 (sc : Nat × (Nat → Int)) (iv : Nat → Nat → Int) (k : Nat) (hk : k < 6) (x1 : Int) (x2 : Int) (x3 : Int) (x4 : Int) (x5 : Int) (x6 : Int) (d7 : Option AV) (d8 : Option AV) (d9 : Option AV) (s0 : Int) : Run sc 45 55 [some (Rf (8 + 6 * k)), some (I x1), some (I x2), some (I x3), some (I x4), some (I x5), some (I x6), d7, d8, d9] [(I s0), (Rf (8 + 6 * k))] (hp iv) = aBind (Run sc 36 0 [some (Rf (8 + 6 * k)), some (I s0)] [] (hp iv)) (fun v h2 => Run sc 45 58 [some (Rf (8 + 6 * k)), some (I x1), some (I x2), some (I x3), some (I x4), some (I x5), some (I x6), d7, d8, d9] (pushR v []) h2) :=
  R_invV mc_45 dX2_savedByMove_55 mo_45 ct_2_86 af_45_36 rfl (kCR hk) rfl ⟨Nat.le_of_ble_eq_true rfl, Nat.le_of_ble_eq_true rfl⟩
theorem B_X2_savedByMove_58 (sc : Nat × (Nat → Int)) (iv : Nat → Nat → Int) (k : Nat) (hk : k < 6) (x1 : Int) (x2 : Int) (x3 : Int) (x4 : Int) (x5 : Int) (x6 : Int) (d7 : Option AV) (d8 : Option AV) (d9 : Option AV) (s0 : Int) : Run sc 45 58 [some (Rf (8 + 6 * k)), some (I x1), some (I x2), some (I x3), some (I x4), some (I x5), some (I x6), d7, d8, d9] [(I s0)] (hp iv) = aBind (Run sc 37 0 [some (Rf (8 + 6 * k)), some (I x4), some (I x3)] [] (hp iv)) (fun v h2 => Run sc 45 67 [some (Rf (8 + 6 * k)), some (I x1), some (I x2), some (I x3), some (I x4), some (I x5), some (I x6), some (I s0), d8, d9] (pushR v []) h2) :=
  (R_istore mc_45 dX2_savedByMove_58 (Nat.le_of_ble_eq_true rfl)).trans <|
  (R_aload_n mc_45 dX2_savedByMove_60 rfl).trans <|
  (R_iload mc_45 dX2_savedByMove_61 rfl).trans <|
  (R_iload_n mc_45 dX2_savedByMove_63 rfl).trans <|
  R_invV mc_45 dX2_savedByMove_64 mo_45 ct_2_89 af_45_37 rfl (kCR hk) rfl ⟨Nat.le_of_ble_eq_true rfl, Nat.le_of_ble_eq_true rfl⟩
theorem B_X2_savedByMove_67 (sc : Nat × (Nat → Int)) (iv : Nat → Nat → Int) (k : Nat) (hk : k < 6) (x1 : Int) (x2 : Int) (x3 : Int) (x4 : Int) (x5 : Int) (x6 : Int) (x7 : Int) (d8 : Option AV) (d9 : Option AV) (s0 : Int) : Run sc 45 67 [some (Rf (8 + 6 * k)), some (I x1), some (I x2), some (I x3), some (I x4), some (I x5), some (I x6), some (I x7), d8, d9] [(I s0)] (hp iv) = aBind (Run sc 37 0 [some (Rf (8 + 6 * k)), some (I x3), some (I x5)] [] (hp iv)) (fun v h2 => Run sc 45 74 [some (Rf (8 + 6 * k)), some (I x1), some (I x2), some (I x3), some (I x4), some (I x5), some (I x6), some (I x7), d8, d9] (pushR v [(I s0)]) h2) :=
  (R_aload_n mc_45 dX2_savedByMove_67 rfl).trans <|
  (R_iload_n mc_45 dX2_savedByMove_68 rfl).trans <|
  (R_iload mc_45 dX2_savedByMove_69 rfl).trans <|
  R_invV mc_45 dX2_savedByMove_71 mo_45 ct_2_89 af_45_37 rfl (kCR hk) rfl ⟨Nat.le_of_ble_eq_true rfl, Nat.le_of_ble_eq_true rfl⟩
theorem B_X2_savedByMove_74 (sc : Nat × (Nat → Int)) (iv : Nat → Nat → Int) (k : Nat) (hk : k < 6) (x1 : Int) (x2 : Int) (x3 : Int) (x4 : Int) (x5 : Int) (x6 : Int) (x7 : Int) (d8 : Option AV) (d9 : Option AV) (s0 : Int) (s1 : Int) : Run sc 45 74 [some (Rf (8 + 6 * k)), some (I x1), some (I x2), some (I x3), some (I x4), some (I x5), some (I x6), some (I x7), d8, d9] [(I s0), (I s1)] (hp iv) = chk (s1 + s0) (aBind (Run sc 37 0 [some (Rf (8 + 6 * k)), some (I x6), some (I x7)] [] (hp iv)) (fun v h2 => Run sc 45 83 [some (Rf (8 + 6 * k)), some (I x1), some (I x2), some (I x3), some (I x4), some (I x5), some (I x6), some (I x7), d8, d9] (pushR v [(I (s1 + s0))]) h2)) :=
  (R_iadd mc_45 dX2_savedByMove_74).trans <| chk_congr <|
  (R_aload_n mc_45 dX2_savedByMove_75 rfl).trans <|
  (R_iload mc_45 dX2_savedByMove_76 rfl).trans <|
  (R_iload mc_45 dX2_savedByMove_78 rfl).trans <|
  R_invV mc_45 dX2_savedByMove_80 mo_45 ct_2_89 af_45_37 rfl (kCR hk) rfl ⟨Nat.le_of_ble_eq_true rfl, Nat.le_of_ble_eq_true rfl⟩
theorem B_X2_savedByMove_83 (sc : Nat × (Nat → Int)) (iv : Nat → Nat → Int) (k : Nat) (hk : k < 6) (x1 : Int) (x2 : Int) (x3 : Int) (x4 : Int) (x5 : Int) (x6 : Int) (x7 : Int) (d8 : Option AV) (d9 : Option AV) (s0 : Int) (s1 : Int) : Run sc 45 83 [some (Rf (8 + 6 * k)), some (I x1), some (I x2), some (I x3), some (I x4), some (I x5), some (I x6), some (I x7), d8, d9] [(I s0), (I s1)] (hp iv) = chk (s1 + s0) (aBind (Run sc 37 0 [some (Rf (8 + 6 * k)), some (I x4), some (I x5)] [] (hp iv)) (fun v h2 => Run sc 45 94 [some (Rf (8 + 6 * k)), some (I x1), some (I x2), some (I x3), some (I x4), some (I x5), some (I x6), some (I x7), some (I (s1 + s0)), d9] (pushR v []) h2)) :=
  (R_iadd mc_45 dX2_savedByMove_83).trans <| chk_congr <|
  (R_istore mc_45 dX2_savedByMove_84 (Nat.le_of_ble_eq_true rfl)).trans <|
  (R_aload_n mc_45 dX2_savedByMove_86 rfl).trans <|
  (R_iload mc_45 dX2_savedByMove_87 rfl).trans <|
  (R_iload mc_45 dX2_savedByMove_89 rfl).trans <|
  R_invV mc_45 dX2_savedByMove_91 mo_45 ct_2_89 af_45_37 rfl (kCR hk) rfl ⟨Nat.le_of_ble_eq_true rfl, Nat.le_of_ble_eq_true rfl⟩
theorem B_X2_savedByMove_94 (sc : Nat × (Nat → Int)) (iv : Nat → Nat → Int) (k : Nat) (hk : k < 6) (x1 : Int) (x2 : Int) (x3 : Int) (x4 : Int) (x5 : Int) (x6 : Int) (x7 : Int) (x8 : Int) (d9 : Option AV) (s0 : Int) : Run sc 45 94 [some (Rf (8 + 6 * k)), some (I x1), some (I x2), some (I x3), some (I x4), some (I x5), some (I x6), some (I x7), some (I x8), d9] [(I s0)] (hp iv) = aBind (Run sc 37 0 [some (Rf (8 + 6 * k)), some (I x6), some (I x3)] [] (hp iv)) (fun v h2 => Run sc 45 101 [some (Rf (8 + 6 * k)), some (I x1), some (I x2), some (I x3), some (I x4), some (I x5), some (I x6), some (I x7), some (I x8), d9] (pushR v [(I s0)]) h2) :=
  (R_aload_n mc_45 dX2_savedByMove_94 rfl).trans <|
  (R_iload mc_45 dX2_savedByMove_95 rfl).trans <|
  (R_iload_n mc_45 dX2_savedByMove_97 rfl).trans <|
  R_invV mc_45 dX2_savedByMove_98 mo_45 ct_2_89 af_45_37 rfl (kCR hk) rfl ⟨Nat.le_of_ble_eq_true rfl, Nat.le_of_ble_eq_true rfl⟩
theorem B_X2_savedByMove_101 (sc : Nat × (Nat → Int)) (iv : Nat → Nat → Int) (k : Nat) (hk : k < 6) (x1 : Int) (x2 : Int) (x3 : Int) (x4 : Int) (x5 : Int) (x6 : Int) (x7 : Int) (x8 : Int) (d9 : Option AV) (s0 : Int) (s1 : Int) : Run sc 45 101 [some (Rf (8 + 6 * k)), some (I x1), some (I x2), some (I x3), some (I x4), some (I x5), some (I x6), some (I x7), some (I x8), d9] [(I s0), (I s1)] (hp iv) = chk (s1 + s0) (aBind (Run sc 37 0 [some (Rf (8 + 6 * k)), some (I x3), some (I x7)] [] (hp iv)) (fun v h2 => Run sc 45 109 [some (Rf (8 + 6 * k)), some (I x1), some (I x2), some (I x3), some (I x4), some (I x5), some (I x6), some (I x7), some (I x8), d9] (pushR v [(I (s1 + s0))]) h2)) :=
  (R_iadd mc_45 dX2_savedByMove_101).trans <| chk_congr <|
  (R_aload_n mc_45 dX2_savedByMove_102 rfl).trans <|
  (R_iload_n mc_45 dX2_savedByMove_103 rfl).trans <|
  (R_iload mc_45 dX2_savedByMove_104 rfl).trans <|
  R_invV mc_45 dX2_savedByMove_106 mo_45 ct_2_89 af_45_37 rfl (kCR hk) rfl ⟨Nat.le_of_ble_eq_true rfl, Nat.le_of_ble_eq_true rfl⟩
theorem B_X2_savedByMove_109 (sc : Nat × (Nat → Int)) (iv : Nat → Nat → Int) (k : Nat) (hk : k < 6) (x1 : Int) (x2 : Int) (x3 : Int) (x4 : Int) (x5 : Int) (x6 : Int) (x7 : Int) (x8 : Int) (d9 : Option AV) (s0 : Int) (s1 : Int) : Run sc 45 109 [some (Rf (8 + 6 * k)), some (I x1), some (I x2), some (I x3), some (I x4), some (I x5), some (I x6), some (I x7), some (I x8), d9] [(I s0), (I s1)] (hp iv) = chk (s1 + s0) (chk (x8 - (s1 + s0)) (some (some (I (x8 - (s1 + s0))), (hp iv)))) :=
  (R_iadd mc_45 dX2_savedByMove_109).trans <| chk_congr <|
  (R_istore mc_45 dX2_savedByMove_110 (Nat.le_of_ble_eq_true rfl)).trans <|
  (R_iload mc_45 dX2_savedByMove_112 rfl).trans <|
  (R_iload mc_45 dX2_savedByMove_114 rfl).trans <|
  (R_isub mc_45 dX2_savedByMove_116).trans <| chk_congr <|
  R_ireturn mc_45 dX2_savedByMove_117 rfl
theorem B_X2_runsOnPage_0 (sc : Nat × (Nat → Int)) (iv : Nat → Nat → Int) (k : Nat) (hk : k < 6) (x2 : Int) : Run sc 46 0 [some (Rf (8 + 6 * k)), some (Rf 49), some (I x2), none, none] [] (hp iv) = Run sc 46 5 [some (Rf (8 + 6 * k)), some (Rf 49), some (I x2), some (I 0), some (I 0)] [] (hp iv) :=
  (R_iconst mc_46 dX2_runsOnPage_0 ⟨by decide, by decide⟩).trans <|
  (R_istore_n mc_46 dX2_runsOnPage_1 (Nat.le_of_ble_eq_true rfl)).trans <|
  (R_iconst mc_46 dX2_runsOnPage_2 ⟨by decide, by decide⟩).trans <|
  R_istore mc_46 dX2_runsOnPage_3 (Nat.le_of_ble_eq_true rfl)
theorem B_X2_runsOnPage_5 (sc : Nat × (Nat → Int)) (iv : Nat → Nat → Int) (k : Nat) (hk : k < 6) (x2 : Int) (x3 : Int) (x4 : Int) : Run sc 46 5 [some (Rf (8 + 6 * k)), some (Rf 49), some (I x2), some (I x3), some (I x4)] [] (hp iv) = if x4 < (iv (8 + 6 * k) 3) then bck 0 (((288 : Nat) : Int) - 1) x4 (bck 0 (((288 : Nat) : Int) - 1) x4 (aBind (Run sc 71 0 [some (Rf 49), some (I (iv (9 + 6 * k) (Int.toNat x4))), some (I (iv (10 + 6 * k) (Int.toNat x4)))] [] (hp iv)) (fun v h2 => Run sc 46 32 [some (Rf (8 + 6 * k)), some (Rf 49), some (I x2), some (I x3), some (I x4)] (pushR v []) h2))) else Run sc 46 45 [some (Rf (8 + 6 * k)), some (Rf 49), some (I x2), some (I x3), some (I x4)] [] (hp iv) :=
  (R_iload mc_46 dX2_runsOnPage_5 rfl).trans <|
  (R_aload_n mc_46 dX2_runsOnPage_7 rfl).trans <|
  (R_getI mc_46 dX2_runsOnPage_8 mo_46 ft_2_39 (kCR hk) rfl).trans <|
  (R_icmp_ge mc_46 dX2_runsOnPage_11 (t := 45) rfl).trans <| ite_c2
  ((R_aload_n mc_46 dX2_runsOnPage_14 rfl).trans <|
  (R_aload_n mc_46 dX2_runsOnPage_15 rfl).trans <|
  (R_getR mc_46 dX2_runsOnPage_16 mo_46 ft_2_23 (kCR hk) rfl (rCR4 hk) (by omega)).trans <|
  (R_iload mc_46 dX2_runsOnPage_19 rfl).trans <|
  (R_iaload mc_46 dX2_runsOnPage_21 (kCA0 hk)).trans <| bck_congr <|
  (R_aload_n mc_46 dX2_runsOnPage_22 rfl).trans <|
  (R_getR mc_46 dX2_runsOnPage_23 mo_46 ft_2_27 (kCR hk) rfl (rCR5 hk) (by omega)).trans <|
  (R_iload mc_46 dX2_runsOnPage_26 rfl).trans <|
  (R_iaload mc_46 dX2_runsOnPage_28 (kCA1 hk)).trans <| bck_congr <|
  R_invV mc_46 dX2_runsOnPage_29 mo_46 ct_2_108 af_46_71 rfl rfl rfl ⟨Nat.le_of_ble_eq_true rfl, Nat.le_of_ble_eq_true rfl⟩)
  (rfl)
theorem B_X2_runsOnPage_32 (sc : Nat × (Nat → Int)) (iv : Nat → Nat → Int) (k : Nat) (hk : k < 6) (x2 : Int) (x3 : Int) (x4 : Int) (s0 : Int) : Run sc 46 32 [some (Rf (8 + 6 * k)), some (Rf 49), some (I x2), some (I x3), some (I x4)] [(I s0)] (hp iv) = if s0 = x2 then chk (x3 + 1) (Run sc 46 39 [some (Rf (8 + 6 * k)), some (Rf 49), some (I x2), some (I (x3 + 1)), some (I x4)] [] (hp iv)) else Run sc 46 39 [some (Rf (8 + 6 * k)), some (Rf 49), some (I x2), some (I x3), some (I x4)] [] (hp iv) :=
  (R_iload_n mc_46 dX2_runsOnPage_32 rfl).trans <|
  (R_icmp_ne mc_46 dX2_runsOnPage_33 (t := 39) rfl).trans <| ite_c2
  ((R_iinc mc_46 dX2_runsOnPage_36 rfl).trans <| chk_congr <|
  rfl)
  (rfl)
theorem B_X2_runsOnPage_39 (sc : Nat × (Nat → Int)) (iv : Nat → Nat → Int) (k : Nat) (hk : k < 6) (x2 : Int) (x3 : Int) (x4 : Int) : Run sc 46 39 [some (Rf (8 + 6 * k)), some (Rf 49), some (I x2), some (I x3), some (I x4)] [] (hp iv) = chk (x4 + 1) (Run sc 46 5 [some (Rf (8 + 6 * k)), some (Rf 49), some (I x2), some (I x3), some (I (x4 + 1))] [] (hp iv)) :=
  (R_iinc mc_46 dX2_runsOnPage_39 rfl).trans <| chk_congr <|
  R_goto mc_46 dX2_runsOnPage_42 (t := 5) rfl
theorem B_X2_runsOnPage_45 (sc : Nat × (Nat → Int)) (iv : Nat → Nat → Int) (k : Nat) (hk : k < 6) (x2 : Int) (x3 : Int) (x4 : Int) : Run sc 46 45 [some (Rf (8 + 6 * k)), some (Rf 49), some (I x2), some (I x3), some (I x4)] [] (hp iv) = some (some (I x3), (hp iv)) :=
  (R_iload_n mc_46 dX2_runsOnPage_45 rfl).trans <|
  R_ireturn mc_46 dX2_runsOnPage_46 rfl
theorem B_X2_startsOnPage_0 (sc : Nat × (Nat → Int)) (iv : Nat → Nat → Int) (k : Nat) (hk : k < 6) (x2 : Int) : Run sc 47 0 [some (Rf (8 + 6 * k)), some (Rf 49), some (I x2), none, none, none] [] (hp iv) = Run sc 47 5 [some (Rf (8 + 6 * k)), some (Rf 49), some (I x2), some (I 0), some (I 0), none] [] (hp iv) :=
  (R_iconst mc_47 dX2_startsOnPage_0 ⟨by decide, by decide⟩).trans <|
  (R_istore_n mc_47 dX2_startsOnPage_1 (Nat.le_of_ble_eq_true rfl)).trans <|
  (R_iconst mc_47 dX2_startsOnPage_2 ⟨by decide, by decide⟩).trans <|
  R_istore mc_47 dX2_startsOnPage_3 (Nat.le_of_ble_eq_true rfl)
theorem B_X2_startsOnPage_5 (sc : Nat × (Nat → Int)) (iv : Nat → Nat → Int) (k : Nat) (hk : k < 6) (x2 : Int) (x3 : Int) (x4 : Int) (d5 : Option AV) : Run sc 47 5 [some (Rf (8 + 6 * k)), some (Rf 49), some (I x2), some (I x3), some (I x4), d5] [] (hp iv) = if x4 < (iv (8 + 6 * k) 3) then aBind (Run sc 36 0 [some (Rf (8 + 6 * k)), some (I x4)] [] (hp iv)) (fun v h2 => Run sc 47 20 [some (Rf (8 + 6 * k)), some (Rf 49), some (I x2), some (I x3), some (I x4), d5] (pushR v []) h2) else Run sc 47 116 [some (Rf (8 + 6 * k)), some (Rf 49), some (I x2), some (I x3), some (I x4), d5] [] (hp iv) :=
  (R_iload mc_47 dX2_startsOnPage_5 rfl).trans <|
  (R_aload_n mc_47 dX2_startsOnPage_7 rfl).trans <|
  (R_getI mc_47 dX2_startsOnPage_8 mo_47 ft_2_39 (kCR hk) rfl).trans <|
  (R_icmp_ge mc_47 dX2_startsOnPage_11 (t := 116) rfl).trans <| ite_c2
  ((R_aload_n mc_47 dX2_startsOnPage_14 rfl).trans <|
  (R_iload mc_47 dX2_startsOnPage_15 rfl).trans <|
  R_invV mc_47 dX2_startsOnPage_17 mo_47 ct_2_86 af_47_36 rfl (kCR hk) rfl ⟨Nat.le_of_ble_eq_true rfl, Nat.le_of_ble_eq_true rfl⟩)
  (rfl)
theorem B_X2_startsOnPage_20 (sc : Nat × (Nat → Int)) (iv : Nat → Nat → Int) (k : Nat) (hk : k < 6) (x2 : Int) (x3 : Int) (x4 : Int) (d5 : Option AV) (s0 : Int) : Run sc 47 20 [some (Rf (8 + 6 * k)), some (Rf 49), some (I x2), some (I x3), some (I x4), d5] [(I s0)] (hp iv) = aBind (Run sc 30 0 [some (Rf (8 + 6 * k)), some (I s0)] [] (hp iv)) (fun v h2 => Run sc 47 28 [some (Rf (8 + 6 * k)), some (Rf 49), some (I x2), some (I x3), some (I x4), some (I s0)] (pushR v []) h2) :=
  (R_istore mc_47 dX2_startsOnPage_20 (Nat.le_of_ble_eq_true rfl)).trans <|
  (R_aload_n mc_47 dX2_startsOnPage_22 rfl).trans <|
  (R_iload mc_47 dX2_startsOnPage_23 rfl).trans <|
  R_invV mc_47 dX2_startsOnPage_25 mo_47 ct_2_62 af_47_30 rfl (kCR hk) rfl ⟨Nat.le_of_ble_eq_true rfl, Nat.le_of_ble_eq_true rfl⟩
theorem B_X2_startsOnPage_28 (sc : Nat × (Nat → Int)) (iv : Nat → Nat → Int) (k : Nat) (hk : k < 6) (x2 : Int) (x3 : Int) (x4 : Int) (x5 : Int) (s0 : Int) : Run sc 47 28 [some (Rf (8 + 6 * k)), some (Rf 49), some (I x2), some (I x3), some (I x4), some (I x5)] [(I s0)] (hp iv) = if s0 = 0 then Run sc 47 110 [some (Rf (8 + 6 * k)), some (Rf 49), some (I x2), some (I x3), some (I x4), some (I x5)] [] (hp iv) else bck 0 (((288 : Nat) : Int) - 1) x5 (bck 0 (((288 : Nat) : Int) - 1) x5 (aBind (Run sc 71 0 [some (Rf 49), some (I (iv (9 + 6 * k) (Int.toNat x5))), some (I (iv (10 + 6 * k) (Int.toNat x5)))] [] (hp iv)) (fun v h2 => Run sc 47 49 [some (Rf (8 + 6 * k)), some (Rf 49), some (I x2), some (I x3), some (I x4), some (I x5)] (pushR v []) h2))) :=
  (R_if_eq mc_47 dX2_startsOnPage_28 (t := 110) rfl).trans <| ite_c2
  (rfl)
  ((R_aload_n mc_47 dX2_startsOnPage_31 rfl).trans <|
  (R_aload_n mc_47 dX2_startsOnPage_32 rfl).trans <|
  (R_getR mc_47 dX2_startsOnPage_33 mo_47 ft_2_23 (kCR hk) rfl (rCR4 hk) (by omega)).trans <|
  (R_iload mc_47 dX2_startsOnPage_36 rfl).trans <|
  (R_iaload mc_47 dX2_startsOnPage_38 (kCA0 hk)).trans <| bck_congr <|
  (R_aload_n mc_47 dX2_startsOnPage_39 rfl).trans <|
  (R_getR mc_47 dX2_startsOnPage_40 mo_47 ft_2_27 (kCR hk) rfl (rCR5 hk) (by omega)).trans <|
  (R_iload mc_47 dX2_startsOnPage_43 rfl).trans <|
  (R_iaload mc_47 dX2_startsOnPage_45 (kCA1 hk)).trans <| bck_congr <|
  R_invV mc_47 dX2_startsOnPage_46 mo_47 ct_2_108 af_47_71 rfl rfl rfl ⟨Nat.le_of_ble_eq_true rfl, Nat.le_of_ble_eq_true rfl⟩)
theorem B_X2_startsOnPage_49 (sc : Nat × (Nat → Int)) (iv : Nat → Nat → Int) (k : Nat) (hk : k < 6) (x2 : Int) (x3 : Int) (x4 : Int) (x5 : Int) (s0 : Int) : Run sc 47 49 [some (Rf (8 + 6 * k)), some (Rf 49), some (I x2), some (I x3), some (I x4), some (I x5)] [(I s0)] (hp iv) = if s0 = x2 then if x4 = 0 then Run sc 47 83 [some (Rf (8 + 6 * k)), some (Rf 49), some (I x2), some (I x3), some (I x4), some (I x5)] [(I (iv 6 1)), (I x3)] (hp iv) else Run sc 47 69 [some (Rf (8 + 6 * k)), some (Rf 49), some (I x2), some (I x3), some (I x4), some (I x5)] [(I x3)] (hp iv) else Run sc 47 110 [some (Rf (8 + 6 * k)), some (Rf 49), some (I x2), some (I x3), some (I x4), some (I x5)] [] (hp iv) :=
  (R_iload_n mc_47 dX2_startsOnPage_49 rfl).trans <|
  (R_icmp_ne mc_47 dX2_startsOnPage_50 (t := 110) rfl).trans <| ite_c2
  ((R_iload_n mc_47 dX2_startsOnPage_53 rfl).trans <|
  (R_iload mc_47 dX2_startsOnPage_54 rfl).trans <|
  (R_if_ne mc_47 dX2_startsOnPage_56 (t := 69) rfl).trans <| ite_c2
  ((R_aload_n mc_47 dX2_startsOnPage_59 rfl).trans <|
  (R_getR mc_47 dX2_startsOnPage_60 mo_47 ft_2_15 (kCR hk) rfl (rCR1 hk) (by omega)).trans <|
  (R_getI mc_47 dX2_startsOnPage_63 mo_47 ft_2_79 rfl rfl).trans <|
  R_goto mc_47 dX2_startsOnPage_66 (t := 83) rfl)
  (rfl))
  (rfl)
theorem B_X2_startsOnPage_69 (sc : Nat × (Nat → Int)) (iv : Nat → Nat → Int) (k : Nat) (hk : k < 6) (x2 : Int) (x3 : Int) (x4 : Int) (x5 : Int) (s0 : Int) : Run sc 47 69 [some (Rf (8 + 6 * k)), some (Rf 49), some (I x2), some (I x3), some (I x4), some (I x5)] [(I s0)] (hp iv) = chk (x4 - 1) (aBind (Run sc 36 0 [some (Rf (8 + 6 * k)), some (I (x4 - 1))] [] (hp iv)) (fun v h2 => Run sc 47 78 [some (Rf (8 + 6 * k)), some (Rf 49), some (I x2), some (I x3), some (I x4), some (I x5)] (pushR v [(Rf (8 + 6 * k)), (I s0)]) h2)) :=
  (R_aload_n mc_47 dX2_startsOnPage_69 rfl).trans <|
  (R_aload_n mc_47 dX2_startsOnPage_70 rfl).trans <|
  (R_iload mc_47 dX2_startsOnPage_71 rfl).trans <|
  (R_iconst mc_47 dX2_startsOnPage_73 ⟨by decide, by decide⟩).trans <|
  (R_isub mc_47 dX2_startsOnPage_74).trans <| chk_congr <|
  R_invV mc_47 dX2_startsOnPage_75 mo_47 ct_2_86 af_47_36 rfl (kCR hk) rfl ⟨Nat.le_of_ble_eq_true rfl, Nat.le_of_ble_eq_true rfl⟩
theorem B_X2_startsOnPage_78 (sc : Nat × (Nat → Int)) (iv : Nat → Nat → Int) (k : Nat) (hk : k < 6) (x2 : Int) (x3 : Int) (x4 : Int) (x5 : Int) (s0 : Int) (s2 : Int) : Run sc 47 78 [some (Rf (8 + 6 * k)), some (Rf 49), some (I x2), some (I x3), some (I x4), some (I x5)] [(I s0), (Rf (8 + 6 * k)), (I s2)] (hp iv) = aBind (Run sc 37 0 [some (Rf (8 + 6 * k)), some (I s0), some (I x5)] [] (hp iv)) (fun v h2 => Run sc 47 83 [some (Rf (8 + 6 * k)), some (Rf 49), some (I x2), some (I x3), some (I x4), some (I x5)] (pushR v [(I s2)]) h2) :=
  (R_iload mc_47 dX2_startsOnPage_78 rfl).trans <|
  R_invV mc_47 dX2_startsOnPage_80 mo_47 ct_2_89 af_47_37 rfl (kCR hk) rfl ⟨Nat.le_of_ble_eq_true rfl, Nat.le_of_ble_eq_true rfl⟩
theorem B_X2_startsOnPage_83 (sc : Nat × (Nat → Int)) (iv : Nat → Nat → Int) (k : Nat) (hk : k < 6) (x2 : Int) (x3 : Int) (x4 : Int) (x5 : Int) (s0 : Int) (s1 : Int) : Run sc 47 83 [some (Rf (8 + 6 * k)), some (Rf 49), some (I x2), some (I x3), some (I x4), some (I x5)] [(I s0), (I s1)] (hp iv) = chk (s1 + s0) (chk ((iv (8 + 6 * k) 3) - 1) (if x4 = ((iv (8 + 6 * k) 3) - 1) then Run sc 47 108 [some (Rf (8 + 6 * k)), some (Rf 49), some (I x2), some (I (s1 + s0)), some (I x4), some (I x5)] [(I (iv 6 1)), (I (s1 + s0))] (hp iv) else Run sc 47 107 [some (Rf (8 + 6 * k)), some (Rf 49), some (I x2), some (I (s1 + s0)), some (I x4), some (I x5)] [(I (s1 + s0))] (hp iv))) :=
  (R_iadd mc_47 dX2_startsOnPage_83).trans <| chk_congr <|
  (R_istore_n mc_47 dX2_startsOnPage_84 (Nat.le_of_ble_eq_true rfl)).trans <|
  (R_iload_n mc_47 dX2_startsOnPage_85 rfl).trans <|
  (R_iload mc_47 dX2_startsOnPage_86 rfl).trans <|
  (R_aload_n mc_47 dX2_startsOnPage_88 rfl).trans <|
  (R_getI mc_47 dX2_startsOnPage_89 mo_47 ft_2_39 (kCR hk) rfl).trans <|
  (R_iconst mc_47 dX2_startsOnPage_92 ⟨by decide, by decide⟩).trans <|
  (R_isub mc_47 dX2_startsOnPage_93).trans <| chk_congr <|
  (R_icmp_ne mc_47 dX2_startsOnPage_94 (t := 107) rfl).trans <| ite_c2
  ((R_aload_n mc_47 dX2_startsOnPage_97 rfl).trans <|
  (R_getR mc_47 dX2_startsOnPage_98 mo_47 ft_2_15 (kCR hk) rfl (rCR1 hk) (by omega)).trans <|
  (R_getI mc_47 dX2_startsOnPage_101 mo_47 ft_2_79 rfl rfl).trans <|
  R_goto mc_47 dX2_startsOnPage_104 (t := 108) rfl)
  (rfl)
theorem B_X2_startsOnPage_107 (sc : Nat × (Nat → Int)) (iv : Nat → Nat → Int) (k : Nat) (hk : k < 6) (x2 : Int) (x3 : Int) (x4 : Int) (x5 : Int) (s0 : Int) : Run sc 47 107 [some (Rf (8 + 6 * k)), some (Rf 49), some (I x2), some (I x3), some (I x4), some (I x5)] [(I s0)] (hp iv) = Run sc 47 108 [some (Rf (8 + 6 * k)), some (Rf 49), some (I x2), some (I x3), some (I x4), some (I x5)] [(I 0), (I s0)] (hp iv) :=
  R_iconst mc_47 dX2_startsOnPage_107 ⟨by decide, by decide⟩
theorem B_X2_startsOnPage_108 (sc : Nat × (Nat → Int)) (iv : Nat → Nat → Int) (k : Nat) (hk : k < 6) (x2 : Int) (x3 : Int) (x4 : Int) (x5 : Int) (s0 : Int) (s1 : Int) : Run sc 47 108 [some (Rf (8 + 6 * k)), some (Rf 49), some (I x2), some (I x3), some (I x4), some (I x5)] [(I s0), (I s1)] (hp iv) = chk (s1 + s0) (Run sc 47 110 [some (Rf (8 + 6 * k)), some (Rf 49), some (I x2), some (I (s1 + s0)), some (I x4), some (I x5)] [] (hp iv)) :=
  (R_iadd mc_47 dX2_startsOnPage_108).trans <| chk_congr <|
  R_istore_n mc_47 dX2_startsOnPage_109 (Nat.le_of_ble_eq_true rfl)
theorem B_X2_startsOnPage_110 (sc : Nat × (Nat → Int)) (iv : Nat → Nat → Int) (k : Nat) (hk : k < 6) (x2 : Int) (x3 : Int) (x4 : Int) (x5 : Int) : Run sc 47 110 [some (Rf (8 + 6 * k)), some (Rf 49), some (I x2), some (I x3), some (I x4), some (I x5)] [] (hp iv) = chk (x4 + 1) (Run sc 47 5 [some (Rf (8 + 6 * k)), some (Rf 49), some (I x2), some (I x3), some (I (x4 + 1)), some (I x5)] [] (hp iv)) :=
  (R_iinc mc_47 dX2_startsOnPage_110 rfl).trans <| chk_congr <|
  R_goto mc_47 dX2_startsOnPage_113 (t := 5) rfl
theorem B_X2_startsOnPage_116 (sc : Nat × (Nat → Int)) (iv : Nat → Nat → Int) (k : Nat) (hk : k < 6) (x2 : Int) (x3 : Int) (x4 : Int) (d5 : Option AV) : Run sc 47 116 [some (Rf (8 + 6 * k)), some (Rf 49), some (I x2), some (I x3), some (I x4), d5] [] (hp iv) = some (some (I x3), (hp iv)) :=
  (R_iload_n mc_47 dX2_startsOnPage_116 rfl).trans <|
  R_ireturn mc_47 dX2_startsOnPage_117 rfl
