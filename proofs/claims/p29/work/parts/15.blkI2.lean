theorem B_L_merges_0 (sc : Nat × (Nat → Int)) (iv : Nat → Nat → Int) (cs : List (Nat × Nat)) (x1 : Int) (x2 : Int) : Run sc 115 0 [some (Rf 1), some (I x1), some (I x2), none, none, none, none, none, none, none, none, none, none] [] (hq cs iv) = Run sc 115 4 [some (Rf 1), some (I x1), some (I x2), none, none, none, none, none, none, none, none, none, none] [(Rf (52 + cs.length))] (hq (cs ++ [(8, 64)]) iv) :=
  (R_bipush mc_115 dL_merges_0 ⟨by decide, by decide⟩).trans <|
  R_newX mc_115 dL_merges_2 ⟨by decide, by decide⟩ (m := 64) rfl
theorem B_L_merges_4 (sc : Nat × (Nat → Int)) (iv : Nat → Nat → Int) (cs : List (Nat × Nat)) (a0 : Nat) (x1 : Int) (x2 : Int) (d3 : Option AV) (d4 : Option AV) (d5 : Option AV) (d6 : Option AV) (d7 : Option AV) (d8 : Option AV) (d9 : Option AV) (d10 : Option AV) (d11 : Option AV) (d12 : Option AV) : Run sc 115 4 [some (Rf 1), some (I x1), some (I x2), d3, d4, d5, d6, d7, d8, d9, d10, d11, d12] [(Rf a0)] (hq cs iv) = Run sc 115 9 [some (Rf 1), some (I x1), some (I x2), some (Rf a0), d4, d5, d6, d7, d8, d9, d10, d11, d12] [(Rf (52 + cs.length))] (hq (cs ++ [(8, 64)]) iv) :=
  (R_astore_n mc_115 dL_merges_4 (Nat.le_of_ble_eq_true rfl)).trans <|
  (R_bipush mc_115 dL_merges_5 ⟨by decide, by decide⟩).trans <|
  R_newX mc_115 dL_merges_7 ⟨by decide, by decide⟩ (m := 64) rfl
theorem B_L_merges_9 (sc : Nat × (Nat → Int)) (iv : Nat → Nat → Int) (cs : List (Nat × Nat)) (a0 : Nat) (a1 : Nat) (x1 : Int) (x2 : Int) (d4 : Option AV) (d5 : Option AV) (d6 : Option AV) (d7 : Option AV) (d8 : Option AV) (d9 : Option AV) (d10 : Option AV) (d11 : Option AV) (d12 : Option AV) : Run sc 115 9 [some (Rf 1), some (I x1), some (I x2), some (Rf a0), d4, d5, d6, d7, d8, d9, d10, d11, d12] [(Rf a1)] (hq cs iv) = chk (x1 * x2) (if 64 < (x1 * x2) then aBind (Run sc 86 0 [some (Rf 1), some (I 0), none, none, none] [] (hq cs iv)) (fun v h2 => Run sc 115 27 [some (Rf 1), some (I x1), some (I x2), some (Rf a0), some (Rf a1), some (I 0), d6, d7, d8, d9, d10, d11, d12] (pushR v []) h2) else Run sc 115 49 [some (Rf 1), some (I x1), some (I x2), some (Rf a0), some (Rf a1), some (I 0), d6, d7, d8, d9, d10, d11, d12] [] (hq cs iv)) :=
  (R_astore mc_115 dL_merges_9 (Nat.le_of_ble_eq_true rfl)).trans <|
  (R_iconst mc_115 dL_merges_11 ⟨by decide, by decide⟩).trans <|
  (R_istore mc_115 dL_merges_12 (Nat.le_of_ble_eq_true rfl)).trans <|
  (R_iload_n mc_115 dL_merges_14 rfl).trans <|
  (R_iload_n mc_115 dL_merges_15 rfl).trans <|
  (R_imul mc_115 dL_merges_16).trans <| chk_congr <|
  (R_bipush mc_115 dL_merges_17 ⟨by decide, by decide⟩).trans <|
  (R_icmp_le mc_115 dL_merges_19 (t := 49) rfl).trans <| ite_c2
  ((R_aload_n mc_115 dL_merges_22 rfl).trans <|
  (R_iconst mc_115 dL_merges_23 ⟨by decide, by decide⟩).trans <|
  R_invV mc_115 dL_merges_24 mo_115 ct_7_38 af_115_86 rfl rfl rfl ⟨Nat.le_of_ble_eq_true rfl, Nat.le_of_ble_eq_true rfl⟩)
  (rfl)
theorem B_L_merges_27 (sc : Nat × (Nat → Int)) (iv : Nat → Nat → Int) (cs : List (Nat × Nat)) (a0 : Nat) (a1 : Nat) (x1 : Int) (x2 : Int) (x5 : Int) (d6 : Option AV) (d7 : Option AV) (d8 : Option AV) (d9 : Option AV) (d10 : Option AV) (d11 : Option AV) (d12 : Option AV) (s0 : Int) : Run sc 115 27 [some (Rf 1), some (I x1), some (I x2), some (Rf a0), some (Rf a1), some (I x5), d6, d7, d8, d9, d10, d11, d12] [(I s0)] (hq cs iv) = if s0 = (-2) then aBind (Run sc 86 0 [some (Rf 1), some (I 21), none, none, none] [] (hq cs iv)) (fun v h2 => Run sc 115 38 [some (Rf 1), some (I x1), some (I x2), some (Rf a0), some (Rf a1), some (I x5), d6, d7, d8, d9, d10, d11, d12] (pushR v []) h2) else Run sc 115 47 [some (Rf 1), some (I x1), some (I x2), some (Rf a0), some (Rf a1), some (I x5), d6, d7, d8, d9, d10, d11, d12] [] (hq cs iv) :=
  (R_bipush mc_115 dL_merges_27 ⟨by decide, by decide⟩).trans <|
  (R_icmp_ne mc_115 dL_merges_29 (t := 47) rfl).trans <| ite_c2
  ((R_aload_n mc_115 dL_merges_32 rfl).trans <|
  (R_bipush mc_115 dL_merges_33 ⟨by decide, by decide⟩).trans <|
  R_invV mc_115 dL_merges_35 mo_115 ct_7_38 af_115_86 rfl rfl rfl ⟨Nat.le_of_ble_eq_true rfl, Nat.le_of_ble_eq_true rfl⟩)
  (rfl)
theorem B_L_merges_38 (sc : Nat × (Nat → Int)) (iv : Nat → Nat → Int) (cs : List (Nat × Nat)) (a0 : Nat) (a1 : Nat) (x1 : Int) (x2 : Int) (x5 : Int) (d6 : Option AV) (d7 : Option AV) (d8 : Option AV) (d9 : Option AV) (d10 : Option AV) (d11 : Option AV) (d12 : Option AV) (s0 : Int) : Run sc 115 38 [some (Rf 1), some (I x1), some (I x2), some (Rf a0), some (Rf a1), some (I x5), d6, d7, d8, d9, d10, d11, d12] [(I s0)] (hq cs iv) = if s0 = (-2) then Run sc 115 48 [some (Rf 1), some (I x1), some (I x2), some (Rf a0), some (Rf a1), some (I x5), d6, d7, d8, d9, d10, d11, d12] [(I 1)] (hq cs iv) else Run sc 115 47 [some (Rf 1), some (I x1), some (I x2), some (Rf a0), some (Rf a1), some (I x5), d6, d7, d8, d9, d10, d11, d12] [] (hq cs iv) :=
  (R_bipush mc_115 dL_merges_38 ⟨by decide, by decide⟩).trans <|
  (R_icmp_ne mc_115 dL_merges_40 (t := 47) rfl).trans <| ite_c2
  ((R_iconst mc_115 dL_merges_43 ⟨by decide, by decide⟩).trans <|
  R_goto mc_115 dL_merges_44 (t := 48) rfl)
  (rfl)
theorem B_L_merges_47 (sc : Nat × (Nat → Int)) (iv : Nat → Nat → Int) (cs : List (Nat × Nat)) (a0 : Nat) (a1 : Nat) (x1 : Int) (x2 : Int) (x5 : Int) (d6 : Option AV) (d7 : Option AV) (d8 : Option AV) (d9 : Option AV) (d10 : Option AV) (d11 : Option AV) (d12 : Option AV) : Run sc 115 47 [some (Rf 1), some (I x1), some (I x2), some (Rf a0), some (Rf a1), some (I x5), d6, d7, d8, d9, d10, d11, d12] [] (hq cs iv) = Run sc 115 48 [some (Rf 1), some (I x1), some (I x2), some (Rf a0), some (Rf a1), some (I x5), d6, d7, d8, d9, d10, d11, d12] [(I 0)] (hq cs iv) :=
  R_iconst mc_115 dL_merges_47 ⟨by decide, by decide⟩
theorem B_L_merges_48 (sc : Nat × (Nat → Int)) (iv : Nat → Nat → Int) (cs : List (Nat × Nat)) (a0 : Nat) (a1 : Nat) (x1 : Int) (x2 : Int) (x5 : Int) (d6 : Option AV) (d7 : Option AV) (d8 : Option AV) (d9 : Option AV) (d10 : Option AV) (d11 : Option AV) (d12 : Option AV) (s0 : Int) : Run sc 115 48 [some (Rf 1), some (I x1), some (I x2), some (Rf a0), some (Rf a1), some (I x5), d6, d7, d8, d9, d10, d11, d12] [(I s0)] (hq cs iv) = bck 0 1 s0 (some (some (I s0), (hq cs iv))) :=
  R_ireturnZ mc_115 dL_merges_48 rfl
theorem B_L_merges_49 (sc : Nat × (Nat → Int)) (iv : Nat → Nat → Int) (cs : List (Nat × Nat)) (a0 : Nat) (a1 : Nat) (x1 : Int) (x2 : Int) (x5 : Int) (d6 : Option AV) (d7 : Option AV) (d8 : Option AV) (d9 : Option AV) (d10 : Option AV) (d11 : Option AV) (d12 : Option AV) : Run sc 115 49 [some (Rf 1), some (I x1), some (I x2), some (Rf a0), some (Rf a1), some (I x5), d6, d7, d8, d9, d10, d11, d12] [] (hq cs iv) = Run sc 115 52 [some (Rf 1), some (I x1), some (I x2), some (Rf a0), some (Rf a1), some (I x5), some (I 0), d7, d8, d9, d10, d11, d12] [] (hq cs iv) :=
  (R_iconst mc_115 dL_merges_49 ⟨by decide, by decide⟩).trans <|
  R_istore mc_115 dL_merges_50 (Nat.le_of_ble_eq_true rfl)
theorem B_L_merges_52 (sc : Nat × (Nat → Int)) (iv : Nat → Nat → Int) (cs : List (Nat × Nat)) (a0 : Nat) (a1 : Nat) (x1 : Int) (x2 : Int) (x5 : Int) (x6 : Int) (d7 : Option AV) (d8 : Option AV) (d9 : Option AV) (d10 : Option AV) (d11 : Option AV) (d12 : Option AV) : Run sc 115 52 [some (Rf 1), some (I x1), some (I x2), some (Rf a0), some (Rf a1), some (I x5), some (I x6), d7, d8, d9, d10, d11, d12] [] (hq cs iv) = chk (x1 * x2) (if x6 < (x1 * x2) then bck 1 2147483647 x1 (bck 0 2147483647 x6 (bck 1 2147483647 x1 (bck 0 2147483647 x6 (aBind (Run sc 83 0 [some (Rf 1), some (I (x6 % x1)), some (I (x6 / x1))] [] (hq cs iv)) (fun v h2 => Run sc 115 83 [some (Rf 1), some (I x1), some (I x2), some (Rf a0), some (Rf a1), some (I x5), some (I x6), some (I (x6 % x1)), some (I (x6 / x1)), d9, d10, d11, d12] (pushR v [(I x6), (Rf a0)]) h2))))) else Run sc 115 252 [some (Rf 1), some (I x1), some (I x2), some (Rf a0), some (Rf a1), some (I x5), some (I x6), d7, d8, d9, d10, d11, d12] [] (hq cs iv)) :=
  (R_iload mc_115 dL_merges_52 rfl).trans <|
  (R_iload_n mc_115 dL_merges_54 rfl).trans <|
  (R_iload_n mc_115 dL_merges_55 rfl).trans <|
  (R_imul mc_115 dL_merges_56).trans <| chk_congr <|
  (R_icmp_ge mc_115 dL_merges_57 (t := 252) rfl).trans <| ite_c2
  ((R_iload mc_115 dL_merges_60 rfl).trans <|
  (R_iload_n mc_115 dL_merges_62 rfl).trans <|
  (R_irem mc_115 dL_merges_63).trans <| bck_congr <| bck_congr <|
  (R_istore mc_115 dL_merges_64 (Nat.le_of_ble_eq_true rfl)).trans <|
  (R_iload mc_115 dL_merges_66 rfl).trans <|
  (R_iload_n mc_115 dL_merges_68 rfl).trans <|
  (R_idiv mc_115 dL_merges_69).trans <| bck_congr <| bck_congr <|
  (R_istore mc_115 dL_merges_70 (Nat.le_of_ble_eq_true rfl)).trans <|
  (R_aload_n mc_115 dL_merges_72 rfl).trans <|
  (R_iload mc_115 dL_merges_73 rfl).trans <|
  (R_aload_n mc_115 dL_merges_75 rfl).trans <|
  (R_iload mc_115 dL_merges_76 rfl).trans <|
  (R_iload mc_115 dL_merges_78 rfl).trans <|
  R_invV mc_115 dL_merges_80 mo_115 ct_7_15 af_115_83 rfl rfl rfl ⟨Nat.le_of_ble_eq_true rfl, Nat.le_of_ble_eq_true rfl⟩)
  (rfl)
theorem B_L_merges_83 (sc : Nat × (Nat → Int)) (iv : Nat → Nat → Int) (cs : List (Nat × Nat)) (a0 : Nat) (a1 : Nat) (x1 : Int) (x2 : Int) (x5 : Int) (x6 : Int) (x7 : Int) (x8 : Int) (d9 : Option AV) (d10 : Option AV) (d11 : Option AV) (d12 : Option AV) (s0 : Int) (s1 : Int) (ha0 : kOf (hq cs iv).1 a0 = some (8, 64)) : Run sc 115 83 [some (Rf 1), some (I x1), some (I x2), some (Rf a0), some (Rf a1), some (I x5), some (I x6), some (I x7), some (I x8), d9, d10, d11, d12] [(I s0), (I s1), (Rf a0)] (hq cs iv) = bck 0 (((64 : Nat) : Int) - 1) s1 (bck (-2147483648) 2147483647 s0 (Run sc 115 84 [some (Rf 1), some (I x1), some (I x2), some (Rf a0), some (Rf a1), some (I x5), some (I x6), some (I x7), some (I x8), d9, d10, d11, d12] [] (hq cs (setO iv a0 (upI (iv a0) (Int.toNat s1) s0))))) :=
  (R_iastore mc_115 dL_merges_83 ha0).trans <| bck_congr <| bck_congr <|
  rfl
theorem B_L_merges_84 (sc : Nat × (Nat → Int)) (iv : Nat → Nat → Int) (cs : List (Nat × Nat)) (a0 : Nat) (a1 : Nat) (x1 : Int) (x2 : Int) (x5 : Int) (x6 : Int) (x7 : Int) (x8 : Int) (d9 : Option AV) (d10 : Option AV) (d11 : Option AV) (d12 : Option AV) (ha0 : kOf (hq cs iv).1 a0 = some (8, 64)) (ha1 : kOf (hq cs iv).1 a1 = some (8, 64)) : Run sc 115 84 [some (Rf 1), some (I x1), some (I x2), some (Rf a0), some (Rf a1), some (I x5), some (I x6), some (I x7), some (I x8), d9, d10, d11, d12] [] (hq cs iv) = bck 0 (((64 : Nat) : Int) - 1) x6 (bck 0 (((64 : Nat) : Int) - 1) x6 (bck (-2147483648) 2147483647 (iv a0 (Int.toNat x6)) (Run sc 115 93 [some (Rf 1), some (I x1), some (I x2), some (Rf a0), some (Rf a1), some (I x5), some (I x6), some (I x7), some (I x8), d9, d10, d11, d12] [] (hq cs (setO iv a1 (upI (iv a1) (Int.toNat x6) (iv a0 (Int.toNat x6)))))))) :=
  (R_aload mc_115 dL_merges_84 rfl).trans <|
  (R_iload mc_115 dL_merges_86 rfl).trans <|
  (R_aload_n mc_115 dL_merges_88 rfl).trans <|
  (R_iload mc_115 dL_merges_89 rfl).trans <|
  (R_iaload mc_115 dL_merges_91 ha0).trans <| bck_congr <|
  (R_iastore mc_115 dL_merges_92 ha1).trans <| bck_congr <| bck_congr <|
  rfl
theorem B_L_merges_93 (sc : Nat × (Nat → Int)) (iv : Nat → Nat → Int) (cs : List (Nat × Nat)) (a0 : Nat) (a1 : Nat) (x1 : Int) (x2 : Int) (x5 : Int) (x6 : Int) (x7 : Int) (x8 : Int) (d9 : Option AV) (d10 : Option AV) (d11 : Option AV) (d12 : Option AV) : Run sc 115 93 [some (Rf 1), some (I x1), some (I x2), some (Rf a0), some (Rf a1), some (I x5), some (I x6), some (I x7), some (I x8), d9, d10, d11, d12] [] (hq cs iv) = Run sc 115 99 [some (Rf 1), some (I x1), some (I x2), some (Rf a0), some (Rf a1), some (I x5), some (I x6), some (I x7), some (I x8), some (I 0), some (I 1), d11, d12] [] (hq cs iv) :=
  (R_iconst mc_115 dL_merges_93 ⟨by decide, by decide⟩).trans <|
  (R_istore mc_115 dL_merges_94 (Nat.le_of_ble_eq_true rfl)).trans <|
  (R_iconst mc_115 dL_merges_96 ⟨by decide, by decide⟩).trans <|
  R_istore mc_115 dL_merges_97 (Nat.le_of_ble_eq_true rfl)
theorem B_L_merges_99 (sc : Nat × (Nat → Int)) (iv : Nat → Nat → Int) (cs : List (Nat × Nat)) (a0 : Nat) (a1 : Nat) (x1 : Int) (x2 : Int) (x5 : Int) (x6 : Int) (x7 : Int) (x8 : Int) (x9 : Int) (x10 : Int) (d11 : Option AV) (d12 : Option AV) : Run sc 115 99 [some (Rf 1), some (I x1), some (I x2), some (Rf a0), some (Rf a1), some (I x5), some (I x6), some (I x7), some (I x8), some (I x9), some (I x10), d11, d12] [] (hq cs iv) = if x10 < 7 then aBind (Run sc 113 0 [some (Rf 1), some (I x7), some (I x8), none, none] [] (hq cs iv)) (fun v h2 => Run sc 115 114 [some (Rf 1), some (I x1), some (I x2), some (Rf a0), some (Rf a1), some (I x5), some (I x6), some (I x7), some (I x8), some (I x9), some (I x10), d11, d12] (pushR v []) h2) else Run sc 115 224 [some (Rf 1), some (I x1), some (I x2), some (Rf a0), some (Rf a1), some (I x5), some (I x6), some (I x7), some (I x8), some (I x9), some (I x10), d11, d12] [] (hq cs iv) :=
  (R_iload mc_115 dL_merges_99 rfl).trans <|
  (R_bipush mc_115 dL_merges_101 ⟨by decide, by decide⟩).trans <|
  (R_icmp_ge mc_115 dL_merges_103 (t := 224) rfl).trans <| ite_c2
  ((R_aload_n mc_115 dL_merges_106 rfl).trans <|
  (R_iload mc_115 dL_merges_107 rfl).trans <|
  (R_iload mc_115 dL_merges_109 rfl).trans <|
  R_invS mc_115 dL_merges_111 mo_115 ct_7_31 (Or.inl rfl) af_115_113 (Nat.le_of_ble_eq_true rfl) rfl rfl ⟨Nat.le_of_ble_eq_true rfl, Nat.le_of_ble_eq_true rfl⟩)
  (rfl)
theorem B_L_merges_114 (sc : Nat × (Nat → Int)) (iv : Nat → Nat → Int) (cs : List (Nat × Nat)) (a0 : Nat) (a1 : Nat) (x1 : Int) (x2 : Int) (x5 : Int) (x6 : Int) (x7 : Int) (x8 : Int) (x9 : Int) (x10 : Int) (d11 : Option AV) (d12 : Option AV) (s0 : Int) : Run sc 115 114 [some (Rf 1), some (I x1), some (I x2), some (Rf a0), some (Rf a1), some (I x5), some (I x6), some (I x7), some (I x8), some (I x9), some (I x10), d11, d12] [(I s0)] (hq cs iv) = if s0 = 1 then Run sc 115 124 [some (Rf 1), some (I x1), some (I x2), some (Rf a0), some (Rf a1), some (I x5), some (I x6), some (I x7), some (I x8), some (I x9), some (I x10), some (I 0), some (I 0)] [] (hq cs iv) else Run sc 115 224 [some (Rf 1), some (I x1), some (I x2), some (Rf a0), some (Rf a1), some (I x5), some (I x6), some (I x7), some (I x8), some (I x9), some (I x10), d11, d12] [] (hq cs iv) :=
  (R_iconst mc_115 dL_merges_114 ⟨by decide, by decide⟩).trans <|
  (R_icmp_ne mc_115 dL_merges_115 (t := 224) rfl).trans <| ite_c2
  ((R_iconst mc_115 dL_merges_118 ⟨by decide, by decide⟩).trans <|
  (R_istore mc_115 dL_merges_119 (Nat.le_of_ble_eq_true rfl)).trans <|
  (R_iconst mc_115 dL_merges_121 ⟨by decide, by decide⟩).trans <|
  R_istore mc_115 dL_merges_122 (Nat.le_of_ble_eq_true rfl))
  (rfl)
theorem B_L_merges_124 (sc : Nat × (Nat → Int)) (iv : Nat → Nat → Int) (cs : List (Nat × Nat)) (a0 : Nat) (a1 : Nat) (x1 : Int) (x2 : Int) (x5 : Int) (x6 : Int) (x7 : Int) (x8 : Int) (x9 : Int) (x10 : Int) (x11 : Int) (x12 : Int) : Run sc 115 124 [some (Rf 1), some (I x1), some (I x2), some (Rf a0), some (Rf a1), some (I x5), some (I x6), some (I x7), some (I x8), some (I x9), some (I x10), some (I x11), some (I x12)] [] (hq cs iv) = if x12 < 9 then if x12 = 4 then Run sc 115 170 [some (Rf 1), some (I x1), some (I x2), some (Rf a0), some (Rf a1), some (I x5), some (I x6), some (I x7), some (I x8), some (I x9), some (I x10), some (I x11), some (I x12)] [(I x11)] (hq cs iv) else bck 1 2147483647 3 (bck 0 2147483647 x12 (chk (x7 + (x12 % 3)) (chk ((x7 + (x12 % 3)) - 1) (bck 1 2147483647 3 (bck 0 2147483647 x12 (chk (x8 + (x12 / 3)) (chk ((x8 + (x12 / 3)) - 1) (aBind (Run sc 83 0 [some (Rf 1), some (I ((x7 + (x12 % 3)) - 1)), some (I ((x8 + (x12 / 3)) - 1))] [] (hq cs iv)) (fun v h2 => Run sc 115 161 [some (Rf 1), some (I x1), some (I x2), some (Rf a0), some (Rf a1), some (I x5), some (I x6), some (I x7), some (I x8), some (I x9), some (I x10), some (I x11), some (I x12)] (pushR v [(I x11)]) h2))))))))) else Run sc 115 180 [some (Rf 1), some (I x1), some (I x2), some (Rf a0), some (Rf a1), some (I x5), some (I x6), some (I x7), some (I x8), some (I x9), some (I x10), some (I x11), some (I x12)] [] (hq cs iv) :=
  (R_iload mc_115 dL_merges_124 rfl).trans <|
  (R_bipush mc_115 dL_merges_126 ⟨by decide, by decide⟩).trans <|
  (R_icmp_ge mc_115 dL_merges_128 (t := 180) rfl).trans <| ite_c2
  ((R_iload mc_115 dL_merges_131 rfl).trans <|
  (R_iload mc_115 dL_merges_133 rfl).trans <|
  (R_iconst mc_115 dL_merges_135 ⟨by decide, by decide⟩).trans <|
  (R_icmp_eq mc_115 dL_merges_136 (t := 170) rfl).trans <| ite_c2
  (rfl)
  ((R_aload_n mc_115 dL_merges_139 rfl).trans <|
  (R_iload mc_115 dL_merges_140 rfl).trans <|
  (R_iload mc_115 dL_merges_142 rfl).trans <|
  (R_iconst mc_115 dL_merges_144 ⟨by decide, by decide⟩).trans <|
  (R_irem mc_115 dL_merges_145).trans <| bck_congr <| bck_congr <|
  (R_iadd mc_115 dL_merges_146).trans <| chk_congr <|
  (R_iconst mc_115 dL_merges_147 ⟨by decide, by decide⟩).trans <|
  (R_isub mc_115 dL_merges_148).trans <| chk_congr <|
  (R_iload mc_115 dL_merges_149 rfl).trans <|
  (R_iload mc_115 dL_merges_151 rfl).trans <|
  (R_iconst mc_115 dL_merges_153 ⟨by decide, by decide⟩).trans <|
  (R_idiv mc_115 dL_merges_154).trans <| bck_congr <| bck_congr <|
  (R_iadd mc_115 dL_merges_155).trans <| chk_congr <|
  (R_iconst mc_115 dL_merges_156 ⟨by decide, by decide⟩).trans <|
  (R_isub mc_115 dL_merges_157).trans <| chk_congr <|
  R_invV mc_115 dL_merges_158 mo_115 ct_7_15 af_115_83 rfl rfl rfl ⟨Nat.le_of_ble_eq_true rfl, Nat.le_of_ble_eq_true rfl⟩))
  (rfl)
theorem B_L_merges_161 (sc : Nat × (Nat → Int)) (iv : Nat → Nat → Int) (cs : List (Nat × Nat)) (a0 : Nat) (a1 : Nat) (x1 : Int) (x2 : Int) (x5 : Int) (x6 : Int) (x7 : Int) (x8 : Int) (x9 : Int) (x10 : Int) (x11 : Int) (x12 : Int) (s0 : Int) (s1 : Int) : Run sc 115 161 [some (Rf 1), some (I x1), some (I x2), some (Rf a0), some (Rf a1), some (I x5), some (I x6), some (I x7), some (I x8), some (I x9), some (I x10), some (I x11), some (I x12)] [(I s0), (I s1)] (hq cs iv) = if s0 = x10 then Run sc 115 171 [some (Rf 1), some (I x1), some (I x2), some (Rf a0), some (Rf a1), some (I x5), some (I x6), some (I x7), some (I x8), some (I x9), some (I x10), some (I x11), some (I x12)] [(I 1), (I s1)] (hq cs iv) else Run sc 115 170 [some (Rf 1), some (I x1), some (I x2), some (Rf a0), some (Rf a1), some (I x5), some (I x6), some (I x7), some (I x8), some (I x9), some (I x10), some (I x11), some (I x12)] [(I s1)] (hq cs iv) :=
  (R_iload mc_115 dL_merges_161 rfl).trans <|
  (R_icmp_ne mc_115 dL_merges_163 (t := 170) rfl).trans <| ite_c2
  ((R_iconst mc_115 dL_merges_166 ⟨by decide, by decide⟩).trans <|
  R_goto mc_115 dL_merges_167 (t := 171) rfl)
  (rfl)
theorem B_L_merges_170 (sc : Nat × (Nat → Int)) (iv : Nat → Nat → Int) (cs : List (Nat × Nat)) (a0 : Nat) (a1 : Nat) (x1 : Int) (x2 : Int) (x5 : Int) (x6 : Int) (x7 : Int) (x8 : Int) (x9 : Int) (x10 : Int) (x11 : Int) (x12 : Int) (s0 : Int) : Run sc 115 170 [some (Rf 1), some (I x1), some (I x2), some (Rf a0), some (Rf a1), some (I x5), some (I x6), some (I x7), some (I x8), some (I x9), some (I x10), some (I x11), some (I x12)] [(I s0)] (hq cs iv) = Run sc 115 171 [some (Rf 1), some (I x1), some (I x2), some (Rf a0), some (Rf a1), some (I x5), some (I x6), some (I x7), some (I x8), some (I x9), some (I x10), some (I x11), some (I x12)] [(I 0), (I s0)] (hq cs iv) :=
  R_iconst mc_115 dL_merges_170 ⟨by decide, by decide⟩
theorem B_L_merges_171 (sc : Nat × (Nat → Int)) (iv : Nat → Nat → Int) (cs : List (Nat × Nat)) (a0 : Nat) (a1 : Nat) (x1 : Int) (x2 : Int) (x5 : Int) (x6 : Int) (x7 : Int) (x8 : Int) (x9 : Int) (x10 : Int) (x11 : Int) (x12 : Int) (s0 : Int) (s1 : Int) : Run sc 115 171 [some (Rf 1), some (I x1), some (I x2), some (Rf a0), some (Rf a1), some (I x5), some (I x6), some (I x7), some (I x8), some (I x9), some (I x10), some (I x11), some (I x12)] [(I s0), (I s1)] (hq cs iv) = chk (s1 + s0) (chk (x12 + 1) (Run sc 115 124 [some (Rf 1), some (I x1), some (I x2), some (Rf a0), some (Rf a1), some (I x5), some (I x6), some (I x7), some (I x8), some (I x9), some (I x10), some (I (s1 + s0)), some (I (x12 + 1))] [] (hq cs iv))) :=
  (R_iadd mc_115 dL_merges_171).trans <| chk_congr <|
  (R_istore mc_115 dL_merges_172 (Nat.le_of_ble_eq_true rfl)).trans <|
  (R_iinc mc_115 dL_merges_174 rfl).trans <| chk_congr <|
  R_goto mc_115 dL_merges_177 (t := 124) rfl
theorem B_L_merges_180 (sc : Nat × (Nat → Int)) (iv : Nat → Nat → Int) (cs : List (Nat × Nat)) (a0 : Nat) (a1 : Nat) (x1 : Int) (x2 : Int) (x5 : Int) (x6 : Int) (x7 : Int) (x8 : Int) (x9 : Int) (x10 : Int) (x11 : Int) (x12 : Int) : Run sc 115 180 [some (Rf 1), some (I x1), some (I x2), some (Rf a0), some (Rf a1), some (I x5), some (I x6), some (I x7), some (I x8), some (I x9), some (I x10), some (I x11), some (I x12)] [] (hq cs iv) = if x9 < x11 then Run sc 115 201 [some (Rf 1), some (I x1), some (I x2), some (Rf a0), some (Rf a1), some (I x5), some (I x6), some (I x7), some (I x8), some (I x9), some (I x10), some (I x11), some (I x12)] [(I x10), (I x6), (Rf a1)] (hq cs iv) else Run sc 115 196 [some (Rf 1), some (I x1), some (I x2), some (Rf a0), some (Rf a1), some (I x5), some (I x6), some (I x7), some (I x8), some (I x9), some (I x10), some (I x11), some (I x12)] [(I x6), (Rf a1)] (hq cs iv) :=
  (R_aload mc_115 dL_merges_180 rfl).trans <|
  (R_iload mc_115 dL_merges_182 rfl).trans <|
  (R_iload mc_115 dL_merges_184 rfl).trans <|
  (R_iload mc_115 dL_merges_186 rfl).trans <|
  (R_icmp_le mc_115 dL_merges_188 (t := 196) rfl).trans <| ite_c2
  ((R_iload mc_115 dL_merges_191 rfl).trans <|
  R_goto mc_115 dL_merges_193 (t := 201) rfl)
  (rfl)
theorem B_L_merges_196 (sc : Nat × (Nat → Int)) (iv : Nat → Nat → Int) (cs : List (Nat × Nat)) (a0 : Nat) (a1 : Nat) (x1 : Int) (x2 : Int) (x5 : Int) (x6 : Int) (x7 : Int) (x8 : Int) (x9 : Int) (x10 : Int) (x11 : Int) (x12 : Int) (s0 : Int) (ha1 : kOf (hq cs iv).1 a1 = some (8, 64)) : Run sc 115 196 [some (Rf 1), some (I x1), some (I x2), some (Rf a0), some (Rf a1), some (I x5), some (I x6), some (I x7), some (I x8), some (I x9), some (I x10), some (I x11), some (I x12)] [(I s0), (Rf a1)] (hq cs iv) = bck 0 (((64 : Nat) : Int) - 1) x6 (Run sc 115 201 [some (Rf 1), some (I x1), some (I x2), some (Rf a0), some (Rf a1), some (I x5), some (I x6), some (I x7), some (I x8), some (I x9), some (I x10), some (I x11), some (I x12)] [(I (iv a1 (Int.toNat x6))), (I s0), (Rf a1)] (hq cs iv)) :=
  (R_aload mc_115 dL_merges_196 rfl).trans <|
  (R_iload mc_115 dL_merges_198 rfl).trans <|
  (R_iaload mc_115 dL_merges_200 ha1).trans <| bck_congr <|
  rfl
theorem B_L_merges_201 (sc : Nat × (Nat → Int)) (iv : Nat → Nat → Int) (cs : List (Nat × Nat)) (a0 : Nat) (a1 : Nat) (x1 : Int) (x2 : Int) (x5 : Int) (x6 : Int) (x7 : Int) (x8 : Int) (x9 : Int) (x10 : Int) (x11 : Int) (x12 : Int) (s0 : Int) (s1 : Int) (ha1 : kOf (hq cs iv).1 a1 = some (8, 64)) : Run sc 115 201 [some (Rf 1), some (I x1), some (I x2), some (Rf a0), some (Rf a1), some (I x5), some (I x6), some (I x7), some (I x8), some (I x9), some (I x10), some (I x11), some (I x12)] [(I s0), (I s1), (Rf a1)] (hq cs iv) = bck 0 (((64 : Nat) : Int) - 1) s1 (bck (-2147483648) 2147483647 s0 (Run sc 115 202 [some (Rf 1), some (I x1), some (I x2), some (Rf a0), some (Rf a1), some (I x5), some (I x6), some (I x7), some (I x8), some (I x9), some (I x10), some (I x11), some (I x12)] [] (hq cs (setO iv a1 (upI (iv a1) (Int.toNat s1) s0))))) :=
  (R_iastore mc_115 dL_merges_201 ha1).trans <| bck_congr <| bck_congr <|
  rfl
theorem B_L_merges_202 (sc : Nat × (Nat → Int)) (iv : Nat → Nat → Int) (cs : List (Nat × Nat)) (a0 : Nat) (a1 : Nat) (x1 : Int) (x2 : Int) (x5 : Int) (x6 : Int) (x7 : Int) (x8 : Int) (x9 : Int) (x10 : Int) (x11 : Int) (x12 : Int) : Run sc 115 202 [some (Rf 1), some (I x1), some (I x2), some (Rf a0), some (Rf a1), some (I x5), some (I x6), some (I x7), some (I x8), some (I x9), some (I x10), some (I x11), some (I x12)] [] (hq cs iv) = if x9 < x11 then Run sc 115 216 [some (Rf 1), some (I x1), some (I x2), some (Rf a0), some (Rf a1), some (I x5), some (I x6), some (I x7), some (I x8), some (I x9), some (I x10), some (I x11), some (I x12)] [(I x11)] (hq cs iv) else Run sc 115 214 [some (Rf 1), some (I x1), some (I x2), some (Rf a0), some (Rf a1), some (I x5), some (I x6), some (I x7), some (I x8), some (I x9), some (I x10), some (I x11), some (I x12)] [] (hq cs iv) :=
  (R_iload mc_115 dL_merges_202 rfl).trans <|
  (R_iload mc_115 dL_merges_204 rfl).trans <|
  (R_icmp_le mc_115 dL_merges_206 (t := 214) rfl).trans <| ite_c2
  ((R_iload mc_115 dL_merges_209 rfl).trans <|
  R_goto mc_115 dL_merges_211 (t := 216) rfl)
  (rfl)
theorem B_L_merges_214 (sc : Nat × (Nat → Int)) (iv : Nat → Nat → Int) (cs : List (Nat × Nat)) (a0 : Nat) (a1 : Nat) (x1 : Int) (x2 : Int) (x5 : Int) (x6 : Int) (x7 : Int) (x8 : Int) (x9 : Int) (x10 : Int) (x11 : Int) (x12 : Int) : Run sc 115 214 [some (Rf 1), some (I x1), some (I x2), some (Rf a0), some (Rf a1), some (I x5), some (I x6), some (I x7), some (I x8), some (I x9), some (I x10), some (I x11), some (I x12)] [] (hq cs iv) = Run sc 115 216 [some (Rf 1), some (I x1), some (I x2), some (Rf a0), some (Rf a1), some (I x5), some (I x6), some (I x7), some (I x8), some (I x9), some (I x10), some (I x11), some (I x12)] [(I x9)] (hq cs iv) :=
  R_iload mc_115 dL_merges_214 rfl
theorem B_L_merges_216 (sc : Nat × (Nat → Int)) (iv : Nat → Nat → Int) (cs : List (Nat × Nat)) (a0 : Nat) (a1 : Nat) (x1 : Int) (x2 : Int) (x5 : Int) (x6 : Int) (x7 : Int) (x8 : Int) (x9 : Int) (x10 : Int) (x11 : Int) (x12 : Int) (s0 : Int) : Run sc 115 216 [some (Rf 1), some (I x1), some (I x2), some (Rf a0), some (Rf a1), some (I x5), some (I x6), some (I x7), some (I x8), some (I x9), some (I x10), some (I x11), some (I x12)] [(I s0)] (hq cs iv) = chk (x10 + 1) (Run sc 115 99 [some (Rf 1), some (I x1), some (I x2), some (Rf a0), some (Rf a1), some (I x5), some (I x6), some (I x7), some (I x8), some (I s0), some (I (x10 + 1)), some (I x11), some (I x12)] [] (hq cs iv)) :=
  (R_istore mc_115 dL_merges_216 (Nat.le_of_ble_eq_true rfl)).trans <|
  (R_iinc mc_115 dL_merges_218 rfl).trans <| chk_congr <|
  R_goto mc_115 dL_merges_221 (t := 99) rfl
theorem B_L_merges_224 (sc : Nat × (Nat → Int)) (iv : Nat → Nat → Int) (cs : List (Nat × Nat)) (a0 : Nat) (a1 : Nat) (x1 : Int) (x2 : Int) (x5 : Int) (x6 : Int) (x7 : Int) (x8 : Int) (x9 : Int) (x10 : Int) (d11 : Option AV) (d12 : Option AV) (ha0 : kOf (hq cs iv).1 a0 = some (8, 64)) (ha1 : kOf (hq cs iv).1 a1 = some (8, 64)) : Run sc 115 224 [some (Rf 1), some (I x1), some (I x2), some (Rf a0), some (Rf a1), some (I x5), some (I x6), some (I x7), some (I x8), some (I x9), some (I x10), d11, d12] [] (hq cs iv) = bck 0 (((64 : Nat) : Int) - 1) x6 (bck 0 (((64 : Nat) : Int) - 1) x6 (if (iv a1 (Int.toNat x6)) = (iv a0 (Int.toNat x6)) then Run sc 115 243 [some (Rf 1), some (I x1), some (I x2), some (Rf a0), some (Rf a1), some (I x5), some (I x6), some (I x7), some (I x8), some (I x9), some (I x10), d11, d12] [(I 0), (I x5)] (hq cs iv) else Run sc 115 242 [some (Rf 1), some (I x1), some (I x2), some (Rf a0), some (Rf a1), some (I x5), some (I x6), some (I x7), some (I x8), some (I x9), some (I x10), d11, d12] [(I x5)] (hq cs iv))) :=
  (R_iload mc_115 dL_merges_224 rfl).trans <|
  (R_aload mc_115 dL_merges_226 rfl).trans <|
  (R_iload mc_115 dL_merges_228 rfl).trans <|
  (R_iaload mc_115 dL_merges_230 ha1).trans <| bck_congr <|
  (R_aload_n mc_115 dL_merges_231 rfl).trans <|
  (R_iload mc_115 dL_merges_232 rfl).trans <|
  (R_iaload mc_115 dL_merges_234 ha0).trans <| bck_congr <|
  (R_icmp_ne mc_115 dL_merges_235 (t := 242) rfl).trans <| ite_c2
  ((R_iconst mc_115 dL_merges_238 ⟨by decide, by decide⟩).trans <|
  R_goto mc_115 dL_merges_239 (t := 243) rfl)
  (rfl)
theorem B_L_merges_242 (sc : Nat × (Nat → Int)) (iv : Nat → Nat → Int) (cs : List (Nat × Nat)) (a0 : Nat) (a1 : Nat) (x1 : Int) (x2 : Int) (x5 : Int) (x6 : Int) (x7 : Int) (x8 : Int) (x9 : Int) (x10 : Int) (d11 : Option AV) (d12 : Option AV) (s0 : Int) : Run sc 115 242 [some (Rf 1), some (I x1), some (I x2), some (Rf a0), some (Rf a1), some (I x5), some (I x6), some (I x7), some (I x8), some (I x9), some (I x10), d11, d12] [(I s0)] (hq cs iv) = Run sc 115 243 [some (Rf 1), some (I x1), some (I x2), some (Rf a0), some (Rf a1), some (I x5), some (I x6), some (I x7), some (I x8), some (I x9), some (I x10), d11, d12] [(I 1), (I s0)] (hq cs iv) :=
  R_iconst mc_115 dL_merges_242 ⟨by decide, by decide⟩
theorem B_L_merges_243 (sc : Nat × (Nat → Int)) (iv : Nat → Nat → Int) (cs : List (Nat × Nat)) (a0 : Nat) (a1 : Nat) (x1 : Int) (x2 : Int) (x5 : Int) (x6 : Int) (x7 : Int) (x8 : Int) (x9 : Int) (x10 : Int) (d11 : Option AV) (d12 : Option AV) (s0 : Int) (s1 : Int) : Run sc 115 243 [some (Rf 1), some (I x1), some (I x2), some (Rf a0), some (Rf a1), some (I x5), some (I x6), some (I x7), some (I x8), some (I x9), some (I x10), d11, d12] [(I s0), (I s1)] (hq cs iv) = chk (s1 + s0) (chk (x6 + 1) (Run sc 115 52 [some (Rf 1), some (I x1), some (I x2), some (Rf a0), some (Rf a1), some (I (s1 + s0)), some (I (x6 + 1)), some (I x7), some (I x8), some (I x9), some (I x10), d11, d12] [] (hq cs iv))) :=
  (R_iadd mc_115 dL_merges_243).trans <| chk_congr <|
  (R_istore mc_115 dL_merges_244 (Nat.le_of_ble_eq_true rfl)).trans <|
  (R_iinc mc_115 dL_merges_246 rfl).trans <| chk_congr <|
  R_goto mc_115 dL_merges_249 (t := 52) rfl
theorem B_L_merges_252 (sc : Nat × (Nat → Int)) (iv : Nat → Nat → Int) (cs : List (Nat × Nat)) (a0 : Nat) (a1 : Nat) (x1 : Int) (x2 : Int) (x5 : Int) (x6 : Int) (d7 : Option AV) (d8 : Option AV) (d9 : Option AV) (d10 : Option AV) (d11 : Option AV) (d12 : Option AV) : Run sc 115 252 [some (Rf 1), some (I x1), some (I x2), some (Rf a0), some (Rf a1), some (I x5), some (I x6), d7, d8, d9, d10, d11, d12] [] (hq cs iv) = aBind (Run sc 86 0 [some (Rf 1), some (I 1), none, none, none] [] (hq cs iv)) (fun v h2 => Run sc 115 257 [some (Rf 1), some (I x1), some (I x2), some (Rf a0), some (Rf a1), some (I x5), some (I x6), d7, d8, d9, d10, d11, d12] (pushR v []) h2) :=
  (R_aload_n mc_115 dL_merges_252 rfl).trans <|
  (R_iconst mc_115 dL_merges_253 ⟨by decide, by decide⟩).trans <|
  R_invV mc_115 dL_merges_254 mo_115 ct_7_38 af_115_86 rfl rfl rfl ⟨Nat.le_of_ble_eq_true rfl, Nat.le_of_ble_eq_true rfl⟩
theorem B_L_merges_257 (sc : Nat × (Nat → Int)) (iv : Nat → Nat → Int) (cs : List (Nat × Nat)) (a0 : Nat) (a1 : Nat) (x1 : Int) (x2 : Int) (x5 : Int) (x6 : Int) (d7 : Option AV) (d8 : Option AV) (d9 : Option AV) (d10 : Option AV) (d11 : Option AV) (d12 : Option AV) (s0 : Int) : Run sc 115 257 [some (Rf 1), some (I x1), some (I x2), some (Rf a0), some (Rf a1), some (I x5), some (I x6), d7, d8, d9, d10, d11, d12] [(I s0)] (hq cs iv) = if s0 = x5 then Run sc 115 264 [some (Rf 1), some (I x1), some (I x2), some (Rf a0), some (Rf a1), some (I x5), some (I x6), d7, d8, d9, d10, d11, d12] [] (hq cs iv) else bck 0 1 0 (some (some (I 0), (hq cs iv))) :=
  (R_iload mc_115 dL_merges_257 rfl).trans <|
  (R_icmp_eq mc_115 dL_merges_259 (t := 264) rfl).trans <| ite_c2
  (rfl)
  ((R_iconst mc_115 dL_merges_262 ⟨by decide, by decide⟩).trans <|
  R_ireturnZ mc_115 dL_merges_263 rfl)
theorem B_L_merges_264 (sc : Nat × (Nat → Int)) (iv : Nat → Nat → Int) (cs : List (Nat × Nat)) (a0 : Nat) (a1 : Nat) (x1 : Int) (x2 : Int) (x5 : Int) (x6 : Int) (d7 : Option AV) (d8 : Option AV) (d9 : Option AV) (d10 : Option AV) (d11 : Option AV) (d12 : Option AV) : Run sc 115 264 [some (Rf 1), some (I x1), some (I x2), some (Rf a0), some (Rf a1), some (I x5), some (I x6), d7, d8, d9, d10, d11, d12] [] (hq cs iv) = Run sc 115 267 [some (Rf 1), some (I x1), some (I x2), some (Rf a0), some (Rf a1), some (I x5), some (I 0), d7, d8, d9, d10, d11, d12] [] (hq cs iv) :=
  (R_iconst mc_115 dL_merges_264 ⟨by decide, by decide⟩).trans <|
  R_istore mc_115 dL_merges_265 (Nat.le_of_ble_eq_true rfl)
theorem B_L_merges_267 (sc : Nat × (Nat → Int)) (iv : Nat → Nat → Int) (cs : List (Nat × Nat)) (a0 : Nat) (a1 : Nat) (x1 : Int) (x2 : Int) (x5 : Int) (x6 : Int) (d7 : Option AV) (d8 : Option AV) (d9 : Option AV) (d10 : Option AV) (d11 : Option AV) (d12 : Option AV) : Run sc 115 267 [some (Rf 1), some (I x1), some (I x2), some (Rf a0), some (Rf a1), some (I x5), some (I x6), d7, d8, d9, d10, d11, d12] [] (hq cs iv) = chk (x1 * x2) (if x6 < (x1 * x2) then bck 1 2147483647 x1 (bck 0 2147483647 x6 (bck 1 2147483647 x1 (bck 0 2147483647 x6 (aBind (Run sc 83 0 [some (Rf 1), some (I (x6 % x1)), some (I (x6 / x1))] [] (hq cs iv)) (fun v h2 => Run sc 115 287 [some (Rf 1), some (I x1), some (I x2), some (Rf a0), some (Rf a1), some (I x5), some (I x6), d7, d8, d9, d10, d11, d12] (pushR v []) h2))))) else Run sc 115 303 [some (Rf 1), some (I x1), some (I x2), some (Rf a0), some (Rf a1), some (I x5), some (I x6), d7, d8, d9, d10, d11, d12] [] (hq cs iv)) :=
  (R_iload mc_115 dL_merges_267 rfl).trans <|
  (R_iload_n mc_115 dL_merges_269 rfl).trans <|
  (R_iload_n mc_115 dL_merges_270 rfl).trans <|
  (R_imul mc_115 dL_merges_271).trans <| chk_congr <|
  (R_icmp_ge mc_115 dL_merges_272 (t := 303) rfl).trans <| ite_c2
  ((R_aload_n mc_115 dL_merges_275 rfl).trans <|
  (R_iload mc_115 dL_merges_276 rfl).trans <|
  (R_iload_n mc_115 dL_merges_278 rfl).trans <|
  (R_irem mc_115 dL_merges_279).trans <| bck_congr <| bck_congr <|
  (R_iload mc_115 dL_merges_280 rfl).trans <|
  (R_iload_n mc_115 dL_merges_282 rfl).trans <|
  (R_idiv mc_115 dL_merges_283).trans <| bck_congr <| bck_congr <|
  R_invV mc_115 dL_merges_284 mo_115 ct_7_15 af_115_83 rfl rfl rfl ⟨Nat.le_of_ble_eq_true rfl, Nat.le_of_ble_eq_true rfl⟩)
  (rfl)
theorem B_L_merges_287 (sc : Nat × (Nat → Int)) (iv : Nat → Nat → Int) (cs : List (Nat × Nat)) (a0 : Nat) (a1 : Nat) (x1 : Int) (x2 : Int) (x5 : Int) (x6 : Int) (d7 : Option AV) (d8 : Option AV) (d9 : Option AV) (d10 : Option AV) (d11 : Option AV) (d12 : Option AV) (s0 : Int) (ha1 : kOf (hq cs iv).1 a1 = some (8, 64)) : Run sc 115 287 [some (Rf 1), some (I x1), some (I x2), some (Rf a0), some (Rf a1), some (I x5), some (I x6), d7, d8, d9, d10, d11, d12] [(I s0)] (hq cs iv) = bck 0 (((64 : Nat) : Int) - 1) x6 (if s0 = (iv a1 (Int.toNat x6)) then Run sc 115 297 [some (Rf 1), some (I x1), some (I x2), some (Rf a0), some (Rf a1), some (I x5), some (I x6), d7, d8, d9, d10, d11, d12] [] (hq cs iv) else bck 0 1 0 (some (some (I 0), (hq cs iv)))) :=
  (R_aload mc_115 dL_merges_287 rfl).trans <|
  (R_iload mc_115 dL_merges_289 rfl).trans <|
  (R_iaload mc_115 dL_merges_291 ha1).trans <| bck_congr <|
  (R_icmp_eq mc_115 dL_merges_292 (t := 297) rfl).trans <| ite_c2
  (rfl)
  ((R_iconst mc_115 dL_merges_295 ⟨by decide, by decide⟩).trans <|
  R_ireturnZ mc_115 dL_merges_296 rfl)
theorem B_L_merges_297 (sc : Nat × (Nat → Int)) (iv : Nat → Nat → Int) (cs : List (Nat × Nat)) (a0 : Nat) (a1 : Nat) (x1 : Int) (x2 : Int) (x5 : Int) (x6 : Int) (d7 : Option AV) (d8 : Option AV) (d9 : Option AV) (d10 : Option AV) (d11 : Option AV) (d12 : Option AV) : Run sc 115 297 [some (Rf 1), some (I x1), some (I x2), some (Rf a0), some (Rf a1), some (I x5), some (I x6), d7, d8, d9, d10, d11, d12] [] (hq cs iv) = chk (x6 + 1) (Run sc 115 267 [some (Rf 1), some (I x1), some (I x2), some (Rf a0), some (Rf a1), some (I x5), some (I (x6 + 1)), d7, d8, d9, d10, d11, d12] [] (hq cs iv)) :=
  (R_iinc mc_115 dL_merges_297 rfl).trans <| chk_congr <|
  R_goto mc_115 dL_merges_300 (t := 267) rfl
theorem B_L_merges_303 (sc : Nat × (Nat → Int)) (iv : Nat → Nat → Int) (cs : List (Nat × Nat)) (a0 : Nat) (a1 : Nat) (x1 : Int) (x2 : Int) (x5 : Int) (x6 : Int) (d7 : Option AV) (d8 : Option AV) (d9 : Option AV) (d10 : Option AV) (d11 : Option AV) (d12 : Option AV) : Run sc 115 303 [some (Rf 1), some (I x1), some (I x2), some (Rf a0), some (Rf a1), some (I x5), some (I x6), d7, d8, d9, d10, d11, d12] [] (hq cs iv) = bck 0 1 1 (some (some (I 1), (hq cs iv))) :=
  (R_iconst mc_115 dL_merges_303 ⟨by decide, by decide⟩).trans <|
  R_ireturnZ mc_115 dL_merges_304 rfl
theorem B_L_outlines_0 (sc : Nat × (Nat → Int)) (iv : Nat → Nat → Int) (cs : List (Nat × Nat)) (x1 : Int) (x2 : Int) (x3 : Int) : Run sc 118 0 [some (Rf 1), some (I x1), some (I x2), some (I x3), none, none, none, none, none] [] (hq cs iv) = aBind (Run sc 96 0 [some (Rf 1), none] [] (hq cs iv)) (fun v h2 => Run sc 118 4 [some (Rf 1), some (I x1), some (I x2), some (I x3), none, none, none, none, none] (pushR v []) h2) :=
  (R_aload_n mc_118 dL_outlines_0 rfl).trans <|
  R_invV mc_118 dL_outlines_1 mo_118 ct_7_51 af_118_96 rfl rfl rfl ⟨Nat.le_of_ble_eq_true rfl, Nat.le_of_ble_eq_true rfl⟩
theorem B_L_outlines_4 (sc : Nat × (Nat → Int)) (iv : Nat → Nat → Int) (cs : List (Nat × Nat)) (x1 : Int) (x2 : Int) (x3 : Int) (d4 : Option AV) (d5 : Option AV) (d6 : Option AV) (d7 : Option AV) (d8 : Option AV) (s0 : Int) : Run sc 118 4 [some (Rf 1), some (I x1), some (I x2), some (I x3), d4, d5, d6, d7, d8] [(I s0)] (hq cs iv) = if s0 < 0 then Run sc 118 26 [some (Rf 1), some (I x1), some (I x2), some (I x3), some (I s0), d5, d6, d7, d8] [] (hq cs iv) else aBind (Run sc 97 0 [some (Rf 1), some (I 0)] [] (hq cs iv)) (fun v h2 => Run sc 118 16 [some (Rf 1), some (I x1), some (I x2), some (I x3), some (I s0), d5, d6, d7, d8] (pushR v []) h2) :=
  (R_istore mc_118 dL_outlines_4 (Nat.le_of_ble_eq_true rfl)).trans <|
  (R_iload mc_118 dL_outlines_6 rfl).trans <|
  (R_if_lt mc_118 dL_outlines_8 (t := 26) rfl).trans <| ite_c2
  (rfl)
  ((R_aload_n mc_118 dL_outlines_11 rfl).trans <|
  (R_iconst mc_118 dL_outlines_12 ⟨by decide, by decide⟩).trans <|
  R_invV mc_118 dL_outlines_13 mo_118 ct_7_48 af_118_97 rfl rfl rfl ⟨Nat.le_of_ble_eq_true rfl, Nat.le_of_ble_eq_true rfl⟩)
theorem B_L_outlines_16 (sc : Nat × (Nat → Int)) (iv : Nat → Nat → Int) (cs : List (Nat × Nat)) (x1 : Int) (x2 : Int) (x3 : Int) (x4 : Int) (d5 : Option AV) (d6 : Option AV) (d7 : Option AV) (d8 : Option AV) (s0 : Int) : Run sc 118 16 [some (Rf 1), some (I x1), some (I x2), some (I x3), some (I x4), d5, d6, d7, d8] [(I s0)] (hq cs iv) = if s0 = 0 then aBind (Run sc 96 0 [some (Rf 1), none] [] (hq cs iv)) (fun v h2 => Run sc 118 23 [some (Rf 1), some (I x1), some (I x2), some (I x3), some (I x4), d5, d6, d7, d8] (pushR v []) h2) else Run sc 118 26 [some (Rf 1), some (I x1), some (I x2), some (I x3), some (I x4), d5, d6, d7, d8] [] (hq cs iv) :=
  (R_if_ne mc_118 dL_outlines_16 (t := 26) rfl).trans <| ite_c2
  ((R_aload_n mc_118 dL_outlines_19 rfl).trans <|
  R_invV mc_118 dL_outlines_20 mo_118 ct_7_51 af_118_96 rfl rfl rfl ⟨Nat.le_of_ble_eq_true rfl, Nat.le_of_ble_eq_true rfl⟩)
  (rfl)
theorem B_L_outlines_23 (sc : Nat × (Nat → Int)) (iv : Nat → Nat → Int) (cs : List (Nat × Nat)) (x1 : Int) (x2 : Int) (x3 : Int) (x4 : Int) (d5 : Option AV) (d6 : Option AV) (d7 : Option AV) (d8 : Option AV) (s0 : Int) : Run sc 118 23 [some (Rf 1), some (I x1), some (I x2), some (I x3), some (I x4), d5, d6, d7, d8] [(I s0)] (hq cs iv) = if s0 = 0 then Run sc 118 28 [some (Rf 1), some (I x1), some (I x2), some (I x3), some (I x4), d5, d6, d7, d8] [] (hq cs iv) else Run sc 118 26 [some (Rf 1), some (I x1), some (I x2), some (I x3), some (I x4), d5, d6, d7, d8] [] (hq cs iv) :=
  R_if_eq mc_118 dL_outlines_23 (t := 28) rfl
theorem B_L_outlines_26 (sc : Nat × (Nat → Int)) (iv : Nat → Nat → Int) (cs : List (Nat × Nat)) (x1 : Int) (x2 : Int) (x3 : Int) (x4 : Int) (d5 : Option AV) (d6 : Option AV) (d7 : Option AV) (d8 : Option AV) : Run sc 118 26 [some (Rf 1), some (I x1), some (I x2), some (I x3), some (I x4), d5, d6, d7, d8] [] (hq cs iv) = bck 0 1 0 (some (some (I 0), (hq cs iv))) :=
  (R_iconst mc_118 dL_outlines_26 ⟨by decide, by decide⟩).trans <|
  R_ireturnZ mc_118 dL_outlines_27 rfl
theorem B_L_outlines_28 (sc : Nat × (Nat → Int)) (iv : Nat → Nat → Int) (cs : List (Nat × Nat)) (x1 : Int) (x2 : Int) (x3 : Int) (x4 : Int) (d5 : Option AV) (d6 : Option AV) (d7 : Option AV) (d8 : Option AV) : Run sc 118 28 [some (Rf 1), some (I x1), some (I x2), some (I x3), some (I x4), d5, d6, d7, d8] [] (hq cs iv) = aBind (Run sc 95 0 [some (Rf 1), some (I x3)] [] (hq cs iv)) (fun v h2 => Run sc 118 33 [some (Rf 1), some (I x1), some (I x2), some (I x3), some (I x4), d5, d6, d7, d8] (pushR v []) h2) :=
  (R_aload_n mc_118 dL_outlines_28 rfl).trans <|
  (R_iload_n mc_118 dL_outlines_29 rfl).trans <|
  R_invV mc_118 dL_outlines_30 mo_118 ct_7_55 af_118_95 rfl rfl rfl ⟨Nat.le_of_ble_eq_true rfl, Nat.le_of_ble_eq_true rfl⟩
theorem B_L_outlines_33 (sc : Nat × (Nat → Int)) (iv : Nat → Nat → Int) (cs : List (Nat × Nat)) (x1 : Int) (x2 : Int) (x3 : Int) (x4 : Int) (d5 : Option AV) (d6 : Option AV) (d7 : Option AV) (d8 : Option AV) (s0 : Int) : Run sc 118 33 [some (Rf 1), some (I x1), some (I x2), some (I x3), some (I x4), d5, d6, d7, d8] [(I s0)] (hq cs iv) = Run sc 118 38 [some (Rf 1), some (I x1), some (I x2), some (I x3), some (I x4), some (I s0), some (I 0), d7, d8] [] (hq cs iv) :=
  (R_istore mc_118 dL_outlines_33 (Nat.le_of_ble_eq_true rfl)).trans <|
  (R_iconst mc_118 dL_outlines_35 ⟨by decide, by decide⟩).trans <|
  R_istore mc_118 dL_outlines_36 (Nat.le_of_ble_eq_true rfl)
theorem B_L_outlines_38 (sc : Nat × (Nat → Int)) (iv : Nat → Nat → Int) (cs : List (Nat × Nat)) (x1 : Int) (x2 : Int) (x3 : Int) (x4 : Int) (x5 : Int) (x6 : Int) (d7 : Option AV) (d8 : Option AV) : Run sc 118 38 [some (Rf 1), some (I x1), some (I x2), some (I x3), some (I x4), some (I x5), some (I x6), d7, d8] [] (hq cs iv) = if x2 < x6 then Run sc 118 201 [some (Rf 1), some (I x1), some (I x2), some (I x3), some (I x4), some (I x5), some (I x6), d7, d8] [] (hq cs iv) else Run sc 118 47 [some (Rf 1), some (I x1), some (I x2), some (I x3), some (I x4), some (I x5), some (I x6), some (I 0), d8] [] (hq cs iv) :=
  (R_iload mc_118 dL_outlines_38 rfl).trans <|
  (R_iload_n mc_118 dL_outlines_40 rfl).trans <|
  (R_icmp_gt mc_118 dL_outlines_41 (t := 201) rfl).trans <| ite_c2
  (rfl)
  ((R_iconst mc_118 dL_outlines_44 ⟨by decide, by decide⟩).trans <|
  R_istore mc_118 dL_outlines_45 (Nat.le_of_ble_eq_true rfl))
theorem B_L_outlines_47 (sc : Nat × (Nat → Int)) (iv : Nat → Nat → Int) (cs : List (Nat × Nat)) (x1 : Int) (x2 : Int) (x3 : Int) (x4 : Int) (x5 : Int) (x6 : Int) (x7 : Int) (d8 : Option AV) : Run sc 118 47 [some (Rf 1), some (I x1), some (I x2), some (I x3), some (I x4), some (I x5), some (I x6), some (I x7), d8] [] (hq cs iv) = if x1 < x7 then Run sc 118 195 [some (Rf 1), some (I x1), some (I x2), some (I x3), some (I x4), some (I x5), some (I x6), some (I x7), d8] [] (hq cs iv) else aBind (Run sc 83 0 [some (Rf 1), some (I x7), some (I x6)] [] (hq cs iv)) (fun v h2 => Run sc 118 61 [some (Rf 1), some (I x1), some (I x2), some (I x3), some (I x4), some (I x5), some (I x6), some (I x7), d8] (pushR v []) h2) :=
  (R_iload mc_118 dL_outlines_47 rfl).trans <|
  (R_iload_n mc_118 dL_outlines_49 rfl).trans <|
  (R_icmp_gt mc_118 dL_outlines_50 (t := 195) rfl).trans <| ite_c2
  (rfl)
  ((R_aload_n mc_118 dL_outlines_53 rfl).trans <|
  (R_iload mc_118 dL_outlines_54 rfl).trans <|
  (R_iload mc_118 dL_outlines_56 rfl).trans <|
  R_invV mc_118 dL_outlines_58 mo_118 ct_7_15 af_118_83 rfl rfl rfl ⟨Nat.le_of_ble_eq_true rfl, Nat.le_of_ble_eq_true rfl⟩)
theorem B_L_outlines_61 (sc : Nat × (Nat → Int)) (iv : Nat → Nat → Int) (cs : List (Nat × Nat)) (x1 : Int) (x2 : Int) (x3 : Int) (x4 : Int) (x5 : Int) (x6 : Int) (x7 : Int) (d8 : Option AV) (s0 : Int) : Run sc 118 61 [some (Rf 1), some (I x1), some (I x2), some (I x3), some (I x4), some (I x5), some (I x6), some (I x7), d8] [(I s0)] (hq cs iv) = if s0 = x3 then Run sc 118 70 [some (Rf 1), some (I x1), some (I x2), some (I x3), some (I x4), some (I x5), some (I x6), some (I x7), d8] [(I 1)] (hq cs iv) else Run sc 118 69 [some (Rf 1), some (I x1), some (I x2), some (I x3), some (I x4), some (I x5), some (I x6), some (I x7), d8] [] (hq cs iv) :=
  (R_iload_n mc_118 dL_outlines_61 rfl).trans <|
  (R_icmp_ne mc_118 dL_outlines_62 (t := 69) rfl).trans <| ite_c2
  ((R_iconst mc_118 dL_outlines_65 ⟨by decide, by decide⟩).trans <|
  R_goto mc_118 dL_outlines_66 (t := 70) rfl)
  (rfl)
theorem B_L_outlines_69 (sc : Nat × (Nat → Int)) (iv : Nat → Nat → Int) (cs : List (Nat × Nat)) (x1 : Int) (x2 : Int) (x3 : Int) (x4 : Int) (x5 : Int) (x6 : Int) (x7 : Int) (d8 : Option AV) : Run sc 118 69 [some (Rf 1), some (I x1), some (I x2), some (I x3), some (I x4), some (I x5), some (I x6), some (I x7), d8] [] (hq cs iv) = Run sc 118 70 [some (Rf 1), some (I x1), some (I x2), some (I x3), some (I x4), some (I x5), some (I x6), some (I x7), d8] [(I 0)] (hq cs iv) :=
  R_iconst mc_118 dL_outlines_69 ⟨by decide, by decide⟩
theorem B_L_outlines_70 (sc : Nat × (Nat → Int)) (iv : Nat → Nat → Int) (cs : List (Nat × Nat)) (x1 : Int) (x2 : Int) (x3 : Int) (x4 : Int) (x5 : Int) (x6 : Int) (x7 : Int) (d8 : Option AV) (s0 : Int) : Run sc 118 70 [some (Rf 1), some (I x1), some (I x2), some (I x3), some (I x4), some (I x5), some (I x6), some (I x7), d8] [(I s0)] (hq cs iv) = aBind (Run sc 94 0 [some (Rf 1), some (I x7), some (I x6), some (I 1)] [] (hq cs iv)) (fun v h2 => Run sc 118 81 [some (Rf 1), some (I x1), some (I x2), some (I x3), some (I x4), some (I x5), some (I x6), some (I x7), some (I s0)] (pushR v []) h2) :=
  (R_istore mc_118 dL_outlines_70 (Nat.le_of_ble_eq_true rfl)).trans <|
  (R_aload_n mc_118 dL_outlines_72 rfl).trans <|
  (R_iload mc_118 dL_outlines_73 rfl).trans <|
  (R_iload mc_118 dL_outlines_75 rfl).trans <|
  (R_iconst mc_118 dL_outlines_77 ⟨by decide, by decide⟩).trans <|
  R_invV mc_118 dL_outlines_78 mo_118 ct_7_41 af_118_94 rfl rfl rfl ⟨Nat.le_of_ble_eq_true rfl, Nat.le_of_ble_eq_true rfl⟩
theorem B_L_outlines_81 (sc : Nat × (Nat → Int)) (iv : Nat → Nat → Int) (cs : List (Nat × Nat)) (x1 : Int) (x2 : Int) (x3 : Int) (x4 : Int) (x5 : Int) (x6 : Int) (x7 : Int) (x8 : Int) (s0 : Int) : Run sc 118 81 [some (Rf 1), some (I x1), some (I x2), some (I x3), some (I x4), some (I x5), some (I x6), some (I x7), some (I x8)] [(I s0)] (hq cs iv) = if x6 = x2 then Run sc 118 120 [some (Rf 1), some (I x1), some (I x2), some (I x3), some (I x4), some (I x5), some (I x6), some (I x7), some (I x8)] [(I (-1)), (I s0)] (hq cs iv) else Run sc 118 91 [some (Rf 1), some (I x1), some (I x2), some (I x3), some (I x4), some (I x5), some (I x6), some (I x7), some (I x8)] [(I s0)] (hq cs iv) :=
  (R_iload mc_118 dL_outlines_81 rfl).trans <|
  (R_iload_n mc_118 dL_outlines_83 rfl).trans <|
  (R_icmp_ne mc_118 dL_outlines_84 (t := 91) rfl).trans <| ite_c2
  ((R_iconst mc_118 dL_outlines_87 ⟨by decide, by decide⟩).trans <|
  R_goto mc_118 dL_outlines_88 (t := 120) rfl)
  (rfl)
theorem B_L_outlines_91 (sc : Nat × (Nat → Int)) (iv : Nat → Nat → Int) (cs : List (Nat × Nat)) (x1 : Int) (x2 : Int) (x3 : Int) (x4 : Int) (x5 : Int) (x6 : Int) (x7 : Int) (x8 : Int) (s0 : Int) : Run sc 118 91 [some (Rf 1), some (I x1), some (I x2), some (I x3), some (I x4), some (I x5), some (I x6), some (I x7), some (I x8)] [(I s0)] (hq cs iv) = chk (x7 - 1) (aBind (Run sc 83 0 [some (Rf 1), some (I (x7 - 1)), some (I x6)] [] (hq cs iv)) (fun v h2 => Run sc 118 103 [some (Rf 1), some (I x1), some (I x2), some (I x3), some (I x4), some (I x5), some (I x6), some (I x7), some (I x8)] (pushR v [(I x8), (I s0)]) h2)) :=
  (R_iload mc_118 dL_outlines_91 rfl).trans <|
  (R_aload_n mc_118 dL_outlines_93 rfl).trans <|
  (R_iload mc_118 dL_outlines_94 rfl).trans <|
  (R_iconst mc_118 dL_outlines_96 ⟨by decide, by decide⟩).trans <|
  (R_isub mc_118 dL_outlines_97).trans <| chk_congr <|
  (R_iload mc_118 dL_outlines_98 rfl).trans <|
  R_invV mc_118 dL_outlines_100 mo_118 ct_7_15 af_118_83 rfl rfl rfl ⟨Nat.le_of_ble_eq_true rfl, Nat.le_of_ble_eq_true rfl⟩
theorem B_L_outlines_103 (sc : Nat × (Nat → Int)) (iv : Nat → Nat → Int) (cs : List (Nat × Nat)) (x1 : Int) (x2 : Int) (x3 : Int) (x4 : Int) (x5 : Int) (x6 : Int) (x7 : Int) (x8 : Int) (s0 : Int) (s1 : Int) (s2 : Int) : Run sc 118 103 [some (Rf 1), some (I x1), some (I x2), some (I x3), some (I x4), some (I x5), some (I x6), some (I x7), some (I x8)] [(I s0), (I s1), (I s2)] (hq cs iv) = if s0 = x3 then Run sc 118 112 [some (Rf 1), some (I x1), some (I x2), some (I x3), some (I x4), some (I x5), some (I x6), some (I x7), some (I x8)] [(I 1), (I s1), (I s2)] (hq cs iv) else Run sc 118 111 [some (Rf 1), some (I x1), some (I x2), some (I x3), some (I x4), some (I x5), some (I x6), some (I x7), some (I x8)] [(I s1), (I s2)] (hq cs iv) :=
  (R_iload_n mc_118 dL_outlines_103 rfl).trans <|
  (R_icmp_ne mc_118 dL_outlines_104 (t := 111) rfl).trans <| ite_c2
  ((R_iconst mc_118 dL_outlines_107 ⟨by decide, by decide⟩).trans <|
  R_goto mc_118 dL_outlines_108 (t := 112) rfl)
  (rfl)
theorem B_L_outlines_111 (sc : Nat × (Nat → Int)) (iv : Nat → Nat → Int) (cs : List (Nat × Nat)) (x1 : Int) (x2 : Int) (x3 : Int) (x4 : Int) (x5 : Int) (x6 : Int) (x7 : Int) (x8 : Int) (s0 : Int) (s1 : Int) : Run sc 118 111 [some (Rf 1), some (I x1), some (I x2), some (I x3), some (I x4), some (I x5), some (I x6), some (I x7), some (I x8)] [(I s0), (I s1)] (hq cs iv) = Run sc 118 112 [some (Rf 1), some (I x1), some (I x2), some (I x3), some (I x4), some (I x5), some (I x6), some (I x7), some (I x8)] [(I 0), (I s0), (I s1)] (hq cs iv) :=
  R_iconst mc_118 dL_outlines_111 ⟨by decide, by decide⟩
theorem B_L_outlines_112 (sc : Nat × (Nat → Int)) (iv : Nat → Nat → Int) (cs : List (Nat × Nat)) (x1 : Int) (x2 : Int) (x3 : Int) (x4 : Int) (x5 : Int) (x6 : Int) (x7 : Int) (x8 : Int) (s0 : Int) (s1 : Int) (s2 : Int) : Run sc 118 112 [some (Rf 1), some (I x1), some (I x2), some (I x3), some (I x4), some (I x5), some (I x6), some (I x7), some (I x8)] [(I s0), (I s1), (I s2)] (hq cs iv) = if s1 = s0 then Run sc 118 119 [some (Rf 1), some (I x1), some (I x2), some (I x3), some (I x4), some (I x5), some (I x6), some (I x7), some (I x8)] [(I s2)] (hq cs iv) else Run sc 118 120 [some (Rf 1), some (I x1), some (I x2), some (I x3), some (I x4), some (I x5), some (I x6), some (I x7), some (I x8)] [(I 1), (I s2)] (hq cs iv) :=
  (R_icmp_eq mc_118 dL_outlines_112 (t := 119) rfl).trans <| ite_c2
  (rfl)
  ((R_iconst mc_118 dL_outlines_115 ⟨by decide, by decide⟩).trans <|
  R_goto mc_118 dL_outlines_116 (t := 120) rfl)
theorem B_L_outlines_119 (sc : Nat × (Nat → Int)) (iv : Nat → Nat → Int) (cs : List (Nat × Nat)) (x1 : Int) (x2 : Int) (x3 : Int) (x4 : Int) (x5 : Int) (x6 : Int) (x7 : Int) (x8 : Int) (s0 : Int) : Run sc 118 119 [some (Rf 1), some (I x1), some (I x2), some (I x3), some (I x4), some (I x5), some (I x6), some (I x7), some (I x8)] [(I s0)] (hq cs iv) = Run sc 118 120 [some (Rf 1), some (I x1), some (I x2), some (I x3), some (I x4), some (I x5), some (I x6), some (I x7), some (I x8)] [(I 0), (I s0)] (hq cs iv) :=
  R_iconst mc_118 dL_outlines_119 ⟨by decide, by decide⟩
theorem B_L_outlines_120 (sc : Nat × (Nat → Int)) (iv : Nat → Nat → Int) (cs : List (Nat × Nat)) (x1 : Int) (x2 : Int) (x3 : Int) (x4 : Int) (x5 : Int) (x6 : Int) (x7 : Int) (x8 : Int) (s0 : Int) (s1 : Int) : Run sc 118 120 [some (Rf 1), some (I x1), some (I x2), some (I x3), some (I x4), some (I x5), some (I x6), some (I x7), some (I x8)] [(I s0), (I s1)] (hq cs iv) = if s1 = s0 then aBind (Run sc 94 0 [some (Rf 1), some (I x7), some (I x6), some (I 0)] [] (hq cs iv)) (fun v h2 => Run sc 118 132 [some (Rf 1), some (I x1), some (I x2), some (I x3), some (I x4), some (I x5), some (I x6), some (I x7), some (I x8)] (pushR v []) h2) else Run sc 118 187 [some (Rf 1), some (I x1), some (I x2), some (I x3), some (I x4), some (I x5), some (I x6), some (I x7), some (I x8)] [] (hq cs iv) :=
  (R_icmp_ne mc_118 dL_outlines_120 (t := 187) rfl).trans <| ite_c2
  ((R_aload_n mc_118 dL_outlines_123 rfl).trans <|
  (R_iload mc_118 dL_outlines_124 rfl).trans <|
  (R_iload mc_118 dL_outlines_126 rfl).trans <|
  (R_iconst mc_118 dL_outlines_128 ⟨by decide, by decide⟩).trans <|
  R_invV mc_118 dL_outlines_129 mo_118 ct_7_41 af_118_94 rfl rfl rfl ⟨Nat.le_of_ble_eq_true rfl, Nat.le_of_ble_eq_true rfl⟩)
  (rfl)
theorem B_L_outlines_132 (sc : Nat × (Nat → Int)) (iv : Nat → Nat → Int) (cs : List (Nat × Nat)) (x1 : Int) (x2 : Int) (x3 : Int) (x4 : Int) (x5 : Int) (x6 : Int) (x7 : Int) (x8 : Int) (s0 : Int) : Run sc 118 132 [some (Rf 1), some (I x1), some (I x2), some (I x3), some (I x4), some (I x5), some (I x6), some (I x7), some (I x8)] [(I s0)] (hq cs iv) = if x7 = x1 then Run sc 118 171 [some (Rf 1), some (I x1), some (I x2), some (I x3), some (I x4), some (I x5), some (I x6), some (I x7), some (I x8)] [(I (-1)), (I s0)] (hq cs iv) else Run sc 118 142 [some (Rf 1), some (I x1), some (I x2), some (I x3), some (I x4), some (I x5), some (I x6), some (I x7), some (I x8)] [(I s0)] (hq cs iv) :=
  (R_iload mc_118 dL_outlines_132 rfl).trans <|
  (R_iload_n mc_118 dL_outlines_134 rfl).trans <|
  (R_icmp_ne mc_118 dL_outlines_135 (t := 142) rfl).trans <| ite_c2
  ((R_iconst mc_118 dL_outlines_138 ⟨by decide, by decide⟩).trans <|
  R_goto mc_118 dL_outlines_139 (t := 171) rfl)
  (rfl)
theorem B_L_outlines_142 (sc : Nat × (Nat → Int)) (iv : Nat → Nat → Int) (cs : List (Nat × Nat)) (x1 : Int) (x2 : Int) (x3 : Int) (x4 : Int) (x5 : Int) (x6 : Int) (x7 : Int) (x8 : Int) (s0 : Int) : Run sc 118 142 [some (Rf 1), some (I x1), some (I x2), some (I x3), some (I x4), some (I x5), some (I x6), some (I x7), some (I x8)] [(I s0)] (hq cs iv) = chk (x6 - 1) (aBind (Run sc 83 0 [some (Rf 1), some (I x7), some (I (x6 - 1))] [] (hq cs iv)) (fun v h2 => Run sc 118 154 [some (Rf 1), some (I x1), some (I x2), some (I x3), some (I x4), some (I x5), some (I x6), some (I x7), some (I x8)] (pushR v [(I x8), (I s0)]) h2)) :=
  (R_iload mc_118 dL_outlines_142 rfl).trans <|
  (R_aload_n mc_118 dL_outlines_144 rfl).trans <|
  (R_iload mc_118 dL_outlines_145 rfl).trans <|
  (R_iload mc_118 dL_outlines_147 rfl).trans <|
  (R_iconst mc_118 dL_outlines_149 ⟨by decide, by decide⟩).trans <|
  (R_isub mc_118 dL_outlines_150).trans <| chk_congr <|
  R_invV mc_118 dL_outlines_151 mo_118 ct_7_15 af_118_83 rfl rfl rfl ⟨Nat.le_of_ble_eq_true rfl, Nat.le_of_ble_eq_true rfl⟩
theorem B_L_outlines_154 (sc : Nat × (Nat → Int)) (iv : Nat → Nat → Int) (cs : List (Nat × Nat)) (x1 : Int) (x2 : Int) (x3 : Int) (x4 : Int) (x5 : Int) (x6 : Int) (x7 : Int) (x8 : Int) (s0 : Int) (s1 : Int) (s2 : Int) : Run sc 118 154 [some (Rf 1), some (I x1), some (I x2), some (I x3), some (I x4), some (I x5), some (I x6), some (I x7), some (I x8)] [(I s0), (I s1), (I s2)] (hq cs iv) = if s0 = x3 then Run sc 118 163 [some (Rf 1), some (I x1), some (I x2), some (I x3), some (I x4), some (I x5), some (I x6), some (I x7), some (I x8)] [(I 1), (I s1), (I s2)] (hq cs iv) else Run sc 118 162 [some (Rf 1), some (I x1), some (I x2), some (I x3), some (I x4), some (I x5), some (I x6), some (I x7), some (I x8)] [(I s1), (I s2)] (hq cs iv) :=
  (R_iload_n mc_118 dL_outlines_154 rfl).trans <|
  (R_icmp_ne mc_118 dL_outlines_155 (t := 162) rfl).trans <| ite_c2
  ((R_iconst mc_118 dL_outlines_158 ⟨by decide, by decide⟩).trans <|
  R_goto mc_118 dL_outlines_159 (t := 163) rfl)
  (rfl)
theorem B_L_outlines_162 (sc : Nat × (Nat → Int)) (iv : Nat → Nat → Int) (cs : List (Nat × Nat)) (x1 : Int) (x2 : Int) (x3 : Int) (x4 : Int) (x5 : Int) (x6 : Int) (x7 : Int) (x8 : Int) (s0 : Int) (s1 : Int) : Run sc 118 162 [some (Rf 1), some (I x1), some (I x2), some (I x3), some (I x4), some (I x5), some (I x6), some (I x7), some (I x8)] [(I s0), (I s1)] (hq cs iv) = Run sc 118 163 [some (Rf 1), some (I x1), some (I x2), some (I x3), some (I x4), some (I x5), some (I x6), some (I x7), some (I x8)] [(I 0), (I s0), (I s1)] (hq cs iv) :=
  R_iconst mc_118 dL_outlines_162 ⟨by decide, by decide⟩
theorem B_L_outlines_163 (sc : Nat × (Nat → Int)) (iv : Nat → Nat → Int) (cs : List (Nat × Nat)) (x1 : Int) (x2 : Int) (x3 : Int) (x4 : Int) (x5 : Int) (x6 : Int) (x7 : Int) (x8 : Int) (s0 : Int) (s1 : Int) (s2 : Int) : Run sc 118 163 [some (Rf 1), some (I x1), some (I x2), some (I x3), some (I x4), some (I x5), some (I x6), some (I x7), some (I x8)] [(I s0), (I s1), (I s2)] (hq cs iv) = if s1 = s0 then Run sc 118 170 [some (Rf 1), some (I x1), some (I x2), some (I x3), some (I x4), some (I x5), some (I x6), some (I x7), some (I x8)] [(I s2)] (hq cs iv) else Run sc 118 171 [some (Rf 1), some (I x1), some (I x2), some (I x3), some (I x4), some (I x5), some (I x6), some (I x7), some (I x8)] [(I 1), (I s2)] (hq cs iv) :=
  (R_icmp_eq mc_118 dL_outlines_163 (t := 170) rfl).trans <| ite_c2
  (rfl)
  ((R_iconst mc_118 dL_outlines_166 ⟨by decide, by decide⟩).trans <|
  R_goto mc_118 dL_outlines_167 (t := 171) rfl)
theorem B_L_outlines_170 (sc : Nat × (Nat → Int)) (iv : Nat → Nat → Int) (cs : List (Nat × Nat)) (x1 : Int) (x2 : Int) (x3 : Int) (x4 : Int) (x5 : Int) (x6 : Int) (x7 : Int) (x8 : Int) (s0 : Int) : Run sc 118 170 [some (Rf 1), some (I x1), some (I x2), some (I x3), some (I x4), some (I x5), some (I x6), some (I x7), some (I x8)] [(I s0)] (hq cs iv) = Run sc 118 171 [some (Rf 1), some (I x1), some (I x2), some (I x3), some (I x4), some (I x5), some (I x6), some (I x7), some (I x8)] [(I 0), (I s0)] (hq cs iv) :=
  R_iconst mc_118 dL_outlines_170 ⟨by decide, by decide⟩
theorem B_L_outlines_171 (sc : Nat × (Nat → Int)) (iv : Nat → Nat → Int) (cs : List (Nat × Nat)) (x1 : Int) (x2 : Int) (x3 : Int) (x4 : Int) (x5 : Int) (x6 : Int) (x7 : Int) (x8 : Int) (s0 : Int) (s1 : Int) : Run sc 118 171 [some (Rf 1), some (I x1), some (I x2), some (I x3), some (I x4), some (I x5), some (I x6), some (I x7), some (I x8)] [(I s0), (I s1)] (hq cs iv) = if s1 = s0 then aBind (Run sc 116 0 [some (Rf 1), some (I x7), some (I x6), none] [] (hq cs iv)) (fun v h2 => Run sc 118 182 [some (Rf 1), some (I x1), some (I x2), some (I x3), some (I x4), some (I x5), some (I x6), some (I x7), some (I x8)] (pushR v []) h2) else Run sc 118 187 [some (Rf 1), some (I x1), some (I x2), some (I x3), some (I x4), some (I x5), some (I x6), some (I x7), some (I x8)] [] (hq cs iv) :=
  (R_icmp_ne mc_118 dL_outlines_171 (t := 187) rfl).trans <| ite_c2
  ((R_aload_n mc_118 dL_outlines_174 rfl).trans <|
  (R_iload mc_118 dL_outlines_175 rfl).trans <|
  (R_iload mc_118 dL_outlines_177 rfl).trans <|
  R_invS mc_118 dL_outlines_179 mo_118 ct_7_45 (Or.inl rfl) af_118_116 (Nat.le_of_ble_eq_true rfl) rfl rfl ⟨Nat.le_of_ble_eq_true rfl, Nat.le_of_ble_eq_true rfl⟩)
  (rfl)
theorem B_L_outlines_182 (sc : Nat × (Nat → Int)) (iv : Nat → Nat → Int) (cs : List (Nat × Nat)) (x1 : Int) (x2 : Int) (x3 : Int) (x4 : Int) (x5 : Int) (x6 : Int) (x7 : Int) (x8 : Int) (s0 : Int) : Run sc 118 182 [some (Rf 1), some (I x1), some (I x2), some (I x3), some (I x4), some (I x5), some (I x6), some (I x7), some (I x8)] [(I s0)] (hq cs iv) = bck 1 2147483647 2 (bck 0 2147483647 s0 (if (s0 % 2) = 0 then Run sc 118 189 [some (Rf 1), some (I x1), some (I x2), some (I x3), some (I x4), some (I x5), some (I x6), some (I x7), some (I x8)] [] (hq cs iv) else Run sc 118 187 [some (Rf 1), some (I x1), some (I x2), some (I x3), some (I x4), some (I x5), some (I x6), some (I x7), some (I x8)] [] (hq cs iv))) :=
  (R_iconst mc_118 dL_outlines_182 ⟨by decide, by decide⟩).trans <|
  (R_irem mc_118 dL_outlines_183).trans <| bck_congr <| bck_congr <|
  R_if_eq mc_118 dL_outlines_184 (t := 189) rfl
theorem B_L_outlines_187 (sc : Nat × (Nat → Int)) (iv : Nat → Nat → Int) (cs : List (Nat × Nat)) (x1 : Int) (x2 : Int) (x3 : Int) (x4 : Int) (x5 : Int) (x6 : Int) (x7 : Int) (x8 : Int) : Run sc 118 187 [some (Rf 1), some (I x1), some (I x2), some (I x3), some (I x4), some (I x5), some (I x6), some (I x7), some (I x8)] [] (hq cs iv) = bck 0 1 0 (some (some (I 0), (hq cs iv))) :=
  (R_iconst mc_118 dL_outlines_187 ⟨by decide, by decide⟩).trans <|
  R_ireturnZ mc_118 dL_outlines_188 rfl
theorem B_L_outlines_189 (sc : Nat × (Nat → Int)) (iv : Nat → Nat → Int) (cs : List (Nat × Nat)) (x1 : Int) (x2 : Int) (x3 : Int) (x4 : Int) (x5 : Int) (x6 : Int) (x7 : Int) (x8 : Int) : Run sc 118 189 [some (Rf 1), some (I x1), some (I x2), some (I x3), some (I x4), some (I x5), some (I x6), some (I x7), some (I x8)] [] (hq cs iv) = chk (x7 + 1) (Run sc 118 47 [some (Rf 1), some (I x1), some (I x2), some (I x3), some (I x4), some (I x5), some (I x6), some (I (x7 + 1)), some (I x8)] [] (hq cs iv)) :=
  (R_iinc mc_118 dL_outlines_189 rfl).trans <| chk_congr <|
  R_goto mc_118 dL_outlines_192 (t := 47) rfl
theorem B_L_outlines_195 (sc : Nat × (Nat → Int)) (iv : Nat → Nat → Int) (cs : List (Nat × Nat)) (x1 : Int) (x2 : Int) (x3 : Int) (x4 : Int) (x5 : Int) (x6 : Int) (x7 : Int) (d8 : Option AV) : Run sc 118 195 [some (Rf 1), some (I x1), some (I x2), some (I x3), some (I x4), some (I x5), some (I x6), some (I x7), d8] [] (hq cs iv) = chk (x6 + 1) (Run sc 118 38 [some (Rf 1), some (I x1), some (I x2), some (I x3), some (I x4), some (I x5), some (I (x6 + 1)), some (I x7), d8] [] (hq cs iv)) :=
  (R_iinc mc_118 dL_outlines_195 rfl).trans <| chk_congr <|
  R_goto mc_118 dL_outlines_198 (t := 38) rfl
theorem B_L_outlines_201 (sc : Nat × (Nat → Int)) (iv : Nat → Nat → Int) (cs : List (Nat × Nat)) (x1 : Int) (x2 : Int) (x3 : Int) (x4 : Int) (x5 : Int) (x6 : Int) (d7 : Option AV) (d8 : Option AV) : Run sc 118 201 [some (Rf 1), some (I x1), some (I x2), some (I x3), some (I x4), some (I x5), some (I x6), d7, d8] [] (hq cs iv) = aBind (Run sc 97 0 [some (Rf 1), some (I 0)] [] (hq cs iv)) (fun v h2 => Run sc 118 206 [some (Rf 1), some (I x1), some (I x2), some (I x3), some (I x4), some (I x5), some (I x6), d7, d8] (pushR v []) h2) :=
  (R_aload_n mc_118 dL_outlines_201 rfl).trans <|
  (R_iconst mc_118 dL_outlines_202 ⟨by decide, by decide⟩).trans <|
  R_invV mc_118 dL_outlines_203 mo_118 ct_7_48 af_118_97 rfl rfl rfl ⟨Nat.le_of_ble_eq_true rfl, Nat.le_of_ble_eq_true rfl⟩
theorem B_L_outlines_206 (sc : Nat × (Nat → Int)) (iv : Nat → Nat → Int) (cs : List (Nat × Nat)) (x1 : Int) (x2 : Int) (x3 : Int) (x4 : Int) (x5 : Int) (x6 : Int) (d7 : Option AV) (d8 : Option AV) (s0 : Int) : Run sc 118 206 [some (Rf 1), some (I x1), some (I x2), some (I x3), some (I x4), some (I x5), some (I x6), d7, d8] [(I s0)] (hq cs iv) = if s0 = x5 then aBind (Run sc 97 0 [some (Rf 1), some (I 2)] [] (hq cs iv)) (fun v h2 => Run sc 118 216 [some (Rf 1), some (I x1), some (I x2), some (I x3), some (I x4), some (I x5), some (I x6), d7, d8] (pushR v []) h2) else Run sc 118 265 [some (Rf 1), some (I x1), some (I x2), some (I x3), some (I x4), some (I x5), some (I x6), d7, d8] [] (hq cs iv) :=
  (R_iload mc_118 dL_outlines_206 rfl).trans <|
  (R_icmp_ne mc_118 dL_outlines_208 (t := 265) rfl).trans <| ite_c2
  ((R_aload_n mc_118 dL_outlines_211 rfl).trans <|
  (R_iconst mc_118 dL_outlines_212 ⟨by decide, by decide⟩).trans <|
  R_invV mc_118 dL_outlines_213 mo_118 ct_7_48 af_118_97 rfl rfl rfl ⟨Nat.le_of_ble_eq_true rfl, Nat.le_of_ble_eq_true rfl⟩)
  (rfl)
theorem B_L_outlines_216 (sc : Nat × (Nat → Int)) (iv : Nat → Nat → Int) (cs : List (Nat × Nat)) (x1 : Int) (x2 : Int) (x3 : Int) (x4 : Int) (x5 : Int) (x6 : Int) (d7 : Option AV) (d8 : Option AV) (s0 : Int) : Run sc 118 216 [some (Rf 1), some (I x1), some (I x2), some (I x3), some (I x4), some (I x5), some (I x6), d7, d8] [(I s0)] (hq cs iv) = aBind (Run sc 97 0 [some (Rf 1), some (I 1)] [] (hq cs iv)) (fun v h2 => Run sc 118 221 [some (Rf 1), some (I x1), some (I x2), some (I x3), some (I x4), some (I x5), some (I x6), d7, d8] (pushR v [(I s0)]) h2) :=
  (R_aload_n mc_118 dL_outlines_216 rfl).trans <|
  (R_iconst mc_118 dL_outlines_217 ⟨by decide, by decide⟩).trans <|
  R_invV mc_118 dL_outlines_218 mo_118 ct_7_48 af_118_97 rfl rfl rfl ⟨Nat.le_of_ble_eq_true rfl, Nat.le_of_ble_eq_true rfl⟩
theorem B_L_outlines_221 (sc : Nat × (Nat → Int)) (iv : Nat → Nat → Int) (cs : List (Nat × Nat)) (x1 : Int) (x2 : Int) (x3 : Int) (x4 : Int) (x5 : Int) (x6 : Int) (d7 : Option AV) (d8 : Option AV) (s0 : Int) (s1 : Int) : Run sc 118 221 [some (Rf 1), some (I x1), some (I x2), some (I x3), some (I x4), some (I x5), some (I x6), d7, d8] [(I s0), (I s1)] (hq cs iv) = if s1 = s0 then aBind (Run sc 97 0 [some (Rf 1), some (I 4)] [] (hq cs iv)) (fun v h2 => Run sc 118 229 [some (Rf 1), some (I x1), some (I x2), some (I x3), some (I x4), some (I x5), some (I x6), d7, d8] (pushR v []) h2) else Run sc 118 265 [some (Rf 1), some (I x1), some (I x2), some (I x3), some (I x4), some (I x5), some (I x6), d7, d8] [] (hq cs iv) :=
  (R_icmp_ne mc_118 dL_outlines_221 (t := 265) rfl).trans <| ite_c2
  ((R_aload_n mc_118 dL_outlines_224 rfl).trans <|
  (R_iconst mc_118 dL_outlines_225 ⟨by decide, by decide⟩).trans <|
  R_invV mc_118 dL_outlines_226 mo_118 ct_7_48 af_118_97 rfl rfl rfl ⟨Nat.le_of_ble_eq_true rfl, Nat.le_of_ble_eq_true rfl⟩)
  (rfl)
theorem B_L_outlines_229 (sc : Nat × (Nat → Int)) (iv : Nat → Nat → Int) (cs : List (Nat × Nat)) (x1 : Int) (x2 : Int) (x3 : Int) (x4 : Int) (x5 : Int) (x6 : Int) (d7 : Option AV) (d8 : Option AV) (s0 : Int) : Run sc 118 229 [some (Rf 1), some (I x1), some (I x2), some (I x3), some (I x4), some (I x5), some (I x6), d7, d8] [(I s0)] (hq cs iv) = if s0 = 0 then aBind (Run sc 95 0 [some (Rf 1), some (I x3)] [] (hq cs iv)) (fun v h2 => Run sc 118 237 [some (Rf 1), some (I x1), some (I x2), some (I x3), some (I x4), some (I x5), some (I x6), d7, d8] (pushR v []) h2) else Run sc 118 265 [some (Rf 1), some (I x1), some (I x2), some (I x3), some (I x4), some (I x5), some (I x6), d7, d8] [] (hq cs iv) :=
  (R_if_ne mc_118 dL_outlines_229 (t := 265) rfl).trans <| ite_c2
  ((R_aload_n mc_118 dL_outlines_232 rfl).trans <|
  (R_iload_n mc_118 dL_outlines_233 rfl).trans <|
  R_invV mc_118 dL_outlines_234 mo_118 ct_7_55 af_118_95 rfl rfl rfl ⟨Nat.le_of_ble_eq_true rfl, Nat.le_of_ble_eq_true rfl⟩)
  (rfl)
theorem B_L_outlines_237 (sc : Nat × (Nat → Int)) (iv : Nat → Nat → Int) (cs : List (Nat × Nat)) (x1 : Int) (x2 : Int) (x3 : Int) (x4 : Int) (x5 : Int) (x6 : Int) (d7 : Option AV) (d8 : Option AV) (s0 : Int) : Run sc 118 237 [some (Rf 1), some (I x1), some (I x2), some (I x3), some (I x4), some (I x5), some (I x6), d7, d8] [(I s0)] (hq cs iv) = if s0 = 0 then aBind (Run sc 95 0 [some (Rf 1), some (I 0)] [] (hq cs iv)) (fun v h2 => Run sc 118 245 [some (Rf 1), some (I x1), some (I x2), some (I x3), some (I x4), some (I x5), some (I x6), d7, d8] (pushR v []) h2) else Run sc 118 265 [some (Rf 1), some (I x1), some (I x2), some (I x3), some (I x4), some (I x5), some (I x6), d7, d8] [] (hq cs iv) :=
  (R_if_ne mc_118 dL_outlines_237 (t := 265) rfl).trans <| ite_c2
  ((R_aload_n mc_118 dL_outlines_240 rfl).trans <|
  (R_iconst mc_118 dL_outlines_241 ⟨by decide, by decide⟩).trans <|
  R_invV mc_118 dL_outlines_242 mo_118 ct_7_55 af_118_95 rfl rfl rfl ⟨Nat.le_of_ble_eq_true rfl, Nat.le_of_ble_eq_true rfl⟩)
  (rfl)
theorem B_L_outlines_245 (sc : Nat × (Nat → Int)) (iv : Nat → Nat → Int) (cs : List (Nat × Nat)) (x1 : Int) (x2 : Int) (x3 : Int) (x4 : Int) (x5 : Int) (x6 : Int) (d7 : Option AV) (d8 : Option AV) (s0 : Int) : Run sc 118 245 [some (Rf 1), some (I x1), some (I x2), some (I x3), some (I x4), some (I x5), some (I x6), d7, d8] [(I s0)] (hq cs iv) = if s0 = (-2) then aBind (Run sc 95 0 [some (Rf 1), some (I 7)] [] (hq cs iv)) (fun v h2 => Run sc 118 256 [some (Rf 1), some (I x1), some (I x2), some (I x3), some (I x4), some (I x5), some (I x6), d7, d8] (pushR v []) h2) else Run sc 118 265 [some (Rf 1), some (I x1), some (I x2), some (I x3), some (I x4), some (I x5), some (I x6), d7, d8] [] (hq cs iv) :=
  (R_bipush mc_118 dL_outlines_245 ⟨by decide, by decide⟩).trans <|
  (R_icmp_ne mc_118 dL_outlines_247 (t := 265) rfl).trans <| ite_c2
  ((R_aload_n mc_118 dL_outlines_250 rfl).trans <|
  (R_bipush mc_118 dL_outlines_251 ⟨by decide, by decide⟩).trans <|
  R_invV mc_118 dL_outlines_253 mo_118 ct_7_55 af_118_95 rfl rfl rfl ⟨Nat.le_of_ble_eq_true rfl, Nat.le_of_ble_eq_true rfl⟩)
  (rfl)
theorem B_L_outlines_256 (sc : Nat × (Nat → Int)) (iv : Nat → Nat → Int) (cs : List (Nat × Nat)) (x1 : Int) (x2 : Int) (x3 : Int) (x4 : Int) (x5 : Int) (x6 : Int) (d7 : Option AV) (d8 : Option AV) (s0 : Int) : Run sc 118 256 [some (Rf 1), some (I x1), some (I x2), some (I x3), some (I x4), some (I x5), some (I x6), d7, d8] [(I s0)] (hq cs iv) = if s0 = (-2) then Run sc 118 266 [some (Rf 1), some (I x1), some (I x2), some (I x3), some (I x4), some (I x5), some (I x6), d7, d8] [(I 1)] (hq cs iv) else Run sc 118 265 [some (Rf 1), some (I x1), some (I x2), some (I x3), some (I x4), some (I x5), some (I x6), d7, d8] [] (hq cs iv) :=
  (R_bipush mc_118 dL_outlines_256 ⟨by decide, by decide⟩).trans <|
  (R_icmp_ne mc_118 dL_outlines_258 (t := 265) rfl).trans <| ite_c2
  ((R_iconst mc_118 dL_outlines_261 ⟨by decide, by decide⟩).trans <|
  R_goto mc_118 dL_outlines_262 (t := 266) rfl)
  (rfl)
theorem B_L_outlines_265 (sc : Nat × (Nat → Int)) (iv : Nat → Nat → Int) (cs : List (Nat × Nat)) (x1 : Int) (x2 : Int) (x3 : Int) (x4 : Int) (x5 : Int) (x6 : Int) (d7 : Option AV) (d8 : Option AV) : Run sc 118 265 [some (Rf 1), some (I x1), some (I x2), some (I x3), some (I x4), some (I x5), some (I x6), d7, d8] [] (hq cs iv) = Run sc 118 266 [some (Rf 1), some (I x1), some (I x2), some (I x3), some (I x4), some (I x5), some (I x6), d7, d8] [(I 0)] (hq cs iv) :=
  R_iconst mc_118 dL_outlines_265 ⟨by decide, by decide⟩
theorem B_L_outlines_266 (sc : Nat × (Nat → Int)) (iv : Nat → Nat → Int) (cs : List (Nat × Nat)) (x1 : Int) (x2 : Int) (x3 : Int) (x4 : Int) (x5 : Int) (x6 : Int) (d7 : Option AV) (d8 : Option AV) (s0 : Int) : Run sc 118 266 [some (Rf 1), some (I x1), some (I x2), some (I x3), some (I x4), some (I x5), some (I x6), d7, d8] [(I s0)] (hq cs iv) = bck 0 1 s0 (some (some (I s0), (hq cs iv))) :=
  R_ireturnZ mc_118 dL_outlines_266 rfl
theorem B_L_backs_0 (sc : Nat × (Nat → Int)) (iv : Nat → Nat → Int) (cs : List (Nat × Nat)) (x1 : Int) (x2 : Int) (x3 : Int) : Run sc 117 0 [some (Rf 1), some (I x1), some (I x2), some (I x3), none, none, none, none, none, none] [] (hq cs iv) = Run sc 117 12 [some (Rf 1), some (I x1), some (I x2), some (I x3), some (I 0), some (I 0), some (I 0), some (I 0), none, none] [] (hq cs iv) :=
  (R_iconst mc_117 dL_backs_0 ⟨by decide, by decide⟩).trans <|
  (R_istore mc_117 dL_backs_1 (Nat.le_of_ble_eq_true rfl)).trans <|
  (R_iconst mc_117 dL_backs_3 ⟨by decide, by decide⟩).trans <|
  (R_istore mc_117 dL_backs_4 (Nat.le_of_ble_eq_true rfl)).trans <|
  (R_iconst mc_117 dL_backs_6 ⟨by decide, by decide⟩).trans <|
  (R_istore mc_117 dL_backs_7 (Nat.le_of_ble_eq_true rfl)).trans <|
  (R_iconst mc_117 dL_backs_9 ⟨by decide, by decide⟩).trans <|
  R_istore mc_117 dL_backs_10 (Nat.le_of_ble_eq_true rfl)
theorem B_L_backs_12 (sc : Nat × (Nat → Int)) (iv : Nat → Nat → Int) (cs : List (Nat × Nat)) (x1 : Int) (x2 : Int) (x3 : Int) (x4 : Int) (x5 : Int) (x6 : Int) (x7 : Int) (d8 : Option AV) (d9 : Option AV) : Run sc 117 12 [some (Rf 1), some (I x1), some (I x2), some (I x3), some (I x4), some (I x5), some (I x6), some (I x7), d8, d9] [] (hq cs iv) = if x2 < x7 then Run sc 117 117 [some (Rf 1), some (I x1), some (I x2), some (I x3), some (I x4), some (I x5), some (I x6), some (I x7), d8, d9] [] (hq cs iv) else Run sc 117 21 [some (Rf 1), some (I x1), some (I x2), some (I x3), some (I x4), some (I x5), some (I x6), some (I x7), some (I 0), d9] [] (hq cs iv) :=
  (R_iload mc_117 dL_backs_12 rfl).trans <|
  (R_iload_n mc_117 dL_backs_14 rfl).trans <|
  (R_icmp_gt mc_117 dL_backs_15 (t := 117) rfl).trans <| ite_c2
  (rfl)
  ((R_iconst mc_117 dL_backs_18 ⟨by decide, by decide⟩).trans <|
  R_istore mc_117 dL_backs_19 (Nat.le_of_ble_eq_true rfl))
theorem B_L_backs_21 (sc : Nat × (Nat → Int)) (iv : Nat → Nat → Int) (cs : List (Nat × Nat)) (x1 : Int) (x2 : Int) (x3 : Int) (x4 : Int) (x5 : Int) (x6 : Int) (x7 : Int) (x8 : Int) (d9 : Option AV) : Run sc 117 21 [some (Rf 1), some (I x1), some (I x2), some (I x3), some (I x4), some (I x5), some (I x6), some (I x7), some (I x8), d9] [] (hq cs iv) = if x1 < x8 then Run sc 117 111 [some (Rf 1), some (I x1), some (I x2), some (I x3), some (I x4), some (I x5), some (I x6), some (I x7), some (I x8), d9] [] (hq cs iv) else aBind (Run sc 94 0 [some (Rf 1), some (I x8), some (I x7), some (I 1)] [] (hq cs iv)) (fun v h2 => Run sc 117 38 [some (Rf 1), some (I x1), some (I x2), some (I x3), some (I x4), some (I x5), some (I x6), some (I x7), some (I x8), d9] (pushR v [(I x4)]) h2) :=
  (R_iload mc_117 dL_backs_21 rfl).trans <|
  (R_iload_n mc_117 dL_backs_23 rfl).trans <|
  (R_icmp_gt mc_117 dL_backs_24 (t := 111) rfl).trans <| ite_c2
  (rfl)
  ((R_iload mc_117 dL_backs_27 rfl).trans <|
  (R_aload_n mc_117 dL_backs_29 rfl).trans <|
  (R_iload mc_117 dL_backs_30 rfl).trans <|
  (R_iload mc_117 dL_backs_32 rfl).trans <|
  (R_iconst mc_117 dL_backs_34 ⟨by decide, by decide⟩).trans <|
  R_invV mc_117 dL_backs_35 mo_117 ct_7_41 af_117_94 rfl rfl rfl ⟨Nat.le_of_ble_eq_true rfl, Nat.le_of_ble_eq_true rfl⟩)
theorem B_L_backs_38 (sc : Nat × (Nat → Int)) (iv : Nat → Nat → Int) (cs : List (Nat × Nat)) (x1 : Int) (x2 : Int) (x3 : Int) (x4 : Int) (x5 : Int) (x6 : Int) (x7 : Int) (x8 : Int) (d9 : Option AV) (s0 : Int) (s1 : Int) : Run sc 117 38 [some (Rf 1), some (I x1), some (I x2), some (I x3), some (I x4), some (I x5), some (I x6), some (I x7), some (I x8), d9] [(I s0), (I s1)] (hq cs iv) = if s0 = 1 then Run sc 117 47 [some (Rf 1), some (I x1), some (I x2), some (I x3), some (I x4), some (I x5), some (I x6), some (I x7), some (I x8), d9] [(I 1), (I s1)] (hq cs iv) else Run sc 117 46 [some (Rf 1), some (I x1), some (I x2), some (I x3), some (I x4), some (I x5), some (I x6), some (I x7), some (I x8), d9] [(I s1)] (hq cs iv) :=
  (R_iconst mc_117 dL_backs_38 ⟨by decide, by decide⟩).trans <|
  (R_icmp_ne mc_117 dL_backs_39 (t := 46) rfl).trans <| ite_c2
  ((R_iconst mc_117 dL_backs_42 ⟨by decide, by decide⟩).trans <|
  R_goto mc_117 dL_backs_43 (t := 47) rfl)
  (rfl)
theorem B_L_backs_46 (sc : Nat × (Nat → Int)) (iv : Nat → Nat → Int) (cs : List (Nat × Nat)) (x1 : Int) (x2 : Int) (x3 : Int) (x4 : Int) (x5 : Int) (x6 : Int) (x7 : Int) (x8 : Int) (d9 : Option AV) (s0 : Int) : Run sc 117 46 [some (Rf 1), some (I x1), some (I x2), some (I x3), some (I x4), some (I x5), some (I x6), some (I x7), some (I x8), d9] [(I s0)] (hq cs iv) = Run sc 117 47 [some (Rf 1), some (I x1), some (I x2), some (I x3), some (I x4), some (I x5), some (I x6), some (I x7), some (I x8), d9] [(I 0), (I s0)] (hq cs iv) :=
  R_iconst mc_117 dL_backs_46 ⟨by decide, by decide⟩
theorem B_L_backs_47 (sc : Nat × (Nat → Int)) (iv : Nat → Nat → Int) (cs : List (Nat × Nat)) (x1 : Int) (x2 : Int) (x3 : Int) (x4 : Int) (x5 : Int) (x6 : Int) (x7 : Int) (x8 : Int) (d9 : Option AV) (s0 : Int) (s1 : Int) : Run sc 117 47 [some (Rf 1), some (I x1), some (I x2), some (I x3), some (I x4), some (I x5), some (I x6), some (I x7), some (I x8), d9] [(I s0), (I s1)] (hq cs iv) = aBind (Run sc 94 0 [some (Rf 1), some (I x8), some (I x7), some (I 0)] [] (hq cs iv)) (fun v h2 => Run sc 117 56 [some (Rf 1), some (I x1), some (I x2), some (I x3), some (I x4), some (I x5), some (I x6), some (I x7), some (I x8), d9] (pushR v [(I s0), (I s1)]) h2) :=
  (R_aload_n mc_117 dL_backs_47 rfl).trans <|
  (R_iload mc_117 dL_backs_48 rfl).trans <|
  (R_iload mc_117 dL_backs_50 rfl).trans <|
  (R_iconst mc_117 dL_backs_52 ⟨by decide, by decide⟩).trans <|
  R_invV mc_117 dL_backs_53 mo_117 ct_7_41 af_117_94 rfl rfl rfl ⟨Nat.le_of_ble_eq_true rfl, Nat.le_of_ble_eq_true rfl⟩
theorem B_L_backs_56 (sc : Nat × (Nat → Int)) (iv : Nat → Nat → Int) (cs : List (Nat × Nat)) (x1 : Int) (x2 : Int) (x3 : Int) (x4 : Int) (x5 : Int) (x6 : Int) (x7 : Int) (x8 : Int) (d9 : Option AV) (s0 : Int) (s1 : Int) (s2 : Int) : Run sc 117 56 [some (Rf 1), some (I x1), some (I x2), some (I x3), some (I x4), some (I x5), some (I x6), some (I x7), some (I x8), d9] [(I s0), (I s1), (I s2)] (hq cs iv) = if s0 = 1 then Run sc 117 65 [some (Rf 1), some (I x1), some (I x2), some (I x3), some (I x4), some (I x5), some (I x6), some (I x7), some (I x8), d9] [(I 1), (I s1), (I s2)] (hq cs iv) else Run sc 117 64 [some (Rf 1), some (I x1), some (I x2), some (I x3), some (I x4), some (I x5), some (I x6), some (I x7), some (I x8), d9] [(I s1), (I s2)] (hq cs iv) :=
  (R_iconst mc_117 dL_backs_56 ⟨by decide, by decide⟩).trans <|
  (R_icmp_ne mc_117 dL_backs_57 (t := 64) rfl).trans <| ite_c2
  ((R_iconst mc_117 dL_backs_60 ⟨by decide, by decide⟩).trans <|
  R_goto mc_117 dL_backs_61 (t := 65) rfl)
  (rfl)
theorem B_L_backs_64 (sc : Nat × (Nat → Int)) (iv : Nat → Nat → Int) (cs : List (Nat × Nat)) (x1 : Int) (x2 : Int) (x3 : Int) (x4 : Int) (x5 : Int) (x6 : Int) (x7 : Int) (x8 : Int) (d9 : Option AV) (s0 : Int) (s1 : Int) : Run sc 117 64 [some (Rf 1), some (I x1), some (I x2), some (I x3), some (I x4), some (I x5), some (I x6), some (I x7), some (I x8), d9] [(I s0), (I s1)] (hq cs iv) = Run sc 117 65 [some (Rf 1), some (I x1), some (I x2), some (I x3), some (I x4), some (I x5), some (I x6), some (I x7), some (I x8), d9] [(I 0), (I s0), (I s1)] (hq cs iv) :=
  R_iconst mc_117 dL_backs_64 ⟨by decide, by decide⟩
theorem B_L_backs_65 (sc : Nat × (Nat → Int)) (iv : Nat → Nat → Int) (cs : List (Nat × Nat)) (x1 : Int) (x2 : Int) (x3 : Int) (x4 : Int) (x5 : Int) (x6 : Int) (x7 : Int) (x8 : Int) (d9 : Option AV) (s0 : Int) (s1 : Int) (s2 : Int) : Run sc 117 65 [some (Rf 1), some (I x1), some (I x2), some (I x3), some (I x4), some (I x5), some (I x6), some (I x7), some (I x8), d9] [(I s0), (I s1), (I s2)] (hq cs iv) = chk (s1 + s0) (chk (s2 + (s1 + s0)) (aBind (Run sc 116 0 [some (Rf 1), some (I x8), some (I x7), none] [] (hq cs iv)) (fun v h2 => Run sc 117 79 [some (Rf 1), some (I x1), some (I x2), some (I x3), some (I (s2 + (s1 + s0))), some (I x5), some (I x6), some (I x7), some (I x8), d9] (pushR v [(I x5)]) h2))) :=
  (R_iadd mc_117 dL_backs_65).trans <| chk_congr <|
  (R_iadd mc_117 dL_backs_66).trans <| chk_congr <|
  (R_istore mc_117 dL_backs_67 (Nat.le_of_ble_eq_true rfl)).trans <|
  (R_iload mc_117 dL_backs_69 rfl).trans <|
  (R_aload_n mc_117 dL_backs_71 rfl).trans <|
  (R_iload mc_117 dL_backs_72 rfl).trans <|
  (R_iload mc_117 dL_backs_74 rfl).trans <|
  R_invS mc_117 dL_backs_76 mo_117 ct_7_45 (Or.inl rfl) af_117_116 (Nat.le_of_ble_eq_true rfl) rfl rfl ⟨Nat.le_of_ble_eq_true rfl, Nat.le_of_ble_eq_true rfl⟩
theorem B_L_backs_79 (sc : Nat × (Nat → Int)) (iv : Nat → Nat → Int) (cs : List (Nat × Nat)) (x1 : Int) (x2 : Int) (x3 : Int) (x4 : Int) (x5 : Int) (x6 : Int) (x7 : Int) (x8 : Int) (d9 : Option AV) (s0 : Int) (s1 : Int) : Run sc 117 79 [some (Rf 1), some (I x1), some (I x2), some (I x3), some (I x4), some (I x5), some (I x6), some (I x7), some (I x8), d9] [(I s0), (I s1)] (hq cs iv) = bck 1 2147483647 2 (bck 0 2147483647 s0 (chk (s1 + (s0 % 2)) (aBind (Run sc 116 0 [some (Rf 1), some (I x8), some (I x7), none] [] (hq cs iv)) (fun v h2 => Run sc 117 94 [some (Rf 1), some (I x1), some (I x2), some (I x3), some (I x4), some (I (s1 + (s0 % 2))), some (I x6), some (I x7), some (I x8), d9] (pushR v [(I x6)]) h2)))) :=
  (R_iconst mc_117 dL_backs_79 ⟨by decide, by decide⟩).trans <|
  (R_irem mc_117 dL_backs_80).trans <| bck_congr <| bck_congr <|
  (R_iadd mc_117 dL_backs_81).trans <| chk_congr <|
  (R_istore mc_117 dL_backs_82 (Nat.le_of_ble_eq_true rfl)).trans <|
  (R_iload mc_117 dL_backs_84 rfl).trans <|
  (R_aload_n mc_117 dL_backs_86 rfl).trans <|
  (R_iload mc_117 dL_backs_87 rfl).trans <|
  (R_iload mc_117 dL_backs_89 rfl).trans <|
  R_invS mc_117 dL_backs_91 mo_117 ct_7_45 (Or.inl rfl) af_117_116 (Nat.le_of_ble_eq_true rfl) rfl rfl ⟨Nat.le_of_ble_eq_true rfl, Nat.le_of_ble_eq_true rfl⟩
theorem B_L_backs_94 (sc : Nat × (Nat → Int)) (iv : Nat → Nat → Int) (cs : List (Nat × Nat)) (x1 : Int) (x2 : Int) (x3 : Int) (x4 : Int) (x5 : Int) (x6 : Int) (x7 : Int) (x8 : Int) (d9 : Option AV) (s0 : Int) (s1 : Int) : Run sc 117 94 [some (Rf 1), some (I x1), some (I x2), some (I x3), some (I x4), some (I x5), some (I x6), some (I x7), some (I x8), d9] [(I s0), (I s1)] (hq cs iv) = if 0 < s0 then Run sc 117 102 [some (Rf 1), some (I x1), some (I x2), some (I x3), some (I x4), some (I x5), some (I x6), some (I x7), some (I x8), d9] [(I 1), (I s1)] (hq cs iv) else Run sc 117 101 [some (Rf 1), some (I x1), some (I x2), some (I x3), some (I x4), some (I x5), some (I x6), some (I x7), some (I x8), d9] [(I s1)] (hq cs iv) :=
  (R_if_le mc_117 dL_backs_94 (t := 101) rfl).trans <| ite_c2
  ((R_iconst mc_117 dL_backs_97 ⟨by decide, by decide⟩).trans <|
  R_goto mc_117 dL_backs_98 (t := 102) rfl)
  (rfl)
theorem B_L_backs_101 (sc : Nat × (Nat → Int)) (iv : Nat → Nat → Int) (cs : List (Nat × Nat)) (x1 : Int) (x2 : Int) (x3 : Int) (x4 : Int) (x5 : Int) (x6 : Int) (x7 : Int) (x8 : Int) (d9 : Option AV) (s0 : Int) : Run sc 117 101 [some (Rf 1), some (I x1), some (I x2), some (I x3), some (I x4), some (I x5), some (I x6), some (I x7), some (I x8), d9] [(I s0)] (hq cs iv) = Run sc 117 102 [some (Rf 1), some (I x1), some (I x2), some (I x3), some (I x4), some (I x5), some (I x6), some (I x7), some (I x8), d9] [(I 0), (I s0)] (hq cs iv) :=
  R_iconst mc_117 dL_backs_101 ⟨by decide, by decide⟩
theorem B_L_backs_102 (sc : Nat × (Nat → Int)) (iv : Nat → Nat → Int) (cs : List (Nat × Nat)) (x1 : Int) (x2 : Int) (x3 : Int) (x4 : Int) (x5 : Int) (x6 : Int) (x7 : Int) (x8 : Int) (d9 : Option AV) (s0 : Int) (s1 : Int) : Run sc 117 102 [some (Rf 1), some (I x1), some (I x2), some (I x3), some (I x4), some (I x5), some (I x6), some (I x7), some (I x8), d9] [(I s0), (I s1)] (hq cs iv) = chk (s1 + s0) (chk (x8 + 1) (Run sc 117 21 [some (Rf 1), some (I x1), some (I x2), some (I x3), some (I x4), some (I x5), some (I (s1 + s0)), some (I x7), some (I (x8 + 1)), d9] [] (hq cs iv))) :=
  (R_iadd mc_117 dL_backs_102).trans <| chk_congr <|
  (R_istore mc_117 dL_backs_103 (Nat.le_of_ble_eq_true rfl)).trans <|
  (R_iinc mc_117 dL_backs_105 rfl).trans <| chk_congr <|
  R_goto mc_117 dL_backs_108 (t := 21) rfl
theorem B_L_backs_111 (sc : Nat × (Nat → Int)) (iv : Nat → Nat → Int) (cs : List (Nat × Nat)) (x1 : Int) (x2 : Int) (x3 : Int) (x4 : Int) (x5 : Int) (x6 : Int) (x7 : Int) (x8 : Int) (d9 : Option AV) : Run sc 117 111 [some (Rf 1), some (I x1), some (I x2), some (I x3), some (I x4), some (I x5), some (I x6), some (I x7), some (I x8), d9] [] (hq cs iv) = chk (x7 + 1) (Run sc 117 12 [some (Rf 1), some (I x1), some (I x2), some (I x3), some (I x4), some (I x5), some (I x6), some (I (x7 + 1)), some (I x8), d9] [] (hq cs iv)) :=
  (R_iinc mc_117 dL_backs_111 rfl).trans <| chk_congr <|
  R_goto mc_117 dL_backs_114 (t := 12) rfl
theorem B_L_backs_117 (sc : Nat × (Nat → Int)) (iv : Nat → Nat → Int) (cs : List (Nat × Nat)) (x1 : Int) (x2 : Int) (x3 : Int) (x4 : Int) (x5 : Int) (x6 : Int) (x7 : Int) (d8 : Option AV) (d9 : Option AV) : Run sc 117 117 [some (Rf 1), some (I x1), some (I x2), some (I x3), some (I x4), some (I x5), some (I x6), some (I x7), d8, d9] [] (hq cs iv) = aBind (Run sc 97 0 [some (Rf 1), some (I 1)] [] (hq cs iv)) (fun v h2 => Run sc 117 122 [some (Rf 1), some (I x1), some (I x2), some (I x3), some (I x4), some (I x5), some (I x6), some (I x7), d8, d9] (pushR v []) h2) :=
  (R_aload_n mc_117 dL_backs_117 rfl).trans <|
  (R_iconst mc_117 dL_backs_118 ⟨by decide, by decide⟩).trans <|
  R_invV mc_117 dL_backs_119 mo_117 ct_7_48 af_117_97 rfl rfl rfl ⟨Nat.le_of_ble_eq_true rfl, Nat.le_of_ble_eq_true rfl⟩
theorem B_L_backs_122 (sc : Nat × (Nat → Int)) (iv : Nat → Nat → Int) (cs : List (Nat × Nat)) (x1 : Int) (x2 : Int) (x3 : Int) (x4 : Int) (x5 : Int) (x6 : Int) (x7 : Int) (d8 : Option AV) (d9 : Option AV) (s0 : Int) : Run sc 117 122 [some (Rf 1), some (I x1), some (I x2), some (I x3), some (I x4), some (I x5), some (I x6), some (I x7), d8, d9] [(I s0)] (hq cs iv) = aBind (Run sc 97 0 [some (Rf 1), some (I 2)] [] (hq cs iv)) (fun v h2 => Run sc 117 129 [some (Rf 1), some (I x1), some (I x2), some (I x3), some (I x4), some (I x5), some (I x6), some (I s0), d8, d9] (pushR v []) h2) :=
  (R_istore mc_117 dL_backs_122 (Nat.le_of_ble_eq_true rfl)).trans <|
  (R_aload_n mc_117 dL_backs_124 rfl).trans <|
  (R_iconst mc_117 dL_backs_125 ⟨by decide, by decide⟩).trans <|
  R_invV mc_117 dL_backs_126 mo_117 ct_7_48 af_117_97 rfl rfl rfl ⟨Nat.le_of_ble_eq_true rfl, Nat.le_of_ble_eq_true rfl⟩
theorem B_L_backs_129 (sc : Nat × (Nat → Int)) (iv : Nat → Nat → Int) (cs : List (Nat × Nat)) (x1 : Int) (x2 : Int) (x3 : Int) (x4 : Int) (x5 : Int) (x6 : Int) (x7 : Int) (d8 : Option AV) (d9 : Option AV) (s0 : Int) : Run sc 117 129 [some (Rf 1), some (I x1), some (I x2), some (I x3), some (I x4), some (I x5), some (I x6), some (I x7), d8, d9] [(I s0)] (hq cs iv) = if x4 < x7 then Run sc 117 203 [some (Rf 1), some (I x1), some (I x2), some (I x3), some (I x4), some (I x5), some (I x6), some (I x7), some (I s0), d9] [] (hq cs iv) else chk (x6 - x4) (if x7 < (x6 - x4) then Run sc 117 203 [some (Rf 1), some (I x1), some (I x2), some (I x3), some (I x4), some (I x5), some (I x6), some (I x7), some (I s0), d9] [] (hq cs iv) else if s0 < x7 then Run sc 117 203 [some (Rf 1), some (I x1), some (I x2), some (I x3), some (I x4), some (I x5), some (I x6), some (I x7), some (I s0), d9] [] (hq cs iv) else chk (2 * s0) (if (2 * s0) < x5 then Run sc 117 203 [some (Rf 1), some (I x1), some (I x2), some (I x3), some (I x4), some (I x5), some (I x6), some (I x7), some (I s0), d9] [] (hq cs iv) else bck 1 2147483647 2 (bck 0 2147483647 x5 (chk ((x5 / 2) + x7) (if ((x5 / 2) + x7) < s0 then Run sc 117 203 [some (Rf 1), some (I x1), some (I x2), some (I x3), some (I x4), some (I x5), some (I x6), some (I x7), some (I s0), d9] [] (hq cs iv) else if x7 = 0 then Run sc 117 186 [some (Rf 1), some (I x1), some (I x2), some (I x3), some (I x4), some (I x5), some (I x6), some (I x7), some (I s0), d9] [(I 1)] (hq cs iv) else Run sc 117 185 [some (Rf 1), some (I x1), some (I x2), some (I x3), some (I x4), some (I x5), some (I x6), some (I x7), some (I s0), d9] [] (hq cs iv)))))) :=
  (R_istore mc_117 dL_backs_129 (Nat.le_of_ble_eq_true rfl)).trans <|
  (R_iload mc_117 dL_backs_131 rfl).trans <|
  (R_iload mc_117 dL_backs_133 rfl).trans <|
  (R_icmp_gt mc_117 dL_backs_135 (t := 203) rfl).trans <| ite_c2
  (rfl)
  ((R_iload mc_117 dL_backs_138 rfl).trans <|
  (R_iload mc_117 dL_backs_140 rfl).trans <|
  (R_iload mc_117 dL_backs_142 rfl).trans <|
  (R_isub mc_117 dL_backs_144).trans <| chk_congr <|
  (R_icmp_lt mc_117 dL_backs_145 (t := 203) rfl).trans <| ite_c2
  (rfl)
  ((R_iload mc_117 dL_backs_148 rfl).trans <|
  (R_iload mc_117 dL_backs_150 rfl).trans <|
  (R_icmp_lt mc_117 dL_backs_152 (t := 203) rfl).trans <| ite_c2
  (rfl)
  ((R_iconst mc_117 dL_backs_155 ⟨by decide, by decide⟩).trans <|
  (R_iload mc_117 dL_backs_156 rfl).trans <|
  (R_imul mc_117 dL_backs_158).trans <| chk_congr <|
  (R_iload mc_117 dL_backs_159 rfl).trans <|
  (R_icmp_lt mc_117 dL_backs_161 (t := 203) rfl).trans <| ite_c2
  (rfl)
  ((R_iload mc_117 dL_backs_164 rfl).trans <|
  (R_iload mc_117 dL_backs_166 rfl).trans <|
  (R_iconst mc_117 dL_backs_168 ⟨by decide, by decide⟩).trans <|
  (R_idiv mc_117 dL_backs_169).trans <| bck_congr <| bck_congr <|
  (R_iload mc_117 dL_backs_170 rfl).trans <|
  (R_iadd mc_117 dL_backs_172).trans <| chk_congr <|
  (R_icmp_gt mc_117 dL_backs_173 (t := 203) rfl).trans <| ite_c2
  (rfl)
  ((R_iload mc_117 dL_backs_176 rfl).trans <|
  (R_if_ne mc_117 dL_backs_178 (t := 185) rfl).trans <| ite_c2
  ((R_iconst mc_117 dL_backs_181 ⟨by decide, by decide⟩).trans <|
  R_goto mc_117 dL_backs_182 (t := 186) rfl)
  (rfl))))))
theorem B_L_backs_185 (sc : Nat × (Nat → Int)) (iv : Nat → Nat → Int) (cs : List (Nat × Nat)) (x1 : Int) (x2 : Int) (x3 : Int) (x4 : Int) (x5 : Int) (x6 : Int) (x7 : Int) (x8 : Int) (d9 : Option AV) : Run sc 117 185 [some (Rf 1), some (I x1), some (I x2), some (I x3), some (I x4), some (I x5), some (I x6), some (I x7), some (I x8), d9] [] (hq cs iv) = Run sc 117 186 [some (Rf 1), some (I x1), some (I x2), some (I x3), some (I x4), some (I x5), some (I x6), some (I x7), some (I x8), d9] [(I 0)] (hq cs iv) :=
  R_iconst mc_117 dL_backs_185 ⟨by decide, by decide⟩
theorem B_L_backs_186 (sc : Nat × (Nat → Int)) (iv : Nat → Nat → Int) (cs : List (Nat × Nat)) (x1 : Int) (x2 : Int) (x3 : Int) (x4 : Int) (x5 : Int) (x6 : Int) (x7 : Int) (x8 : Int) (d9 : Option AV) (s0 : Int) : Run sc 117 186 [some (Rf 1), some (I x1), some (I x2), some (I x3), some (I x4), some (I x5), some (I x6), some (I x7), some (I x8), d9] [(I s0)] (hq cs iv) = if x4 = 0 then Run sc 117 196 [some (Rf 1), some (I x1), some (I x2), some (I x3), some (I x4), some (I x5), some (I x6), some (I x7), some (I x8), d9] [(I 1), (I s0)] (hq cs iv) else Run sc 117 195 [some (Rf 1), some (I x1), some (I x2), some (I x3), some (I x4), some (I x5), some (I x6), some (I x7), some (I x8), d9] [(I s0)] (hq cs iv) :=
  (R_iload mc_117 dL_backs_186 rfl).trans <|
  (R_if_ne mc_117 dL_backs_188 (t := 195) rfl).trans <| ite_c2
  ((R_iconst mc_117 dL_backs_191 ⟨by decide, by decide⟩).trans <|
  R_goto mc_117 dL_backs_192 (t := 196) rfl)
  (rfl)
theorem B_L_backs_195 (sc : Nat × (Nat → Int)) (iv : Nat → Nat → Int) (cs : List (Nat × Nat)) (x1 : Int) (x2 : Int) (x3 : Int) (x4 : Int) (x5 : Int) (x6 : Int) (x7 : Int) (x8 : Int) (d9 : Option AV) (s0 : Int) : Run sc 117 195 [some (Rf 1), some (I x1), some (I x2), some (I x3), some (I x4), some (I x5), some (I x6), some (I x7), some (I x8), d9] [(I s0)] (hq cs iv) = Run sc 117 196 [some (Rf 1), some (I x1), some (I x2), some (I x3), some (I x4), some (I x5), some (I x6), some (I x7), some (I x8), d9] [(I 0), (I s0)] (hq cs iv) :=
  R_iconst mc_117 dL_backs_195 ⟨by decide, by decide⟩
theorem B_L_backs_196 (sc : Nat × (Nat → Int)) (iv : Nat → Nat → Int) (cs : List (Nat × Nat)) (x1 : Int) (x2 : Int) (x3 : Int) (x4 : Int) (x5 : Int) (x6 : Int) (x7 : Int) (x8 : Int) (d9 : Option AV) (s0 : Int) (s1 : Int) : Run sc 117 196 [some (Rf 1), some (I x1), some (I x2), some (I x3), some (I x4), some (I x5), some (I x6), some (I x7), some (I x8), d9] [(I s0), (I s1)] (hq cs iv) = if s1 = s0 then Run sc 117 204 [some (Rf 1), some (I x1), some (I x2), some (I x3), some (I x4), some (I x5), some (I x6), some (I x7), some (I x8), d9] [(I 1)] (hq cs iv) else Run sc 117 203 [some (Rf 1), some (I x1), some (I x2), some (I x3), some (I x4), some (I x5), some (I x6), some (I x7), some (I x8), d9] [] (hq cs iv) :=
  (R_icmp_ne mc_117 dL_backs_196 (t := 203) rfl).trans <| ite_c2
  ((R_iconst mc_117 dL_backs_199 ⟨by decide, by decide⟩).trans <|
  R_goto mc_117 dL_backs_200 (t := 204) rfl)
  (rfl)
theorem B_L_backs_203 (sc : Nat × (Nat → Int)) (iv : Nat → Nat → Int) (cs : List (Nat × Nat)) (x1 : Int) (x2 : Int) (x3 : Int) (x4 : Int) (x5 : Int) (x6 : Int) (x7 : Int) (x8 : Int) (d9 : Option AV) : Run sc 117 203 [some (Rf 1), some (I x1), some (I x2), some (I x3), some (I x4), some (I x5), some (I x6), some (I x7), some (I x8), d9] [] (hq cs iv) = Run sc 117 204 [some (Rf 1), some (I x1), some (I x2), some (I x3), some (I x4), some (I x5), some (I x6), some (I x7), some (I x8), d9] [(I 0)] (hq cs iv) :=
  R_iconst mc_117 dL_backs_203 ⟨by decide, by decide⟩
theorem B_L_backs_204 (sc : Nat × (Nat → Int)) (iv : Nat → Nat → Int) (cs : List (Nat × Nat)) (x1 : Int) (x2 : Int) (x3 : Int) (x4 : Int) (x5 : Int) (x6 : Int) (x7 : Int) (x8 : Int) (d9 : Option AV) (s0 : Int) : Run sc 117 204 [some (Rf 1), some (I x1), some (I x2), some (I x3), some (I x4), some (I x5), some (I x6), some (I x7), some (I x8), d9] [(I s0)] (hq cs iv) = if s0 = 0 then Run sc 117 311 [some (Rf 1), some (I x1), some (I x2), some (I x3), some (I x4), some (I x5), some (I x6), some (I x7), some (I x8), some (I s0)] [] (hq cs iv) else aBind (Run sc 97 0 [some (Rf 1), some (I 0)] [] (hq cs iv)) (fun v h2 => Run sc 117 216 [some (Rf 1), some (I x1), some (I x2), some (I x3), some (I x4), some (I x5), some (I x6), some (I x7), some (I x8), some (I s0)] (pushR v []) h2) :=
  (R_istore mc_117 dL_backs_204 (Nat.le_of_ble_eq_true rfl)).trans <|
  (R_iload mc_117 dL_backs_206 rfl).trans <|
  (R_if_eq mc_117 dL_backs_208 (t := 311) rfl).trans <| ite_c2
  (rfl)
  ((R_aload_n mc_117 dL_backs_211 rfl).trans <|
  (R_iconst mc_117 dL_backs_212 ⟨by decide, by decide⟩).trans <|
  R_invV mc_117 dL_backs_213 mo_117 ct_7_48 af_117_97 rfl rfl rfl ⟨Nat.le_of_ble_eq_true rfl, Nat.le_of_ble_eq_true rfl⟩)
theorem B_L_backs_216 (sc : Nat × (Nat → Int)) (iv : Nat → Nat → Int) (cs : List (Nat × Nat)) (x1 : Int) (x2 : Int) (x3 : Int) (x4 : Int) (x5 : Int) (x6 : Int) (x7 : Int) (x8 : Int) (x9 : Int) (s0 : Int) : Run sc 117 216 [some (Rf 1), some (I x1), some (I x2), some (I x3), some (I x4), some (I x5), some (I x6), some (I x7), some (I x8), some (I x9)] [(I s0)] (hq cs iv) = if s0 = x4 then aBind (Run sc 97 0 [some (Rf 1), some (I 3)] [] (hq cs iv)) (fun v h2 => Run sc 117 226 [some (Rf 1), some (I x1), some (I x2), some (I x3), some (I x4), some (I x5), some (I x6), some (I x7), some (I x8), some (I x9)] (pushR v []) h2) else Run sc 117 311 [some (Rf 1), some (I x1), some (I x2), some (I x3), some (I x4), some (I x5), some (I x6), some (I x7), some (I x8), some (I x9)] [] (hq cs iv) :=
  (R_iload mc_117 dL_backs_216 rfl).trans <|
  (R_icmp_ne mc_117 dL_backs_218 (t := 311) rfl).trans <| ite_c2
  ((R_aload_n mc_117 dL_backs_221 rfl).trans <|
  (R_iconst mc_117 dL_backs_222 ⟨by decide, by decide⟩).trans <|
  R_invV mc_117 dL_backs_223 mo_117 ct_7_48 af_117_97 rfl rfl rfl ⟨Nat.le_of_ble_eq_true rfl, Nat.le_of_ble_eq_true rfl⟩)
  (rfl)
theorem B_L_backs_226 (sc : Nat × (Nat → Int)) (iv : Nat → Nat → Int) (cs : List (Nat × Nat)) (x1 : Int) (x2 : Int) (x3 : Int) (x4 : Int) (x5 : Int) (x6 : Int) (x7 : Int) (x8 : Int) (x9 : Int) (s0 : Int) : Run sc 117 226 [some (Rf 1), some (I x1), some (I x2), some (I x3), some (I x4), some (I x5), some (I x6), some (I x7), some (I x8), some (I x9)] [(I s0)] (hq cs iv) = chk (20 * x4) (chk (2 * x3) (chk ((2 * x3) * x8) (chk ((20 * x4) + ((2 * x3) * x8)) (if s0 = ((20 * x4) + ((2 * x3) * x8)) then aBind (Run sc 97 0 [some (Rf 1), some (I 4)] [] (hq cs iv)) (fun v h2 => Run sc 117 246 [some (Rf 1), some (I x1), some (I x2), some (I x3), some (I x4), some (I x5), some (I x6), some (I x7), some (I x8), some (I x9)] (pushR v []) h2) else Run sc 117 311 [some (Rf 1), some (I x1), some (I x2), some (I x3), some (I x4), some (I x5), some (I x6), some (I x7), some (I x8), some (I x9)] [] (hq cs iv))))) :=
  (R_bipush mc_117 dL_backs_226 ⟨by decide, by decide⟩).trans <|
  (R_iload mc_117 dL_backs_228 rfl).trans <|
  (R_imul mc_117 dL_backs_230).trans <| chk_congr <|
  (R_iconst mc_117 dL_backs_231 ⟨by decide, by decide⟩).trans <|
  (R_iload_n mc_117 dL_backs_232 rfl).trans <|
  (R_imul mc_117 dL_backs_233).trans <| chk_congr <|
  (R_iload mc_117 dL_backs_234 rfl).trans <|
  (R_imul mc_117 dL_backs_236).trans <| chk_congr <|
  (R_iadd mc_117 dL_backs_237).trans <| chk_congr <|
  (R_icmp_ne mc_117 dL_backs_238 (t := 311) rfl).trans <| ite_c2
  ((R_aload_n mc_117 dL_backs_241 rfl).trans <|
  (R_iconst mc_117 dL_backs_242 ⟨by decide, by decide⟩).trans <|
  R_invV mc_117 dL_backs_243 mo_117 ct_7_48 af_117_97 rfl rfl rfl ⟨Nat.le_of_ble_eq_true rfl, Nat.le_of_ble_eq_true rfl⟩)
  (rfl)
theorem B_L_backs_246 (sc : Nat × (Nat → Int)) (iv : Nat → Nat → Int) (cs : List (Nat × Nat)) (x1 : Int) (x2 : Int) (x3 : Int) (x4 : Int) (x5 : Int) (x6 : Int) (x7 : Int) (x8 : Int) (x9 : Int) (s0 : Int) : Run sc 117 246 [some (Rf 1), some (I x1), some (I x2), some (I x3), some (I x4), some (I x5), some (I x6), some (I x7), some (I x8), some (I x9)] [(I s0)] (hq cs iv) = if s0 = x5 then aBind (Run sc 97 0 [some (Rf 1), some (I 5)] [] (hq cs iv)) (fun v h2 => Run sc 117 256 [some (Rf 1), some (I x1), some (I x2), some (I x3), some (I x4), some (I x5), some (I x6), some (I x7), some (I x8), some (I x9)] (pushR v []) h2) else Run sc 117 311 [some (Rf 1), some (I x1), some (I x2), some (I x3), some (I x4), some (I x5), some (I x6), some (I x7), some (I x8), some (I x9)] [] (hq cs iv) :=
  (R_iload mc_117 dL_backs_246 rfl).trans <|
  (R_icmp_ne mc_117 dL_backs_248 (t := 311) rfl).trans <| ite_c2
  ((R_aload_n mc_117 dL_backs_251 rfl).trans <|
  (R_iconst mc_117 dL_backs_252 ⟨by decide, by decide⟩).trans <|
  R_invV mc_117 dL_backs_253 mo_117 ct_7_48 af_117_97 rfl rfl rfl ⟨Nat.le_of_ble_eq_true rfl, Nat.le_of_ble_eq_true rfl⟩)
  (rfl)
theorem B_L_backs_256 (sc : Nat × (Nat → Int)) (iv : Nat → Nat → Int) (cs : List (Nat × Nat)) (x1 : Int) (x2 : Int) (x3 : Int) (x4 : Int) (x5 : Int) (x6 : Int) (x7 : Int) (x8 : Int) (x9 : Int) (s0 : Int) : Run sc 117 256 [some (Rf 1), some (I x1), some (I x2), some (I x3), some (I x4), some (I x5), some (I x6), some (I x7), some (I x8), some (I x9)] [(I s0)] (hq cs iv) = if s0 = (-2) then chk (x1 + 1) (aBind (Run sc 94 0 [some (Rf 1), some (I (x1 + 1)), some (I 0), some (I 1)] [] (hq cs iv)) (fun v h2 => Run sc 117 270 [some (Rf 1), some (I x1), some (I x2), some (I x3), some (I x4), some (I x5), some (I x6), some (I x7), some (I x8), some (I x9)] (pushR v []) h2)) else Run sc 117 311 [some (Rf 1), some (I x1), some (I x2), some (I x3), some (I x4), some (I x5), some (I x6), some (I x7), some (I x8), some (I x9)] [] (hq cs iv) :=
  (R_bipush mc_117 dL_backs_256 ⟨by decide, by decide⟩).trans <|
  (R_icmp_ne mc_117 dL_backs_258 (t := 311) rfl).trans <| ite_c2
  ((R_aload_n mc_117 dL_backs_261 rfl).trans <|
  (R_iload_n mc_117 dL_backs_262 rfl).trans <|
  (R_iconst mc_117 dL_backs_263 ⟨by decide, by decide⟩).trans <|
  (R_iadd mc_117 dL_backs_264).trans <| chk_congr <|
  (R_iconst mc_117 dL_backs_265 ⟨by decide, by decide⟩).trans <|
  (R_iconst mc_117 dL_backs_266 ⟨by decide, by decide⟩).trans <|
  R_invV mc_117 dL_backs_267 mo_117 ct_7_41 af_117_94 rfl rfl rfl ⟨Nat.le_of_ble_eq_true rfl, Nat.le_of_ble_eq_true rfl⟩)
  (rfl)
theorem B_L_backs_270 (sc : Nat × (Nat → Int)) (iv : Nat → Nat → Int) (cs : List (Nat × Nat)) (x1 : Int) (x2 : Int) (x3 : Int) (x4 : Int) (x5 : Int) (x6 : Int) (x7 : Int) (x8 : Int) (x9 : Int) (s0 : Int) : Run sc 117 270 [some (Rf 1), some (I x1), some (I x2), some (I x3), some (I x4), some (I x5), some (I x6), some (I x7), some (I x8), some (I x9)] [(I s0)] (hq cs iv) = if s0 = (-1) then aBind (Run sc 94 0 [some (Rf 1), some (I 0), some (I x2), some (I 1)] [] (hq cs iv)) (fun v h2 => Run sc 117 281 [some (Rf 1), some (I x1), some (I x2), some (I x3), some (I x4), some (I x5), some (I x6), some (I x7), some (I x8), some (I x9)] (pushR v []) h2) else Run sc 117 311 [some (Rf 1), some (I x1), some (I x2), some (I x3), some (I x4), some (I x5), some (I x6), some (I x7), some (I x8), some (I x9)] [] (hq cs iv) :=
  (R_iconst mc_117 dL_backs_270 ⟨by decide, by decide⟩).trans <|
  (R_icmp_ne mc_117 dL_backs_271 (t := 311) rfl).trans <| ite_c2
  ((R_aload_n mc_117 dL_backs_274 rfl).trans <|
  (R_iconst mc_117 dL_backs_275 ⟨by decide, by decide⟩).trans <|
  (R_iload_n mc_117 dL_backs_276 rfl).trans <|
  (R_iconst mc_117 dL_backs_277 ⟨by decide, by decide⟩).trans <|
  R_invV mc_117 dL_backs_278 mo_117 ct_7_41 af_117_94 rfl rfl rfl ⟨Nat.le_of_ble_eq_true rfl, Nat.le_of_ble_eq_true rfl⟩)
  (rfl)
theorem B_L_backs_281 (sc : Nat × (Nat → Int)) (iv : Nat → Nat → Int) (cs : List (Nat × Nat)) (x1 : Int) (x2 : Int) (x3 : Int) (x4 : Int) (x5 : Int) (x6 : Int) (x7 : Int) (x8 : Int) (x9 : Int) (s0 : Int) : Run sc 117 281 [some (Rf 1), some (I x1), some (I x2), some (I x3), some (I x4), some (I x5), some (I x6), some (I x7), some (I x8), some (I x9)] [(I s0)] (hq cs iv) = if s0 = (-1) then aBind (Run sc 94 0 [some (Rf 1), some (I x1), some (I 0), some (I 0)] [] (hq cs iv)) (fun v h2 => Run sc 117 292 [some (Rf 1), some (I x1), some (I x2), some (I x3), some (I x4), some (I x5), some (I x6), some (I x7), some (I x8), some (I x9)] (pushR v []) h2) else Run sc 117 311 [some (Rf 1), some (I x1), some (I x2), some (I x3), some (I x4), some (I x5), some (I x6), some (I x7), some (I x8), some (I x9)] [] (hq cs iv) :=
  (R_iconst mc_117 dL_backs_281 ⟨by decide, by decide⟩).trans <|
  (R_icmp_ne mc_117 dL_backs_282 (t := 311) rfl).trans <| ite_c2
  ((R_aload_n mc_117 dL_backs_285 rfl).trans <|
  (R_iload_n mc_117 dL_backs_286 rfl).trans <|
  (R_iconst mc_117 dL_backs_287 ⟨by decide, by decide⟩).trans <|
  (R_iconst mc_117 dL_backs_288 ⟨by decide, by decide⟩).trans <|
  R_invV mc_117 dL_backs_289 mo_117 ct_7_41 af_117_94 rfl rfl rfl ⟨Nat.le_of_ble_eq_true rfl, Nat.le_of_ble_eq_true rfl⟩)
  (rfl)
theorem B_L_backs_292 (sc : Nat × (Nat → Int)) (iv : Nat → Nat → Int) (cs : List (Nat × Nat)) (x1 : Int) (x2 : Int) (x3 : Int) (x4 : Int) (x5 : Int) (x6 : Int) (x7 : Int) (x8 : Int) (x9 : Int) (s0 : Int) : Run sc 117 292 [some (Rf 1), some (I x1), some (I x2), some (I x3), some (I x4), some (I x5), some (I x6), some (I x7), some (I x8), some (I x9)] [(I s0)] (hq cs iv) = if s0 = (-1) then aBind (Run sc 94 0 [some (Rf 1), some (I 0), some (I (-1)), some (I 0)] [] (hq cs iv)) (fun v h2 => Run sc 117 303 [some (Rf 1), some (I x1), some (I x2), some (I x3), some (I x4), some (I x5), some (I x6), some (I x7), some (I x8), some (I x9)] (pushR v []) h2) else Run sc 117 311 [some (Rf 1), some (I x1), some (I x2), some (I x3), some (I x4), some (I x5), some (I x6), some (I x7), some (I x8), some (I x9)] [] (hq cs iv) :=
  (R_iconst mc_117 dL_backs_292 ⟨by decide, by decide⟩).trans <|
  (R_icmp_ne mc_117 dL_backs_293 (t := 311) rfl).trans <| ite_c2
  ((R_aload_n mc_117 dL_backs_296 rfl).trans <|
  (R_iconst mc_117 dL_backs_297 ⟨by decide, by decide⟩).trans <|
  (R_iconst mc_117 dL_backs_298 ⟨by decide, by decide⟩).trans <|
  (R_iconst mc_117 dL_backs_299 ⟨by decide, by decide⟩).trans <|
  R_invV mc_117 dL_backs_300 mo_117 ct_7_41 af_117_94 rfl rfl rfl ⟨Nat.le_of_ble_eq_true rfl, Nat.le_of_ble_eq_true rfl⟩)
  (rfl)
theorem B_L_backs_303 (sc : Nat × (Nat → Int)) (iv : Nat → Nat → Int) (cs : List (Nat × Nat)) (x1 : Int) (x2 : Int) (x3 : Int) (x4 : Int) (x5 : Int) (x6 : Int) (x7 : Int) (x8 : Int) (x9 : Int) (s0 : Int) : Run sc 117 303 [some (Rf 1), some (I x1), some (I x2), some (I x3), some (I x4), some (I x5), some (I x6), some (I x7), some (I x8), some (I x9)] [(I s0)] (hq cs iv) = if s0 = (-1) then Run sc 117 312 [some (Rf 1), some (I x1), some (I x2), some (I x3), some (I x4), some (I x5), some (I x6), some (I x7), some (I x8), some (I x9)] [(I 1)] (hq cs iv) else Run sc 117 311 [some (Rf 1), some (I x1), some (I x2), some (I x3), some (I x4), some (I x5), some (I x6), some (I x7), some (I x8), some (I x9)] [] (hq cs iv) :=
  (R_iconst mc_117 dL_backs_303 ⟨by decide, by decide⟩).trans <|
  (R_icmp_ne mc_117 dL_backs_304 (t := 311) rfl).trans <| ite_c2
  ((R_iconst mc_117 dL_backs_307 ⟨by decide, by decide⟩).trans <|
  R_goto mc_117 dL_backs_308 (t := 312) rfl)
  (rfl)
theorem B_L_backs_311 (sc : Nat × (Nat → Int)) (iv : Nat → Nat → Int) (cs : List (Nat × Nat)) (x1 : Int) (x2 : Int) (x3 : Int) (x4 : Int) (x5 : Int) (x6 : Int) (x7 : Int) (x8 : Int) (x9 : Int) : Run sc 117 311 [some (Rf 1), some (I x1), some (I x2), some (I x3), some (I x4), some (I x5), some (I x6), some (I x7), some (I x8), some (I x9)] [] (hq cs iv) = Run sc 117 312 [some (Rf 1), some (I x1), some (I x2), some (I x3), some (I x4), some (I x5), some (I x6), some (I x7), some (I x8), some (I x9)] [(I 0)] (hq cs iv) :=
  R_iconst mc_117 dL_backs_311 ⟨by decide, by decide⟩
theorem B_L_backs_312 (sc : Nat × (Nat → Int)) (iv : Nat → Nat → Int) (cs : List (Nat × Nat)) (x1 : Int) (x2 : Int) (x3 : Int) (x4 : Int) (x5 : Int) (x6 : Int) (x7 : Int) (x8 : Int) (x9 : Int) (s0 : Int) : Run sc 117 312 [some (Rf 1), some (I x1), some (I x2), some (I x3), some (I x4), some (I x5), some (I x6), some (I x7), some (I x8), some (I x9)] [(I s0)] (hq cs iv) = bck 0 1 s0 (some (some (I s0), (hq cs iv))) :=
  R_ireturnZ mc_117 dL_backs_312 rfl
