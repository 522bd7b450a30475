theorem B_L_law_8 (sc : Nat × (Nat → Int)) (iv : Nat → Nat → Int) (cs : List (Nat × Nat)) (d2 : Option AV) (d3 : Option AV) (d4 : Option AV) (d5 : Option AV) (d6 : Option AV) (d7 : Option AV) (d8 : Option AV) (d9 : Option AV) (d10 : Option AV) (d11 : Option AV) (d12 : Option AV) (d13 : Option AV) (d14 : Option AV) (d15 : Option AV) (d16 : Option AV) (d17 : Option AV) : Run sc 0 8 [some (Rf 0), some (Rf 1), d2, d3, d4, d5, d6, d7, d8, d9, d10, d11, d12, d13, d14, d15, d16, d17] [] (hq cs iv) = aBind (Run sc 108 0 [some (Rf 0), some (I 0)] [] (hq cs iv)) (fun v h2 => Run sc 0 13 [some (Rf 0), some (Rf 1), d2, d3, d4, d5, d6, d7, d8, d9, d10, d11, d12, d13, d14, d15, d16, d17] (pushR v []) h2) :=
  (R_aload_n mc_0 dL_law_8 rfl).trans <|
  (R_iconst mc_0 dL_law_9 ⟨by decide, by decide⟩).trans <|
  R_invS mc_0 dL_law_10 mo_0 ct_7_117 (Or.inl rfl) af_0_108 (Nat.le_of_ble_eq_true rfl) rfl rfl ⟨Nat.le_of_ble_eq_true rfl, Nat.le_of_ble_eq_true rfl⟩
theorem B_L_law_13 (sc : Nat × (Nat → Int)) (iv : Nat → Nat → Int) (cs : List (Nat × Nat)) (d2 : Option AV) (d3 : Option AV) (d4 : Option AV) (d5 : Option AV) (d6 : Option AV) (d7 : Option AV) (d8 : Option AV) (d9 : Option AV) (d10 : Option AV) (d11 : Option AV) (d12 : Option AV) (d13 : Option AV) (d14 : Option AV) (d15 : Option AV) (d16 : Option AV) (d17 : Option AV) (s0 : Int) : Run sc 0 13 [some (Rf 0), some (Rf 1), d2, d3, d4, d5, d6, d7, d8, d9, d10, d11, d12, d13, d14, d15, d16, d17] [(I s0)] (hq cs iv) = aBind (Run sc 109 0 [some (I s0), some (I 12)] [] (hq cs iv)) (fun v h2 => Run sc 0 21 [some (Rf 0), some (Rf 1), some (I s0), d3, d4, d5, d6, d7, d8, d9, d10, d11, d12, d13, d14, d15, d16, d17] (pushR v [(I 1)]) h2) :=
  (R_istore_n mc_0 dL_law_13 (Nat.le_of_ble_eq_true rfl)).trans <|
  (R_iconst mc_0 dL_law_14 ⟨by decide, by decide⟩).trans <|
  (R_iload_n mc_0 dL_law_15 rfl).trans <|
  (R_bipush mc_0 dL_law_16 ⟨by decide, by decide⟩).trans <|
  R_invS mc_0 dL_law_18 mo_0 ct_7_61 (Or.inl rfl) af_0_109 (Nat.le_of_ble_eq_true rfl) rfl rfl ⟨Nat.le_of_ble_eq_true rfl, Nat.le_of_ble_eq_true rfl⟩
theorem B_L_law_21 (sc : Nat × (Nat → Int)) (iv : Nat → Nat → Int) (cs : List (Nat × Nat)) (x2 : Int) (d3 : Option AV) (d4 : Option AV) (d5 : Option AV) (d6 : Option AV) (d7 : Option AV) (d8 : Option AV) (d9 : Option AV) (d10 : Option AV) (d11 : Option AV) (d12 : Option AV) (d13 : Option AV) (d14 : Option AV) (d15 : Option AV) (d16 : Option AV) (d17 : Option AV) (s0 : Int) (s1 : Int) : Run sc 0 21 [some (Rf 0), some (Rf 1), some (I x2), d3, d4, d5, d6, d7, d8, d9, d10, d11, d12, d13, d14, d15, d16, d17] [(I s0), (I s1)] (hq cs iv) = chk (s1 + s0) (aBind (Run sc 109 0 [some (I (x2 / 16)), some (I 8)] [] (hq cs iv)) (fun v h2 => Run sc 0 32 [some (Rf 0), some (Rf 1), some (I x2), some (I (s1 + s0)), d4, d5, d6, d7, d8, d9, d10, d11, d12, d13, d14, d15, d16, d17] (pushR v [(I 1)]) h2)) :=
  (R_iadd mc_0 dL_law_21).trans <| chk_congr <|
  (R_istore_n mc_0 dL_law_22 (Nat.le_of_ble_eq_true rfl)).trans <|
  (R_iconst mc_0 dL_law_23 ⟨by decide, by decide⟩).trans <|
  (R_iload_n mc_0 dL_law_24 rfl).trans <|
  (R_iconst mc_0 dL_law_25 ⟨by decide, by decide⟩).trans <|
  (R_ishrK mc_0 dL_law_26 ⟨by decide, by decide⟩ (z := 16) rfl).trans <|
  (R_bipush mc_0 dL_law_27 ⟨by decide, by decide⟩).trans <|
  R_invS mc_0 dL_law_29 mo_0 ct_7_61 (Or.inl rfl) af_0_109 (Nat.le_of_ble_eq_true rfl) rfl rfl ⟨Nat.le_of_ble_eq_true rfl, Nat.le_of_ble_eq_true rfl⟩
theorem B_L_law_32 (sc : Nat × (Nat → Int)) (iv : Nat → Nat → Int) (cs : List (Nat × Nat)) (x2 : Int) (x3 : Int) (d4 : Option AV) (d5 : Option AV) (d6 : Option AV) (d7 : Option AV) (d8 : Option AV) (d9 : Option AV) (d10 : Option AV) (d11 : Option AV) (d12 : Option AV) (d13 : Option AV) (d14 : Option AV) (d15 : Option AV) (d16 : Option AV) (d17 : Option AV) (s0 : Int) (s1 : Int) : Run sc 0 32 [some (Rf 0), some (Rf 1), some (I x2), some (I x3), d4, d5, d6, d7, d8, d9, d10, d11, d12, d13, d14, d15, d16, d17] [(I s0), (I s1)] (hq cs iv) = chk (s1 + s0) (aBind (Run sc 77 0 [some (Rf 1), some (I x3), some (I (s1 + s0))] [] (hq cs iv)) (fun v h2 => Run sc 0 50 [some (Rf 0), some (Rf 1), some (I x2), some (I x3), some (I (s1 + s0)), some (I 60), some (I 30), d7, d8, d9, d10, d11, d12, d13, d14, d15, d16, d17] (pushR v []) h2)) :=
  (R_iadd mc_0 dL_law_32).trans <| chk_congr <|
  (R_istore mc_0 dL_law_33 (Nat.le_of_ble_eq_true rfl)).trans <|
  (R_bipush mc_0 dL_law_35 ⟨by decide, by decide⟩).trans <|
  (R_istore mc_0 dL_law_37 (Nat.le_of_ble_eq_true rfl)).trans <|
  (R_bipush mc_0 dL_law_39 ⟨by decide, by decide⟩).trans <|
  (R_istore mc_0 dL_law_41 (Nat.le_of_ble_eq_true rfl)).trans <|
  (R_aload_n mc_0 dL_law_43 rfl).trans <|
  (R_iload_n mc_0 dL_law_44 rfl).trans <|
  (R_iload mc_0 dL_law_45 rfl).trans <|
  R_invV mc_0 dL_law_47 mo_0 ct_7_96 af_0_77 rfl rfl rfl ⟨Nat.le_of_ble_eq_true rfl, Nat.le_of_ble_eq_true rfl⟩
theorem B_L_law_50 (sc : Nat × (Nat → Int)) (iv : Nat → Nat → Int) (cs : List (Nat × Nat)) (x2 : Int) (x3 : Int) (x4 : Int) (x5 : Int) (x6 : Int) (d7 : Option AV) (d8 : Option AV) (d9 : Option AV) (d10 : Option AV) (d11 : Option AV) (d12 : Option AV) (d13 : Option AV) (d14 : Option AV) (d15 : Option AV) (d16 : Option AV) (d17 : Option AV) (s0 : Int) : Run sc 0 50 [some (Rf 0), some (Rf 1), some (I x2), some (I x3), some (I x4), some (I x5), some (I x6), d7, d8, d9, d10, d11, d12, d13, d14, d15, d16, d17] [(I s0)] (hq cs iv) = chk (x3 * x4) (if s0 = (x3 * x4) then Run sc 0 59 [some (Rf 0), some (Rf 1), some (I x2), some (I x3), some (I x4), some (I x5), some (I x6), d7, d8, d9, d10, d11, d12, d13, d14, d15, d16, d17] [] (hq cs iv) else bck 0 1 0 (some (some (I 0), (hq cs iv)))) :=
  (R_iload_n mc_0 dL_law_50 rfl).trans <|
  (R_iload mc_0 dL_law_51 rfl).trans <|
  (R_imul mc_0 dL_law_53).trans <| chk_congr <|
  (R_icmp_eq mc_0 dL_law_54 (t := 59) rfl).trans <| ite_c2
  (rfl)
  ((R_iconst mc_0 dL_law_57 ⟨by decide, by decide⟩).trans <|
  R_ireturnZ mc_0 dL_law_58 rfl)
theorem B_L_law_59 (sc : Nat × (Nat → Int)) (iv : Nat → Nat → Int) (cs : List (Nat × Nat)) (x2 : Int) (x3 : Int) (x4 : Int) (x5 : Int) (x6 : Int) (d7 : Option AV) (d8 : Option AV) (d9 : Option AV) (d10 : Option AV) (d11 : Option AV) (d12 : Option AV) (d13 : Option AV) (d14 : Option AV) (d15 : Option AV) (d16 : Option AV) (d17 : Option AV) : Run sc 0 59 [some (Rf 0), some (Rf 1), some (I x2), some (I x3), some (I x4), some (I x5), some (I x6), d7, d8, d9, d10, d11, d12, d13, d14, d15, d16, d17] [] (hq cs iv) = Run sc 0 62 [some (Rf 0), some (Rf 1), some (I x2), some (I x3), some (I x4), some (I x5), some (I x6), some (I 0), d8, d9, d10, d11, d12, d13, d14, d15, d16, d17] [] (hq cs iv) :=
  (R_iconst mc_0 dL_law_59 ⟨by decide, by decide⟩).trans <|
  R_istore mc_0 dL_law_60 (Nat.le_of_ble_eq_true rfl)
theorem B_L_law_62 (sc : Nat × (Nat → Int)) (iv : Nat → Nat → Int) (cs : List (Nat × Nat)) (x2 : Int) (x3 : Int) (x4 : Int) (x5 : Int) (x6 : Int) (x7 : Int) (d8 : Option AV) (d9 : Option AV) (d10 : Option AV) (d11 : Option AV) (d12 : Option AV) (d13 : Option AV) (d14 : Option AV) (d15 : Option AV) (d16 : Option AV) (d17 : Option AV) : Run sc 0 62 [some (Rf 0), some (Rf 1), some (I x2), some (I x3), some (I x4), some (I x5), some (I x6), some (I x7), d8, d9, d10, d11, d12, d13, d14, d15, d16, d17] [] (hq cs iv) = if x7 < 34 then chk (2 * x7) (chk (1 + (2 * x7)) (aBind (Run sc 108 0 [some (Rf 0), some (I (1 + (2 * x7)))] [] (hq cs iv)) (fun v h2 => Run sc 0 79 [some (Rf 0), some (Rf 1), some (I x2), some (I x3), some (I x4), some (I x5), some (I x6), some (I x7), d8, d9, d10, d11, d12, d13, d14, d15, d16, d17] (pushR v []) h2))) else Run sc 0 757 [some (Rf 0), some (Rf 1), some (I x2), some (I x3), some (I x4), some (I x5), some (I x6), some (I x7), d8, d9, d10, d11, d12, d13, d14, d15, d16, d17] [] (hq cs iv) :=
  (R_iload mc_0 dL_law_62 rfl).trans <|
  (R_bipush mc_0 dL_law_64 ⟨by decide, by decide⟩).trans <|
  (R_icmp_ge mc_0 dL_law_66 (t := 757) rfl).trans <| ite_c2
  ((R_aload_n mc_0 dL_law_69 rfl).trans <|
  (R_iconst mc_0 dL_law_70 ⟨by decide, by decide⟩).trans <|
  (R_iconst mc_0 dL_law_71 ⟨by decide, by decide⟩).trans <|
  (R_iload mc_0 dL_law_72 rfl).trans <|
  (R_imul mc_0 dL_law_74).trans <| chk_congr <|
  (R_iadd mc_0 dL_law_75).trans <| chk_congr <|
  R_invS mc_0 dL_law_76 mo_0 ct_7_117 (Or.inl rfl) af_0_108 (Nat.le_of_ble_eq_true rfl) rfl rfl ⟨Nat.le_of_ble_eq_true rfl, Nat.le_of_ble_eq_true rfl⟩)
  (rfl)
theorem B_L_law_79 (sc : Nat × (Nat → Int)) (iv : Nat → Nat → Int) (cs : List (Nat × Nat)) (x2 : Int) (x3 : Int) (x4 : Int) (x5 : Int) (x6 : Int) (x7 : Int) (d8 : Option AV) (d9 : Option AV) (d10 : Option AV) (d11 : Option AV) (d12 : Option AV) (d13 : Option AV) (d14 : Option AV) (d15 : Option AV) (d16 : Option AV) (d17 : Option AV) (s0 : Int) : Run sc 0 79 [some (Rf 0), some (Rf 1), some (I x2), some (I x3), some (I x4), some (I x5), some (I x6), some (I x7), d8, d9, d10, d11, d12, d13, d14, d15, d16, d17] [(I s0)] (hq cs iv) = chk (2 * x7) (chk (2 + (2 * x7)) (aBind (Run sc 108 0 [some (Rf 0), some (I (2 + (2 * x7)))] [] (hq cs iv)) (fun v h2 => Run sc 0 91 [some (Rf 0), some (Rf 1), some (I x2), some (I x3), some (I x4), some (I x5), some (I x6), some (I x7), some (I s0), d9, d10, d11, d12, d13, d14, d15, d16, d17] (pushR v []) h2))) :=
  (R_istore mc_0 dL_law_79 (Nat.le_of_ble_eq_true rfl)).trans <|
  (R_aload_n mc_0 dL_law_81 rfl).trans <|
  (R_iconst mc_0 dL_law_82 ⟨by decide, by decide⟩).trans <|
  (R_iconst mc_0 dL_law_83 ⟨by decide, by decide⟩).trans <|
  (R_iload mc_0 dL_law_84 rfl).trans <|
  (R_imul mc_0 dL_law_86).trans <| chk_congr <|
  (R_iadd mc_0 dL_law_87).trans <| chk_congr <|
  R_invS mc_0 dL_law_88 mo_0 ct_7_117 (Or.inl rfl) af_0_108 (Nat.le_of_ble_eq_true rfl) rfl rfl ⟨Nat.le_of_ble_eq_true rfl, Nat.le_of_ble_eq_true rfl⟩
theorem B_L_law_91 (sc : Nat × (Nat → Int)) (iv : Nat → Nat → Int) (cs : List (Nat × Nat)) (x2 : Int) (x3 : Int) (x4 : Int) (x5 : Int) (x6 : Int) (x7 : Int) (x8 : Int) (d9 : Option AV) (d10 : Option AV) (d11 : Option AV) (d12 : Option AV) (d13 : Option AV) (d14 : Option AV) (d15 : Option AV) (d16 : Option AV) (d17 : Option AV) (s0 : Int) : Run sc 0 91 [some (Rf 0), some (Rf 1), some (I x2), some (I x3), some (I x4), some (I x5), some (I x6), some (I x7), some (I x8), d9, d10, d11, d12, d13, d14, d15, d16, d17] [(I s0)] (hq cs iv) = if x7 < 8 then bck 1 2147483647 2 (bck 0 2147483647 x7 (Run sc 0 114 [some (Rf 0), some (Rf 1), some (I x2), some (I x3), some (I x4), some (I x5), some (I x6), some (I x7), some (I x8), some (I s0), d10, d11, d12, d13, d14, d15, d16, d17] [(I (x7 % 2))] (hq cs iv))) else Run sc 0 107 [some (Rf 0), some (Rf 1), some (I x2), some (I x3), some (I x4), some (I x5), some (I x6), some (I x7), some (I x8), some (I s0), d10, d11, d12, d13, d14, d15, d16, d17] [] (hq cs iv) :=
  (R_istore mc_0 dL_law_91 (Nat.le_of_ble_eq_true rfl)).trans <|
  (R_iload mc_0 dL_law_93 rfl).trans <|
  (R_bipush mc_0 dL_law_95 ⟨by decide, by decide⟩).trans <|
  (R_icmp_ge mc_0 dL_law_97 (t := 107) rfl).trans <| ite_c2
  ((R_iload mc_0 dL_law_100 rfl).trans <|
  (R_iconst mc_0 dL_law_102 ⟨by decide, by decide⟩).trans <|
  (R_irem mc_0 dL_law_103).trans <| bck_congr <| bck_congr <|
  R_goto mc_0 dL_law_104 (t := 114) rfl)
  (rfl)
theorem B_L_law_107 (sc : Nat × (Nat → Int)) (iv : Nat → Nat → Int) (cs : List (Nat × Nat)) (x2 : Int) (x3 : Int) (x4 : Int) (x5 : Int) (x6 : Int) (x7 : Int) (x8 : Int) (x9 : Int) (d10 : Option AV) (d11 : Option AV) (d12 : Option AV) (d13 : Option AV) (d14 : Option AV) (d15 : Option AV) (d16 : Option AV) (d17 : Option AV) : Run sc 0 107 [some (Rf 0), some (Rf 1), some (I x2), some (I x3), some (I x4), some (I x5), some (I x6), some (I x7), some (I x8), some (I x9), d10, d11, d12, d13, d14, d15, d16, d17] [] (hq cs iv) = aBind (Run sc 109 0 [some (I x8), some (I 9)] [] (hq cs iv)) (fun v h2 => Run sc 0 114 [some (Rf 0), some (Rf 1), some (I x2), some (I x3), some (I x4), some (I x5), some (I x6), some (I x7), some (I x8), some (I x9), d10, d11, d12, d13, d14, d15, d16, d17] (pushR v []) h2) :=
  (R_iload mc_0 dL_law_107 rfl).trans <|
  (R_bipush mc_0 dL_law_109 ⟨by decide, by decide⟩).trans <|
  R_invS mc_0 dL_law_111 mo_0 ct_7_61 (Or.inl rfl) af_0_109 (Nat.le_of_ble_eq_true rfl) rfl rfl ⟨Nat.le_of_ble_eq_true rfl, Nat.le_of_ble_eq_true rfl⟩
theorem B_L_law_114 (sc : Nat × (Nat → Int)) (iv : Nat → Nat → Int) (cs : List (Nat × Nat)) (x2 : Int) (x3 : Int) (x4 : Int) (x5 : Int) (x6 : Int) (x7 : Int) (x8 : Int) (x9 : Int) (d10 : Option AV) (d11 : Option AV) (d12 : Option AV) (d13 : Option AV) (d14 : Option AV) (d15 : Option AV) (d16 : Option AV) (d17 : Option AV) (s0 : Int) : Run sc 0 114 [some (Rf 0), some (Rf 1), some (I x2), some (I x3), some (I x4), some (I x5), some (I x6), some (I x7), some (I x8), some (I x9), d10, d11, d12, d13, d14, d15, d16, d17] [(I s0)] (hq cs iv) = aBind (Run sc 109 0 [some (I (x8 / 16)), some (I x3)] [] (hq cs iv)) (fun v h2 => Run sc 0 124 [some (Rf 0), some (Rf 1), some (I x2), some (I x3), some (I x4), some (I x5), some (I x6), some (I x7), some (I x8), some (I x9), some (I s0), d11, d12, d13, d14, d15, d16, d17] (pushR v []) h2) :=
  (R_istore mc_0 dL_law_114 (Nat.le_of_ble_eq_true rfl)).trans <|
  (R_iload mc_0 dL_law_116 rfl).trans <|
  (R_iconst mc_0 dL_law_118 ⟨by decide, by decide⟩).trans <|
  (R_ishrK mc_0 dL_law_119 ⟨by decide, by decide⟩ (z := 16) rfl).trans <|
  (R_iload_n mc_0 dL_law_120 rfl).trans <|
  R_invS mc_0 dL_law_121 mo_0 ct_7_61 (Or.inl rfl) af_0_109 (Nat.le_of_ble_eq_true rfl) rfl rfl ⟨Nat.le_of_ble_eq_true rfl, Nat.le_of_ble_eq_true rfl⟩
theorem B_L_law_124 (sc : Nat × (Nat → Int)) (iv : Nat → Nat → Int) (cs : List (Nat × Nat)) (x2 : Int) (x3 : Int) (x4 : Int) (x5 : Int) (x6 : Int) (x7 : Int) (x8 : Int) (x9 : Int) (x10 : Int) (d11 : Option AV) (d12 : Option AV) (d13 : Option AV) (d14 : Option AV) (d15 : Option AV) (d16 : Option AV) (d17 : Option AV) (s0 : Int) : Run sc 0 124 [some (Rf 0), some (Rf 1), some (I x2), some (I x3), some (I x4), some (I x5), some (I x6), some (I x7), some (I x8), some (I x9), some (I x10), d11, d12, d13, d14, d15, d16, d17] [(I s0)] (hq cs iv) = aBind (Run sc 109 0 [some (I (x8 / 256)), some (I x4)] [] (hq cs iv)) (fun v h2 => Run sc 0 136 [some (Rf 0), some (Rf 1), some (I x2), some (I x3), some (I x4), some (I x5), some (I x6), some (I x7), some (I x8), some (I x9), some (I x10), some (I s0), d12, d13, d14, d15, d16, d17] (pushR v []) h2) :=
  (R_istore mc_0 dL_law_124 (Nat.le_of_ble_eq_true rfl)).trans <|
  (R_iload mc_0 dL_law_126 rfl).trans <|
  (R_bipush mc_0 dL_law_128 ⟨by decide, by decide⟩).trans <|
  (R_ishrK mc_0 dL_law_130 ⟨by decide, by decide⟩ (z := 256) rfl).trans <|
  (R_iload mc_0 dL_law_131 rfl).trans <|
  R_invS mc_0 dL_law_133 mo_0 ct_7_61 (Or.inl rfl) af_0_109 (Nat.le_of_ble_eq_true rfl) rfl rfl ⟨Nat.le_of_ble_eq_true rfl, Nat.le_of_ble_eq_true rfl⟩
theorem B_L_law_136 (sc : Nat × (Nat → Int)) (iv : Nat → Nat → Int) (cs : List (Nat × Nat)) (x2 : Int) (x3 : Int) (x4 : Int) (x5 : Int) (x6 : Int) (x7 : Int) (x8 : Int) (x9 : Int) (x10 : Int) (x11 : Int) (d12 : Option AV) (d13 : Option AV) (d14 : Option AV) (d15 : Option AV) (d16 : Option AV) (d17 : Option AV) (s0 : Int) : Run sc 0 136 [some (Rf 0), some (Rf 1), some (I x2), some (I x3), some (I x4), some (I x5), some (I x6), some (I x7), some (I x8), some (I x9), some (I x10), some (I x11), d12, d13, d14, d15, d16, d17] [(I s0)] (hq cs iv) = aBind (Run sc 109 0 [some (I x9), some (I 7)] [] (hq cs iv)) (fun v h2 => Run sc 0 145 [some (Rf 0), some (Rf 1), some (I x2), some (I x3), some (I x4), some (I x5), some (I x6), some (I x7), some (I x8), some (I x9), some (I x10), some (I x11), some (I s0), d13, d14, d15, d16, d17] (pushR v []) h2) :=
  (R_istore mc_0 dL_law_136 (Nat.le_of_ble_eq_true rfl)).trans <|
  (R_iload mc_0 dL_law_138 rfl).trans <|
  (R_bipush mc_0 dL_law_140 ⟨by decide, by decide⟩).trans <|
  R_invS mc_0 dL_law_142 mo_0 ct_7_61 (Or.inl rfl) af_0_109 (Nat.le_of_ble_eq_true rfl) rfl rfl ⟨Nat.le_of_ble_eq_true rfl, Nat.le_of_ble_eq_true rfl⟩
theorem B_L_law_145 (sc : Nat × (Nat → Int)) (iv : Nat → Nat → Int) (cs : List (Nat × Nat)) (x2 : Int) (x3 : Int) (x4 : Int) (x5 : Int) (x6 : Int) (x7 : Int) (x8 : Int) (x9 : Int) (x10 : Int) (x11 : Int) (x12 : Int) (d13 : Option AV) (d14 : Option AV) (d15 : Option AV) (d16 : Option AV) (d17 : Option AV) (s0 : Int) : Run sc 0 145 [some (Rf 0), some (Rf 1), some (I x2), some (I x3), some (I x4), some (I x5), some (I x6), some (I x7), some (I x8), some (I x9), some (I x10), some (I x11), some (I x12), d13, d14, d15, d16, d17] [(I s0)] (hq cs iv) = if x10 = 0 then aBind (Run sc 83 0 [some (Rf 1), some (I x11), some (I x12)] [] (hq cs iv)) (fun v h2 => Run sc 0 160 [some (Rf 0), some (Rf 1), some (I x2), some (I x3), some (I x4), some (I x5), some (I x6), some (I x7), some (I x8), some (I x9), some (I x10), some (I x11), some (I x12), some (I s0), d14, d15, d16, d17] (pushR v []) h2) else Run sc 0 237 [some (Rf 0), some (Rf 1), some (I x2), some (I x3), some (I x4), some (I x5), some (I x6), some (I x7), some (I x8), some (I x9), some (I x10), some (I x11), some (I x12), some (I s0), d14, d15, d16, d17] [] (hq cs iv) :=
  (R_istore mc_0 dL_law_145 (Nat.le_of_ble_eq_true rfl)).trans <|
  (R_iload mc_0 dL_law_147 rfl).trans <|
  (R_if_ne mc_0 dL_law_149 (t := 237) rfl).trans <| ite_c2
  ((R_aload_n mc_0 dL_law_152 rfl).trans <|
  (R_iload mc_0 dL_law_153 rfl).trans <|
  (R_iload mc_0 dL_law_155 rfl).trans <|
  R_invV mc_0 dL_law_157 mo_0 ct_7_15 af_0_83 rfl rfl rfl ⟨Nat.le_of_ble_eq_true rfl, Nat.le_of_ble_eq_true rfl⟩)
  (rfl)
theorem B_L_law_160 (sc : Nat × (Nat → Int)) (iv : Nat → Nat → Int) (cs : List (Nat × Nat)) (x2 : Int) (x3 : Int) (x4 : Int) (x5 : Int) (x6 : Int) (x7 : Int) (x8 : Int) (x9 : Int) (x10 : Int) (x11 : Int) (x12 : Int) (x13 : Int) (d14 : Option AV) (d15 : Option AV) (d16 : Option AV) (d17 : Option AV) (s0 : Int) : Run sc 0 160 [some (Rf 0), some (Rf 1), some (I x2), some (I x3), some (I x4), some (I x5), some (I x6), some (I x7), some (I x8), some (I x9), some (I x10), some (I x11), some (I x12), some (I x13), d14, d15, d16, d17] [(I s0)] (hq cs iv) = aBind (Run sc 81 0 [some (Rf 1), some (I x11), some (I x12), some (I x13), none] [] (hq cs iv)) (fun v h2 => Run sc 0 172 [some (Rf 0), some (Rf 1), some (I x2), some (I x3), some (I x4), some (I x5), some (I x6), some (I x7), some (I x8), some (I x9), some (I x10), some (I x11), some (I x12), some (I x13), some (I s0), d15, d16, d17] (pushR v []) h2) :=
  (R_istore mc_0 dL_law_160 (Nat.le_of_ble_eq_true rfl)).trans <|
  (R_aload_n mc_0 dL_law_162 rfl).trans <|
  (R_iload mc_0 dL_law_163 rfl).trans <|
  (R_iload mc_0 dL_law_165 rfl).trans <|
  (R_iload mc_0 dL_law_167 rfl).trans <|
  R_invV mc_0 dL_law_169 mo_0 ct_7_99 af_0_81 rfl rfl rfl ⟨Nat.le_of_ble_eq_true rfl, Nat.le_of_ble_eq_true rfl⟩
theorem B_L_law_172 (sc : Nat × (Nat → Int)) (iv : Nat → Nat → Int) (cs : List (Nat × Nat)) (x2 : Int) (x3 : Int) (x4 : Int) (x5 : Int) (x6 : Int) (x7 : Int) (x8 : Int) (x9 : Int) (x10 : Int) (x11 : Int) (x12 : Int) (x13 : Int) (x14 : Int) (d15 : Option AV) (d16 : Option AV) (d17 : Option AV) (s0 : Int) : Run sc 0 172 [some (Rf 0), some (Rf 1), some (I x2), some (I x3), some (I x4), some (I x5), some (I x6), some (I x7), some (I x8), some (I x9), some (I x10), some (I x11), some (I x12), some (I x13), some (I x14), d15, d16, d17] [(I s0)] (hq cs iv) = if s0 = x14 then aBind (Run sc 83 0 [some (Rf 1), some (I x11), some (I x12)] [] (hq cs iv)) (fun v h2 => Run sc 0 185 [some (Rf 0), some (Rf 1), some (I x2), some (I x3), some (I x4), some (I x5), some (I x6), some (I x7), some (I x8), some (I x9), some (I x10), some (I x11), some (I x12), some (I x13), some (I x14), d15, d16, d17] (pushR v []) h2) else Run sc 0 232 [some (Rf 0), some (Rf 1), some (I x2), some (I x3), some (I x4), some (I x5), some (I x6), some (I x7), some (I x8), some (I x9), some (I x10), some (I x11), some (I x12), some (I x13), some (I x14), d15, d16, d17] [] (hq cs iv) :=
  (R_iload mc_0 dL_law_172 rfl).trans <|
  (R_icmp_ne mc_0 dL_law_174 (t := 232) rfl).trans <| ite_c2
  ((R_aload_n mc_0 dL_law_177 rfl).trans <|
  (R_iload mc_0 dL_law_178 rfl).trans <|
  (R_iload mc_0 dL_law_180 rfl).trans <|
  R_invV mc_0 dL_law_182 mo_0 ct_7_15 af_0_83 rfl rfl rfl ⟨Nat.le_of_ble_eq_true rfl, Nat.le_of_ble_eq_true rfl⟩)
  (rfl)
theorem B_L_law_185 (sc : Nat × (Nat → Int)) (iv : Nat → Nat → Int) (cs : List (Nat × Nat)) (x2 : Int) (x3 : Int) (x4 : Int) (x5 : Int) (x6 : Int) (x7 : Int) (x8 : Int) (x9 : Int) (x10 : Int) (x11 : Int) (x12 : Int) (x13 : Int) (x14 : Int) (d15 : Option AV) (d16 : Option AV) (d17 : Option AV) (s0 : Int) : Run sc 0 185 [some (Rf 0), some (Rf 1), some (I x2), some (I x3), some (I x4), some (I x5), some (I x6), some (I x7), some (I x8), some (I x9), some (I x10), some (I x11), some (I x12), some (I x13), some (I x14), d15, d16, d17] [(I s0)] (hq cs iv) = if s0 = x13 then if x14 = x13 then Run sc 0 211 [some (Rf 0), some (Rf 1), some (I x2), some (I x3), some (I x4), some (I x5), some (I x6), some (I x7), some (I x8), some (I x9), some (I x10), some (I x11), some (I x12), some (I x13), some (I x14), d15, d16, d17] [] (hq cs iv) else if x13 = 0 then Run sc 0 211 [some (Rf 0), some (Rf 1), some (I x2), some (I x3), some (I x4), some (I x5), some (I x6), some (I x7), some (I x8), some (I x9), some (I x10), some (I x11), some (I x12), some (I x13), some (I x14), d15, d16, d17] [] (hq cs iv) else aBind (Run sc 112 0 [some (Rf 1), some (I x13), none, none, none, none, none, none, none, none] [] (hq cs iv)) (fun v h2 => Run sc 0 208 [some (Rf 0), some (Rf 1), some (I x2), some (I x3), some (I x4), some (I x5), some (I x6), some (I x7), some (I x8), some (I x9), some (I x10), some (I x11), some (I x12), some (I x13), some (I x14), d15, d16, d17] (pushR v []) h2) else Run sc 0 232 [some (Rf 0), some (Rf 1), some (I x2), some (I x3), some (I x4), some (I x5), some (I x6), some (I x7), some (I x8), some (I x9), some (I x10), some (I x11), some (I x12), some (I x13), some (I x14), d15, d16, d17] [] (hq cs iv) :=
  (R_iload mc_0 dL_law_185 rfl).trans <|
  (R_icmp_ne mc_0 dL_law_187 (t := 232) rfl).trans <| ite_c2
  ((R_iload mc_0 dL_law_190 rfl).trans <|
  (R_iload mc_0 dL_law_192 rfl).trans <|
  (R_icmp_eq mc_0 dL_law_194 (t := 211) rfl).trans <| ite_c2
  (rfl)
  ((R_iload mc_0 dL_law_197 rfl).trans <|
  (R_if_eq mc_0 dL_law_199 (t := 211) rfl).trans <| ite_c2
  (rfl)
  ((R_aload_n mc_0 dL_law_202 rfl).trans <|
  (R_iload mc_0 dL_law_203 rfl).trans <|
  R_invS mc_0 dL_law_205 mo_0 ct_7_82 (Or.inl rfl) af_0_112 (Nat.le_of_ble_eq_true rfl) rfl rfl ⟨Nat.le_of_ble_eq_true rfl, Nat.le_of_ble_eq_true rfl⟩)))
  (rfl)
theorem B_L_law_208 (sc : Nat × (Nat → Int)) (iv : Nat → Nat → Int) (cs : List (Nat × Nat)) (x2 : Int) (x3 : Int) (x4 : Int) (x5 : Int) (x6 : Int) (x7 : Int) (x8 : Int) (x9 : Int) (x10 : Int) (x11 : Int) (x12 : Int) (x13 : Int) (x14 : Int) (d15 : Option AV) (d16 : Option AV) (d17 : Option AV) (s0 : Int) : Run sc 0 208 [some (Rf 0), some (Rf 1), some (I x2), some (I x3), some (I x4), some (I x5), some (I x6), some (I x7), some (I x8), some (I x9), some (I x10), some (I x11), some (I x12), some (I x13), some (I x14), d15, d16, d17] [(I s0)] (hq cs iv) = if s0 = 0 then Run sc 0 232 [some (Rf 0), some (Rf 1), some (I x2), some (I x3), some (I x4), some (I x5), some (I x6), some (I x7), some (I x8), some (I x9), some (I x10), some (I x11), some (I x12), some (I x13), some (I x14), d15, d16, d17] [] (hq cs iv) else Run sc 0 211 [some (Rf 0), some (Rf 1), some (I x2), some (I x3), some (I x4), some (I x5), some (I x6), some (I x7), some (I x8), some (I x9), some (I x10), some (I x11), some (I x12), some (I x13), some (I x14), d15, d16, d17] [] (hq cs iv) :=
  R_if_eq mc_0 dL_law_208 (t := 232) rfl
theorem B_L_law_211 (sc : Nat × (Nat → Int)) (iv : Nat → Nat → Int) (cs : List (Nat × Nat)) (x2 : Int) (x3 : Int) (x4 : Int) (x5 : Int) (x6 : Int) (x7 : Int) (x8 : Int) (x9 : Int) (x10 : Int) (x11 : Int) (x12 : Int) (x13 : Int) (x14 : Int) (d15 : Option AV) (d16 : Option AV) (d17 : Option AV) : Run sc 0 211 [some (Rf 0), some (Rf 1), some (I x2), some (I x3), some (I x4), some (I x5), some (I x6), some (I x7), some (I x8), some (I x9), some (I x10), some (I x11), some (I x12), some (I x13), some (I x14), d15, d16, d17] [] (hq cs iv) = if x14 = x13 then Run sc 0 234 [some (Rf 0), some (Rf 1), some (I x2), some (I x3), some (I x4), some (I x5), some (I x6), some (I x7), some (I x8), some (I x9), some (I x10), some (I x11), some (I x12), some (I x13), some (I x14), d15, d16, d17] [] (hq cs iv) else if x14 = 0 then Run sc 0 234 [some (Rf 0), some (Rf 1), some (I x2), some (I x3), some (I x4), some (I x5), some (I x6), some (I x7), some (I x8), some (I x9), some (I x10), some (I x11), some (I x12), some (I x13), some (I x14), d15, d16, d17] [] (hq cs iv) else aBind (Run sc 112 0 [some (Rf 1), some (I x14), none, none, none, none, none, none, none, none] [] (hq cs iv)) (fun v h2 => Run sc 0 229 [some (Rf 0), some (Rf 1), some (I x2), some (I x3), some (I x4), some (I x5), some (I x6), some (I x7), some (I x8), some (I x9), some (I x10), some (I x11), some (I x12), some (I x13), some (I x14), d15, d16, d17] (pushR v []) h2) :=
  (R_iload mc_0 dL_law_211 rfl).trans <|
  (R_iload mc_0 dL_law_213 rfl).trans <|
  (R_icmp_eq mc_0 dL_law_215 (t := 234) rfl).trans <| ite_c2
  (rfl)
  ((R_iload mc_0 dL_law_218 rfl).trans <|
  (R_if_eq mc_0 dL_law_220 (t := 234) rfl).trans <| ite_c2
  (rfl)
  ((R_aload_n mc_0 dL_law_223 rfl).trans <|
  (R_iload mc_0 dL_law_224 rfl).trans <|
  R_invS mc_0 dL_law_226 mo_0 ct_7_82 (Or.inl rfl) af_0_112 (Nat.le_of_ble_eq_true rfl) rfl rfl ⟨Nat.le_of_ble_eq_true rfl, Nat.le_of_ble_eq_true rfl⟩))
theorem B_L_law_229 (sc : Nat × (Nat → Int)) (iv : Nat → Nat → Int) (cs : List (Nat × Nat)) (x2 : Int) (x3 : Int) (x4 : Int) (x5 : Int) (x6 : Int) (x7 : Int) (x8 : Int) (x9 : Int) (x10 : Int) (x11 : Int) (x12 : Int) (x13 : Int) (x14 : Int) (d15 : Option AV) (d16 : Option AV) (d17 : Option AV) (s0 : Int) : Run sc 0 229 [some (Rf 0), some (Rf 1), some (I x2), some (I x3), some (I x4), some (I x5), some (I x6), some (I x7), some (I x8), some (I x9), some (I x10), some (I x11), some (I x12), some (I x13), some (I x14), d15, d16, d17] [(I s0)] (hq cs iv) = if s0 = 0 then Run sc 0 232 [some (Rf 0), some (Rf 1), some (I x2), some (I x3), some (I x4), some (I x5), some (I x6), some (I x7), some (I x8), some (I x9), some (I x10), some (I x11), some (I x12), some (I x13), some (I x14), d15, d16, d17] [] (hq cs iv) else Run sc 0 234 [some (Rf 0), some (Rf 1), some (I x2), some (I x3), some (I x4), some (I x5), some (I x6), some (I x7), some (I x8), some (I x9), some (I x10), some (I x11), some (I x12), some (I x13), some (I x14), d15, d16, d17] [] (hq cs iv) :=
  R_if_ne mc_0 dL_law_229 (t := 234) rfl
theorem B_L_law_232 (sc : Nat × (Nat → Int)) (iv : Nat → Nat → Int) (cs : List (Nat × Nat)) (x2 : Int) (x3 : Int) (x4 : Int) (x5 : Int) (x6 : Int) (x7 : Int) (x8 : Int) (x9 : Int) (x10 : Int) (x11 : Int) (x12 : Int) (x13 : Int) (x14 : Int) (d15 : Option AV) (d16 : Option AV) (d17 : Option AV) : Run sc 0 232 [some (Rf 0), some (Rf 1), some (I x2), some (I x3), some (I x4), some (I x5), some (I x6), some (I x7), some (I x8), some (I x9), some (I x10), some (I x11), some (I x12), some (I x13), some (I x14), d15, d16, d17] [] (hq cs iv) = bck 0 1 0 (some (some (I 0), (hq cs iv))) :=
  (R_iconst mc_0 dL_law_232 ⟨by decide, by decide⟩).trans <|
  R_ireturnZ mc_0 dL_law_233 rfl
theorem B_L_law_234 (sc : Nat × (Nat → Int)) (iv : Nat → Nat → Int) (cs : List (Nat × Nat)) (x2 : Int) (x3 : Int) (x4 : Int) (x5 : Int) (x6 : Int) (x7 : Int) (x8 : Int) (x9 : Int) (x10 : Int) (x11 : Int) (x12 : Int) (x13 : Int) (x14 : Int) (d15 : Option AV) (d16 : Option AV) (d17 : Option AV) : Run sc 0 234 [some (Rf 0), some (Rf 1), some (I x2), some (I x3), some (I x4), some (I x5), some (I x6), some (I x7), some (I x8), some (I x9), some (I x10), some (I x11), some (I x12), some (I x13), some (I x14), d15, d16, d17] [] (hq cs iv) = Run sc 0 694 [some (Rf 0), some (Rf 1), some (I x2), some (I x3), some (I x4), some (I x5), some (I x6), some (I x7), some (I x8), some (I x9), some (I x10), some (I x11), some (I x12), some (I x13), some (I x14), d15, d16, d17] [] (hq cs iv) :=
  R_goto mc_0 dL_law_234 (t := 694) rfl
theorem B_L_law_237 (sc : Nat × (Nat → Int)) (iv : Nat → Nat → Int) (cs : List (Nat × Nat)) (x2 : Int) (x3 : Int) (x4 : Int) (x5 : Int) (x6 : Int) (x7 : Int) (x8 : Int) (x9 : Int) (x10 : Int) (x11 : Int) (x12 : Int) (x13 : Int) (d14 : Option AV) (d15 : Option AV) (d16 : Option AV) (d17 : Option AV) : Run sc 0 237 [some (Rf 0), some (Rf 1), some (I x2), some (I x3), some (I x4), some (I x5), some (I x6), some (I x7), some (I x8), some (I x9), some (I x10), some (I x11), some (I x12), some (I x13), d14, d15, d16, d17] [] (hq cs iv) = if x10 = 1 then chk (x3 - x11) (aBind (Run sc 109 0 [some (I (x9 / 8)), some (I (x3 - x11))] [] (hq cs iv)) (fun v h2 => Run sc 0 255 [some (Rf 0), some (Rf 1), some (I x2), some (I x3), some (I x4), some (I x5), some (I x6), some (I x7), some (I x8), some (I x9), some (I x10), some (I x11), some (I x12), some (I x13), d14, d15, d16, d17] (pushR v [(I 1)]) h2)) else Run sc 0 373 [some (Rf 0), some (Rf 1), some (I x2), some (I x3), some (I x4), some (I x5), some (I x6), some (I x7), some (I x8), some (I x9), some (I x10), some (I x11), some (I x12), some (I x13), d14, d15, d16, d17] [] (hq cs iv) :=
  (R_iload mc_0 dL_law_237 rfl).trans <|
  (R_iconst mc_0 dL_law_239 ⟨by decide, by decide⟩).trans <|
  (R_icmp_ne mc_0 dL_law_240 (t := 373) rfl).trans <| ite_c2
  ((R_iconst mc_0 dL_law_243 ⟨by decide, by decide⟩).trans <|
  (R_iload mc_0 dL_law_244 rfl).trans <|
  (R_iconst mc_0 dL_law_246 ⟨by decide, by decide⟩).trans <|
  (R_ishrK mc_0 dL_law_247 ⟨by decide, by decide⟩ (z := 8) rfl).trans <|
  (R_iload_n mc_0 dL_law_248 rfl).trans <|
  (R_iload mc_0 dL_law_249 rfl).trans <|
  (R_isub mc_0 dL_law_251).trans <| chk_congr <|
  R_invS mc_0 dL_law_252 mo_0 ct_7_61 (Or.inl rfl) af_0_109 (Nat.le_of_ble_eq_true rfl) rfl rfl ⟨Nat.le_of_ble_eq_true rfl, Nat.le_of_ble_eq_true rfl⟩)
  (rfl)
theorem B_L_law_255 (sc : Nat × (Nat → Int)) (iv : Nat → Nat → Int) (cs : List (Nat × Nat)) (x2 : Int) (x3 : Int) (x4 : Int) (x5 : Int) (x6 : Int) (x7 : Int) (x8 : Int) (x9 : Int) (x10 : Int) (x11 : Int) (x12 : Int) (x13 : Int) (d14 : Option AV) (d15 : Option AV) (d16 : Option AV) (d17 : Option AV) (s0 : Int) (s1 : Int) : Run sc 0 255 [some (Rf 0), some (Rf 1), some (I x2), some (I x3), some (I x4), some (I x5), some (I x6), some (I x7), some (I x8), some (I x9), some (I x10), some (I x11), some (I x12), some (I x13), d14, d15, d16, d17] [(I s0), (I s1)] (hq cs iv) = chk (s1 + s0) (chk (x4 - x12) (aBind (Run sc 109 0 [some (I (x9 / 128)), some (I (x4 - x12))] [] (hq cs iv)) (fun v h2 => Run sc 0 272 [some (Rf 0), some (Rf 1), some (I x2), some (I x3), some (I x4), some (I x5), some (I x6), some (I x7), some (I x8), some (I x9), some (I x10), some (I x11), some (I x12), some (I x13), some (I (s1 + s0)), d15, d16, d17] (pushR v [(I 1)]) h2))) :=
  (R_iadd mc_0 dL_law_255).trans <| chk_congr <|
  (R_istore mc_0 dL_law_256 (Nat.le_of_ble_eq_true rfl)).trans <|
  (R_iconst mc_0 dL_law_258 ⟨by decide, by decide⟩).trans <|
  (R_iload mc_0 dL_law_259 rfl).trans <|
  (R_bipush mc_0 dL_law_261 ⟨by decide, by decide⟩).trans <|
  (R_ishrK mc_0 dL_law_263 ⟨by decide, by decide⟩ (z := 128) rfl).trans <|
  (R_iload mc_0 dL_law_264 rfl).trans <|
  (R_iload mc_0 dL_law_266 rfl).trans <|
  (R_isub mc_0 dL_law_268).trans <| chk_congr <|
  R_invS mc_0 dL_law_269 mo_0 ct_7_61 (Or.inl rfl) af_0_109 (Nat.le_of_ble_eq_true rfl) rfl rfl ⟨Nat.le_of_ble_eq_true rfl, Nat.le_of_ble_eq_true rfl⟩
theorem B_L_law_272 (sc : Nat × (Nat → Int)) (iv : Nat → Nat → Int) (cs : List (Nat × Nat)) (x2 : Int) (x3 : Int) (x4 : Int) (x5 : Int) (x6 : Int) (x7 : Int) (x8 : Int) (x9 : Int) (x10 : Int) (x11 : Int) (x12 : Int) (x13 : Int) (x14 : Int) (d15 : Option AV) (d16 : Option AV) (d17 : Option AV) (s0 : Int) (s1 : Int) : Run sc 0 272 [some (Rf 0), some (Rf 1), some (I x2), some (I x3), some (I x4), some (I x5), some (I x6), some (I x7), some (I x8), some (I x9), some (I x10), some (I x11), some (I x12), some (I x13), some (I x14), d15, d16, d17] [(I s0), (I s1)] (hq cs iv) = chk (s1 + s0) (Run sc 0 281 [some (Rf 0), some (Rf 1), some (I x2), some (I x3), some (I x4), some (I x5), some (I x6), some (I x7), some (I x8), some (I x9), some (I x10), some (I x11), some (I x12), some (I x13), some (I x14), some (I (s1 + s0)), some (I 0), some (I 0)] [] (hq cs iv)) :=
  (R_iadd mc_0 dL_law_272).trans <| chk_congr <|
  (R_istore mc_0 dL_law_273 (Nat.le_of_ble_eq_true rfl)).trans <|
  (R_iconst mc_0 dL_law_275 ⟨by decide, by decide⟩).trans <|
  (R_istore mc_0 dL_law_276 (Nat.le_of_ble_eq_true rfl)).trans <|
  (R_iconst mc_0 dL_law_278 ⟨by decide, by decide⟩).trans <|
  R_istore mc_0 dL_law_279 (Nat.le_of_ble_eq_true rfl)
theorem B_L_law_281 (sc : Nat × (Nat → Int)) (iv : Nat → Nat → Int) (cs : List (Nat × Nat)) (x2 : Int) (x3 : Int) (x4 : Int) (x5 : Int) (x6 : Int) (x7 : Int) (x8 : Int) (x9 : Int) (x10 : Int) (x11 : Int) (x12 : Int) (x13 : Int) (x14 : Int) (x15 : Int) (x16 : Int) (x17 : Int) : Run sc 0 281 [some (Rf 0), some (Rf 1), some (I x2), some (I x3), some (I x4), some (I x5), some (I x6), some (I x7), some (I x8), some (I x9), some (I x10), some (I x11), some (I x12), some (I x13), some (I x14), some (I x15), some (I x16), some (I x17)] [] (hq cs iv) = chk (x14 * x15) (if x17 < (x14 * x15) then bck 1 2147483647 x14 (bck 0 2147483647 x17 (chk (x11 + (x17 % x14)) (bck 1 2147483647 x14 (bck 0 2147483647 x17 (chk (x12 + (x17 / x14)) (aBind (Run sc 83 0 [some (Rf 1), some (I (x11 + (x17 % x14))), some (I (x12 + (x17 / x14)))] [] (hq cs iv)) (fun v h2 => Run sc 0 313 [some (Rf 0), some (Rf 1), some (I x2), some (I x3), some (I x4), some (I x5), some (I x6), some (I x7), some (I x8), some (I x9), some (I x10), some (I x11), some (I x12), some (I x13), some (I x14), some (I x15), some (I x16), some (I x17)] (pushR v [(I x16)]) h2))))))) else Run sc 0 332 [some (Rf 0), some (Rf 1), some (I x2), some (I x3), some (I x4), some (I x5), some (I x6), some (I x7), some (I x8), some (I x9), some (I x10), some (I x11), some (I x12), some (I x13), some (I x14), some (I x15), some (I x16), some (I x17)] [] (hq cs iv)) :=
  (R_iload mc_0 dL_law_281 rfl).trans <|
  (R_iload mc_0 dL_law_283 rfl).trans <|
  (R_iload mc_0 dL_law_285 rfl).trans <|
  (R_imul mc_0 dL_law_287).trans <| chk_congr <|
  (R_icmp_ge mc_0 dL_law_288 (t := 332) rfl).trans <| ite_c2
  ((R_iload mc_0 dL_law_291 rfl).trans <|
  (R_aload_n mc_0 dL_law_293 rfl).trans <|
  (R_iload mc_0 dL_law_294 rfl).trans <|
  (R_iload mc_0 dL_law_296 rfl).trans <|
  (R_iload mc_0 dL_law_298 rfl).trans <|
  (R_irem mc_0 dL_law_300).trans <| bck_congr <| bck_congr <|
  (R_iadd mc_0 dL_law_301).trans <| chk_congr <|
  (R_iload mc_0 dL_law_302 rfl).trans <|
  (R_iload mc_0 dL_law_304 rfl).trans <|
  (R_iload mc_0 dL_law_306 rfl).trans <|
  (R_idiv mc_0 dL_law_308).trans <| bck_congr <| bck_congr <|
  (R_iadd mc_0 dL_law_309).trans <| chk_congr <|
  R_invV mc_0 dL_law_310 mo_0 ct_7_15 af_0_83 rfl rfl rfl ⟨Nat.le_of_ble_eq_true rfl, Nat.le_of_ble_eq_true rfl⟩)
  (rfl)
theorem B_L_law_313 (sc : Nat × (Nat → Int)) (iv : Nat → Nat → Int) (cs : List (Nat × Nat)) (x2 : Int) (x3 : Int) (x4 : Int) (x5 : Int) (x6 : Int) (x7 : Int) (x8 : Int) (x9 : Int) (x10 : Int) (x11 : Int) (x12 : Int) (x13 : Int) (x14 : Int) (x15 : Int) (x16 : Int) (x17 : Int) (s0 : Int) (s1 : Int) : Run sc 0 313 [some (Rf 0), some (Rf 1), some (I x2), some (I x3), some (I x4), some (I x5), some (I x6), some (I x7), some (I x8), some (I x9), some (I x10), some (I x11), some (I x12), some (I x13), some (I x14), some (I x15), some (I x16), some (I x17)] [(I s0), (I s1)] (hq cs iv) = if s0 = x13 then Run sc 0 323 [some (Rf 0), some (Rf 1), some (I x2), some (I x3), some (I x4), some (I x5), some (I x6), some (I x7), some (I x8), some (I x9), some (I x10), some (I x11), some (I x12), some (I x13), some (I x14), some (I x15), some (I x16), some (I x17)] [(I 0), (I s1)] (hq cs iv) else Run sc 0 322 [some (Rf 0), some (Rf 1), some (I x2), some (I x3), some (I x4), some (I x5), some (I x6), some (I x7), some (I x8), some (I x9), some (I x10), some (I x11), some (I x12), some (I x13), some (I x14), some (I x15), some (I x16), some (I x17)] [(I s1)] (hq cs iv) :=
  (R_iload mc_0 dL_law_313 rfl).trans <|
  (R_icmp_ne mc_0 dL_law_315 (t := 322) rfl).trans <| ite_c2
  ((R_iconst mc_0 dL_law_318 ⟨by decide, by decide⟩).trans <|
  R_goto mc_0 dL_law_319 (t := 323) rfl)
  (rfl)
theorem B_L_law_322 (sc : Nat × (Nat → Int)) (iv : Nat → Nat → Int) (cs : List (Nat × Nat)) (x2 : Int) (x3 : Int) (x4 : Int) (x5 : Int) (x6 : Int) (x7 : Int) (x8 : Int) (x9 : Int) (x10 : Int) (x11 : Int) (x12 : Int) (x13 : Int) (x14 : Int) (x15 : Int) (x16 : Int) (x17 : Int) (s0 : Int) : Run sc 0 322 [some (Rf 0), some (Rf 1), some (I x2), some (I x3), some (I x4), some (I x5), some (I x6), some (I x7), some (I x8), some (I x9), some (I x10), some (I x11), some (I x12), some (I x13), some (I x14), some (I x15), some (I x16), some (I x17)] [(I s0)] (hq cs iv) = Run sc 0 323 [some (Rf 0), some (Rf 1), some (I x2), some (I x3), some (I x4), some (I x5), some (I x6), some (I x7), some (I x8), some (I x9), some (I x10), some (I x11), some (I x12), some (I x13), some (I x14), some (I x15), some (I x16), some (I x17)] [(I 1), (I s0)] (hq cs iv) :=
  R_iconst mc_0 dL_law_322 ⟨by decide, by decide⟩
theorem B_L_law_323 (sc : Nat × (Nat → Int)) (iv : Nat → Nat → Int) (cs : List (Nat × Nat)) (x2 : Int) (x3 : Int) (x4 : Int) (x5 : Int) (x6 : Int) (x7 : Int) (x8 : Int) (x9 : Int) (x10 : Int) (x11 : Int) (x12 : Int) (x13 : Int) (x14 : Int) (x15 : Int) (x16 : Int) (x17 : Int) (s0 : Int) (s1 : Int) : Run sc 0 323 [some (Rf 0), some (Rf 1), some (I x2), some (I x3), some (I x4), some (I x5), some (I x6), some (I x7), some (I x8), some (I x9), some (I x10), some (I x11), some (I x12), some (I x13), some (I x14), some (I x15), some (I x16), some (I x17)] [(I s0), (I s1)] (hq cs iv) = chk (s1 + s0) (chk (x17 + 1) (Run sc 0 281 [some (Rf 0), some (Rf 1), some (I x2), some (I x3), some (I x4), some (I x5), some (I x6), some (I x7), some (I x8), some (I x9), some (I x10), some (I x11), some (I x12), some (I x13), some (I x14), some (I x15), some (I (s1 + s0)), some (I (x17 + 1))] [] (hq cs iv))) :=
  (R_iadd mc_0 dL_law_323).trans <| chk_congr <|
  (R_istore mc_0 dL_law_324 (Nat.le_of_ble_eq_true rfl)).trans <|
  (R_iinc mc_0 dL_law_326 rfl).trans <| chk_congr <|
  R_goto mc_0 dL_law_329 (t := 281) rfl
theorem B_L_law_332 (sc : Nat × (Nat → Int)) (iv : Nat → Nat → Int) (cs : List (Nat × Nat)) (x2 : Int) (x3 : Int) (x4 : Int) (x5 : Int) (x6 : Int) (x7 : Int) (x8 : Int) (x9 : Int) (x10 : Int) (x11 : Int) (x12 : Int) (x13 : Int) (x14 : Int) (x15 : Int) (x16 : Int) (x17 : Int) : Run sc 0 332 [some (Rf 0), some (Rf 1), some (I x2), some (I x3), some (I x4), some (I x5), some (I x6), some (I x7), some (I x8), some (I x9), some (I x10), some (I x11), some (I x12), some (I x13), some (I x14), some (I x15), some (I x16), some (I x17)] [] (hq cs iv) = aBind (Run sc 82 0 [some (Rf 1), some (I x11), some (I x12), some (I x14), some (I x15), some (I x13), none, none] [] (hq cs iv)) (fun v h2 => Run sc 0 346 [some (Rf 0), some (Rf 1), some (I x2), some (I x3), some (I x4), some (I x5), some (I x6), some (I x7), some (I x8), some (I x9), some (I x10), some (I x11), some (I x12), some (I x13), some (I x14), some (I x15), some (I x16), some (I x17)] (pushR v []) h2) :=
  (R_aload_n mc_0 dL_law_332 rfl).trans <|
  (R_iload mc_0 dL_law_333 rfl).trans <|
  (R_iload mc_0 dL_law_335 rfl).trans <|
  (R_iload mc_0 dL_law_337 rfl).trans <|
  (R_iload mc_0 dL_law_339 rfl).trans <|
  (R_iload mc_0 dL_law_341 rfl).trans <|
  R_invV mc_0 dL_law_343 mo_0 ct_7_102 af_0_82 rfl rfl rfl ⟨Nat.le_of_ble_eq_true rfl, Nat.le_of_ble_eq_true rfl⟩
theorem B_L_law_346 (sc : Nat × (Nat → Int)) (iv : Nat → Nat → Int) (cs : List (Nat × Nat)) (x2 : Int) (x3 : Int) (x4 : Int) (x5 : Int) (x6 : Int) (x7 : Int) (x8 : Int) (x9 : Int) (x10 : Int) (x11 : Int) (x12 : Int) (x13 : Int) (x14 : Int) (x15 : Int) (x16 : Int) (x17 : Int) (s0 : Int) : Run sc 0 346 [some (Rf 0), some (Rf 1), some (I x2), some (I x3), some (I x4), some (I x5), some (I x6), some (I x7), some (I x8), some (I x9), some (I x10), some (I x11), some (I x12), some (I x13), some (I x14), some (I x15), some (I x16), some (I x17)] [(I s0)] (hq cs iv) = if s0 = x16 then aBind (Run sc 82 0 [some (Rf 1), some (I x11), some (I x12), some (I x14), some (I x15), some (I x13), none, none] [] (hq cs iv)) (fun v h2 => Run sc 0 365 [some (Rf 0), some (Rf 1), some (I x2), some (I x3), some (I x4), some (I x5), some (I x6), some (I x7), some (I x8), some (I x9), some (I x10), some (I x11), some (I x12), some (I x13), some (I x14), some (I x15), some (I x16), some (I x17)] (pushR v []) h2) else Run sc 0 368 [some (Rf 0), some (Rf 1), some (I x2), some (I x3), some (I x4), some (I x5), some (I x6), some (I x7), some (I x8), some (I x9), some (I x10), some (I x11), some (I x12), some (I x13), some (I x14), some (I x15), some (I x16), some (I x17)] [] (hq cs iv) :=
  (R_iload mc_0 dL_law_346 rfl).trans <|
  (R_icmp_ne mc_0 dL_law_348 (t := 368) rfl).trans <| ite_c2
  ((R_aload_n mc_0 dL_law_351 rfl).trans <|
  (R_iload mc_0 dL_law_352 rfl).trans <|
  (R_iload mc_0 dL_law_354 rfl).trans <|
  (R_iload mc_0 dL_law_356 rfl).trans <|
  (R_iload mc_0 dL_law_358 rfl).trans <|
  (R_iload mc_0 dL_law_360 rfl).trans <|
  R_invV mc_0 dL_law_362 mo_0 ct_7_102 af_0_82 rfl rfl rfl ⟨Nat.le_of_ble_eq_true rfl, Nat.le_of_ble_eq_true rfl⟩)
  (rfl)
theorem B_L_law_365 (sc : Nat × (Nat → Int)) (iv : Nat → Nat → Int) (cs : List (Nat × Nat)) (x2 : Int) (x3 : Int) (x4 : Int) (x5 : Int) (x6 : Int) (x7 : Int) (x8 : Int) (x9 : Int) (x10 : Int) (x11 : Int) (x12 : Int) (x13 : Int) (x14 : Int) (x15 : Int) (x16 : Int) (x17 : Int) (s0 : Int) : Run sc 0 365 [some (Rf 0), some (Rf 1), some (I x2), some (I x3), some (I x4), some (I x5), some (I x6), some (I x7), some (I x8), some (I x9), some (I x10), some (I x11), some (I x12), some (I x13), some (I x14), some (I x15), some (I x16), some (I x17)] [(I s0)] (hq cs iv) = if s0 = 0 then Run sc 0 370 [some (Rf 0), some (Rf 1), some (I x2), some (I x3), some (I x4), some (I x5), some (I x6), some (I x7), some (I x8), some (I x9), some (I x10), some (I x11), some (I x12), some (I x13), some (I x14), some (I x15), some (I x16), some (I x17)] [] (hq cs iv) else Run sc 0 368 [some (Rf 0), some (Rf 1), some (I x2), some (I x3), some (I x4), some (I x5), some (I x6), some (I x7), some (I x8), some (I x9), some (I x10), some (I x11), some (I x12), some (I x13), some (I x14), some (I x15), some (I x16), some (I x17)] [] (hq cs iv) :=
  R_if_eq mc_0 dL_law_365 (t := 370) rfl
theorem B_L_law_368 (sc : Nat × (Nat → Int)) (iv : Nat → Nat → Int) (cs : List (Nat × Nat)) (x2 : Int) (x3 : Int) (x4 : Int) (x5 : Int) (x6 : Int) (x7 : Int) (x8 : Int) (x9 : Int) (x10 : Int) (x11 : Int) (x12 : Int) (x13 : Int) (x14 : Int) (x15 : Int) (x16 : Int) (x17 : Int) : Run sc 0 368 [some (Rf 0), some (Rf 1), some (I x2), some (I x3), some (I x4), some (I x5), some (I x6), some (I x7), some (I x8), some (I x9), some (I x10), some (I x11), some (I x12), some (I x13), some (I x14), some (I x15), some (I x16), some (I x17)] [] (hq cs iv) = bck 0 1 0 (some (some (I 0), (hq cs iv))) :=
  (R_iconst mc_0 dL_law_368 ⟨by decide, by decide⟩).trans <|
  R_ireturnZ mc_0 dL_law_369 rfl
theorem B_L_law_370 (sc : Nat × (Nat → Int)) (iv : Nat → Nat → Int) (cs : List (Nat × Nat)) (x2 : Int) (x3 : Int) (x4 : Int) (x5 : Int) (x6 : Int) (x7 : Int) (x8 : Int) (x9 : Int) (x10 : Int) (x11 : Int) (x12 : Int) (x13 : Int) (x14 : Int) (x15 : Int) (x16 : Int) (x17 : Int) : Run sc 0 370 [some (Rf 0), some (Rf 1), some (I x2), some (I x3), some (I x4), some (I x5), some (I x6), some (I x7), some (I x8), some (I x9), some (I x10), some (I x11), some (I x12), some (I x13), some (I x14), some (I x15), some (I x16), some (I x17)] [] (hq cs iv) = Run sc 0 694 [some (Rf 0), some (Rf 1), some (I x2), some (I x3), some (I x4), some (I x5), some (I x6), some (I x7), some (I x8), some (I x9), some (I x10), some (I x11), some (I x12), some (I x13), some (I x14), some (I x15), some (I x16), some (I x17)] [] (hq cs iv) :=
  R_goto mc_0 dL_law_370 (t := 694) rfl
theorem B_L_law_373 (sc : Nat × (Nat → Int)) (iv : Nat → Nat → Int) (cs : List (Nat × Nat)) (x2 : Int) (x3 : Int) (x4 : Int) (x5 : Int) (x6 : Int) (x7 : Int) (x8 : Int) (x9 : Int) (x10 : Int) (x11 : Int) (x12 : Int) (x13 : Int) (d14 : Option AV) (d15 : Option AV) (d16 : Option AV) (d17 : Option AV) : Run sc 0 373 [some (Rf 0), some (Rf 1), some (I x2), some (I x3), some (I x4), some (I x5), some (I x6), some (I x7), some (I x8), some (I x9), some (I x10), some (I x11), some (I x12), some (I x13), d14, d15, d16, d17] [] (hq cs iv) = if x10 = 2 then aBind (Run sc 115 0 [some (Rf 1), some (I x3), some (I x4), none, none, none, none, none, none, none, none, none, none] [] (hq cs iv)) (fun v h2 => Run sc 0 386 [some (Rf 0), some (Rf 1), some (I x2), some (I x3), some (I x4), some (I x5), some (I x6), some (I x7), some (I x8), some (I x9), some (I x10), some (I x11), some (I x12), some (I x13), d14, d15, d16, d17] (pushR v []) h2) else Run sc 0 391 [some (Rf 0), some (Rf 1), some (I x2), some (I x3), some (I x4), some (I x5), some (I x6), some (I x7), some (I x8), some (I x9), some (I x10), some (I x11), some (I x12), some (I x13), d14, d15, d16, d17] [] (hq cs iv) :=
  (R_iload mc_0 dL_law_373 rfl).trans <|
  (R_iconst mc_0 dL_law_375 ⟨by decide, by decide⟩).trans <|
  (R_icmp_ne mc_0 dL_law_376 (t := 391) rfl).trans <| ite_c2
  ((R_aload_n mc_0 dL_law_379 rfl).trans <|
  (R_iload_n mc_0 dL_law_380 rfl).trans <|
  (R_iload mc_0 dL_law_381 rfl).trans <|
  R_invS mc_0 dL_law_383 mo_0 ct_7_120 (Or.inl rfl) af_0_115 (Nat.le_of_ble_eq_true rfl) rfl rfl ⟨Nat.le_of_ble_eq_true rfl, Nat.le_of_ble_eq_true rfl⟩)
  (rfl)
theorem B_L_law_386 (sc : Nat × (Nat → Int)) (iv : Nat → Nat → Int) (cs : List (Nat × Nat)) (x2 : Int) (x3 : Int) (x4 : Int) (x5 : Int) (x6 : Int) (x7 : Int) (x8 : Int) (x9 : Int) (x10 : Int) (x11 : Int) (x12 : Int) (x13 : Int) (d14 : Option AV) (d15 : Option AV) (d16 : Option AV) (d17 : Option AV) (s0 : Int) : Run sc 0 386 [some (Rf 0), some (Rf 1), some (I x2), some (I x3), some (I x4), some (I x5), some (I x6), some (I x7), some (I x8), some (I x9), some (I x10), some (I x11), some (I x12), some (I x13), d14, d15, d16, d17] [(I s0)] (hq cs iv) = if s0 = 0 then bck 0 1 0 (some (some (I 0), (hq cs iv))) else Run sc 0 694 [some (Rf 0), some (Rf 1), some (I x2), some (I x3), some (I x4), some (I x5), some (I x6), some (I x7), some (I x8), some (I x9), some (I x10), some (I x11), some (I x12), some (I x13), d14, d15, d16, d17] [] (hq cs iv) :=
  (R_if_ne mc_0 dL_law_386 (t := 694) rfl).trans <| ite_c2
  ((R_iconst mc_0 dL_law_389 ⟨by decide, by decide⟩).trans <|
  R_ireturnZ mc_0 dL_law_390 rfl)
  (rfl)
theorem B_L_law_391 (sc : Nat × (Nat → Int)) (iv : Nat → Nat → Int) (cs : List (Nat × Nat)) (x2 : Int) (x3 : Int) (x4 : Int) (x5 : Int) (x6 : Int) (x7 : Int) (x8 : Int) (x9 : Int) (x10 : Int) (x11 : Int) (x12 : Int) (x13 : Int) (d14 : Option AV) (d15 : Option AV) (d16 : Option AV) (d17 : Option AV) : Run sc 0 391 [some (Rf 0), some (Rf 1), some (I x2), some (I x3), some (I x4), some (I x5), some (I x6), some (I x7), some (I x8), some (I x9), some (I x10), some (I x11), some (I x12), some (I x13), d14, d15, d16, d17] [] (hq cs iv) = if x10 = 3 then aBind (Run sc 109 0 [some (I x9), some (I 20)] [] (hq cs iv)) (fun v h2 => Run sc 0 405 [some (Rf 0), some (Rf 1), some (I x2), some (I x3), some (I x4), some (I x5), some (I x6), some (I x7), some (I x8), some (I x9), some (I x10), some (I x11), some (I x12), some (I x13), d14, d15, d16, d17] (pushR v [(I 1)]) h2) else Run sc 0 426 [some (Rf 0), some (Rf 1), some (I x2), some (I x3), some (I x4), some (I x5), some (I x6), some (I x7), some (I x8), some (I x9), some (I x10), some (I x11), some (I x12), some (I x13), d14, d15, d16, d17] [] (hq cs iv) :=
  (R_iload mc_0 dL_law_391 rfl).trans <|
  (R_iconst mc_0 dL_law_393 ⟨by decide, by decide⟩).trans <|
  (R_icmp_ne mc_0 dL_law_394 (t := 426) rfl).trans <| ite_c2
  ((R_iconst mc_0 dL_law_397 ⟨by decide, by decide⟩).trans <|
  (R_iload mc_0 dL_law_398 rfl).trans <|
  (R_bipush mc_0 dL_law_400 ⟨by decide, by decide⟩).trans <|
  R_invS mc_0 dL_law_402 mo_0 ct_7_61 (Or.inl rfl) af_0_109 (Nat.le_of_ble_eq_true rfl) rfl rfl ⟨Nat.le_of_ble_eq_true rfl, Nat.le_of_ble_eq_true rfl⟩)
  (rfl)
theorem B_L_law_405 (sc : Nat × (Nat → Int)) (iv : Nat → Nat → Int) (cs : List (Nat × Nat)) (x2 : Int) (x3 : Int) (x4 : Int) (x5 : Int) (x6 : Int) (x7 : Int) (x8 : Int) (x9 : Int) (x10 : Int) (x11 : Int) (x12 : Int) (x13 : Int) (d14 : Option AV) (d15 : Option AV) (d16 : Option AV) (d17 : Option AV) (s0 : Int) (s1 : Int) : Run sc 0 405 [some (Rf 0), some (Rf 1), some (I x2), some (I x3), some (I x4), some (I x5), some (I x6), some (I x7), some (I x8), some (I x9), some (I x10), some (I x11), some (I x12), some (I x13), d14, d15, d16, d17] [(I s0), (I s1)] (hq cs iv) = chk (s1 + s0) (aBind (Run sc 86 0 [some (Rf 1), some (I (s1 + s0)), none, none, none] [] (hq cs iv)) (fun v h2 => Run sc 0 414 [some (Rf 0), some (Rf 1), some (I x2), some (I x3), some (I x4), some (I x5), some (I x6), some (I x7), some (I x8), some (I x9), some (I x10), some (I x11), some (I x12), some (I x13), some (I (s1 + s0)), d15, d16, d17] (pushR v []) h2)) :=
  (R_iadd mc_0 dL_law_405).trans <| chk_congr <|
  (R_istore mc_0 dL_law_406 (Nat.le_of_ble_eq_true rfl)).trans <|
  (R_aload_n mc_0 dL_law_408 rfl).trans <|
  (R_iload mc_0 dL_law_409 rfl).trans <|
  R_invV mc_0 dL_law_411 mo_0 ct_7_38 af_0_86 rfl rfl rfl ⟨Nat.le_of_ble_eq_true rfl, Nat.le_of_ble_eq_true rfl⟩
theorem B_L_law_414 (sc : Nat × (Nat → Int)) (iv : Nat → Nat → Int) (cs : List (Nat × Nat)) (x2 : Int) (x3 : Int) (x4 : Int) (x5 : Int) (x6 : Int) (x7 : Int) (x8 : Int) (x9 : Int) (x10 : Int) (x11 : Int) (x12 : Int) (x13 : Int) (x14 : Int) (d15 : Option AV) (d16 : Option AV) (d17 : Option AV) (s0 : Int) : Run sc 0 414 [some (Rf 0), some (Rf 1), some (I x2), some (I x3), some (I x4), some (I x5), some (I x6), some (I x7), some (I x8), some (I x9), some (I x10), some (I x11), some (I x12), some (I x13), some (I x14), d15, d16, d17] [(I s0)] (hq cs iv) = if s0 < 0 then bck 0 1 0 (some (some (I 0), (hq cs iv))) else Run sc 0 423 [some (Rf 0), some (Rf 1), some (I x2), some (I x3), some (I x4), some (I x5), some (I x6), some (I x7), some (I x8), some (I x9), some (I x10), some (I x11), some (I x12), some (I x13), some (I x14), some (I s0), d16, d17] [] (hq cs iv) :=
  (R_istore mc_0 dL_law_414 (Nat.le_of_ble_eq_true rfl)).trans <|
  (R_iload mc_0 dL_law_416 rfl).trans <|
  (R_if_ge mc_0 dL_law_418 (t := 423) rfl).trans <| ite_c2
  ((R_iconst mc_0 dL_law_421 ⟨by decide, by decide⟩).trans <|
  R_ireturnZ mc_0 dL_law_422 rfl)
  (rfl)
theorem B_L_law_423 (sc : Nat × (Nat → Int)) (iv : Nat → Nat → Int) (cs : List (Nat × Nat)) (x2 : Int) (x3 : Int) (x4 : Int) (x5 : Int) (x6 : Int) (x7 : Int) (x8 : Int) (x9 : Int) (x10 : Int) (x11 : Int) (x12 : Int) (x13 : Int) (x14 : Int) (x15 : Int) (d16 : Option AV) (d17 : Option AV) : Run sc 0 423 [some (Rf 0), some (Rf 1), some (I x2), some (I x3), some (I x4), some (I x5), some (I x6), some (I x7), some (I x8), some (I x9), some (I x10), some (I x11), some (I x12), some (I x13), some (I x14), some (I x15), d16, d17] [] (hq cs iv) = Run sc 0 694 [some (Rf 0), some (Rf 1), some (I x2), some (I x3), some (I x4), some (I x5), some (I x6), some (I x7), some (I x8), some (I x9), some (I x10), some (I x11), some (I x12), some (I x13), some (I x14), some (I x15), d16, d17] [] (hq cs iv) :=
  R_goto mc_0 dL_law_423 (t := 694) rfl
theorem B_L_law_426 (sc : Nat × (Nat → Int)) (iv : Nat → Nat → Int) (cs : List (Nat × Nat)) (x2 : Int) (x3 : Int) (x4 : Int) (x5 : Int) (x6 : Int) (x7 : Int) (x8 : Int) (x9 : Int) (x10 : Int) (x11 : Int) (x12 : Int) (x13 : Int) (d14 : Option AV) (d15 : Option AV) (d16 : Option AV) (d17 : Option AV) : Run sc 0 426 [some (Rf 0), some (Rf 1), some (I x2), some (I x3), some (I x4), some (I x5), some (I x6), some (I x7), some (I x8), some (I x9), some (I x10), some (I x11), some (I x12), some (I x13), d14, d15, d16, d17] [] (hq cs iv) = if x10 = 4 then chk (1000 * x6) (chk ((1000 * x6) + x5) (aBind (Run sc 109 0 [some (I x9), some (I 120)] [] (hq cs iv)) (fun v h2 => Run sc 0 450 [some (Rf 0), some (Rf 1), some (I x2), some (I x3), some (I x4), some (I x5), some (I x6), some (I x7), some (I x8), some (I x9), some (I x10), some (I x11), some (I x12), some (I x13), some (I ((1000 * x6) + x5)), d15, d16, d17] (pushR v []) h2))) else Run sc 0 482 [some (Rf 0), some (Rf 1), some (I x2), some (I x3), some (I x4), some (I x5), some (I x6), some (I x7), some (I x8), some (I x9), some (I x10), some (I x11), some (I x12), some (I x13), d14, d15, d16, d17] [] (hq cs iv) :=
  (R_iload mc_0 dL_law_426 rfl).trans <|
  (R_iconst mc_0 dL_law_428 ⟨by decide, by decide⟩).trans <|
  (R_icmp_ne mc_0 dL_law_429 (t := 482) rfl).trans <| ite_c2
  ((R_sipush mc_0 dL_law_432 ⟨by decide, by decide⟩).trans <|
  (R_iload mc_0 dL_law_435 rfl).trans <|
  (R_imul mc_0 dL_law_437).trans <| chk_congr <|
  (R_iload mc_0 dL_law_438 rfl).trans <|
  (R_iadd mc_0 dL_law_440).trans <| chk_congr <|
  (R_istore mc_0 dL_law_441 (Nat.le_of_ble_eq_true rfl)).trans <|
  (R_iload mc_0 dL_law_443 rfl).trans <|
  (R_bipush mc_0 dL_law_445 ⟨by decide, by decide⟩).trans <|
  R_invS mc_0 dL_law_447 mo_0 ct_7_61 (Or.inl rfl) af_0_109 (Nat.le_of_ble_eq_true rfl) rfl rfl ⟨Nat.le_of_ble_eq_true rfl, Nat.le_of_ble_eq_true rfl⟩)
  (rfl)
theorem B_L_law_450 (sc : Nat × (Nat → Int)) (iv : Nat → Nat → Int) (cs : List (Nat × Nat)) (x2 : Int) (x3 : Int) (x4 : Int) (x5 : Int) (x6 : Int) (x7 : Int) (x8 : Int) (x9 : Int) (x10 : Int) (x11 : Int) (x12 : Int) (x13 : Int) (x14 : Int) (d15 : Option AV) (d16 : Option AV) (d17 : Option AV) (s0 : Int) : Run sc 0 450 [some (Rf 0), some (Rf 1), some (I x2), some (I x3), some (I x4), some (I x5), some (I x6), some (I x7), some (I x8), some (I x9), some (I x10), some (I x11), some (I x12), some (I x13), some (I x14), d15, d16, d17] [(I s0)] (hq cs iv) = aBind (Run sc 109 0 [some (I (x9 / 256)), some (I 60)] [] (hq cs iv)) (fun v h2 => Run sc 0 462 [some (Rf 0), some (Rf 1), some (I x2), some (I x3), some (I x4), some (I s0), some (I x6), some (I x7), some (I x8), some (I x9), some (I x10), some (I x11), some (I x12), some (I x13), some (I x14), d15, d16, d17] (pushR v []) h2) :=
  (R_istore mc_0 dL_law_450 (Nat.le_of_ble_eq_true rfl)).trans <|
  (R_iload mc_0 dL_law_452 rfl).trans <|
  (R_bipush mc_0 dL_law_454 ⟨by decide, by decide⟩).trans <|
  (R_ishrK mc_0 dL_law_456 ⟨by decide, by decide⟩ (z := 256) rfl).trans <|
  (R_bipush mc_0 dL_law_457 ⟨by decide, by decide⟩).trans <|
  R_invS mc_0 dL_law_459 mo_0 ct_7_61 (Or.inl rfl) af_0_109 (Nat.le_of_ble_eq_true rfl) rfl rfl ⟨Nat.le_of_ble_eq_true rfl, Nat.le_of_ble_eq_true rfl⟩
theorem B_L_law_462 (sc : Nat × (Nat → Int)) (iv : Nat → Nat → Int) (cs : List (Nat × Nat)) (x2 : Int) (x3 : Int) (x4 : Int) (x5 : Int) (x6 : Int) (x7 : Int) (x8 : Int) (x9 : Int) (x10 : Int) (x11 : Int) (x12 : Int) (x13 : Int) (x14 : Int) (d15 : Option AV) (d16 : Option AV) (d17 : Option AV) (s0 : Int) : Run sc 0 462 [some (Rf 0), some (Rf 1), some (I x2), some (I x3), some (I x4), some (I x5), some (I x6), some (I x7), some (I x8), some (I x9), some (I x10), some (I x11), some (I x12), some (I x13), some (I x14), d15, d16, d17] [(I s0)] (hq cs iv) = aBind (Run sc 92 0 [some (Rf 1), some (I x5), some (I s0), none] [] (hq cs iv)) (fun v h2 => Run sc 0 472 [some (Rf 0), some (Rf 1), some (I x2), some (I x3), some (I x4), some (I x5), some (I s0), some (I x7), some (I x8), some (I x9), some (I x10), some (I x11), some (I x12), some (I x13), some (I x14), d15, d16, d17] (pushR v []) h2) :=
  (R_istore mc_0 dL_law_462 (Nat.le_of_ble_eq_true rfl)).trans <|
  (R_aload_n mc_0 dL_law_464 rfl).trans <|
  (R_iload mc_0 dL_law_465 rfl).trans <|
  (R_iload mc_0 dL_law_467 rfl).trans <|
  R_invV mc_0 dL_law_469 mo_0 ct_7_106 af_0_92 rfl rfl rfl ⟨Nat.le_of_ble_eq_true rfl, Nat.le_of_ble_eq_true rfl⟩
theorem B_L_law_472 (sc : Nat × (Nat → Int)) (iv : Nat → Nat → Int) (cs : List (Nat × Nat)) (x2 : Int) (x3 : Int) (x4 : Int) (x5 : Int) (x6 : Int) (x7 : Int) (x8 : Int) (x9 : Int) (x10 : Int) (x11 : Int) (x12 : Int) (x13 : Int) (x14 : Int) (d15 : Option AV) (d16 : Option AV) (d17 : Option AV) (s0 : Int) : Run sc 0 472 [some (Rf 0), some (Rf 1), some (I x2), some (I x3), some (I x4), some (I x5), some (I x6), some (I x7), some (I x8), some (I x9), some (I x10), some (I x11), some (I x12), some (I x13), some (I x14), d15, d16, d17] [(I s0)] (hq cs iv) = if s0 = x14 then Run sc 0 479 [some (Rf 0), some (Rf 1), some (I x2), some (I x3), some (I x4), some (I x5), some (I x6), some (I x7), some (I x8), some (I x9), some (I x10), some (I x11), some (I x12), some (I x13), some (I x14), d15, d16, d17] [] (hq cs iv) else bck 0 1 0 (some (some (I 0), (hq cs iv))) :=
  (R_iload mc_0 dL_law_472 rfl).trans <|
  (R_icmp_eq mc_0 dL_law_474 (t := 479) rfl).trans <| ite_c2
  (rfl)
  ((R_iconst mc_0 dL_law_477 ⟨by decide, by decide⟩).trans <|
  R_ireturnZ mc_0 dL_law_478 rfl)
theorem B_L_law_479 (sc : Nat × (Nat → Int)) (iv : Nat → Nat → Int) (cs : List (Nat × Nat)) (x2 : Int) (x3 : Int) (x4 : Int) (x5 : Int) (x6 : Int) (x7 : Int) (x8 : Int) (x9 : Int) (x10 : Int) (x11 : Int) (x12 : Int) (x13 : Int) (x14 : Int) (d15 : Option AV) (d16 : Option AV) (d17 : Option AV) : Run sc 0 479 [some (Rf 0), some (Rf 1), some (I x2), some (I x3), some (I x4), some (I x5), some (I x6), some (I x7), some (I x8), some (I x9), some (I x10), some (I x11), some (I x12), some (I x13), some (I x14), d15, d16, d17] [] (hq cs iv) = Run sc 0 694 [some (Rf 0), some (Rf 1), some (I x2), some (I x3), some (I x4), some (I x5), some (I x6), some (I x7), some (I x8), some (I x9), some (I x10), some (I x11), some (I x12), some (I x13), some (I x14), d15, d16, d17] [] (hq cs iv) :=
  R_goto mc_0 dL_law_479 (t := 694) rfl
theorem B_L_law_482 (sc : Nat × (Nat → Int)) (iv : Nat → Nat → Int) (cs : List (Nat × Nat)) (x2 : Int) (x3 : Int) (x4 : Int) (x5 : Int) (x6 : Int) (x7 : Int) (x8 : Int) (x9 : Int) (x10 : Int) (x11 : Int) (x12 : Int) (x13 : Int) (d14 : Option AV) (d15 : Option AV) (d16 : Option AV) (d17 : Option AV) : Run sc 0 482 [some (Rf 0), some (Rf 1), some (I x2), some (I x3), some (I x4), some (I x5), some (I x6), some (I x7), some (I x8), some (I x9), some (I x10), some (I x11), some (I x12), some (I x13), d14, d15, d16, d17] [] (hq cs iv) = if x10 = 5 then aBind (Run sc 109 0 [some (I x9), some (I 6)] [] (hq cs iv)) (fun v h2 => Run sc 0 497 [some (Rf 0), some (Rf 1), some (I x2), some (I x3), some (I x4), some (I x5), some (I x6), some (I x7), some (I x8), some (I x9), some (I x10), some (I x11), some (I x12), some (I x13), d14, d15, d16, d17] (pushR v [(I 1), (Rf 1)]) h2) else Run sc 0 510 [some (Rf 0), some (Rf 1), some (I x2), some (I x3), some (I x4), some (I x5), some (I x6), some (I x7), some (I x8), some (I x9), some (I x10), some (I x11), some (I x12), some (I x13), d14, d15, d16, d17] [] (hq cs iv) :=
  (R_iload mc_0 dL_law_482 rfl).trans <|
  (R_iconst mc_0 dL_law_484 ⟨by decide, by decide⟩).trans <|
  (R_icmp_ne mc_0 dL_law_485 (t := 510) rfl).trans <| ite_c2
  ((R_aload_n mc_0 dL_law_488 rfl).trans <|
  (R_iconst mc_0 dL_law_489 ⟨by decide, by decide⟩).trans <|
  (R_iload mc_0 dL_law_490 rfl).trans <|
  (R_bipush mc_0 dL_law_492 ⟨by decide, by decide⟩).trans <|
  R_invS mc_0 dL_law_494 mo_0 ct_7_61 (Or.inl rfl) af_0_109 (Nat.le_of_ble_eq_true rfl) rfl rfl ⟨Nat.le_of_ble_eq_true rfl, Nat.le_of_ble_eq_true rfl⟩)
  (rfl)
theorem B_L_law_497 (sc : Nat × (Nat → Int)) (iv : Nat → Nat → Int) (cs : List (Nat × Nat)) (x2 : Int) (x3 : Int) (x4 : Int) (x5 : Int) (x6 : Int) (x7 : Int) (x8 : Int) (x9 : Int) (x10 : Int) (x11 : Int) (x12 : Int) (x13 : Int) (d14 : Option AV) (d15 : Option AV) (d16 : Option AV) (d17 : Option AV) (s0 : Int) (s1 : Int) : Run sc 0 497 [some (Rf 0), some (Rf 1), some (I x2), some (I x3), some (I x4), some (I x5), some (I x6), some (I x7), some (I x8), some (I x9), some (I x10), some (I x11), some (I x12), some (I x13), d14, d15, d16, d17] [(I s0), (I s1), (Rf 1)] (hq cs iv) = chk (s1 + s0) (aBind (Run sc 120 0 [some (Rf 1), some (I (s1 + s0)), some (I (x8 / 16)), none, none, none, none, none, none, none] [] (hq cs iv)) (fun v h2 => Run sc 0 505 [some (Rf 0), some (Rf 1), some (I x2), some (I x3), some (I x4), some (I x5), some (I x6), some (I x7), some (I x8), some (I x9), some (I x10), some (I x11), some (I x12), some (I x13), d14, d15, d16, d17] (pushR v []) h2)) :=
  (R_iadd mc_0 dL_law_497).trans <| chk_congr <|
  (R_iload mc_0 dL_law_498 rfl).trans <|
  (R_iconst mc_0 dL_law_500 ⟨by decide, by decide⟩).trans <|
  (R_ishrK mc_0 dL_law_501 ⟨by decide, by decide⟩ (z := 16) rfl).trans <|
  R_invS mc_0 dL_law_502 mo_0 ct_7_124 (Or.inl rfl) af_0_120 (Nat.le_of_ble_eq_true rfl) rfl rfl ⟨Nat.le_of_ble_eq_true rfl, Nat.le_of_ble_eq_true rfl⟩
theorem B_L_law_505 (sc : Nat × (Nat → Int)) (iv : Nat → Nat → Int) (cs : List (Nat × Nat)) (x2 : Int) (x3 : Int) (x4 : Int) (x5 : Int) (x6 : Int) (x7 : Int) (x8 : Int) (x9 : Int) (x10 : Int) (x11 : Int) (x12 : Int) (x13 : Int) (d14 : Option AV) (d15 : Option AV) (d16 : Option AV) (d17 : Option AV) (s0 : Int) : Run sc 0 505 [some (Rf 0), some (Rf 1), some (I x2), some (I x3), some (I x4), some (I x5), some (I x6), some (I x7), some (I x8), some (I x9), some (I x10), some (I x11), some (I x12), some (I x13), d14, d15, d16, d17] [(I s0)] (hq cs iv) = if s0 = 0 then bck 0 1 0 (some (some (I 0), (hq cs iv))) else Run sc 0 694 [some (Rf 0), some (Rf 1), some (I x2), some (I x3), some (I x4), some (I x5), some (I x6), some (I x7), some (I x8), some (I x9), some (I x10), some (I x11), some (I x12), some (I x13), d14, d15, d16, d17] [] (hq cs iv) :=
  (R_if_ne mc_0 dL_law_505 (t := 694) rfl).trans <| ite_c2
  ((R_iconst mc_0 dL_law_508 ⟨by decide, by decide⟩).trans <|
  R_ireturnZ mc_0 dL_law_509 rfl)
  (rfl)
theorem B_L_law_510 (sc : Nat × (Nat → Int)) (iv : Nat → Nat → Int) (cs : List (Nat × Nat)) (x2 : Int) (x3 : Int) (x4 : Int) (x5 : Int) (x6 : Int) (x7 : Int) (x8 : Int) (x9 : Int) (x10 : Int) (x11 : Int) (x12 : Int) (x13 : Int) (d14 : Option AV) (d15 : Option AV) (d16 : Option AV) (d17 : Option AV) : Run sc 0 510 [some (Rf 0), some (Rf 1), some (I x2), some (I x3), some (I x4), some (I x5), some (I x6), some (I x7), some (I x8), some (I x9), some (I x10), some (I x11), some (I x12), some (I x13), d14, d15, d16, d17] [] (hq cs iv) = if x10 = 6 then aBind (Run sc 109 0 [some (I x9), some (I 6)] [] (hq cs iv)) (fun v h2 => Run sc 0 529 [some (Rf 0), some (Rf 1), some (I x2), some (I x3), some (I x4), some (I x5), some (I x6), some (I x7), some (I x8), some (I x9), some (I x10), some (I x11), some (I x12), some (I x13), d14, d15, d16, d17] (pushR v [(I 1), (I x4), (I x3), (Rf 1)]) h2) else Run sc 0 538 [some (Rf 0), some (Rf 1), some (I x2), some (I x3), some (I x4), some (I x5), some (I x6), some (I x7), some (I x8), some (I x9), some (I x10), some (I x11), some (I x12), some (I x13), d14, d15, d16, d17] [] (hq cs iv) :=
  (R_iload mc_0 dL_law_510 rfl).trans <|
  (R_bipush mc_0 dL_law_512 ⟨by decide, by decide⟩).trans <|
  (R_icmp_ne mc_0 dL_law_514 (t := 538) rfl).trans <| ite_c2
  ((R_aload_n mc_0 dL_law_517 rfl).trans <|
  (R_iload_n mc_0 dL_law_518 rfl).trans <|
  (R_iload mc_0 dL_law_519 rfl).trans <|
  (R_iconst mc_0 dL_law_521 ⟨by decide, by decide⟩).trans <|
  (R_iload mc_0 dL_law_522 rfl).trans <|
  (R_bipush mc_0 dL_law_524 ⟨by decide, by decide⟩).trans <|
  R_invS mc_0 dL_law_526 mo_0 ct_7_61 (Or.inl rfl) af_0_109 (Nat.le_of_ble_eq_true rfl) rfl rfl ⟨Nat.le_of_ble_eq_true rfl, Nat.le_of_ble_eq_true rfl⟩)
  (rfl)
theorem B_L_law_529 (sc : Nat × (Nat → Int)) (iv : Nat → Nat → Int) (cs : List (Nat × Nat)) (x2 : Int) (x3 : Int) (x4 : Int) (x5 : Int) (x6 : Int) (x7 : Int) (x8 : Int) (x9 : Int) (x10 : Int) (x11 : Int) (x12 : Int) (x13 : Int) (d14 : Option AV) (d15 : Option AV) (d16 : Option AV) (d17 : Option AV) (s0 : Int) (s1 : Int) (s2 : Int) (s3 : Int) : Run sc 0 529 [some (Rf 0), some (Rf 1), some (I x2), some (I x3), some (I x4), some (I x5), some (I x6), some (I x7), some (I x8), some (I x9), some (I x10), some (I x11), some (I x12), some (I x13), d14, d15, d16, d17] [(I s0), (I s1), (I s2), (I s3), (Rf 1)] (hq cs iv) = chk (s1 + s0) (aBind (Run sc 118 0 [some (Rf 1), some (I s3), some (I s2), some (I (s1 + s0)), none, none, none, none, none] [] (hq cs iv)) (fun v h2 => Run sc 0 533 [some (Rf 0), some (Rf 1), some (I x2), some (I x3), some (I x4), some (I x5), some (I x6), some (I x7), some (I x8), some (I x9), some (I x10), some (I x11), some (I x12), some (I x13), d14, d15, d16, d17] (pushR v []) h2)) :=
  (R_iadd mc_0 dL_law_529).trans <| chk_congr <|
  R_invS mc_0 dL_law_530 mo_0 ct_7_127 (Or.inl rfl) af_0_118 (Nat.le_of_ble_eq_true rfl) rfl rfl ⟨Nat.le_of_ble_eq_true rfl, Nat.le_of_ble_eq_true rfl⟩
theorem B_L_law_533 (sc : Nat × (Nat → Int)) (iv : Nat → Nat → Int) (cs : List (Nat × Nat)) (x2 : Int) (x3 : Int) (x4 : Int) (x5 : Int) (x6 : Int) (x7 : Int) (x8 : Int) (x9 : Int) (x10 : Int) (x11 : Int) (x12 : Int) (x13 : Int) (d14 : Option AV) (d15 : Option AV) (d16 : Option AV) (d17 : Option AV) (s0 : Int) : Run sc 0 533 [some (Rf 0), some (Rf 1), some (I x2), some (I x3), some (I x4), some (I x5), some (I x6), some (I x7), some (I x8), some (I x9), some (I x10), some (I x11), some (I x12), some (I x13), d14, d15, d16, d17] [(I s0)] (hq cs iv) = if s0 = 0 then bck 0 1 0 (some (some (I 0), (hq cs iv))) else Run sc 0 694 [some (Rf 0), some (Rf 1), some (I x2), some (I x3), some (I x4), some (I x5), some (I x6), some (I x7), some (I x8), some (I x9), some (I x10), some (I x11), some (I x12), some (I x13), d14, d15, d16, d17] [] (hq cs iv) :=
  (R_if_ne mc_0 dL_law_533 (t := 694) rfl).trans <| ite_c2
  ((R_iconst mc_0 dL_law_536 ⟨by decide, by decide⟩).trans <|
  R_ireturnZ mc_0 dL_law_537 rfl)
  (rfl)
theorem B_L_law_538 (sc : Nat × (Nat → Int)) (iv : Nat → Nat → Int) (cs : List (Nat × Nat)) (x2 : Int) (x3 : Int) (x4 : Int) (x5 : Int) (x6 : Int) (x7 : Int) (x8 : Int) (x9 : Int) (x10 : Int) (x11 : Int) (x12 : Int) (x13 : Int) (d14 : Option AV) (d15 : Option AV) (d16 : Option AV) (d17 : Option AV) : Run sc 0 538 [some (Rf 0), some (Rf 1), some (I x2), some (I x3), some (I x4), some (I x5), some (I x6), some (I x7), some (I x8), some (I x9), some (I x10), some (I x11), some (I x12), some (I x13), d14, d15, d16, d17] [] (hq cs iv) = if x10 = 7 then if ((x9 / 16) % (1 + 1)) = 0 then Run sc 0 559 [some (Rf 0), some (Rf 1), some (I x2), some (I x3), some (I x4), some (I x5), some (I x6), some (I x7), some (I x8), some (I x9), some (I x10), some (I x11), some (I x12), some (I x13), d14, d15, d16, d17] [(I 1)] (hq cs iv) else Run sc 0 558 [some (Rf 0), some (Rf 1), some (I x2), some (I x3), some (I x4), some (I x5), some (I x6), some (I x7), some (I x8), some (I x9), some (I x10), some (I x11), some (I x12), some (I x13), d14, d15, d16, d17] [] (hq cs iv) else Run sc 0 652 [some (Rf 0), some (Rf 1), some (I x2), some (I x3), some (I x4), some (I x5), some (I x6), some (I x7), some (I x8), some (I x9), some (I x10), some (I x11), some (I x12), some (I x13), d14, d15, d16, d17] [] (hq cs iv) :=
  (R_iload mc_0 dL_law_538 rfl).trans <|
  (R_bipush mc_0 dL_law_540 ⟨by decide, by decide⟩).trans <|
  (R_icmp_ne mc_0 dL_law_542 (t := 652) rfl).trans <| ite_c2
  ((R_iload mc_0 dL_law_545 rfl).trans <|
  (R_iconst mc_0 dL_law_547 ⟨by decide, by decide⟩).trans <|
  (R_ishrK mc_0 dL_law_548 ⟨by decide, by decide⟩ (z := 16) rfl).trans <|
  (R_iconst mc_0 dL_law_549 ⟨by decide, by decide⟩).trans <|
  (R_iand mc_0 dL_law_550 (by decide)).trans <|
  (R_if_ne mc_0 dL_law_551 (t := 558) rfl).trans <| ite_c2
  ((R_iconst mc_0 dL_law_554 ⟨by decide, by decide⟩).trans <|
  R_goto mc_0 dL_law_555 (t := 559) rfl)
  (rfl))
  (rfl)
theorem B_L_law_558 (sc : Nat × (Nat → Int)) (iv : Nat → Nat → Int) (cs : List (Nat × Nat)) (x2 : Int) (x3 : Int) (x4 : Int) (x5 : Int) (x6 : Int) (x7 : Int) (x8 : Int) (x9 : Int) (x10 : Int) (x11 : Int) (x12 : Int) (x13 : Int) (d14 : Option AV) (d15 : Option AV) (d16 : Option AV) (d17 : Option AV) : Run sc 0 558 [some (Rf 0), some (Rf 1), some (I x2), some (I x3), some (I x4), some (I x5), some (I x6), some (I x7), some (I x8), some (I x9), some (I x10), some (I x11), some (I x12), some (I x13), d14, d15, d16, d17] [] (hq cs iv) = Run sc 0 559 [some (Rf 0), some (Rf 1), some (I x2), some (I x3), some (I x4), some (I x5), some (I x6), some (I x7), some (I x8), some (I x9), some (I x10), some (I x11), some (I x12), some (I x13), d14, d15, d16, d17] [(I 0)] (hq cs iv) :=
  R_iconst mc_0 dL_law_558 ⟨by decide, by decide⟩
theorem B_L_law_559 (sc : Nat × (Nat → Int)) (iv : Nat → Nat → Int) (cs : List (Nat × Nat)) (x2 : Int) (x3 : Int) (x4 : Int) (x5 : Int) (x6 : Int) (x7 : Int) (x8 : Int) (x9 : Int) (x10 : Int) (x11 : Int) (x12 : Int) (x13 : Int) (d14 : Option AV) (d15 : Option AV) (d16 : Option AV) (d17 : Option AV) (s0 : Int) : Run sc 0 559 [some (Rf 0), some (Rf 1), some (I x2), some (I x3), some (I x4), some (I x5), some (I x6), some (I x7), some (I x8), some (I x9), some (I x10), some (I x11), some (I x12), some (I x13), d14, d15, d16, d17] [(I s0)] (hq cs iv) = aBind (Run sc 94 0 [some (Rf 1), some (I x11), some (I x12), some (I s0)] [] (hq cs iv)) (fun v h2 => Run sc 0 571 [some (Rf 0), some (Rf 1), some (I x2), some (I x3), some (I x4), some (I x5), some (I x6), some (I x7), some (I x8), some (I x9), some (I x10), some (I x11), some (I x12), some (I x13), some (I s0), d15, d16, d17] (pushR v []) h2) :=
  (R_istore mc_0 dL_law_559 (Nat.le_of_ble_eq_true rfl)).trans <|
  (R_aload_n mc_0 dL_law_561 rfl).trans <|
  (R_iload mc_0 dL_law_562 rfl).trans <|
  (R_iload mc_0 dL_law_564 rfl).trans <|
  (R_iload mc_0 dL_law_566 rfl).trans <|
  R_invV mc_0 dL_law_568 mo_0 ct_7_41 af_0_94 rfl rfl rfl ⟨Nat.le_of_ble_eq_true rfl, Nat.le_of_ble_eq_true rfl⟩
theorem B_L_law_571 (sc : Nat × (Nat → Int)) (iv : Nat → Nat → Int) (cs : List (Nat × Nat)) (x2 : Int) (x3 : Int) (x4 : Int) (x5 : Int) (x6 : Int) (x7 : Int) (x8 : Int) (x9 : Int) (x10 : Int) (x11 : Int) (x12 : Int) (x13 : Int) (x14 : Int) (d15 : Option AV) (d16 : Option AV) (d17 : Option AV) (s0 : Int) : Run sc 0 571 [some (Rf 0), some (Rf 1), some (I x2), some (I x3), some (I x4), some (I x5), some (I x6), some (I x7), some (I x8), some (I x9), some (I x10), some (I x11), some (I x12), some (I x13), some (I x14), d15, d16, d17] [(I s0)] (hq cs iv) = if 0 < ((x9 / 32) % (3 + 1)) then Run sc 0 587 [some (Rf 0), some (Rf 1), some (I x2), some (I x3), some (I x4), some (I x5), some (I x6), some (I x7), some (I x8), some (I x9), some (I x10), some (I x11), some (I x12), some (I x13), some (I x14), some (I s0), d16, d17] [(I 1)] (hq cs iv) else Run sc 0 586 [some (Rf 0), some (Rf 1), some (I x2), some (I x3), some (I x4), some (I x5), some (I x6), some (I x7), some (I x8), some (I x9), some (I x10), some (I x11), some (I x12), some (I x13), some (I x14), some (I s0), d16, d17] [] (hq cs iv) :=
  (R_istore mc_0 dL_law_571 (Nat.le_of_ble_eq_true rfl)).trans <|
  (R_iload mc_0 dL_law_573 rfl).trans <|
  (R_iconst mc_0 dL_law_575 ⟨by decide, by decide⟩).trans <|
  (R_ishrK mc_0 dL_law_576 ⟨by decide, by decide⟩ (z := 32) rfl).trans <|
  (R_iconst mc_0 dL_law_577 ⟨by decide, by decide⟩).trans <|
  (R_iand mc_0 dL_law_578 (by decide)).trans <|
  (R_if_le mc_0 dL_law_579 (t := 586) rfl).trans <| ite_c2
  ((R_iconst mc_0 dL_law_582 ⟨by decide, by decide⟩).trans <|
  R_goto mc_0 dL_law_583 (t := 587) rfl)
  (rfl)
theorem B_L_law_586 (sc : Nat × (Nat → Int)) (iv : Nat → Nat → Int) (cs : List (Nat × Nat)) (x2 : Int) (x3 : Int) (x4 : Int) (x5 : Int) (x6 : Int) (x7 : Int) (x8 : Int) (x9 : Int) (x10 : Int) (x11 : Int) (x12 : Int) (x13 : Int) (x14 : Int) (x15 : Int) (d16 : Option AV) (d17 : Option AV) : Run sc 0 586 [some (Rf 0), some (Rf 1), some (I x2), some (I x3), some (I x4), some (I x5), some (I x6), some (I x7), some (I x8), some (I x9), some (I x10), some (I x11), some (I x12), some (I x13), some (I x14), some (I x15), d16, d17] [] (hq cs iv) = Run sc 0 587 [some (Rf 0), some (Rf 1), some (I x2), some (I x3), some (I x4), some (I x5), some (I x6), some (I x7), some (I x8), some (I x9), some (I x10), some (I x11), some (I x12), some (I x13), some (I x14), some (I x15), d16, d17] [(I 0)] (hq cs iv) :=
  R_iconst mc_0 dL_law_586 ⟨by decide, by decide⟩
theorem B_L_law_587 (sc : Nat × (Nat → Int)) (iv : Nat → Nat → Int) (cs : List (Nat × Nat)) (x2 : Int) (x3 : Int) (x4 : Int) (x5 : Int) (x6 : Int) (x7 : Int) (x8 : Int) (x9 : Int) (x10 : Int) (x11 : Int) (x12 : Int) (x13 : Int) (x14 : Int) (x15 : Int) (d16 : Option AV) (d17 : Option AV) (s0 : Int) : Run sc 0 587 [some (Rf 0), some (Rf 1), some (I x2), some (I x3), some (I x4), some (I x5), some (I x6), some (I x7), some (I x8), some (I x9), some (I x10), some (I x11), some (I x12), some (I x13), some (I x14), some (I x15), d16, d17] [(I s0)] (hq cs iv) = aBind (Run sc 93 0 [some (Rf 1), some (I x11), some (I x12), some (I x14), some (I s0)] [] (hq cs iv)) (fun v h2 => Run sc 0 601 [some (Rf 0), some (Rf 1), some (I x2), some (I x3), some (I x4), some (I x5), some (I x6), some (I x7), some (I x8), some (I x9), some (I x10), some (I x11), some (I x12), some (I x13), some (I x14), some (I x15), some (I s0), d17] (pushR v []) h2) :=
  (R_istore mc_0 dL_law_587 (Nat.le_of_ble_eq_true rfl)).trans <|
  (R_aload_n mc_0 dL_law_589 rfl).trans <|
  (R_iload mc_0 dL_law_590 rfl).trans <|
  (R_iload mc_0 dL_law_592 rfl).trans <|
  (R_iload mc_0 dL_law_594 rfl).trans <|
  (R_iload mc_0 dL_law_596 rfl).trans <|
  R_invV mc_0 dL_law_598 mo_0 ct_7_112 af_0_93 rfl rfl rfl ⟨Nat.le_of_ble_eq_true rfl, Nat.le_of_ble_eq_true rfl⟩
theorem B_L_law_601 (sc : Nat × (Nat → Int)) (iv : Nat → Nat → Int) (cs : List (Nat × Nat)) (x2 : Int) (x3 : Int) (x4 : Int) (x5 : Int) (x6 : Int) (x7 : Int) (x8 : Int) (x9 : Int) (x10 : Int) (x11 : Int) (x12 : Int) (x13 : Int) (x14 : Int) (x15 : Int) (x16 : Int) (d17 : Option AV) (s0 : Int) : Run sc 0 601 [some (Rf 0), some (Rf 1), some (I x2), some (I x3), some (I x4), some (I x5), some (I x6), some (I x7), some (I x8), some (I x9), some (I x10), some (I x11), some (I x12), some (I x13), some (I x14), some (I x15), some (I x16), d17] [(I s0)] (hq cs iv) = if x16 = 0 then Run sc 0 612 [some (Rf 0), some (Rf 1), some (I x2), some (I x3), some (I x4), some (I x5), some (I x6), some (I x7), some (I x8), some (I x9), some (I x10), some (I x11), some (I x12), some (I x13), some (I x14), some (I x15), some (I x16), d17] [(I x15), (I s0)] (hq cs iv) else Run sc 0 613 [some (Rf 0), some (Rf 1), some (I x2), some (I x3), some (I x4), some (I x5), some (I x6), some (I x7), some (I x8), some (I x9), some (I x10), some (I x11), some (I x12), some (I x13), some (I x14), some (I x15), some (I x16), d17] [(I 1), (I x15), (I s0)] (hq cs iv) :=
  (R_iload mc_0 dL_law_601 rfl).trans <|
  (R_iload mc_0 dL_law_603 rfl).trans <|
  (R_if_eq mc_0 dL_law_605 (t := 612) rfl).trans <| ite_c2
  (rfl)
  ((R_iconst mc_0 dL_law_608 ⟨by decide, by decide⟩).trans <|
  R_goto mc_0 dL_law_609 (t := 613) rfl)
theorem B_L_law_612 (sc : Nat × (Nat → Int)) (iv : Nat → Nat → Int) (cs : List (Nat × Nat)) (x2 : Int) (x3 : Int) (x4 : Int) (x5 : Int) (x6 : Int) (x7 : Int) (x8 : Int) (x9 : Int) (x10 : Int) (x11 : Int) (x12 : Int) (x13 : Int) (x14 : Int) (x15 : Int) (x16 : Int) (d17 : Option AV) (s0 : Int) (s1 : Int) : Run sc 0 612 [some (Rf 0), some (Rf 1), some (I x2), some (I x3), some (I x4), some (I x5), some (I x6), some (I x7), some (I x8), some (I x9), some (I x10), some (I x11), some (I x12), some (I x13), some (I x14), some (I x15), some (I x16), d17] [(I s0), (I s1)] (hq cs iv) = Run sc 0 613 [some (Rf 0), some (Rf 1), some (I x2), some (I x3), some (I x4), some (I x5), some (I x6), some (I x7), some (I x8), some (I x9), some (I x10), some (I x11), some (I x12), some (I x13), some (I x14), some (I x15), some (I x16), d17] [(I 0), (I s0), (I s1)] (hq cs iv) :=
  R_iconst mc_0 dL_law_612 ⟨by decide, by decide⟩
theorem B_L_law_613 (sc : Nat × (Nat → Int)) (iv : Nat → Nat → Int) (cs : List (Nat × Nat)) (x2 : Int) (x3 : Int) (x4 : Int) (x5 : Int) (x6 : Int) (x7 : Int) (x8 : Int) (x9 : Int) (x10 : Int) (x11 : Int) (x12 : Int) (x13 : Int) (x14 : Int) (x15 : Int) (x16 : Int) (d17 : Option AV) (s0 : Int) (s1 : Int) (s2 : Int) : Run sc 0 613 [some (Rf 0), some (Rf 1), some (I x2), some (I x3), some (I x4), some (I x5), some (I x6), some (I x7), some (I x8), some (I x9), some (I x10), some (I x11), some (I x12), some (I x13), some (I x14), some (I x15), some (I x16), d17] [(I s0), (I s1), (I s2)] (hq cs iv) = if s1 = s0 then Run sc 0 621 [some (Rf 0), some (Rf 1), some (I x2), some (I x3), some (I x4), some (I x5), some (I x6), some (I x7), some (I x8), some (I x9), some (I x10), some (I x11), some (I x12), some (I x13), some (I x14), some (I x15), some (I x16), d17] [(I 0), (I s2)] (hq cs iv) else Run sc 0 620 [some (Rf 0), some (Rf 1), some (I x2), some (I x3), some (I x4), some (I x5), some (I x6), some (I x7), some (I x8), some (I x9), some (I x10), some (I x11), some (I x12), some (I x13), some (I x14), some (I x15), some (I x16), d17] [(I s2)] (hq cs iv) :=
  (R_icmp_ne mc_0 dL_law_613 (t := 620) rfl).trans <| ite_c2
  ((R_iconst mc_0 dL_law_616 ⟨by decide, by decide⟩).trans <|
  R_goto mc_0 dL_law_617 (t := 621) rfl)
  (rfl)
theorem B_L_law_620 (sc : Nat × (Nat → Int)) (iv : Nat → Nat → Int) (cs : List (Nat × Nat)) (x2 : Int) (x3 : Int) (x4 : Int) (x5 : Int) (x6 : Int) (x7 : Int) (x8 : Int) (x9 : Int) (x10 : Int) (x11 : Int) (x12 : Int) (x13 : Int) (x14 : Int) (x15 : Int) (x16 : Int) (d17 : Option AV) (s0 : Int) : Run sc 0 620 [some (Rf 0), some (Rf 1), some (I x2), some (I x3), some (I x4), some (I x5), some (I x6), some (I x7), some (I x8), some (I x9), some (I x10), some (I x11), some (I x12), some (I x13), some (I x14), some (I x15), some (I x16), d17] [(I s0)] (hq cs iv) = Run sc 0 621 [some (Rf 0), some (Rf 1), some (I x2), some (I x3), some (I x4), some (I x5), some (I x6), some (I x7), some (I x8), some (I x9), some (I x10), some (I x11), some (I x12), some (I x13), some (I x14), some (I x15), some (I x16), d17] [(I 1), (I s0)] (hq cs iv) :=
  R_iconst mc_0 dL_law_620 ⟨by decide, by decide⟩
theorem B_L_law_621 (sc : Nat × (Nat → Int)) (iv : Nat → Nat → Int) (cs : List (Nat × Nat)) (x2 : Int) (x3 : Int) (x4 : Int) (x5 : Int) (x6 : Int) (x7 : Int) (x8 : Int) (x9 : Int) (x10 : Int) (x11 : Int) (x12 : Int) (x13 : Int) (x14 : Int) (x15 : Int) (x16 : Int) (d17 : Option AV) (s0 : Int) (s1 : Int) : Run sc 0 621 [some (Rf 0), some (Rf 1), some (I x2), some (I x3), some (I x4), some (I x5), some (I x6), some (I x7), some (I x8), some (I x9), some (I x10), some (I x11), some (I x12), some (I x13), some (I x14), some (I x15), some (I x16), d17] [(I s0), (I s1)] (hq cs iv) = if s1 = s0 then aBind (Run sc 94 0 [some (Rf 1), some (I x11), some (I x12), some (I x14)] [] (hq cs iv)) (fun v h2 => Run sc 0 634 [some (Rf 0), some (Rf 1), some (I x2), some (I x3), some (I x4), some (I x5), some (I x6), some (I x7), some (I x8), some (I x9), some (I x10), some (I x11), some (I x12), some (I x13), some (I x14), some (I x15), some (I x16), d17] (pushR v []) h2) else Run sc 0 647 [some (Rf 0), some (Rf 1), some (I x2), some (I x3), some (I x4), some (I x5), some (I x6), some (I x7), some (I x8), some (I x9), some (I x10), some (I x11), some (I x12), some (I x13), some (I x14), some (I x15), some (I x16), d17] [] (hq cs iv) :=
  (R_icmp_ne mc_0 dL_law_621 (t := 647) rfl).trans <| ite_c2
  ((R_aload_n mc_0 dL_law_624 rfl).trans <|
  (R_iload mc_0 dL_law_625 rfl).trans <|
  (R_iload mc_0 dL_law_627 rfl).trans <|
  (R_iload mc_0 dL_law_629 rfl).trans <|
  R_invV mc_0 dL_law_631 mo_0 ct_7_41 af_0_94 rfl rfl rfl ⟨Nat.le_of_ble_eq_true rfl, Nat.le_of_ble_eq_true rfl⟩)
  (rfl)
theorem B_L_law_634 (sc : Nat × (Nat → Int)) (iv : Nat → Nat → Int) (cs : List (Nat × Nat)) (x2 : Int) (x3 : Int) (x4 : Int) (x5 : Int) (x6 : Int) (x7 : Int) (x8 : Int) (x9 : Int) (x10 : Int) (x11 : Int) (x12 : Int) (x13 : Int) (x14 : Int) (x15 : Int) (x16 : Int) (d17 : Option AV) (s0 : Int) : Run sc 0 634 [some (Rf 0), some (Rf 1), some (I x2), some (I x3), some (I x4), some (I x5), some (I x6), some (I x7), some (I x8), some (I x9), some (I x10), some (I x11), some (I x12), some (I x13), some (I x14), some (I x15), some (I x16), d17] [(I s0)] (hq cs iv) = if x16 = 0 then Run sc 0 643 [some (Rf 0), some (Rf 1), some (I x2), some (I x3), some (I x4), some (I x5), some (I x6), some (I x7), some (I x8), some (I x9), some (I x10), some (I x11), some (I x12), some (I x13), some (I x14), some (I x15), some (I x16), d17] [(I s0)] (hq cs iv) else Run sc 0 644 [some (Rf 0), some (Rf 1), some (I x2), some (I x3), some (I x4), some (I x5), some (I x6), some (I x7), some (I x8), some (I x9), some (I x10), some (I x11), some (I x12), some (I x13), some (I x14), some (I x15), some (I x16), d17] [(I 1), (I s0)] (hq cs iv) :=
  (R_iload mc_0 dL_law_634 rfl).trans <|
  (R_if_eq mc_0 dL_law_636 (t := 643) rfl).trans <| ite_c2
  (rfl)
  ((R_iconst mc_0 dL_law_639 ⟨by decide, by decide⟩).trans <|
  R_goto mc_0 dL_law_640 (t := 644) rfl)
theorem B_L_law_643 (sc : Nat × (Nat → Int)) (iv : Nat → Nat → Int) (cs : List (Nat × Nat)) (x2 : Int) (x3 : Int) (x4 : Int) (x5 : Int) (x6 : Int) (x7 : Int) (x8 : Int) (x9 : Int) (x10 : Int) (x11 : Int) (x12 : Int) (x13 : Int) (x14 : Int) (x15 : Int) (x16 : Int) (d17 : Option AV) (s0 : Int) : Run sc 0 643 [some (Rf 0), some (Rf 1), some (I x2), some (I x3), some (I x4), some (I x5), some (I x6), some (I x7), some (I x8), some (I x9), some (I x10), some (I x11), some (I x12), some (I x13), some (I x14), some (I x15), some (I x16), d17] [(I s0)] (hq cs iv) = Run sc 0 644 [some (Rf 0), some (Rf 1), some (I x2), some (I x3), some (I x4), some (I x5), some (I x6), some (I x7), some (I x8), some (I x9), some (I x10), some (I x11), some (I x12), some (I x13), some (I x14), some (I x15), some (I x16), d17] [(I 0), (I s0)] (hq cs iv) :=
  R_iconst mc_0 dL_law_643 ⟨by decide, by decide⟩
theorem B_L_law_644 (sc : Nat × (Nat → Int)) (iv : Nat → Nat → Int) (cs : List (Nat × Nat)) (x2 : Int) (x3 : Int) (x4 : Int) (x5 : Int) (x6 : Int) (x7 : Int) (x8 : Int) (x9 : Int) (x10 : Int) (x11 : Int) (x12 : Int) (x13 : Int) (x14 : Int) (x15 : Int) (x16 : Int) (d17 : Option AV) (s0 : Int) (s1 : Int) : Run sc 0 644 [some (Rf 0), some (Rf 1), some (I x2), some (I x3), some (I x4), some (I x5), some (I x6), some (I x7), some (I x8), some (I x9), some (I x10), some (I x11), some (I x12), some (I x13), some (I x14), some (I x15), some (I x16), d17] [(I s0), (I s1)] (hq cs iv) = if s1 = s0 then Run sc 0 649 [some (Rf 0), some (Rf 1), some (I x2), some (I x3), some (I x4), some (I x5), some (I x6), some (I x7), some (I x8), some (I x9), some (I x10), some (I x11), some (I x12), some (I x13), some (I x14), some (I x15), some (I x16), d17] [] (hq cs iv) else Run sc 0 647 [some (Rf 0), some (Rf 1), some (I x2), some (I x3), some (I x4), some (I x5), some (I x6), some (I x7), some (I x8), some (I x9), some (I x10), some (I x11), some (I x12), some (I x13), some (I x14), some (I x15), some (I x16), d17] [] (hq cs iv) :=
  R_icmp_eq mc_0 dL_law_644 (t := 649) rfl
theorem B_L_law_647 (sc : Nat × (Nat → Int)) (iv : Nat → Nat → Int) (cs : List (Nat × Nat)) (x2 : Int) (x3 : Int) (x4 : Int) (x5 : Int) (x6 : Int) (x7 : Int) (x8 : Int) (x9 : Int) (x10 : Int) (x11 : Int) (x12 : Int) (x13 : Int) (x14 : Int) (x15 : Int) (x16 : Int) (d17 : Option AV) : Run sc 0 647 [some (Rf 0), some (Rf 1), some (I x2), some (I x3), some (I x4), some (I x5), some (I x6), some (I x7), some (I x8), some (I x9), some (I x10), some (I x11), some (I x12), some (I x13), some (I x14), some (I x15), some (I x16), d17] [] (hq cs iv) = bck 0 1 0 (some (some (I 0), (hq cs iv))) :=
  (R_iconst mc_0 dL_law_647 ⟨by decide, by decide⟩).trans <|
  R_ireturnZ mc_0 dL_law_648 rfl
theorem B_L_law_649 (sc : Nat × (Nat → Int)) (iv : Nat → Nat → Int) (cs : List (Nat × Nat)) (x2 : Int) (x3 : Int) (x4 : Int) (x5 : Int) (x6 : Int) (x7 : Int) (x8 : Int) (x9 : Int) (x10 : Int) (x11 : Int) (x12 : Int) (x13 : Int) (x14 : Int) (x15 : Int) (x16 : Int) (d17 : Option AV) : Run sc 0 649 [some (Rf 0), some (Rf 1), some (I x2), some (I x3), some (I x4), some (I x5), some (I x6), some (I x7), some (I x8), some (I x9), some (I x10), some (I x11), some (I x12), some (I x13), some (I x14), some (I x15), some (I x16), d17] [] (hq cs iv) = Run sc 0 694 [some (Rf 0), some (Rf 1), some (I x2), some (I x3), some (I x4), some (I x5), some (I x6), some (I x7), some (I x8), some (I x9), some (I x10), some (I x11), some (I x12), some (I x13), some (I x14), some (I x15), some (I x16), d17] [] (hq cs iv) :=
  R_goto mc_0 dL_law_649 (t := 694) rfl
theorem B_L_law_652 (sc : Nat × (Nat → Int)) (iv : Nat → Nat → Int) (cs : List (Nat × Nat)) (x2 : Int) (x3 : Int) (x4 : Int) (x5 : Int) (x6 : Int) (x7 : Int) (x8 : Int) (x9 : Int) (x10 : Int) (x11 : Int) (x12 : Int) (x13 : Int) (d14 : Option AV) (d15 : Option AV) (d16 : Option AV) (d17 : Option AV) : Run sc 0 652 [some (Rf 0), some (Rf 1), some (I x2), some (I x3), some (I x4), some (I x5), some (I x6), some (I x7), some (I x8), some (I x9), some (I x10), some (I x11), some (I x12), some (I x13), d14, d15, d16, d17] [] (hq cs iv) = aBind (Run sc 109 0 [some (I x9), some (I 9)] [] (hq cs iv)) (fun v h2 => Run sc 0 661 [some (Rf 0), some (Rf 1), some (I x2), some (I x3), some (I x4), some (I x5), some (I x6), some (I x7), some (I x8), some (I x9), some (I x10), some (I x11), some (I x12), some (I x13), d14, d15, d16, d17] (pushR v [(I 4), (Rf 1)]) h2) :=
  (R_aload_n mc_0 dL_law_652 rfl).trans <|
  (R_iconst mc_0 dL_law_653 ⟨by decide, by decide⟩).trans <|
  (R_iload mc_0 dL_law_654 rfl).trans <|
  (R_bipush mc_0 dL_law_656 ⟨by decide, by decide⟩).trans <|
  R_invS mc_0 dL_law_658 mo_0 ct_7_61 (Or.inl rfl) af_0_109 (Nat.le_of_ble_eq_true rfl) rfl rfl ⟨Nat.le_of_ble_eq_true rfl, Nat.le_of_ble_eq_true rfl⟩
theorem B_L_law_661 (sc : Nat × (Nat → Int)) (iv : Nat → Nat → Int) (cs : List (Nat × Nat)) (x2 : Int) (x3 : Int) (x4 : Int) (x5 : Int) (x6 : Int) (x7 : Int) (x8 : Int) (x9 : Int) (x10 : Int) (x11 : Int) (x12 : Int) (x13 : Int) (d14 : Option AV) (d15 : Option AV) (d16 : Option AV) (d17 : Option AV) (s0 : Int) (s1 : Int) : Run sc 0 661 [some (Rf 0), some (Rf 1), some (I x2), some (I x3), some (I x4), some (I x5), some (I x6), some (I x7), some (I x8), some (I x9), some (I x10), some (I x11), some (I x12), some (I x13), d14, d15, d16, d17] [(I s0), (I s1), (Rf 1)] (hq cs iv) = chk (s1 + s0) (aBind (Run sc 109 0 [some (I (x9 / 32)), some (I 6)] [] (hq cs iv)) (fun v h2 => Run sc 0 672 [some (Rf 0), some (Rf 1), some (I x2), some (I x3), some (I x4), some (I x5), some (I x6), some (I x7), some (I x8), some (I x9), some (I x10), some (I x11), some (I x12), some (I x13), d14, d15, d16, d17] (pushR v [(I 4), (I (s1 + s0)), (Rf 1)]) h2)) :=
  (R_iadd mc_0 dL_law_661).trans <| chk_congr <|
  (R_iconst mc_0 dL_law_662 ⟨by decide, by decide⟩).trans <|
  (R_iload mc_0 dL_law_663 rfl).trans <|
  (R_iconst mc_0 dL_law_665 ⟨by decide, by decide⟩).trans <|
  (R_ishrK mc_0 dL_law_666 ⟨by decide, by decide⟩ (z := 32) rfl).trans <|
  (R_bipush mc_0 dL_law_667 ⟨by decide, by decide⟩).trans <|
  R_invS mc_0 dL_law_669 mo_0 ct_7_61 (Or.inl rfl) af_0_109 (Nat.le_of_ble_eq_true rfl) rfl rfl ⟨Nat.le_of_ble_eq_true rfl, Nat.le_of_ble_eq_true rfl⟩
theorem B_L_law_672 (sc : Nat × (Nat → Int)) (iv : Nat → Nat → Int) (cs : List (Nat × Nat)) (x2 : Int) (x3 : Int) (x4 : Int) (x5 : Int) (x6 : Int) (x7 : Int) (x8 : Int) (x9 : Int) (x10 : Int) (x11 : Int) (x12 : Int) (x13 : Int) (d14 : Option AV) (d15 : Option AV) (d16 : Option AV) (d17 : Option AV) (s0 : Int) (s1 : Int) (s2 : Int) : Run sc 0 672 [some (Rf 0), some (Rf 1), some (I x2), some (I x3), some (I x4), some (I x5), some (I x6), some (I x7), some (I x8), some (I x9), some (I x10), some (I x11), some (I x12), some (I x13), d14, d15, d16, d17] [(I s0), (I s1), (I s2), (Rf 1)] (hq cs iv) = chk (s1 + s0) (aBind (Run sc 109 0 [some (I (x9 / 512)), some (I 4)] [] (hq cs iv)) (fun v h2 => Run sc 0 682 [some (Rf 0), some (Rf 1), some (I x2), some (I x3), some (I x4), some (I x5), some (I x6), some (I x7), some (I x8), some (I x9), some (I x10), some (I x11), some (I x12), some (I x13), d14, d15, d16, d17] (pushR v [(I (s1 + s0)), (I s2), (Rf 1)]) h2)) :=
  (R_iadd mc_0 dL_law_672).trans <| chk_congr <|
  (R_iload mc_0 dL_law_673 rfl).trans <|
  (R_bipush mc_0 dL_law_675 ⟨by decide, by decide⟩).trans <|
  (R_ishrK mc_0 dL_law_677 ⟨by decide, by decide⟩ (z := 512) rfl).trans <|
  (R_iconst mc_0 dL_law_678 ⟨by decide, by decide⟩).trans <|
  R_invS mc_0 dL_law_679 mo_0 ct_7_61 (Or.inl rfl) af_0_109 (Nat.le_of_ble_eq_true rfl) rfl rfl ⟨Nat.le_of_ble_eq_true rfl, Nat.le_of_ble_eq_true rfl⟩
theorem B_L_law_682 (sc : Nat × (Nat → Int)) (iv : Nat → Nat → Int) (cs : List (Nat × Nat)) (x2 : Int) (x3 : Int) (x4 : Int) (x5 : Int) (x6 : Int) (x7 : Int) (x8 : Int) (x9 : Int) (x10 : Int) (x11 : Int) (x12 : Int) (x13 : Int) (d14 : Option AV) (d15 : Option AV) (d16 : Option AV) (d17 : Option AV) (s0 : Int) (s1 : Int) (s2 : Int) : Run sc 0 682 [some (Rf 0), some (Rf 1), some (I x2), some (I x3), some (I x4), some (I x5), some (I x6), some (I x7), some (I x8), some (I x9), some (I x10), some (I x11), some (I x12), some (I x13), d14, d15, d16, d17] [(I s0), (I s1), (I s2), (Rf 1)] (hq cs iv) = aBind (Run sc 98 0 [some (Rf 1), some (I s2), some (I s1), some (I s0)] [] (hq cs iv)) (fun v h2 => Run sc 0 685 [some (Rf 0), some (Rf 1), some (I x2), some (I x3), some (I x4), some (I x5), some (I x6), some (I x7), some (I x8), some (I x9), some (I x10), some (I x11), some (I x12), some (I x13), d14, d15, d16, d17] (pushR v []) h2) :=
  R_invV mc_0 dL_law_682 mo_0 ct_7_109 af_0_98 rfl rfl rfl ⟨Nat.le_of_ble_eq_true rfl, Nat.le_of_ble_eq_true rfl⟩
theorem B_L_law_685 (sc : Nat × (Nat → Int)) (iv : Nat → Nat → Int) (cs : List (Nat × Nat)) (x2 : Int) (x3 : Int) (x4 : Int) (x5 : Int) (x6 : Int) (x7 : Int) (x8 : Int) (x9 : Int) (x10 : Int) (x11 : Int) (x12 : Int) (x13 : Int) (d14 : Option AV) (d15 : Option AV) (d16 : Option AV) (d17 : Option AV) (s0 : Int) : Run sc 0 685 [some (Rf 0), some (Rf 1), some (I x2), some (I x3), some (I x4), some (I x5), some (I x6), some (I x7), some (I x8), some (I x9), some (I x10), some (I x11), some (I x12), some (I x13), d14, d15, d16, d17] [(I s0)] (hq cs iv) = aBind (Run sc 101 0 [some (Rf 1)] [] (hq cs iv)) (fun v h2 => Run sc 0 689 [some (Rf 0), some (Rf 1), some (I x2), some (I x3), some (I x4), some (I x5), some (I x6), some (I x7), some (I x8), some (I x9), some (I x10), some (I x11), some (I x12), some (I x13), d14, d15, d16, d17] (pushR v [(I s0)]) h2) :=
  (R_aload_n mc_0 dL_law_685 rfl).trans <|
  R_invV mc_0 dL_law_686 mo_0 ct_7_58 af_0_101 rfl rfl rfl ⟨Nat.le_of_ble_eq_true rfl, Nat.le_of_ble_eq_true rfl⟩
theorem B_L_law_689 (sc : Nat × (Nat → Int)) (iv : Nat → Nat → Int) (cs : List (Nat × Nat)) (x2 : Int) (x3 : Int) (x4 : Int) (x5 : Int) (x6 : Int) (x7 : Int) (x8 : Int) (x9 : Int) (x10 : Int) (x11 : Int) (x12 : Int) (x13 : Int) (d14 : Option AV) (d15 : Option AV) (d16 : Option AV) (d17 : Option AV) (s0 : Int) (s1 : Int) : Run sc 0 689 [some (Rf 0), some (Rf 1), some (I x2), some (I x3), some (I x4), some (I x5), some (I x6), some (I x7), some (I x8), some (I x9), some (I x10), some (I x11), some (I x12), some (I x13), d14, d15, d16, d17] [(I s0), (I s1)] (hq cs iv) = if s1 = s0 then Run sc 0 694 [some (Rf 0), some (Rf 1), some (I x2), some (I x3), some (I x4), some (I x5), some (I x6), some (I x7), some (I x8), some (I x9), some (I x10), some (I x11), some (I x12), some (I x13), d14, d15, d16, d17] [] (hq cs iv) else bck 0 1 0 (some (some (I 0), (hq cs iv))) :=
  (R_icmp_eq mc_0 dL_law_689 (t := 694) rfl).trans <| ite_c2
  (rfl)
  ((R_iconst mc_0 dL_law_692 ⟨by decide, by decide⟩).trans <|
  R_ireturnZ mc_0 dL_law_693 rfl)
theorem B_L_law_694 (sc : Nat × (Nat → Int)) (iv : Nat → Nat → Int) (cs : List (Nat × Nat)) (x2 : Int) (x3 : Int) (x4 : Int) (x5 : Int) (x6 : Int) (x7 : Int) (x8 : Int) (x9 : Int) (x10 : Int) (x11 : Int) (x12 : Int) (x13 : Int) (d14 : Option AV) (d15 : Option AV) (d16 : Option AV) (d17 : Option AV) : Run sc 0 694 [some (Rf 0), some (Rf 1), some (I x2), some (I x3), some (I x4), some (I x5), some (I x6), some (I x7), some (I x8), some (I x9), some (I x10), some (I x11), some (I x12), some (I x13), d14, d15, d16, d17] [] (hq cs iv) = aBind (Run sc 111 0 [some (Rf 1), some (I x3), some (I x4), some (I x5), some (I x6), none, none, none, none, none, none, none, none, none, none, none, none, none, none] [] (hq cs iv)) (fun v h2 => Run sc 0 705 [some (Rf 0), some (Rf 1), some (I x2), some (I x3), some (I x4), some (I x5), some (I x6), some (I x7), some (I x8), some (I x9), some (I x10), some (I x11), some (I x12), some (I x13), d14, d15, d16, d17] (pushR v []) h2) :=
  (R_aload_n mc_0 dL_law_694 rfl).trans <|
  (R_iload_n mc_0 dL_law_695 rfl).trans <|
  (R_iload mc_0 dL_law_696 rfl).trans <|
  (R_iload mc_0 dL_law_698 rfl).trans <|
  (R_iload mc_0 dL_law_700 rfl).trans <|
  R_invS mc_0 dL_law_702 mo_0 ct_7_131 (Or.inl rfl) af_0_111 (Nat.le_of_ble_eq_true rfl) rfl rfl ⟨Nat.le_of_ble_eq_true rfl, Nat.le_of_ble_eq_true rfl⟩
theorem B_L_law_705 (sc : Nat × (Nat → Int)) (iv : Nat → Nat → Int) (cs : List (Nat × Nat)) (x2 : Int) (x3 : Int) (x4 : Int) (x5 : Int) (x6 : Int) (x7 : Int) (x8 : Int) (x9 : Int) (x10 : Int) (x11 : Int) (x12 : Int) (x13 : Int) (d14 : Option AV) (d15 : Option AV) (d16 : Option AV) (d17 : Option AV) (s0 : Int) : Run sc 0 705 [some (Rf 0), some (Rf 1), some (I x2), some (I x3), some (I x4), some (I x5), some (I x6), some (I x7), some (I x8), some (I x9), some (I x10), some (I x11), some (I x12), some (I x13), d14, d15, d16, d17] [(I s0)] (hq cs iv) = if s0 = 0 then Run sc 0 749 [some (Rf 0), some (Rf 1), some (I x2), some (I x3), some (I x4), some (I x5), some (I x6), some (I x7), some (I x8), some (I x9), some (I x10), some (I x11), some (I x12), some (I x13), d14, d15, d16, d17] [] (hq cs iv) else aBind (Run sc 114 0 [some (Rf 1), some (I x3), some (I x4), none, none, none, none] [] (hq cs iv)) (fun v h2 => Run sc 0 715 [some (Rf 0), some (Rf 1), some (I x2), some (I x3), some (I x4), some (I x5), some (I x6), some (I x7), some (I x8), some (I x9), some (I x10), some (I x11), some (I x12), some (I x13), d14, d15, d16, d17] (pushR v []) h2) :=
  (R_if_eq mc_0 dL_law_705 (t := 749) rfl).trans <| ite_c2
  (rfl)
  ((R_aload_n mc_0 dL_law_708 rfl).trans <|
  (R_iload_n mc_0 dL_law_709 rfl).trans <|
  (R_iload mc_0 dL_law_710 rfl).trans <|
  R_invS mc_0 dL_law_712 mo_0 ct_7_135 (Or.inl rfl) af_0_114 (Nat.le_of_ble_eq_true rfl) rfl rfl ⟨Nat.le_of_ble_eq_true rfl, Nat.le_of_ble_eq_true rfl⟩)
theorem B_L_law_715 (sc : Nat × (Nat → Int)) (iv : Nat → Nat → Int) (cs : List (Nat × Nat)) (x2 : Int) (x3 : Int) (x4 : Int) (x5 : Int) (x6 : Int) (x7 : Int) (x8 : Int) (x9 : Int) (x10 : Int) (x11 : Int) (x12 : Int) (x13 : Int) (d14 : Option AV) (d15 : Option AV) (d16 : Option AV) (d17 : Option AV) (s0 : Int) : Run sc 0 715 [some (Rf 0), some (Rf 1), some (I x2), some (I x3), some (I x4), some (I x5), some (I x6), some (I x7), some (I x8), some (I x9), some (I x10), some (I x11), some (I x12), some (I x13), d14, d15, d16, d17] [(I s0)] (hq cs iv) = if s0 = 0 then Run sc 0 749 [some (Rf 0), some (Rf 1), some (I x2), some (I x3), some (I x4), some (I x5), some (I x6), some (I x7), some (I x8), some (I x9), some (I x10), some (I x11), some (I x12), some (I x13), d14, d15, d16, d17] [] (hq cs iv) else bck 1 2147483647 3 (bck 0 2147483647 x7 (if (x7 % 3) = 0 then aBind (Run sc 117 0 [some (Rf 1), some (I x3), some (I x4), some (I x6), none, none, none, none, none, none] [] (hq cs iv)) (fun v h2 => Run sc 0 734 [some (Rf 0), some (Rf 1), some (I x2), some (I x3), some (I x4), some (I x5), some (I x6), some (I x7), some (I x8), some (I x9), some (I x10), some (I x11), some (I x12), some (I x13), d14, d15, d16, d17] (pushR v []) h2) else Run sc 0 751 [some (Rf 0), some (Rf 1), some (I x2), some (I x3), some (I x4), some (I x5), some (I x6), some (I x7), some (I x8), some (I x9), some (I x10), some (I x11), some (I x12), some (I x13), d14, d15, d16, d17] [] (hq cs iv))) :=
  (R_if_eq mc_0 dL_law_715 (t := 749) rfl).trans <| ite_c2
  (rfl)
  ((R_iload mc_0 dL_law_718 rfl).trans <|
  (R_iconst mc_0 dL_law_720 ⟨by decide, by decide⟩).trans <|
  (R_irem mc_0 dL_law_721).trans <| bck_congr <| bck_congr <|
  (R_if_ne mc_0 dL_law_722 (t := 751) rfl).trans <| ite_c2
  ((R_aload_n mc_0 dL_law_725 rfl).trans <|
  (R_iload_n mc_0 dL_law_726 rfl).trans <|
  (R_iload mc_0 dL_law_727 rfl).trans <|
  (R_iload mc_0 dL_law_729 rfl).trans <|
  R_invS mc_0 dL_law_731 mo_0 ct_7_138 (Or.inl rfl) af_0_117 (Nat.le_of_ble_eq_true rfl) rfl rfl ⟨Nat.le_of_ble_eq_true rfl, Nat.le_of_ble_eq_true rfl⟩)
  (rfl))
theorem B_L_law_734 (sc : Nat × (Nat → Int)) (iv : Nat → Nat → Int) (cs : List (Nat × Nat)) (x2 : Int) (x3 : Int) (x4 : Int) (x5 : Int) (x6 : Int) (x7 : Int) (x8 : Int) (x9 : Int) (x10 : Int) (x11 : Int) (x12 : Int) (x13 : Int) (d14 : Option AV) (d15 : Option AV) (d16 : Option AV) (d17 : Option AV) (s0 : Int) : Run sc 0 734 [some (Rf 0), some (Rf 1), some (I x2), some (I x3), some (I x4), some (I x5), some (I x6), some (I x7), some (I x8), some (I x9), some (I x10), some (I x11), some (I x12), some (I x13), d14, d15, d16, d17] [(I s0)] (hq cs iv) = if s0 = 0 then Run sc 0 749 [some (Rf 0), some (Rf 1), some (I x2), some (I x3), some (I x4), some (I x5), some (I x6), some (I x7), some (I x8), some (I x9), some (I x10), some (I x11), some (I x12), some (I x13), d14, d15, d16, d17] [] (hq cs iv) else aBind (Run sc 119 0 [some (Rf 1), some (I x3), some (I x4), some (I x9), none, none, none, none, none, none, none, none, none, none, none] [] (hq cs iv)) (fun v h2 => Run sc 0 746 [some (Rf 0), some (Rf 1), some (I x2), some (I x3), some (I x4), some (I x5), some (I x6), some (I x7), some (I x8), some (I x9), some (I x10), some (I x11), some (I x12), some (I x13), d14, d15, d16, d17] (pushR v []) h2) :=
  (R_if_eq mc_0 dL_law_734 (t := 749) rfl).trans <| ite_c2
  (rfl)
  ((R_aload_n mc_0 dL_law_737 rfl).trans <|
  (R_iload_n mc_0 dL_law_738 rfl).trans <|
  (R_iload mc_0 dL_law_739 rfl).trans <|
  (R_iload mc_0 dL_law_741 rfl).trans <|
  R_invS mc_0 dL_law_743 mo_0 ct_7_140 (Or.inl rfl) af_0_119 (Nat.le_of_ble_eq_true rfl) rfl rfl ⟨Nat.le_of_ble_eq_true rfl, Nat.le_of_ble_eq_true rfl⟩)
theorem B_L_law_746 (sc : Nat × (Nat → Int)) (iv : Nat → Nat → Int) (cs : List (Nat × Nat)) (x2 : Int) (x3 : Int) (x4 : Int) (x5 : Int) (x6 : Int) (x7 : Int) (x8 : Int) (x9 : Int) (x10 : Int) (x11 : Int) (x12 : Int) (x13 : Int) (d14 : Option AV) (d15 : Option AV) (d16 : Option AV) (d17 : Option AV) (s0 : Int) : Run sc 0 746 [some (Rf 0), some (Rf 1), some (I x2), some (I x3), some (I x4), some (I x5), some (I x6), some (I x7), some (I x8), some (I x9), some (I x10), some (I x11), some (I x12), some (I x13), d14, d15, d16, d17] [(I s0)] (hq cs iv) = if s0 = 0 then Run sc 0 749 [some (Rf 0), some (Rf 1), some (I x2), some (I x3), some (I x4), some (I x5), some (I x6), some (I x7), some (I x8), some (I x9), some (I x10), some (I x11), some (I x12), some (I x13), d14, d15, d16, d17] [] (hq cs iv) else Run sc 0 751 [some (Rf 0), some (Rf 1), some (I x2), some (I x3), some (I x4), some (I x5), some (I x6), some (I x7), some (I x8), some (I x9), some (I x10), some (I x11), some (I x12), some (I x13), d14, d15, d16, d17] [] (hq cs iv) :=
  R_if_ne mc_0 dL_law_746 (t := 751) rfl
theorem B_L_law_749 (sc : Nat × (Nat → Int)) (iv : Nat → Nat → Int) (cs : List (Nat × Nat)) (x2 : Int) (x3 : Int) (x4 : Int) (x5 : Int) (x6 : Int) (x7 : Int) (x8 : Int) (x9 : Int) (x10 : Int) (x11 : Int) (x12 : Int) (x13 : Int) (d14 : Option AV) (d15 : Option AV) (d16 : Option AV) (d17 : Option AV) : Run sc 0 749 [some (Rf 0), some (Rf 1), some (I x2), some (I x3), some (I x4), some (I x5), some (I x6), some (I x7), some (I x8), some (I x9), some (I x10), some (I x11), some (I x12), some (I x13), d14, d15, d16, d17] [] (hq cs iv) = bck 0 1 0 (some (some (I 0), (hq cs iv))) :=
  (R_iconst mc_0 dL_law_749 ⟨by decide, by decide⟩).trans <|
  R_ireturnZ mc_0 dL_law_750 rfl
theorem B_L_law_751 (sc : Nat × (Nat → Int)) (iv : Nat → Nat → Int) (cs : List (Nat × Nat)) (x2 : Int) (x3 : Int) (x4 : Int) (x5 : Int) (x6 : Int) (x7 : Int) (x8 : Int) (x9 : Int) (x10 : Int) (x11 : Int) (x12 : Int) (x13 : Int) (d14 : Option AV) (d15 : Option AV) (d16 : Option AV) (d17 : Option AV) : Run sc 0 751 [some (Rf 0), some (Rf 1), some (I x2), some (I x3), some (I x4), some (I x5), some (I x6), some (I x7), some (I x8), some (I x9), some (I x10), some (I x11), some (I x12), some (I x13), d14, d15, d16, d17] [] (hq cs iv) = chk (x7 + 1) (Run sc 0 62 [some (Rf 0), some (Rf 1), some (I x2), some (I x3), some (I x4), some (I x5), some (I x6), some (I (x7 + 1)), some (I x8), some (I x9), some (I x10), some (I x11), some (I x12), some (I x13), d14, d15, d16, d17] [] (hq cs iv)) :=
  (R_iinc mc_0 dL_law_751 rfl).trans <| chk_congr <|
  R_goto mc_0 dL_law_754 (t := 62) rfl
theorem B_L_law_757 (sc : Nat × (Nat → Int)) (iv : Nat → Nat → Int) (cs : List (Nat × Nat)) (x2 : Int) (x3 : Int) (x4 : Int) (x5 : Int) (x6 : Int) (x7 : Int) (d8 : Option AV) (d9 : Option AV) (d10 : Option AV) (d11 : Option AV) (d12 : Option AV) (d13 : Option AV) (d14 : Option AV) (d15 : Option AV) (d16 : Option AV) (d17 : Option AV) : Run sc 0 757 [some (Rf 0), some (Rf 1), some (I x2), some (I x3), some (I x4), some (I x5), some (I x6), some (I x7), d8, d9, d10, d11, d12, d13, d14, d15, d16, d17] [] (hq cs iv) = if x3 < 24 then aBind (Run sc 121 0 [some (Rf 1), some (I (x2 / 512)), none, none, none, none, none, none] [] (hq cs iv)) (fun v h2 => Run sc 0 771 [some (Rf 0), some (Rf 1), some (I x2), some (I x3), some (I x4), some (I x5), some (I x6), some (I x7), d8, d9, d10, d11, d12, d13, d14, d15, d16, d17] (pushR v []) h2) else Run sc 0 774 [some (Rf 0), some (Rf 1), some (I x2), some (I x3), some (I x4), some (I x5), some (I x6), some (I x7), d8, d9, d10, d11, d12, d13, d14, d15, d16, d17] [] (hq cs iv) :=
  (R_iload_n mc_0 dL_law_757 rfl).trans <|
  (R_bipush mc_0 dL_law_758 ⟨by decide, by decide⟩).trans <|
  (R_icmp_ge mc_0 dL_law_760 (t := 774) rfl).trans <| ite_c2
  ((R_aload_n mc_0 dL_law_763 rfl).trans <|
  (R_iload_n mc_0 dL_law_764 rfl).trans <|
  (R_bipush mc_0 dL_law_765 ⟨by decide, by decide⟩).trans <|
  (R_ishrK mc_0 dL_law_767 ⟨by decide, by decide⟩ (z := 512) rfl).trans <|
  R_invS mc_0 dL_law_768 mo_0 ct_7_142 (Or.inl rfl) af_0_121 (Nat.le_of_ble_eq_true rfl) rfl rfl ⟨Nat.le_of_ble_eq_true rfl, Nat.le_of_ble_eq_true rfl⟩)
  (rfl)
theorem B_L_law_771 (sc : Nat × (Nat → Int)) (iv : Nat → Nat → Int) (cs : List (Nat × Nat)) (x2 : Int) (x3 : Int) (x4 : Int) (x5 : Int) (x6 : Int) (x7 : Int) (d8 : Option AV) (d9 : Option AV) (d10 : Option AV) (d11 : Option AV) (d12 : Option AV) (d13 : Option AV) (d14 : Option AV) (d15 : Option AV) (d16 : Option AV) (d17 : Option AV) (s0 : Int) : Run sc 0 771 [some (Rf 0), some (Rf 1), some (I x2), some (I x3), some (I x4), some (I x5), some (I x6), some (I x7), d8, d9, d10, d11, d12, d13, d14, d15, d16, d17] [(I s0)] (hq cs iv) = if s0 = 0 then Run sc 0 788 [some (Rf 0), some (Rf 1), some (I x2), some (I x3), some (I x4), some (I x5), some (I x6), some (I x7), d8, d9, d10, d11, d12, d13, d14, d15, d16, d17] [] (hq cs iv) else Run sc 0 774 [some (Rf 0), some (Rf 1), some (I x2), some (I x3), some (I x4), some (I x5), some (I x6), some (I x7), d8, d9, d10, d11, d12, d13, d14, d15, d16, d17] [] (hq cs iv) :=
  R_if_eq mc_0 dL_law_771 (t := 788) rfl
theorem B_L_law_774 (sc : Nat × (Nat → Int)) (iv : Nat → Nat → Int) (cs : List (Nat × Nat)) (x2 : Int) (x3 : Int) (x4 : Int) (x5 : Int) (x6 : Int) (x7 : Int) (d8 : Option AV) (d9 : Option AV) (d10 : Option AV) (d11 : Option AV) (d12 : Option AV) (d13 : Option AV) (d14 : Option AV) (d15 : Option AV) (d16 : Option AV) (d17 : Option AV) : Run sc 0 774 [some (Rf 0), some (Rf 1), some (I x2), some (I x3), some (I x4), some (I x5), some (I x6), some (I x7), d8, d9, d10, d11, d12, d13, d14, d15, d16, d17] [] (hq cs iv) = aBind (Run sc 122 0 [some (Rf 1), some (I x3), some (I x4), none, none] [] (hq cs iv)) (fun v h2 => Run sc 0 781 [some (Rf 0), some (Rf 1), some (I x2), some (I x3), some (I x4), some (I x5), some (I x6), some (I x7), d8, d9, d10, d11, d12, d13, d14, d15, d16, d17] (pushR v []) h2) :=
  (R_aload_n mc_0 dL_law_774 rfl).trans <|
  (R_iload_n mc_0 dL_law_775 rfl).trans <|
  (R_iload mc_0 dL_law_776 rfl).trans <|
  R_invS mc_0 dL_law_778 mo_0 ct_7_145 (Or.inl rfl) af_0_122 (Nat.le_of_ble_eq_true rfl) rfl rfl ⟨Nat.le_of_ble_eq_true rfl, Nat.le_of_ble_eq_true rfl⟩
theorem B_L_law_781 (sc : Nat × (Nat → Int)) (iv : Nat → Nat → Int) (cs : List (Nat × Nat)) (x2 : Int) (x3 : Int) (x4 : Int) (x5 : Int) (x6 : Int) (x7 : Int) (d8 : Option AV) (d9 : Option AV) (d10 : Option AV) (d11 : Option AV) (d12 : Option AV) (d13 : Option AV) (d14 : Option AV) (d15 : Option AV) (d16 : Option AV) (d17 : Option AV) (s0 : Int) : Run sc 0 781 [some (Rf 0), some (Rf 1), some (I x2), some (I x3), some (I x4), some (I x5), some (I x6), some (I x7), d8, d9, d10, d11, d12, d13, d14, d15, d16, d17] [(I s0)] (hq cs iv) = if s0 = 0 then Run sc 0 788 [some (Rf 0), some (Rf 1), some (I x2), some (I x3), some (I x4), some (I x5), some (I x6), some (I x7), d8, d9, d10, d11, d12, d13, d14, d15, d16, d17] [] (hq cs iv) else Run sc 0 789 [some (Rf 0), some (Rf 1), some (I x2), some (I x3), some (I x4), some (I x5), some (I x6), some (I x7), d8, d9, d10, d11, d12, d13, d14, d15, d16, d17] [(I 1)] (hq cs iv) :=
  (R_if_eq mc_0 dL_law_781 (t := 788) rfl).trans <| ite_c2
  (rfl)
  ((R_iconst mc_0 dL_law_784 ⟨by decide, by decide⟩).trans <|
  R_goto mc_0 dL_law_785 (t := 789) rfl)
theorem B_L_law_788 (sc : Nat × (Nat → Int)) (iv : Nat → Nat → Int) (cs : List (Nat × Nat)) (x2 : Int) (x3 : Int) (x4 : Int) (x5 : Int) (x6 : Int) (x7 : Int) (d8 : Option AV) (d9 : Option AV) (d10 : Option AV) (d11 : Option AV) (d12 : Option AV) (d13 : Option AV) (d14 : Option AV) (d15 : Option AV) (d16 : Option AV) (d17 : Option AV) : Run sc 0 788 [some (Rf 0), some (Rf 1), some (I x2), some (I x3), some (I x4), some (I x5), some (I x6), some (I x7), d8, d9, d10, d11, d12, d13, d14, d15, d16, d17] [] (hq cs iv) = Run sc 0 789 [some (Rf 0), some (Rf 1), some (I x2), some (I x3), some (I x4), some (I x5), some (I x6), some (I x7), d8, d9, d10, d11, d12, d13, d14, d15, d16, d17] [(I 0)] (hq cs iv) :=
  R_iconst mc_0 dL_law_788 ⟨by decide, by decide⟩
theorem B_L_law_789 (sc : Nat × (Nat → Int)) (iv : Nat → Nat → Int) (cs : List (Nat × Nat)) (x2 : Int) (x3 : Int) (x4 : Int) (x5 : Int) (x6 : Int) (x7 : Int) (d8 : Option AV) (d9 : Option AV) (d10 : Option AV) (d11 : Option AV) (d12 : Option AV) (d13 : Option AV) (d14 : Option AV) (d15 : Option AV) (d16 : Option AV) (d17 : Option AV) (s0 : Int) : Run sc 0 789 [some (Rf 0), some (Rf 1), some (I x2), some (I x3), some (I x4), some (I x5), some (I x6), some (I x7), d8, d9, d10, d11, d12, d13, d14, d15, d16, d17] [(I s0)] (hq cs iv) = bck 0 1 s0 (some (some (I s0), (hq cs iv))) :=
  R_ireturnZ mc_0 dL_law_789 rfl
