theorem B_L_texts_0 (sc : Nat × (Nat → Int)) (iv : Nat → Nat → Int) (cs : List (Nat × Nat)) (x1 : Int) : Run sc 121 0 [some (Rf 1), some (I x1), none, none, none, none, none, none] [] (hq cs iv) = aBind (Run sc 79 0 [some (Rf 1), none] [] (hq cs iv)) (fun v h2 => Run sc 121 4 [some (Rf 1), some (I x1), none, none, none, none, none, none] (pushR v []) h2) :=
  (R_aload_n mc_121 dL_texts_0 rfl).trans <|
  R_invV mc_121 dL_texts_1 mo_121 ct_7_86 af_121_79 rfl rfl rfl ⟨Nat.le_of_ble_eq_true rfl, Nat.le_of_ble_eq_true rfl⟩
theorem B_L_texts_4 (sc : Nat × (Nat → Int)) (iv : Nat → Nat → Int) (cs : List (Nat × Nat)) (x1 : Int) (d2 : Option AV) (d3 : Option AV) (d4 : Option AV) (d5 : Option AV) (d6 : Option AV) (d7 : Option AV) (s0 : Int) : Run sc 121 4 [some (Rf 1), some (I x1), d2, d3, d4, d5, d6, d7] [(I s0)] (hq cs iv) = aBind (Run sc 109 0 [some (I x1), some (I 3)] [] (hq cs iv)) (fun v h2 => Run sc 121 11 [some (Rf 1), some (I x1), d2, d3, d4, d5, d6, d7] (pushR v [(I 1)]) h2) :=
  (R_pop mc_121 dL_texts_4).trans <|
  (R_iconst mc_121 dL_texts_5 ⟨by decide, by decide⟩).trans <|
  (R_iload_n mc_121 dL_texts_6 rfl).trans <|
  (R_iconst mc_121 dL_texts_7 ⟨by decide, by decide⟩).trans <|
  R_invS mc_121 dL_texts_8 mo_121 ct_7_61 (Or.inl rfl) af_121_109 (Nat.le_of_ble_eq_true rfl) rfl rfl ⟨Nat.le_of_ble_eq_true rfl, Nat.le_of_ble_eq_true rfl⟩
theorem B_L_texts_11 (sc : Nat × (Nat → Int)) (iv : Nat → Nat → Int) (cs : List (Nat × Nat)) (x1 : Int) (d2 : Option AV) (d3 : Option AV) (d4 : Option AV) (d5 : Option AV) (d6 : Option AV) (d7 : Option AV) (s0 : Int) (s1 : Int) : Run sc 121 11 [some (Rf 1), some (I x1), d2, d3, d4, d5, d6, d7] [(I s0), (I s1)] (hq cs iv) = chk (s1 + s0) (chk (48 + (s1 + s0)) (aBind (Run sc 78 0 [some (Rf 1), some (I ((48 + (s1 + s0)) % 65536))] [] (hq cs iv)) (fun v h2 => Run sc 121 22 [some (Rf 1), some (I x1), some (I (s1 + s0)), d3, d4, d5, d6, d7] (pushR v []) h2))) :=
  (R_iadd mc_121 dL_texts_11).trans <| chk_congr <|
  (R_istore_n mc_121 dL_texts_12 (Nat.le_of_ble_eq_true rfl)).trans <|
  (R_aload_n mc_121 dL_texts_13 rfl).trans <|
  (R_bipush mc_121 dL_texts_14 ⟨by decide, by decide⟩).trans <|
  (R_iload_n mc_121 dL_texts_16 rfl).trans <|
  (R_iadd mc_121 dL_texts_17).trans <| chk_congr <|
  (R_i2c mc_121 dL_texts_18).trans <|
  R_invV mc_121 dL_texts_19 mo_121 ct_7_89 af_121_78 rfl rfl rfl ⟨Nat.le_of_ble_eq_true rfl, Nat.le_of_ble_eq_true rfl⟩
theorem B_L_texts_22 (sc : Nat × (Nat → Int)) (iv : Nat → Nat → Int) (cs : List (Nat × Nat)) (x1 : Int) (x2 : Int) (d3 : Option AV) (d4 : Option AV) (d5 : Option AV) (d6 : Option AV) (d7 : Option AV) (s0 : Int) : Run sc 121 22 [some (Rf 1), some (I x1), some (I x2), d3, d4, d5, d6, d7] [(I s0)] (hq cs iv) = aBind (Run sc 80 0 [some (Rf 1), none] [] (hq cs iv)) (fun v h2 => Run sc 121 27 [some (Rf 1), some (I x1), some (I x2), d3, d4, d5, d6, d7] (pushR v []) h2) :=
  (R_pop mc_121 dL_texts_22).trans <|
  (R_aload_n mc_121 dL_texts_23 rfl).trans <|
  R_invV mc_121 dL_texts_24 mo_121 ct_7_93 af_121_80 rfl rfl rfl ⟨Nat.le_of_ble_eq_true rfl, Nat.le_of_ble_eq_true rfl⟩
theorem B_L_texts_27 (sc : Nat × (Nat → Int)) (iv : Nat → Nat → Int) (cs : List (Nat × Nat)) (x1 : Int) (x2 : Int) (d3 : Option AV) (d4 : Option AV) (d5 : Option AV) (d6 : Option AV) (d7 : Option AV) (s0 : Int) : Run sc 121 27 [some (Rf 1), some (I x1), some (I x2), d3, d4, d5, d6, d7] [(I s0)] (hq cs iv) = if s0 = (-101) then Run sc 121 37 [some (Rf 1), some (I x1), some (I x2), d3, d4, d5, d6, d7] [(I 1)] (hq cs iv) else Run sc 121 36 [some (Rf 1), some (I x1), some (I x2), d3, d4, d5, d6, d7] [] (hq cs iv) :=
  (R_bipush mc_121 dL_texts_27 ⟨by decide, by decide⟩).trans <|
  (R_icmp_ne mc_121 dL_texts_29 (t := 36) rfl).trans <| ite_c2
  ((R_iconst mc_121 dL_texts_32 ⟨by decide, by decide⟩).trans <|
  R_goto mc_121 dL_texts_33 (t := 37) rfl)
  (rfl)
theorem B_L_texts_36 (sc : Nat × (Nat → Int)) (iv : Nat → Nat → Int) (cs : List (Nat × Nat)) (x1 : Int) (x2 : Int) (d3 : Option AV) (d4 : Option AV) (d5 : Option AV) (d6 : Option AV) (d7 : Option AV) : Run sc 121 36 [some (Rf 1), some (I x1), some (I x2), d3, d4, d5, d6, d7] [] (hq cs iv) = Run sc 121 37 [some (Rf 1), some (I x1), some (I x2), d3, d4, d5, d6, d7] [(I 0)] (hq cs iv) :=
  R_iconst mc_121 dL_texts_36 ⟨by decide, by decide⟩
theorem B_L_texts_37 (sc : Nat × (Nat → Int)) (iv : Nat → Nat → Int) (cs : List (Nat × Nat)) (x1 : Int) (x2 : Int) (d3 : Option AV) (d4 : Option AV) (d5 : Option AV) (d6 : Option AV) (d7 : Option AV) (s0 : Int) : Run sc 121 37 [some (Rf 1), some (I x1), some (I x2), d3, d4, d5, d6, d7] [(I s0)] (hq cs iv) = aBind (Run sc 78 0 [some (Rf 1), some (I 120)] [] (hq cs iv)) (fun v h2 => Run sc 121 44 [some (Rf 1), some (I x1), some (I x2), some (I s0), d4, d5, d6, d7] (pushR v []) h2) :=
  (R_istore_n mc_121 dL_texts_37 (Nat.le_of_ble_eq_true rfl)).trans <|
  (R_aload_n mc_121 dL_texts_38 rfl).trans <|
  (R_bipush mc_121 dL_texts_39 ⟨by decide, by decide⟩).trans <|
  R_invV mc_121 dL_texts_41 mo_121 ct_7_89 af_121_78 rfl rfl rfl ⟨Nat.le_of_ble_eq_true rfl, Nat.le_of_ble_eq_true rfl⟩
theorem B_L_texts_44 (sc : Nat × (Nat → Int)) (iv : Nat → Nat → Int) (cs : List (Nat × Nat)) (x1 : Int) (x2 : Int) (x3 : Int) (d4 : Option AV) (d5 : Option AV) (d6 : Option AV) (d7 : Option AV) (s0 : Int) : Run sc 121 44 [some (Rf 1), some (I x1), some (I x2), some (I x3), d4, d5, d6, d7] [(I s0)] (hq cs iv) = aBind (Run sc 80 0 [some (Rf 1), none] [] (hq cs iv)) (fun v h2 => Run sc 121 49 [some (Rf 1), some (I x1), some (I x2), some (I x3), d4, d5, d6, d7] (pushR v []) h2) :=
  (R_pop mc_121 dL_texts_44).trans <|
  (R_aload_n mc_121 dL_texts_45 rfl).trans <|
  R_invV mc_121 dL_texts_46 mo_121 ct_7_93 af_121_80 rfl rfl rfl ⟨Nat.le_of_ble_eq_true rfl, Nat.le_of_ble_eq_true rfl⟩
theorem B_L_texts_49 (sc : Nat × (Nat → Int)) (iv : Nat → Nat → Int) (cs : List (Nat × Nat)) (x1 : Int) (x2 : Int) (x3 : Int) (d4 : Option AV) (d5 : Option AV) (d6 : Option AV) (d7 : Option AV) (s0 : Int) : Run sc 121 49 [some (Rf 1), some (I x1), some (I x2), some (I x3), d4, d5, d6, d7] [(I s0)] (hq cs iv) = if s0 = (-101) then Run sc 121 59 [some (Rf 1), some (I x1), some (I x2), some (I x3), d4, d5, d6, d7] [(I 1)] (hq cs iv) else Run sc 121 58 [some (Rf 1), some (I x1), some (I x2), some (I x3), d4, d5, d6, d7] [] (hq cs iv) :=
  (R_bipush mc_121 dL_texts_49 ⟨by decide, by decide⟩).trans <|
  (R_icmp_ne mc_121 dL_texts_51 (t := 58) rfl).trans <| ite_c2
  ((R_iconst mc_121 dL_texts_54 ⟨by decide, by decide⟩).trans <|
  R_goto mc_121 dL_texts_55 (t := 59) rfl)
  (rfl)
theorem B_L_texts_58 (sc : Nat × (Nat → Int)) (iv : Nat → Nat → Int) (cs : List (Nat × Nat)) (x1 : Int) (x2 : Int) (x3 : Int) (d4 : Option AV) (d5 : Option AV) (d6 : Option AV) (d7 : Option AV) : Run sc 121 58 [some (Rf 1), some (I x1), some (I x2), some (I x3), d4, d5, d6, d7] [] (hq cs iv) = Run sc 121 59 [some (Rf 1), some (I x1), some (I x2), some (I x3), d4, d5, d6, d7] [(I 0)] (hq cs iv) :=
  R_iconst mc_121 dL_texts_58 ⟨by decide, by decide⟩
theorem B_L_texts_59 (sc : Nat × (Nat → Int)) (iv : Nat → Nat → Int) (cs : List (Nat × Nat)) (x1 : Int) (x2 : Int) (x3 : Int) (d4 : Option AV) (d5 : Option AV) (d6 : Option AV) (d7 : Option AV) (s0 : Int) : Run sc 121 59 [some (Rf 1), some (I x1), some (I x2), some (I x3), d4, d5, d6, d7] [(I s0)] (hq cs iv) = aBind (Run sc 79 0 [some (Rf 1), none] [] (hq cs iv)) (fun v h2 => Run sc 121 65 [some (Rf 1), some (I x1), some (I x2), some (I x3), some (I s0), d5, d6, d7] (pushR v []) h2) :=
  (R_istore mc_121 dL_texts_59 (Nat.le_of_ble_eq_true rfl)).trans <|
  (R_aload_n mc_121 dL_texts_61 rfl).trans <|
  R_invV mc_121 dL_texts_62 mo_121 ct_7_86 af_121_79 rfl rfl rfl ⟨Nat.le_of_ble_eq_true rfl, Nat.le_of_ble_eq_true rfl⟩
theorem B_L_texts_65 (sc : Nat × (Nat → Int)) (iv : Nat → Nat → Int) (cs : List (Nat × Nat)) (x1 : Int) (x2 : Int) (x3 : Int) (x4 : Int) (d5 : Option AV) (d6 : Option AV) (d7 : Option AV) (s0 : Int) : Run sc 121 65 [some (Rf 1), some (I x1), some (I x2), some (I x3), some (I x4), d5, d6, d7] [(I s0)] (hq cs iv) = aBind (Run sc 78 0 [some (Rf 1), some (I 50)] [] (hq cs iv)) (fun v h2 => Run sc 121 72 [some (Rf 1), some (I x1), some (I x2), some (I x3), some (I x4), d5, d6, d7] (pushR v []) h2) :=
  (R_pop mc_121 dL_texts_65).trans <|
  (R_aload_n mc_121 dL_texts_66 rfl).trans <|
  (R_bipush mc_121 dL_texts_67 ⟨by decide, by decide⟩).trans <|
  R_invV mc_121 dL_texts_69 mo_121 ct_7_89 af_121_78 rfl rfl rfl ⟨Nat.le_of_ble_eq_true rfl, Nat.le_of_ble_eq_true rfl⟩
theorem B_L_texts_72 (sc : Nat × (Nat → Int)) (iv : Nat → Nat → Int) (cs : List (Nat × Nat)) (x1 : Int) (x2 : Int) (x3 : Int) (x4 : Int) (d5 : Option AV) (d6 : Option AV) (d7 : Option AV) (s0 : Int) : Run sc 121 72 [some (Rf 1), some (I x1), some (I x2), some (I x3), some (I x4), d5, d6, d7] [(I s0)] (hq cs iv) = aBind (Run sc 78 0 [some (Rf 1), some (I 53)] [] (hq cs iv)) (fun v h2 => Run sc 121 79 [some (Rf 1), some (I x1), some (I x2), some (I x3), some (I x4), d5, d6, d7] (pushR v []) h2) :=
  (R_pop mc_121 dL_texts_72).trans <|
  (R_aload_n mc_121 dL_texts_73 rfl).trans <|
  (R_bipush mc_121 dL_texts_74 ⟨by decide, by decide⟩).trans <|
  R_invV mc_121 dL_texts_76 mo_121 ct_7_89 af_121_78 rfl rfl rfl ⟨Nat.le_of_ble_eq_true rfl, Nat.le_of_ble_eq_true rfl⟩
theorem B_L_texts_79 (sc : Nat × (Nat → Int)) (iv : Nat → Nat → Int) (cs : List (Nat × Nat)) (x1 : Int) (x2 : Int) (x3 : Int) (x4 : Int) (d5 : Option AV) (d6 : Option AV) (d7 : Option AV) (s0 : Int) : Run sc 121 79 [some (Rf 1), some (I x1), some (I x2), some (I x3), some (I x4), d5, d6, d7] [(I s0)] (hq cs iv) = aBind (Run sc 80 0 [some (Rf 1), none] [] (hq cs iv)) (fun v h2 => Run sc 121 84 [some (Rf 1), some (I x1), some (I x2), some (I x3), some (I x4), d5, d6, d7] (pushR v []) h2) :=
  (R_pop mc_121 dL_texts_79).trans <|
  (R_aload_n mc_121 dL_texts_80 rfl).trans <|
  R_invV mc_121 dL_texts_81 mo_121 ct_7_93 af_121_80 rfl rfl rfl ⟨Nat.le_of_ble_eq_true rfl, Nat.le_of_ble_eq_true rfl⟩
theorem B_L_texts_84 (sc : Nat × (Nat → Int)) (iv : Nat → Nat → Int) (cs : List (Nat × Nat)) (x1 : Int) (x2 : Int) (x3 : Int) (x4 : Int) (d5 : Option AV) (d6 : Option AV) (d7 : Option AV) (s0 : Int) : Run sc 121 84 [some (Rf 1), some (I x1), some (I x2), some (I x3), some (I x4), d5, d6, d7] [(I s0)] (hq cs iv) = if s0 = (-100) then Run sc 121 94 [some (Rf 1), some (I x1), some (I x2), some (I x3), some (I x4), d5, d6, d7] [(I 1)] (hq cs iv) else Run sc 121 93 [some (Rf 1), some (I x1), some (I x2), some (I x3), some (I x4), d5, d6, d7] [] (hq cs iv) :=
  (R_bipush mc_121 dL_texts_84 ⟨by decide, by decide⟩).trans <|
  (R_icmp_ne mc_121 dL_texts_86 (t := 93) rfl).trans <| ite_c2
  ((R_iconst mc_121 dL_texts_89 ⟨by decide, by decide⟩).trans <|
  R_goto mc_121 dL_texts_90 (t := 94) rfl)
  (rfl)
theorem B_L_texts_93 (sc : Nat × (Nat → Int)) (iv : Nat → Nat → Int) (cs : List (Nat × Nat)) (x1 : Int) (x2 : Int) (x3 : Int) (x4 : Int) (d5 : Option AV) (d6 : Option AV) (d7 : Option AV) : Run sc 121 93 [some (Rf 1), some (I x1), some (I x2), some (I x3), some (I x4), d5, d6, d7] [] (hq cs iv) = Run sc 121 94 [some (Rf 1), some (I x1), some (I x2), some (I x3), some (I x4), d5, d6, d7] [(I 0)] (hq cs iv) :=
  R_iconst mc_121 dL_texts_93 ⟨by decide, by decide⟩
theorem B_L_texts_94 (sc : Nat × (Nat → Int)) (iv : Nat → Nat → Int) (cs : List (Nat × Nat)) (x1 : Int) (x2 : Int) (x3 : Int) (x4 : Int) (d5 : Option AV) (d6 : Option AV) (d7 : Option AV) (s0 : Int) : Run sc 121 94 [some (Rf 1), some (I x1), some (I x2), some (I x3), some (I x4), d5, d6, d7] [(I s0)] (hq cs iv) = aBind (Run sc 78 0 [some (Rf 1), some (I 49)] [] (hq cs iv)) (fun v h2 => Run sc 121 102 [some (Rf 1), some (I x1), some (I x2), some (I x3), some (I x4), some (I s0), d6, d7] (pushR v []) h2) :=
  (R_istore mc_121 dL_texts_94 (Nat.le_of_ble_eq_true rfl)).trans <|
  (R_aload_n mc_121 dL_texts_96 rfl).trans <|
  (R_bipush mc_121 dL_texts_97 ⟨by decide, by decide⟩).trans <|
  R_invV mc_121 dL_texts_99 mo_121 ct_7_89 af_121_78 rfl rfl rfl ⟨Nat.le_of_ble_eq_true rfl, Nat.le_of_ble_eq_true rfl⟩
theorem B_L_texts_102 (sc : Nat × (Nat → Int)) (iv : Nat → Nat → Int) (cs : List (Nat × Nat)) (x1 : Int) (x2 : Int) (x3 : Int) (x4 : Int) (x5 : Int) (d6 : Option AV) (d7 : Option AV) (s0 : Int) : Run sc 121 102 [some (Rf 1), some (I x1), some (I x2), some (I x3), some (I x4), some (I x5), d6, d7] [(I s0)] (hq cs iv) = aBind (Run sc 80 0 [some (Rf 1), none] [] (hq cs iv)) (fun v h2 => Run sc 121 107 [some (Rf 1), some (I x1), some (I x2), some (I x3), some (I x4), some (I x5), d6, d7] (pushR v []) h2) :=
  (R_pop mc_121 dL_texts_102).trans <|
  (R_aload_n mc_121 dL_texts_103 rfl).trans <|
  R_invV mc_121 dL_texts_104 mo_121 ct_7_93 af_121_80 rfl rfl rfl ⟨Nat.le_of_ble_eq_true rfl, Nat.le_of_ble_eq_true rfl⟩
theorem B_L_texts_107 (sc : Nat × (Nat → Int)) (iv : Nat → Nat → Int) (cs : List (Nat × Nat)) (x1 : Int) (x2 : Int) (x3 : Int) (x4 : Int) (x5 : Int) (d6 : Option AV) (d7 : Option AV) (s0 : Int) : Run sc 121 107 [some (Rf 1), some (I x1), some (I x2), some (I x3), some (I x4), some (I x5), d6, d7] [(I s0)] (hq cs iv) = if s0 = (-102) then Run sc 121 117 [some (Rf 1), some (I x1), some (I x2), some (I x3), some (I x4), some (I x5), d6, d7] [(I 1)] (hq cs iv) else Run sc 121 116 [some (Rf 1), some (I x1), some (I x2), some (I x3), some (I x4), some (I x5), d6, d7] [] (hq cs iv) :=
  (R_bipush mc_121 dL_texts_107 ⟨by decide, by decide⟩).trans <|
  (R_icmp_ne mc_121 dL_texts_109 (t := 116) rfl).trans <| ite_c2
  ((R_iconst mc_121 dL_texts_112 ⟨by decide, by decide⟩).trans <|
  R_goto mc_121 dL_texts_113 (t := 117) rfl)
  (rfl)
theorem B_L_texts_116 (sc : Nat × (Nat → Int)) (iv : Nat → Nat → Int) (cs : List (Nat × Nat)) (x1 : Int) (x2 : Int) (x3 : Int) (x4 : Int) (x5 : Int) (d6 : Option AV) (d7 : Option AV) : Run sc 121 116 [some (Rf 1), some (I x1), some (I x2), some (I x3), some (I x4), some (I x5), d6, d7] [] (hq cs iv) = Run sc 121 117 [some (Rf 1), some (I x1), some (I x2), some (I x3), some (I x4), some (I x5), d6, d7] [(I 0)] (hq cs iv) :=
  R_iconst mc_121 dL_texts_116 ⟨by decide, by decide⟩
theorem B_L_texts_117 (sc : Nat × (Nat → Int)) (iv : Nat → Nat → Int) (cs : List (Nat × Nat)) (x1 : Int) (x2 : Int) (x3 : Int) (x4 : Int) (x5 : Int) (d6 : Option AV) (d7 : Option AV) (s0 : Int) : Run sc 121 117 [some (Rf 1), some (I x1), some (I x2), some (I x3), some (I x4), some (I x5), d6, d7] [(I s0)] (hq cs iv) = aBind (Run sc 79 0 [some (Rf 1), none] [] (hq cs iv)) (fun v h2 => Run sc 121 123 [some (Rf 1), some (I x1), some (I x2), some (I x3), some (I x4), some (I x5), some (I s0), d7] (pushR v []) h2) :=
  (R_istore mc_121 dL_texts_117 (Nat.le_of_ble_eq_true rfl)).trans <|
  (R_aload_n mc_121 dL_texts_119 rfl).trans <|
  R_invV mc_121 dL_texts_120 mo_121 ct_7_86 af_121_79 rfl rfl rfl ⟨Nat.le_of_ble_eq_true rfl, Nat.le_of_ble_eq_true rfl⟩
theorem B_L_texts_123 (sc : Nat × (Nat → Int)) (iv : Nat → Nat → Int) (cs : List (Nat × Nat)) (x1 : Int) (x2 : Int) (x3 : Int) (x4 : Int) (x5 : Int) (x6 : Int) (d7 : Option AV) (s0 : Int) : Run sc 121 123 [some (Rf 1), some (I x1), some (I x2), some (I x3), some (I x4), some (I x5), some (I x6), d7] [(I s0)] (hq cs iv) = aBind (Run sc 78 0 [some (Rf 1), some (I 50)] [] (hq cs iv)) (fun v h2 => Run sc 121 130 [some (Rf 1), some (I x1), some (I x2), some (I x3), some (I x4), some (I x5), some (I x6), d7] (pushR v []) h2) :=
  (R_pop mc_121 dL_texts_123).trans <|
  (R_aload_n mc_121 dL_texts_124 rfl).trans <|
  (R_bipush mc_121 dL_texts_125 ⟨by decide, by decide⟩).trans <|
  R_invV mc_121 dL_texts_127 mo_121 ct_7_89 af_121_78 rfl rfl rfl ⟨Nat.le_of_ble_eq_true rfl, Nat.le_of_ble_eq_true rfl⟩
theorem B_L_texts_130 (sc : Nat × (Nat → Int)) (iv : Nat → Nat → Int) (cs : List (Nat × Nat)) (x1 : Int) (x2 : Int) (x3 : Int) (x4 : Int) (x5 : Int) (x6 : Int) (d7 : Option AV) (s0 : Int) : Run sc 121 130 [some (Rf 1), some (I x1), some (I x2), some (I x3), some (I x4), some (I x5), some (I x6), d7] [(I s0)] (hq cs iv) = aBind (Run sc 78 0 [some (Rf 1), some (I 52)] [] (hq cs iv)) (fun v h2 => Run sc 121 137 [some (Rf 1), some (I x1), some (I x2), some (I x3), some (I x4), some (I x5), some (I x6), d7] (pushR v []) h2) :=
  (R_pop mc_121 dL_texts_130).trans <|
  (R_aload_n mc_121 dL_texts_131 rfl).trans <|
  (R_bipush mc_121 dL_texts_132 ⟨by decide, by decide⟩).trans <|
  R_invV mc_121 dL_texts_134 mo_121 ct_7_89 af_121_78 rfl rfl rfl ⟨Nat.le_of_ble_eq_true rfl, Nat.le_of_ble_eq_true rfl⟩
theorem B_L_texts_137 (sc : Nat × (Nat → Int)) (iv : Nat → Nat → Int) (cs : List (Nat × Nat)) (x1 : Int) (x2 : Int) (x3 : Int) (x4 : Int) (x5 : Int) (x6 : Int) (d7 : Option AV) (s0 : Int) : Run sc 121 137 [some (Rf 1), some (I x1), some (I x2), some (I x3), some (I x4), some (I x5), some (I x6), d7] [(I s0)] (hq cs iv) = aBind (Run sc 78 0 [some (Rf 1), some (I 97)] [] (hq cs iv)) (fun v h2 => Run sc 121 144 [some (Rf 1), some (I x1), some (I x2), some (I x3), some (I x4), some (I x5), some (I x6), d7] (pushR v []) h2) :=
  (R_pop mc_121 dL_texts_137).trans <|
  (R_aload_n mc_121 dL_texts_138 rfl).trans <|
  (R_bipush mc_121 dL_texts_139 ⟨by decide, by decide⟩).trans <|
  R_invV mc_121 dL_texts_141 mo_121 ct_7_89 af_121_78 rfl rfl rfl ⟨Nat.le_of_ble_eq_true rfl, Nat.le_of_ble_eq_true rfl⟩
theorem B_L_texts_144 (sc : Nat × (Nat → Int)) (iv : Nat → Nat → Int) (cs : List (Nat × Nat)) (x1 : Int) (x2 : Int) (x3 : Int) (x4 : Int) (x5 : Int) (x6 : Int) (d7 : Option AV) (s0 : Int) : Run sc 121 144 [some (Rf 1), some (I x1), some (I x2), some (I x3), some (I x4), some (I x5), some (I x6), d7] [(I s0)] (hq cs iv) = aBind (Run sc 78 0 [some (Rf 1), some (I 97)] [] (hq cs iv)) (fun v h2 => Run sc 121 151 [some (Rf 1), some (I x1), some (I x2), some (I x3), some (I x4), some (I x5), some (I x6), d7] (pushR v []) h2) :=
  (R_pop mc_121 dL_texts_144).trans <|
  (R_aload_n mc_121 dL_texts_145 rfl).trans <|
  (R_bipush mc_121 dL_texts_146 ⟨by decide, by decide⟩).trans <|
  R_invV mc_121 dL_texts_148 mo_121 ct_7_89 af_121_78 rfl rfl rfl ⟨Nat.le_of_ble_eq_true rfl, Nat.le_of_ble_eq_true rfl⟩
theorem B_L_texts_151 (sc : Nat × (Nat → Int)) (iv : Nat → Nat → Int) (cs : List (Nat × Nat)) (x1 : Int) (x2 : Int) (x3 : Int) (x4 : Int) (x5 : Int) (x6 : Int) (d7 : Option AV) (s0 : Int) : Run sc 121 151 [some (Rf 1), some (I x1), some (I x2), some (I x3), some (I x4), some (I x5), some (I x6), d7] [(I s0)] (hq cs iv) = aBind (Run sc 80 0 [some (Rf 1), none] [] (hq cs iv)) (fun v h2 => Run sc 121 156 [some (Rf 1), some (I x1), some (I x2), some (I x3), some (I x4), some (I x5), some (I x6), d7] (pushR v []) h2) :=
  (R_pop mc_121 dL_texts_151).trans <|
  (R_aload_n mc_121 dL_texts_152 rfl).trans <|
  R_invV mc_121 dL_texts_153 mo_121 ct_7_93 af_121_80 rfl rfl rfl ⟨Nat.le_of_ble_eq_true rfl, Nat.le_of_ble_eq_true rfl⟩
theorem B_L_texts_156 (sc : Nat × (Nat → Int)) (iv : Nat → Nat → Int) (cs : List (Nat × Nat)) (x1 : Int) (x2 : Int) (x3 : Int) (x4 : Int) (x5 : Int) (x6 : Int) (d7 : Option AV) (s0 : Int) : Run sc 121 156 [some (Rf 1), some (I x1), some (I x2), some (I x3), some (I x4), some (I x5), some (I x6), d7] [(I s0)] (hq cs iv) = if s0 = (-220) then Run sc 121 167 [some (Rf 1), some (I x1), some (I x2), some (I x3), some (I x4), some (I x5), some (I x6), d7] [(I 1)] (hq cs iv) else Run sc 121 166 [some (Rf 1), some (I x1), some (I x2), some (I x3), some (I x4), some (I x5), some (I x6), d7] [] (hq cs iv) :=
  (R_sipush mc_121 dL_texts_156 ⟨by decide, by decide⟩).trans <|
  (R_icmp_ne mc_121 dL_texts_159 (t := 166) rfl).trans <| ite_c2
  ((R_iconst mc_121 dL_texts_162 ⟨by decide, by decide⟩).trans <|
  R_goto mc_121 dL_texts_163 (t := 167) rfl)
  (rfl)
theorem B_L_texts_166 (sc : Nat × (Nat → Int)) (iv : Nat → Nat → Int) (cs : List (Nat × Nat)) (x1 : Int) (x2 : Int) (x3 : Int) (x4 : Int) (x5 : Int) (x6 : Int) (d7 : Option AV) : Run sc 121 166 [some (Rf 1), some (I x1), some (I x2), some (I x3), some (I x4), some (I x5), some (I x6), d7] [] (hq cs iv) = Run sc 121 167 [some (Rf 1), some (I x1), some (I x2), some (I x3), some (I x4), some (I x5), some (I x6), d7] [(I 0)] (hq cs iv) :=
  R_iconst mc_121 dL_texts_166 ⟨by decide, by decide⟩
theorem B_L_texts_167 (sc : Nat × (Nat → Int)) (iv : Nat → Nat → Int) (cs : List (Nat × Nat)) (x1 : Int) (x2 : Int) (x3 : Int) (x4 : Int) (x5 : Int) (x6 : Int) (d7 : Option AV) (s0 : Int) : Run sc 121 167 [some (Rf 1), some (I x1), some (I x2), some (I x3), some (I x4), some (I x5), some (I x6), d7] [(I s0)] (hq cs iv) = if x3 = 0 then Run sc 121 212 [some (Rf 1), some (I x1), some (I x2), some (I x3), some (I x4), some (I x5), some (I x6), some (I s0)] [] (hq cs iv) else if x4 = 0 then Run sc 121 212 [some (Rf 1), some (I x1), some (I x2), some (I x3), some (I x4), some (I x5), some (I x6), some (I s0)] [] (hq cs iv) else if x5 = 0 then Run sc 121 212 [some (Rf 1), some (I x1), some (I x2), some (I x3), some (I x4), some (I x5), some (I x6), some (I s0)] [] (hq cs iv) else if x6 = 0 then Run sc 121 212 [some (Rf 1), some (I x1), some (I x2), some (I x3), some (I x4), some (I x5), some (I x6), some (I s0)] [] (hq cs iv) else if s0 = 0 then Run sc 121 212 [some (Rf 1), some (I x1), some (I x2), some (I x3), some (I x4), some (I x5), some (I x6), some (I s0)] [] (hq cs iv) else aBind (Run sc 79 0 [some (Rf 1), none] [] (hq cs iv)) (fun v h2 => Run sc 121 197 [some (Rf 1), some (I x1), some (I x2), some (I x3), some (I x4), some (I x5), some (I x6), some (I s0)] (pushR v []) h2) :=
  (R_istore mc_121 dL_texts_167 (Nat.le_of_ble_eq_true rfl)).trans <|
  (R_iload_n mc_121 dL_texts_169 rfl).trans <|
  (R_if_eq mc_121 dL_texts_170 (t := 212) rfl).trans <| ite_c2
  (rfl)
  ((R_iload mc_121 dL_texts_173 rfl).trans <|
  (R_if_eq mc_121 dL_texts_175 (t := 212) rfl).trans <| ite_c2
  (rfl)
  ((R_iload mc_121 dL_texts_178 rfl).trans <|
  (R_if_eq mc_121 dL_texts_180 (t := 212) rfl).trans <| ite_c2
  (rfl)
  ((R_iload mc_121 dL_texts_183 rfl).trans <|
  (R_if_eq mc_121 dL_texts_185 (t := 212) rfl).trans <| ite_c2
  (rfl)
  ((R_iload mc_121 dL_texts_188 rfl).trans <|
  (R_if_eq mc_121 dL_texts_190 (t := 212) rfl).trans <| ite_c2
  (rfl)
  ((R_aload_n mc_121 dL_texts_193 rfl).trans <|
  R_invV mc_121 dL_texts_194 mo_121 ct_7_86 af_121_79 rfl rfl rfl ⟨Nat.le_of_ble_eq_true rfl, Nat.le_of_ble_eq_true rfl⟩)))))
theorem B_L_texts_197 (sc : Nat × (Nat → Int)) (iv : Nat → Nat → Int) (cs : List (Nat × Nat)) (x1 : Int) (x2 : Int) (x3 : Int) (x4 : Int) (x5 : Int) (x6 : Int) (x7 : Int) (s0 : Int) : Run sc 121 197 [some (Rf 1), some (I x1), some (I x2), some (I x3), some (I x4), some (I x5), some (I x6), some (I x7)] [(I s0)] (hq cs iv) = if s0 = 4 then aBind (Run sc 80 0 [some (Rf 1), none] [] (hq cs iv)) (fun v h2 => Run sc 121 205 [some (Rf 1), some (I x1), some (I x2), some (I x3), some (I x4), some (I x5), some (I x6), some (I x7)] (pushR v []) h2) else Run sc 121 212 [some (Rf 1), some (I x1), some (I x2), some (I x3), some (I x4), some (I x5), some (I x6), some (I x7)] [] (hq cs iv) :=
  (R_iconst mc_121 dL_texts_197 ⟨by decide, by decide⟩).trans <|
  (R_icmp_ne mc_121 dL_texts_198 (t := 212) rfl).trans <| ite_c2
  ((R_aload_n mc_121 dL_texts_201 rfl).trans <|
  R_invV mc_121 dL_texts_202 mo_121 ct_7_93 af_121_80 rfl rfl rfl ⟨Nat.le_of_ble_eq_true rfl, Nat.le_of_ble_eq_true rfl⟩)
  (rfl)
theorem B_L_texts_205 (sc : Nat × (Nat → Int)) (iv : Nat → Nat → Int) (cs : List (Nat × Nat)) (x1 : Int) (x2 : Int) (x3 : Int) (x4 : Int) (x5 : Int) (x6 : Int) (x7 : Int) (s0 : Int) : Run sc 121 205 [some (Rf 1), some (I x1), some (I x2), some (I x3), some (I x4), some (I x5), some (I x6), some (I x7)] [(I s0)] (hq cs iv) = if s0 = 0 then Run sc 121 213 [some (Rf 1), some (I x1), some (I x2), some (I x3), some (I x4), some (I x5), some (I x6), some (I x7)] [(I 1)] (hq cs iv) else Run sc 121 212 [some (Rf 1), some (I x1), some (I x2), some (I x3), some (I x4), some (I x5), some (I x6), some (I x7)] [] (hq cs iv) :=
  (R_if_ne mc_121 dL_texts_205 (t := 212) rfl).trans <| ite_c2
  ((R_iconst mc_121 dL_texts_208 ⟨by decide, by decide⟩).trans <|
  R_goto mc_121 dL_texts_209 (t := 213) rfl)
  (rfl)
theorem B_L_texts_212 (sc : Nat × (Nat → Int)) (iv : Nat → Nat → Int) (cs : List (Nat × Nat)) (x1 : Int) (x2 : Int) (x3 : Int) (x4 : Int) (x5 : Int) (x6 : Int) (x7 : Int) : Run sc 121 212 [some (Rf 1), some (I x1), some (I x2), some (I x3), some (I x4), some (I x5), some (I x6), some (I x7)] [] (hq cs iv) = Run sc 121 213 [some (Rf 1), some (I x1), some (I x2), some (I x3), some (I x4), some (I x5), some (I x6), some (I x7)] [(I 0)] (hq cs iv) :=
  R_iconst mc_121 dL_texts_212 ⟨by decide, by decide⟩
theorem B_L_texts_213 (sc : Nat × (Nat → Int)) (iv : Nat → Nat → Int) (cs : List (Nat × Nat)) (x1 : Int) (x2 : Int) (x3 : Int) (x4 : Int) (x5 : Int) (x6 : Int) (x7 : Int) (s0 : Int) : Run sc 121 213 [some (Rf 1), some (I x1), some (I x2), some (I x3), some (I x4), some (I x5), some (I x6), some (I x7)] [(I s0)] (hq cs iv) = bck 0 1 s0 (some (some (I s0), (hq cs iv))) :=
  R_ireturnZ mc_121 dL_texts_213 rfl
theorem B_L_errors_0 (sc : Nat × (Nat → Int)) (iv : Nat → Nat → Int) (cs : List (Nat × Nat)) (x1 : Int) (x2 : Int) : Run sc 122 0 [some (Rf 1), some (I x1), some (I x2), none, none] [] (hq cs iv) = aBind (Run sc 77 0 [some (Rf 1), some (I 0), some (I 1)] [] (hq cs iv)) (fun v h2 => Run sc 122 9 [some (Rf 1), some (I x1), some (I x2), some (I (-2)), none] (pushR v []) h2) :=
  (R_bipush mc_122 dL_errors_0 ⟨by decide, by decide⟩).trans <|
  (R_istore_n mc_122 dL_errors_2 (Nat.le_of_ble_eq_true rfl)).trans <|
  (R_aload_n mc_122 dL_errors_3 rfl).trans <|
  (R_iconst mc_122 dL_errors_4 ⟨by decide, by decide⟩).trans <|
  (R_iconst mc_122 dL_errors_5 ⟨by decide, by decide⟩).trans <|
  R_invV mc_122 dL_errors_6 mo_122 ct_7_96 af_122_77 rfl rfl rfl ⟨Nat.le_of_ble_eq_true rfl, Nat.le_of_ble_eq_true rfl⟩
theorem B_L_errors_9 (sc : Nat × (Nat → Int)) (iv : Nat → Nat → Int) (cs : List (Nat × Nat)) (x1 : Int) (x2 : Int) (x3 : Int) (d4 : Option AV) (s0 : Int) : Run sc 122 9 [some (Rf 1), some (I x1), some (I x2), some (I x3), d4] [(I s0)] (hq cs iv) = if s0 = x3 then aBind (Run sc 77 0 [some (Rf 1), some (I 1), some (I 25)] [] (hq cs iv)) (fun v h2 => Run sc 122 20 [some (Rf 1), some (I x1), some (I x2), some (I x3), d4] (pushR v []) h2) else Run sc 122 131 [some (Rf 1), some (I x1), some (I x2), some (I x3), d4] [] (hq cs iv) :=
  (R_iload_n mc_122 dL_errors_9 rfl).trans <|
  (R_icmp_ne mc_122 dL_errors_10 (t := 131) rfl).trans <| ite_c2
  ((R_aload_n mc_122 dL_errors_13 rfl).trans <|
  (R_iconst mc_122 dL_errors_14 ⟨by decide, by decide⟩).trans <|
  (R_bipush mc_122 dL_errors_15 ⟨by decide, by decide⟩).trans <|
  R_invV mc_122 dL_errors_17 mo_122 ct_7_96 af_122_77 rfl rfl rfl ⟨Nat.le_of_ble_eq_true rfl, Nat.le_of_ble_eq_true rfl⟩)
  (rfl)
theorem B_L_errors_20 (sc : Nat × (Nat → Int)) (iv : Nat → Nat → Int) (cs : List (Nat × Nat)) (x1 : Int) (x2 : Int) (x3 : Int) (d4 : Option AV) (s0 : Int) : Run sc 122 20 [some (Rf 1), some (I x1), some (I x2), some (I x3), d4] [(I s0)] (hq cs iv) = if s0 = x3 then aBind (Run sc 81 0 [some (Rf 1), some (I x1), some (I 0), some (I 9), none] [] (hq cs iv)) (fun v h2 => Run sc 122 32 [some (Rf 1), some (I x1), some (I x2), some (I x3), d4] (pushR v []) h2) else Run sc 122 131 [some (Rf 1), some (I x1), some (I x2), some (I x3), d4] [] (hq cs iv) :=
  (R_iload_n mc_122 dL_errors_20 rfl).trans <|
  (R_icmp_ne mc_122 dL_errors_21 (t := 131) rfl).trans <| ite_c2
  ((R_aload_n mc_122 dL_errors_24 rfl).trans <|
  (R_iload_n mc_122 dL_errors_25 rfl).trans <|
  (R_iconst mc_122 dL_errors_26 ⟨by decide, by decide⟩).trans <|
  (R_bipush mc_122 dL_errors_27 ⟨by decide, by decide⟩).trans <|
  R_invV mc_122 dL_errors_29 mo_122 ct_7_99 af_122_81 rfl rfl rfl ⟨Nat.le_of_ble_eq_true rfl, Nat.le_of_ble_eq_true rfl⟩)
  (rfl)
theorem B_L_errors_32 (sc : Nat × (Nat → Int)) (iv : Nat → Nat → Int) (cs : List (Nat × Nat)) (x1 : Int) (x2 : Int) (x3 : Int) (d4 : Option AV) (s0 : Int) : Run sc 122 32 [some (Rf 1), some (I x1), some (I x2), some (I x3), d4] [(I s0)] (hq cs iv) = if s0 = (-1) then aBind (Run sc 81 0 [some (Rf 1), some (I 0), some (I 0), some (I 7), none] [] (hq cs iv)) (fun v h2 => Run sc 122 44 [some (Rf 1), some (I x1), some (I x2), some (I x3), d4] (pushR v []) h2) else Run sc 122 131 [some (Rf 1), some (I x1), some (I x2), some (I x3), d4] [] (hq cs iv) :=
  (R_iconst mc_122 dL_errors_32 ⟨by decide, by decide⟩).trans <|
  (R_icmp_ne mc_122 dL_errors_33 (t := 131) rfl).trans <| ite_c2
  ((R_aload_n mc_122 dL_errors_36 rfl).trans <|
  (R_iconst mc_122 dL_errors_37 ⟨by decide, by decide⟩).trans <|
  (R_iconst mc_122 dL_errors_38 ⟨by decide, by decide⟩).trans <|
  (R_bipush mc_122 dL_errors_39 ⟨by decide, by decide⟩).trans <|
  R_invV mc_122 dL_errors_41 mo_122 ct_7_99 af_122_81 rfl rfl rfl ⟨Nat.le_of_ble_eq_true rfl, Nat.le_of_ble_eq_true rfl⟩)
  (rfl)
theorem B_L_errors_44 (sc : Nat × (Nat → Int)) (iv : Nat → Nat → Int) (cs : List (Nat × Nat)) (x1 : Int) (x2 : Int) (x3 : Int) (d4 : Option AV) (s0 : Int) : Run sc 122 44 [some (Rf 1), some (I x1), some (I x2), some (I x3), d4] [(I s0)] (hq cs iv) = if s0 = x3 then aBind (Run sc 82 0 [some (Rf 1), some (I 0), some (I x2), some (I 1), some (I 1), some (I 0), none, none] [] (hq cs iv)) (fun v h2 => Run sc 122 57 [some (Rf 1), some (I x1), some (I x2), some (I x3), d4] (pushR v []) h2) else Run sc 122 131 [some (Rf 1), some (I x1), some (I x2), some (I x3), d4] [] (hq cs iv) :=
  (R_iload_n mc_122 dL_errors_44 rfl).trans <|
  (R_icmp_ne mc_122 dL_errors_45 (t := 131) rfl).trans <| ite_c2
  ((R_aload_n mc_122 dL_errors_48 rfl).trans <|
  (R_iconst mc_122 dL_errors_49 ⟨by decide, by decide⟩).trans <|
  (R_iload_n mc_122 dL_errors_50 rfl).trans <|
  (R_iconst mc_122 dL_errors_51 ⟨by decide, by decide⟩).trans <|
  (R_iconst mc_122 dL_errors_52 ⟨by decide, by decide⟩).trans <|
  (R_iconst mc_122 dL_errors_53 ⟨by decide, by decide⟩).trans <|
  R_invV mc_122 dL_errors_54 mo_122 ct_7_102 af_122_82 rfl rfl rfl ⟨Nat.le_of_ble_eq_true rfl, Nat.le_of_ble_eq_true rfl⟩)
  (rfl)
theorem B_L_errors_57 (sc : Nat × (Nat → Int)) (iv : Nat → Nat → Int) (cs : List (Nat × Nat)) (x1 : Int) (x2 : Int) (x3 : Int) (d4 : Option AV) (s0 : Int) : Run sc 122 57 [some (Rf 1), some (I x1), some (I x2), some (I x3), d4] [(I s0)] (hq cs iv) = if s0 = (-1) then chk (x1 + 1) (aBind (Run sc 82 0 [some (Rf 1), some (I 0), some (I 0), some (I (x1 + 1)), some (I 1), some (I 0), none, none] [] (hq cs iv)) (fun v h2 => Run sc 122 72 [some (Rf 1), some (I x1), some (I x2), some (I x3), d4] (pushR v []) h2)) else Run sc 122 131 [some (Rf 1), some (I x1), some (I x2), some (I x3), d4] [] (hq cs iv) :=
  (R_iconst mc_122 dL_errors_57 ⟨by decide, by decide⟩).trans <|
  (R_icmp_ne mc_122 dL_errors_58 (t := 131) rfl).trans <| ite_c2
  ((R_aload_n mc_122 dL_errors_61 rfl).trans <|
  (R_iconst mc_122 dL_errors_62 ⟨by decide, by decide⟩).trans <|
  (R_iconst mc_122 dL_errors_63 ⟨by decide, by decide⟩).trans <|
  (R_iload_n mc_122 dL_errors_64 rfl).trans <|
  (R_iconst mc_122 dL_errors_65 ⟨by decide, by decide⟩).trans <|
  (R_iadd mc_122 dL_errors_66).trans <| chk_congr <|
  (R_iconst mc_122 dL_errors_67 ⟨by decide, by decide⟩).trans <|
  (R_iconst mc_122 dL_errors_68 ⟨by decide, by decide⟩).trans <|
  R_invV mc_122 dL_errors_69 mo_122 ct_7_102 af_122_82 rfl rfl rfl ⟨Nat.le_of_ble_eq_true rfl, Nat.le_of_ble_eq_true rfl⟩)
  (rfl)
theorem B_L_errors_72 (sc : Nat × (Nat → Int)) (iv : Nat → Nat → Int) (cs : List (Nat × Nat)) (x1 : Int) (x2 : Int) (x3 : Int) (d4 : Option AV) (s0 : Int) : Run sc 122 72 [some (Rf 1), some (I x1), some (I x2), some (I x3), d4] [(I s0)] (hq cs iv) = if s0 = x3 then aBind (Run sc 82 0 [some (Rf 1), some (I 0), some (I 0), some (I 2147483647), some (I 1), some (I 0), none, none] [] (hq cs iv)) (fun v h2 => Run sc 122 86 [some (Rf 1), some (I x1), some (I x2), some (I x3), d4] (pushR v []) h2) else Run sc 122 131 [some (Rf 1), some (I x1), some (I x2), some (I x3), d4] [] (hq cs iv) :=
  (R_iload_n mc_122 dL_errors_72 rfl).trans <|
  (R_icmp_ne mc_122 dL_errors_73 (t := 131) rfl).trans <| ite_c2
  ((R_aload_n mc_122 dL_errors_76 rfl).trans <|
  (R_iconst mc_122 dL_errors_77 ⟨by decide, by decide⟩).trans <|
  (R_iconst mc_122 dL_errors_78 ⟨by decide, by decide⟩).trans <|
  (R_ldc mc_122 dL_errors_79 mo_122 rfl).trans <|
  (R_iconst mc_122 dL_errors_81 ⟨by decide, by decide⟩).trans <|
  (R_iconst mc_122 dL_errors_82 ⟨by decide, by decide⟩).trans <|
  R_invV mc_122 dL_errors_83 mo_122 ct_7_102 af_122_82 rfl rfl rfl ⟨Nat.le_of_ble_eq_true rfl, Nat.le_of_ble_eq_true rfl⟩)
  (rfl)
theorem B_L_errors_86 (sc : Nat × (Nat → Int)) (iv : Nat → Nat → Int) (cs : List (Nat × Nat)) (x1 : Int) (x2 : Int) (x3 : Int) (d4 : Option AV) (s0 : Int) : Run sc 122 86 [some (Rf 1), some (I x1), some (I x2), some (I x3), d4] [(I s0)] (hq cs iv) = if s0 = x3 then aBind (Run sc 82 0 [some (Rf 1), some (I 0), some (I 0), some (I 1), some (I 0), some (I 0), none, none] [] (hq cs iv)) (fun v h2 => Run sc 122 99 [some (Rf 1), some (I x1), some (I x2), some (I x3), d4] (pushR v []) h2) else Run sc 122 131 [some (Rf 1), some (I x1), some (I x2), some (I x3), d4] [] (hq cs iv) :=
  (R_iload_n mc_122 dL_errors_86 rfl).trans <|
  (R_icmp_ne mc_122 dL_errors_87 (t := 131) rfl).trans <| ite_c2
  ((R_aload_n mc_122 dL_errors_90 rfl).trans <|
  (R_iconst mc_122 dL_errors_91 ⟨by decide, by decide⟩).trans <|
  (R_iconst mc_122 dL_errors_92 ⟨by decide, by decide⟩).trans <|
  (R_iconst mc_122 dL_errors_93 ⟨by decide, by decide⟩).trans <|
  (R_iconst mc_122 dL_errors_94 ⟨by decide, by decide⟩).trans <|
  (R_iconst mc_122 dL_errors_95 ⟨by decide, by decide⟩).trans <|
  R_invV mc_122 dL_errors_96 mo_122 ct_7_102 af_122_82 rfl rfl rfl ⟨Nat.le_of_ble_eq_true rfl, Nat.le_of_ble_eq_true rfl⟩)
  (rfl)
theorem B_L_errors_99 (sc : Nat × (Nat → Int)) (iv : Nat → Nat → Int) (cs : List (Nat × Nat)) (x1 : Int) (x2 : Int) (x3 : Int) (d4 : Option AV) (s0 : Int) : Run sc 122 99 [some (Rf 1), some (I x1), some (I x2), some (I x3), d4] [(I s0)] (hq cs iv) = if s0 = x3 then aBind (Run sc 92 0 [some (Rf 1), some (I 1001), some (I 0), none] [] (hq cs iv)) (fun v h2 => Run sc 122 111 [some (Rf 1), some (I x1), some (I x2), some (I x3), d4] (pushR v []) h2) else Run sc 122 131 [some (Rf 1), some (I x1), some (I x2), some (I x3), d4] [] (hq cs iv) :=
  (R_iload_n mc_122 dL_errors_99 rfl).trans <|
  (R_icmp_ne mc_122 dL_errors_100 (t := 131) rfl).trans <| ite_c2
  ((R_aload_n mc_122 dL_errors_103 rfl).trans <|
  (R_sipush mc_122 dL_errors_104 ⟨by decide, by decide⟩).trans <|
  (R_iconst mc_122 dL_errors_107 ⟨by decide, by decide⟩).trans <|
  R_invV mc_122 dL_errors_108 mo_122 ct_7_106 af_122_92 rfl rfl rfl ⟨Nat.le_of_ble_eq_true rfl, Nat.le_of_ble_eq_true rfl⟩)
  (rfl)
theorem B_L_errors_111 (sc : Nat × (Nat → Int)) (iv : Nat → Nat → Int) (cs : List (Nat × Nat)) (x1 : Int) (x2 : Int) (x3 : Int) (d4 : Option AV) (s0 : Int) : Run sc 122 111 [some (Rf 1), some (I x1), some (I x2), some (I x3), d4] [(I s0)] (hq cs iv) = if s0 = x3 then aBind (Run sc 92 0 [some (Rf 1), some (I 0), some (I 201), none] [] (hq cs iv)) (fun v h2 => Run sc 122 123 [some (Rf 1), some (I x1), some (I x2), some (I x3), d4] (pushR v []) h2) else Run sc 122 131 [some (Rf 1), some (I x1), some (I x2), some (I x3), d4] [] (hq cs iv) :=
  (R_iload_n mc_122 dL_errors_111 rfl).trans <|
  (R_icmp_ne mc_122 dL_errors_112 (t := 131) rfl).trans <| ite_c2
  ((R_aload_n mc_122 dL_errors_115 rfl).trans <|
  (R_iconst mc_122 dL_errors_116 ⟨by decide, by decide⟩).trans <|
  (R_sipush mc_122 dL_errors_117 ⟨by decide, by decide⟩).trans <|
  R_invV mc_122 dL_errors_120 mo_122 ct_7_106 af_122_92 rfl rfl rfl ⟨Nat.le_of_ble_eq_true rfl, Nat.le_of_ble_eq_true rfl⟩)
  (rfl)
theorem B_L_errors_123 (sc : Nat × (Nat → Int)) (iv : Nat → Nat → Int) (cs : List (Nat × Nat)) (x1 : Int) (x2 : Int) (x3 : Int) (d4 : Option AV) (s0 : Int) : Run sc 122 123 [some (Rf 1), some (I x1), some (I x2), some (I x3), d4] [(I s0)] (hq cs iv) = if s0 = x3 then Run sc 122 132 [some (Rf 1), some (I x1), some (I x2), some (I x3), d4] [(I 1)] (hq cs iv) else Run sc 122 131 [some (Rf 1), some (I x1), some (I x2), some (I x3), d4] [] (hq cs iv) :=
  (R_iload_n mc_122 dL_errors_123 rfl).trans <|
  (R_icmp_ne mc_122 dL_errors_124 (t := 131) rfl).trans <| ite_c2
  ((R_iconst mc_122 dL_errors_127 ⟨by decide, by decide⟩).trans <|
  R_goto mc_122 dL_errors_128 (t := 132) rfl)
  (rfl)
theorem B_L_errors_131 (sc : Nat × (Nat → Int)) (iv : Nat → Nat → Int) (cs : List (Nat × Nat)) (x1 : Int) (x2 : Int) (x3 : Int) (d4 : Option AV) : Run sc 122 131 [some (Rf 1), some (I x1), some (I x2), some (I x3), d4] [] (hq cs iv) = Run sc 122 132 [some (Rf 1), some (I x1), some (I x2), some (I x3), d4] [(I 0)] (hq cs iv) :=
  R_iconst mc_122 dL_errors_131 ⟨by decide, by decide⟩
theorem B_L_errors_132 (sc : Nat × (Nat → Int)) (iv : Nat → Nat → Int) (cs : List (Nat × Nat)) (x1 : Int) (x2 : Int) (x3 : Int) (d4 : Option AV) (s0 : Int) : Run sc 122 132 [some (Rf 1), some (I x1), some (I x2), some (I x3), d4] [(I s0)] (hq cs iv) = if s0 = 0 then Run sc 122 224 [some (Rf 1), some (I x1), some (I x2), some (I x3), some (I s0)] [] (hq cs iv) else aBind (Run sc 98 0 [some (Rf 1), some (I 3), some (I 4), some (I 0)] [] (hq cs iv)) (fun v h2 => Run sc 122 146 [some (Rf 1), some (I x1), some (I x2), some (I x3), some (I s0)] (pushR v []) h2) :=
  (R_istore mc_122 dL_errors_132 (Nat.le_of_ble_eq_true rfl)).trans <|
  (R_iload mc_122 dL_errors_134 rfl).trans <|
  (R_if_eq mc_122 dL_errors_136 (t := 224) rfl).trans <| ite_c2
  (rfl)
  ((R_aload_n mc_122 dL_errors_139 rfl).trans <|
  (R_iconst mc_122 dL_errors_140 ⟨by decide, by decide⟩).trans <|
  (R_iconst mc_122 dL_errors_141 ⟨by decide, by decide⟩).trans <|
  (R_iconst mc_122 dL_errors_142 ⟨by decide, by decide⟩).trans <|
  R_invV mc_122 dL_errors_143 mo_122 ct_7_109 af_122_98 rfl rfl rfl ⟨Nat.le_of_ble_eq_true rfl, Nat.le_of_ble_eq_true rfl⟩)
theorem B_L_errors_146 (sc : Nat × (Nat → Int)) (iv : Nat → Nat → Int) (cs : List (Nat × Nat)) (x1 : Int) (x2 : Int) (x3 : Int) (x4 : Int) (s0 : Int) : Run sc 122 146 [some (Rf 1), some (I x1), some (I x2), some (I x3), some (I x4)] [(I s0)] (hq cs iv) = if s0 = x3 then aBind (Run sc 98 0 [some (Rf 1), some (I 4), some (I 25), some (I 0)] [] (hq cs iv)) (fun v h2 => Run sc 122 158 [some (Rf 1), some (I x1), some (I x2), some (I x3), some (I x4)] (pushR v []) h2) else Run sc 122 224 [some (Rf 1), some (I x1), some (I x2), some (I x3), some (I x4)] [] (hq cs iv) :=
  (R_iload_n mc_122 dL_errors_146 rfl).trans <|
  (R_icmp_ne mc_122 dL_errors_147 (t := 224) rfl).trans <| ite_c2
  ((R_aload_n mc_122 dL_errors_150 rfl).trans <|
  (R_iconst mc_122 dL_errors_151 ⟨by decide, by decide⟩).trans <|
  (R_bipush mc_122 dL_errors_152 ⟨by decide, by decide⟩).trans <|
  (R_iconst mc_122 dL_errors_154 ⟨by decide, by decide⟩).trans <|
  R_invV mc_122 dL_errors_155 mo_122 ct_7_109 af_122_98 rfl rfl rfl ⟨Nat.le_of_ble_eq_true rfl, Nat.le_of_ble_eq_true rfl⟩)
  (rfl)
theorem B_L_errors_158 (sc : Nat × (Nat → Int)) (iv : Nat → Nat → Int) (cs : List (Nat × Nat)) (x1 : Int) (x2 : Int) (x3 : Int) (x4 : Int) (s0 : Int) : Run sc 122 158 [some (Rf 1), some (I x1), some (I x2), some (I x3), some (I x4)] [(I s0)] (hq cs iv) = if s0 = x3 then aBind (Run sc 98 0 [some (Rf 1), some (I 4), some (I 4), some (I 4)] [] (hq cs iv)) (fun v h2 => Run sc 122 169 [some (Rf 1), some (I x1), some (I x2), some (I x3), some (I x4)] (pushR v []) h2) else Run sc 122 224 [some (Rf 1), some (I x1), some (I x2), some (I x3), some (I x4)] [] (hq cs iv) :=
  (R_iload_n mc_122 dL_errors_158 rfl).trans <|
  (R_icmp_ne mc_122 dL_errors_159 (t := 224) rfl).trans <| ite_c2
  ((R_aload_n mc_122 dL_errors_162 rfl).trans <|
  (R_iconst mc_122 dL_errors_163 ⟨by decide, by decide⟩).trans <|
  (R_iconst mc_122 dL_errors_164 ⟨by decide, by decide⟩).trans <|
  (R_iconst mc_122 dL_errors_165 ⟨by decide, by decide⟩).trans <|
  R_invV mc_122 dL_errors_166 mo_122 ct_7_109 af_122_98 rfl rfl rfl ⟨Nat.le_of_ble_eq_true rfl, Nat.le_of_ble_eq_true rfl⟩)
  (rfl)
theorem B_L_errors_169 (sc : Nat × (Nat → Int)) (iv : Nat → Nat → Int) (cs : List (Nat × Nat)) (x1 : Int) (x2 : Int) (x3 : Int) (x4 : Int) (s0 : Int) : Run sc 122 169 [some (Rf 1), some (I x1), some (I x2), some (I x3), some (I x4)] [(I s0)] (hq cs iv) = if s0 = x3 then aBind (Run sc 87 0 [some (Rf 1), some (I 0), some (I 0), some (I 0), none] [] (hq cs iv)) (fun v h2 => Run sc 122 180 [some (Rf 1), some (I x1), some (I x2), some (I x3), some (I x4)] (pushR v []) h2) else Run sc 122 224 [some (Rf 1), some (I x1), some (I x2), some (I x3), some (I x4)] [] (hq cs iv) :=
  (R_iload_n mc_122 dL_errors_169 rfl).trans <|
  (R_icmp_ne mc_122 dL_errors_170 (t := 224) rfl).trans <| ite_c2
  ((R_aload_n mc_122 dL_errors_173 rfl).trans <|
  (R_iconst mc_122 dL_errors_174 ⟨by decide, by decide⟩).trans <|
  (R_iconst mc_122 dL_errors_175 ⟨by decide, by decide⟩).trans <|
  (R_iconst mc_122 dL_errors_176 ⟨by decide, by decide⟩).trans <|
  R_invV mc_122 dL_errors_177 mo_122 ct_7_18 af_122_87 rfl rfl rfl ⟨Nat.le_of_ble_eq_true rfl, Nat.le_of_ble_eq_true rfl⟩)
  (rfl)
theorem B_L_errors_180 (sc : Nat × (Nat → Int)) (iv : Nat → Nat → Int) (cs : List (Nat × Nat)) (x1 : Int) (x2 : Int) (x3 : Int) (x4 : Int) (s0 : Int) : Run sc 122 180 [some (Rf 1), some (I x1), some (I x2), some (I x3), some (I x4)] [(I s0)] (hq cs iv) = if s0 = x3 then aBind (Run sc 87 0 [some (Rf 1), some (I 7), some (I 0), some (I 0), none] [] (hq cs iv)) (fun v h2 => Run sc 122 192 [some (Rf 1), some (I x1), some (I x2), some (I x3), some (I x4)] (pushR v []) h2) else Run sc 122 224 [some (Rf 1), some (I x1), some (I x2), some (I x3), some (I x4)] [] (hq cs iv) :=
  (R_iload_n mc_122 dL_errors_180 rfl).trans <|
  (R_icmp_ne mc_122 dL_errors_181 (t := 224) rfl).trans <| ite_c2
  ((R_aload_n mc_122 dL_errors_184 rfl).trans <|
  (R_bipush mc_122 dL_errors_185 ⟨by decide, by decide⟩).trans <|
  (R_iconst mc_122 dL_errors_187 ⟨by decide, by decide⟩).trans <|
  (R_iconst mc_122 dL_errors_188 ⟨by decide, by decide⟩).trans <|
  R_invV mc_122 dL_errors_189 mo_122 ct_7_18 af_122_87 rfl rfl rfl ⟨Nat.le_of_ble_eq_true rfl, Nat.le_of_ble_eq_true rfl⟩)
  (rfl)
theorem B_L_errors_192 (sc : Nat × (Nat → Int)) (iv : Nat → Nat → Int) (cs : List (Nat × Nat)) (x1 : Int) (x2 : Int) (x3 : Int) (x4 : Int) (s0 : Int) : Run sc 122 192 [some (Rf 1), some (I x1), some (I x2), some (I x3), some (I x4)] [(I s0)] (hq cs iv) = if s0 = x3 then aBind (Run sc 93 0 [some (Rf 1), some (I 0), some (I x2), some (I 1), some (I 1)] [] (hq cs iv)) (fun v h2 => Run sc 122 204 [some (Rf 1), some (I x1), some (I x2), some (I x3), some (I x4)] (pushR v []) h2) else Run sc 122 224 [some (Rf 1), some (I x1), some (I x2), some (I x3), some (I x4)] [] (hq cs iv) :=
  (R_iload_n mc_122 dL_errors_192 rfl).trans <|
  (R_icmp_ne mc_122 dL_errors_193 (t := 224) rfl).trans <| ite_c2
  ((R_aload_n mc_122 dL_errors_196 rfl).trans <|
  (R_iconst mc_122 dL_errors_197 ⟨by decide, by decide⟩).trans <|
  (R_iload_n mc_122 dL_errors_198 rfl).trans <|
  (R_iconst mc_122 dL_errors_199 ⟨by decide, by decide⟩).trans <|
  (R_iconst mc_122 dL_errors_200 ⟨by decide, by decide⟩).trans <|
  R_invV mc_122 dL_errors_201 mo_122 ct_7_112 af_122_93 rfl rfl rfl ⟨Nat.le_of_ble_eq_true rfl, Nat.le_of_ble_eq_true rfl⟩)
  (rfl)
theorem B_L_errors_204 (sc : Nat × (Nat → Int)) (iv : Nat → Nat → Int) (cs : List (Nat × Nat)) (x1 : Int) (x2 : Int) (x3 : Int) (x4 : Int) (s0 : Int) : Run sc 122 204 [some (Rf 1), some (I x1), some (I x2), some (I x3), some (I x4)] [(I s0)] (hq cs iv) = if s0 = (-1) then aBind (Run sc 93 0 [some (Rf 1), some (I (-1)), some (I 0), some (I 0), some (I 1)] [] (hq cs iv)) (fun v h2 => Run sc 122 216 [some (Rf 1), some (I x1), some (I x2), some (I x3), some (I x4)] (pushR v []) h2) else Run sc 122 224 [some (Rf 1), some (I x1), some (I x2), some (I x3), some (I x4)] [] (hq cs iv) :=
  (R_iconst mc_122 dL_errors_204 ⟨by decide, by decide⟩).trans <|
  (R_icmp_ne mc_122 dL_errors_205 (t := 224) rfl).trans <| ite_c2
  ((R_aload_n mc_122 dL_errors_208 rfl).trans <|
  (R_iconst mc_122 dL_errors_209 ⟨by decide, by decide⟩).trans <|
  (R_iconst mc_122 dL_errors_210 ⟨by decide, by decide⟩).trans <|
  (R_iconst mc_122 dL_errors_211 ⟨by decide, by decide⟩).trans <|
  (R_iconst mc_122 dL_errors_212 ⟨by decide, by decide⟩).trans <|
  R_invV mc_122 dL_errors_213 mo_122 ct_7_112 af_122_93 rfl rfl rfl ⟨Nat.le_of_ble_eq_true rfl, Nat.le_of_ble_eq_true rfl⟩)
  (rfl)
theorem B_L_errors_216 (sc : Nat × (Nat → Int)) (iv : Nat → Nat → Int) (cs : List (Nat × Nat)) (x1 : Int) (x2 : Int) (x3 : Int) (x4 : Int) (s0 : Int) : Run sc 122 216 [some (Rf 1), some (I x1), some (I x2), some (I x3), some (I x4)] [(I s0)] (hq cs iv) = if s0 = (-1) then Run sc 122 225 [some (Rf 1), some (I x1), some (I x2), some (I x3), some (I x4)] [(I 1)] (hq cs iv) else Run sc 122 224 [some (Rf 1), some (I x1), some (I x2), some (I x3), some (I x4)] [] (hq cs iv) :=
  (R_iconst mc_122 dL_errors_216 ⟨by decide, by decide⟩).trans <|
  (R_icmp_ne mc_122 dL_errors_217 (t := 224) rfl).trans <| ite_c2
  ((R_iconst mc_122 dL_errors_220 ⟨by decide, by decide⟩).trans <|
  R_goto mc_122 dL_errors_221 (t := 225) rfl)
  (rfl)
theorem B_L_errors_224 (sc : Nat × (Nat → Int)) (iv : Nat → Nat → Int) (cs : List (Nat × Nat)) (x1 : Int) (x2 : Int) (x3 : Int) (x4 : Int) : Run sc 122 224 [some (Rf 1), some (I x1), some (I x2), some (I x3), some (I x4)] [] (hq cs iv) = Run sc 122 225 [some (Rf 1), some (I x1), some (I x2), some (I x3), some (I x4)] [(I 0)] (hq cs iv) :=
  R_iconst mc_122 dL_errors_224 ⟨by decide, by decide⟩
theorem B_L_errors_225 (sc : Nat × (Nat → Int)) (iv : Nat → Nat → Int) (cs : List (Nat × Nat)) (x1 : Int) (x2 : Int) (x3 : Int) (x4 : Int) (s0 : Int) : Run sc 122 225 [some (Rf 1), some (I x1), some (I x2), some (I x3), some (I x4)] [(I s0)] (hq cs iv) = bck 0 1 s0 (some (some (I s0), (hq cs iv))) :=
  R_ireturnZ mc_122 dL_errors_225 rfl
