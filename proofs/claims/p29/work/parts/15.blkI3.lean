theorem B_L_pages_0 (sc : Nat × (Nat → Int)) (iv : Nat → Nat → Int) (cs : List (Nat × Nat)) (x1 : Int) (x2 : Int) (x3 : Int) : Run sc 119 0 [some (Rf 1), some (I x1), some (I x2), some (I x3), none, none, none, none, none, none, none, none, none, none, none] [] (hq cs iv) = aBind (Run sc 101 0 [some (Rf 1)] [] (hq cs iv)) (fun v h2 => Run sc 119 4 [some (Rf 1), some (I x1), some (I x2), some (I x3), none, none, none, none, none, none, none, none, none, none, none] (pushR v []) h2) :=
  (R_aload_n mc_119 dL_pages_0 rfl).trans <|
  R_invV mc_119 dL_pages_1 mo_119 ct_7_58 af_119_101 rfl rfl rfl ⟨Nat.le_of_ble_eq_true rfl, Nat.le_of_ble_eq_true rfl⟩
theorem B_L_pages_4 (sc : Nat × (Nat → Int)) (iv : Nat → Nat → Int) (cs : List (Nat × Nat)) (x1 : Int) (x2 : Int) (x3 : Int) (d4 : Option AV) (d5 : Option AV) (d6 : Option AV) (d7 : Option AV) (d8 : Option AV) (d9 : Option AV) (d10 : Option AV) (d11 : Option AV) (d12 : Option AV) (d13 : Option AV) (d14 : Option AV) (s0 : Int) : Run sc 119 4 [some (Rf 1), some (I x1), some (I x2), some (I x3), d4, d5, d6, d7, d8, d9, d10, d11, d12, d13, d14] [(I s0)] (hq cs iv) = aBind (Run sc 109 0 [some (I x3), some (I 7)] [] (hq cs iv)) (fun v h2 => Run sc 119 15 [some (Rf 1), some (I x1), some (I x2), some (I x3), some (I s0), some (I 0), d6, d7, d8, d9, d10, d11, d12, d13, d14] (pushR v []) h2) :=
  (R_istore mc_119 dL_pages_4 (Nat.le_of_ble_eq_true rfl)).trans <|
  (R_iconst mc_119 dL_pages_6 ⟨by decide, by decide⟩).trans <|
  (R_istore mc_119 dL_pages_7 (Nat.le_of_ble_eq_true rfl)).trans <|
  (R_iload_n mc_119 dL_pages_9 rfl).trans <|
  (R_bipush mc_119 dL_pages_10 ⟨by decide, by decide⟩).trans <|
  R_invS mc_119 dL_pages_12 mo_119 ct_7_61 (Or.inl rfl) af_119_109 (Nat.le_of_ble_eq_true rfl) rfl rfl ⟨Nat.le_of_ble_eq_true rfl, Nat.le_of_ble_eq_true rfl⟩
theorem B_L_pages_15 (sc : Nat × (Nat → Int)) (iv : Nat → Nat → Int) (cs : List (Nat × Nat)) (x1 : Int) (x2 : Int) (x3 : Int) (x4 : Int) (x5 : Int) (d6 : Option AV) (d7 : Option AV) (d8 : Option AV) (d9 : Option AV) (d10 : Option AV) (d11 : Option AV) (d12 : Option AV) (d13 : Option AV) (d14 : Option AV) (s0 : Int) : Run sc 119 15 [some (Rf 1), some (I x1), some (I x2), some (I x3), some (I x4), some (I x5), d6, d7, d8, d9, d10, d11, d12, d13, d14] [(I s0)] (hq cs iv) = Run sc 119 29 [some (Rf 1), some (I x1), some (I x2), some (I x3), some (I x4), some (I x5), some (I s0), some (I 0), some (I 0), some (I 0), some (I 0), d11, d12, d13, d14] [] (hq cs iv) :=
  (R_istore mc_119 dL_pages_15 (Nat.le_of_ble_eq_true rfl)).trans <|
  (R_iconst mc_119 dL_pages_17 ⟨by decide, by decide⟩).trans <|
  (R_istore mc_119 dL_pages_18 (Nat.le_of_ble_eq_true rfl)).trans <|
  (R_iconst mc_119 dL_pages_20 ⟨by decide, by decide⟩).trans <|
  (R_istore mc_119 dL_pages_21 (Nat.le_of_ble_eq_true rfl)).trans <|
  (R_iconst mc_119 dL_pages_23 ⟨by decide, by decide⟩).trans <|
  (R_istore mc_119 dL_pages_24 (Nat.le_of_ble_eq_true rfl)).trans <|
  (R_iconst mc_119 dL_pages_26 ⟨by decide, by decide⟩).trans <|
  R_istore mc_119 dL_pages_27 (Nat.le_of_ble_eq_true rfl)
theorem B_L_pages_29 (sc : Nat × (Nat → Int)) (iv : Nat → Nat → Int) (cs : List (Nat × Nat)) (x1 : Int) (x2 : Int) (x3 : Int) (x4 : Int) (x5 : Int) (x6 : Int) (x7 : Int) (x8 : Int) (x9 : Int) (x10 : Int) (d11 : Option AV) (d12 : Option AV) (d13 : Option AV) (d14 : Option AV) : Run sc 119 29 [some (Rf 1), some (I x1), some (I x2), some (I x3), some (I x4), some (I x5), some (I x6), some (I x7), some (I x8), some (I x9), some (I x10), d11, d12, d13, d14] [] (hq cs iv) = if x10 < x4 then aBind (Run sc 99 0 [some (Rf 1), some (I x10), some (I 4)] [] (hq cs iv)) (fun v h2 => Run sc 119 45 [some (Rf 1), some (I x1), some (I x2), some (I x3), some (I x4), some (I x5), some (I x6), some (I x7), some (I x8), some (I x9), some (I x10), d11, d12, d13, d14] (pushR v [(I x5)]) h2) else Run sc 119 196 [some (Rf 1), some (I x1), some (I x2), some (I x3), some (I x4), some (I x5), some (I x6), some (I x7), some (I x8), some (I x9), some (I x10), d11, d12, d13, d14] [] (hq cs iv) :=
  (R_iload mc_119 dL_pages_29 rfl).trans <|
  (R_iload mc_119 dL_pages_31 rfl).trans <|
  (R_icmp_ge mc_119 dL_pages_33 (t := 196) rfl).trans <| ite_c2
  ((R_iload mc_119 dL_pages_36 rfl).trans <|
  (R_aload_n mc_119 dL_pages_38 rfl).trans <|
  (R_iload mc_119 dL_pages_39 rfl).trans <|
  (R_iconst mc_119 dL_pages_41 ⟨by decide, by decide⟩).trans <|
  R_invV mc_119 dL_pages_42 mo_119 ct_7_64 af_119_99 rfl rfl rfl ⟨Nat.le_of_ble_eq_true rfl, Nat.le_of_ble_eq_true rfl⟩)
  (rfl)
theorem B_L_pages_45 (sc : Nat × (Nat → Int)) (iv : Nat → Nat → Int) (cs : List (Nat × Nat)) (x1 : Int) (x2 : Int) (x3 : Int) (x4 : Int) (x5 : Int) (x6 : Int) (x7 : Int) (x8 : Int) (x9 : Int) (x10 : Int) (d11 : Option AV) (d12 : Option AV) (d13 : Option AV) (d14 : Option AV) (s0 : Int) (s1 : Int) : Run sc 119 45 [some (Rf 1), some (I x1), some (I x2), some (I x3), some (I x4), some (I x5), some (I x6), some (I x7), some (I x8), some (I x9), some (I x10), d11, d12, d13, d14] [(I s0), (I s1)] (hq cs iv) = chk (s1 + s0) (aBind (Run sc 100 0 [some (Rf 1), some (I x10), some (I x6), some (I 0), none, none] [] (hq cs iv)) (fun v h2 => Run sc 119 59 [some (Rf 1), some (I x1), some (I x2), some (I x3), some (I x4), some (I (s1 + s0)), some (I x6), some (I x7), some (I x8), some (I x9), some (I x10), d11, d12, d13, d14] (pushR v [(I x7)]) h2)) :=
  (R_iadd mc_119 dL_pages_45).trans <| chk_congr <|
  (R_istore mc_119 dL_pages_46 (Nat.le_of_ble_eq_true rfl)).trans <|
  (R_iload mc_119 dL_pages_48 rfl).trans <|
  (R_aload_n mc_119 dL_pages_50 rfl).trans <|
  (R_iload mc_119 dL_pages_51 rfl).trans <|
  (R_iload mc_119 dL_pages_53 rfl).trans <|
  (R_iconst mc_119 dL_pages_55 ⟨by decide, by decide⟩).trans <|
  R_invV mc_119 dL_pages_56 mo_119 ct_7_67 af_119_100 rfl rfl rfl ⟨Nat.le_of_ble_eq_true rfl, Nat.le_of_ble_eq_true rfl⟩
theorem B_L_pages_59 (sc : Nat × (Nat → Int)) (iv : Nat → Nat → Int) (cs : List (Nat × Nat)) (x1 : Int) (x2 : Int) (x3 : Int) (x4 : Int) (x5 : Int) (x6 : Int) (x7 : Int) (x8 : Int) (x9 : Int) (x10 : Int) (d11 : Option AV) (d12 : Option AV) (d13 : Option AV) (d14 : Option AV) (s0 : Int) (s1 : Int) : Run sc 119 59 [some (Rf 1), some (I x1), some (I x2), some (I x3), some (I x4), some (I x5), some (I x6), some (I x7), some (I x8), some (I x9), some (I x10), d11, d12, d13, d14] [(I s0), (I s1)] (hq cs iv) = chk (s1 + s0) (aBind (Run sc 100 0 [some (Rf 1), some (I x10), some (I x6), some (I 1), none, none] [] (hq cs iv)) (fun v h2 => Run sc 119 73 [some (Rf 1), some (I x1), some (I x2), some (I x3), some (I x4), some (I x5), some (I x6), some (I (s1 + s0)), some (I x8), some (I x9), some (I x10), d11, d12, d13, d14] (pushR v [(I x8)]) h2)) :=
  (R_iadd mc_119 dL_pages_59).trans <| chk_congr <|
  (R_istore mc_119 dL_pages_60 (Nat.le_of_ble_eq_true rfl)).trans <|
  (R_iload mc_119 dL_pages_62 rfl).trans <|
  (R_aload_n mc_119 dL_pages_64 rfl).trans <|
  (R_iload mc_119 dL_pages_65 rfl).trans <|
  (R_iload mc_119 dL_pages_67 rfl).trans <|
  (R_iconst mc_119 dL_pages_69 ⟨by decide, by decide⟩).trans <|
  R_invV mc_119 dL_pages_70 mo_119 ct_7_67 af_119_100 rfl rfl rfl ⟨Nat.le_of_ble_eq_true rfl, Nat.le_of_ble_eq_true rfl⟩
theorem B_L_pages_73 (sc : Nat × (Nat → Int)) (iv : Nat → Nat → Int) (cs : List (Nat × Nat)) (x1 : Int) (x2 : Int) (x3 : Int) (x4 : Int) (x5 : Int) (x6 : Int) (x7 : Int) (x8 : Int) (x9 : Int) (x10 : Int) (d11 : Option AV) (d12 : Option AV) (d13 : Option AV) (d14 : Option AV) (s0 : Int) (s1 : Int) : Run sc 119 73 [some (Rf 1), some (I x1), some (I x2), some (I x3), some (I x4), some (I x5), some (I x6), some (I x7), some (I x8), some (I x9), some (I x10), d11, d12, d13, d14] [(I s0), (I s1)] (hq cs iv) = chk (s1 + s0) (aBind (Run sc 100 0 [some (Rf 1), some (I x10), some (I x6), some (I 2), none, none] [] (hq cs iv)) (fun v h2 => Run sc 119 87 [some (Rf 1), some (I x1), some (I x2), some (I x3), some (I x4), some (I x5), some (I x6), some (I x7), some (I (s1 + s0)), some (I x9), some (I x10), d11, d12, d13, d14] (pushR v [(I x9)]) h2)) :=
  (R_iadd mc_119 dL_pages_73).trans <| chk_congr <|
  (R_istore mc_119 dL_pages_74 (Nat.le_of_ble_eq_true rfl)).trans <|
  (R_iload mc_119 dL_pages_76 rfl).trans <|
  (R_aload_n mc_119 dL_pages_78 rfl).trans <|
  (R_iload mc_119 dL_pages_79 rfl).trans <|
  (R_iload mc_119 dL_pages_81 rfl).trans <|
  (R_iconst mc_119 dL_pages_83 ⟨by decide, by decide⟩).trans <|
  R_invV mc_119 dL_pages_84 mo_119 ct_7_67 af_119_100 rfl rfl rfl ⟨Nat.le_of_ble_eq_true rfl, Nat.le_of_ble_eq_true rfl⟩
theorem B_L_pages_87 (sc : Nat × (Nat → Int)) (iv : Nat → Nat → Int) (cs : List (Nat × Nat)) (x1 : Int) (x2 : Int) (x3 : Int) (x4 : Int) (x5 : Int) (x6 : Int) (x7 : Int) (x8 : Int) (x9 : Int) (x10 : Int) (d11 : Option AV) (d12 : Option AV) (d13 : Option AV) (d14 : Option AV) (s0 : Int) (s1 : Int) : Run sc 119 87 [some (Rf 1), some (I x1), some (I x2), some (I x3), some (I x4), some (I x5), some (I x6), some (I x7), some (I x8), some (I x9), some (I x10), d11, d12, d13, d14] [(I s0), (I s1)] (hq cs iv) = chk (s1 + s0) (aBind (Run sc 99 0 [some (Rf 1), some (I x10), some (I 0)] [] (hq cs iv)) (fun v h2 => Run sc 119 97 [some (Rf 1), some (I x1), some (I x2), some (I x3), some (I x4), some (I x5), some (I x6), some (I x7), some (I x8), some (I (s1 + s0)), some (I x10), d11, d12, d13, d14] (pushR v []) h2)) :=
  (R_iadd mc_119 dL_pages_87).trans <| chk_congr <|
  (R_istore mc_119 dL_pages_88 (Nat.le_of_ble_eq_true rfl)).trans <|
  (R_aload_n mc_119 dL_pages_90 rfl).trans <|
  (R_iload mc_119 dL_pages_91 rfl).trans <|
  (R_iconst mc_119 dL_pages_93 ⟨by decide, by decide⟩).trans <|
  R_invV mc_119 dL_pages_94 mo_119 ct_7_64 af_119_99 rfl rfl rfl ⟨Nat.le_of_ble_eq_true rfl, Nat.le_of_ble_eq_true rfl⟩
theorem B_L_pages_97 (sc : Nat × (Nat → Int)) (iv : Nat → Nat → Int) (cs : List (Nat × Nat)) (x1 : Int) (x2 : Int) (x3 : Int) (x4 : Int) (x5 : Int) (x6 : Int) (x7 : Int) (x8 : Int) (x9 : Int) (x10 : Int) (d11 : Option AV) (d12 : Option AV) (d13 : Option AV) (d14 : Option AV) (s0 : Int) : Run sc 119 97 [some (Rf 1), some (I x1), some (I x2), some (I x3), some (I x4), some (I x5), some (I x6), some (I x7), some (I x8), some (I x9), some (I x10), d11, d12, d13, d14] [(I s0)] (hq cs iv) = aBind (Run sc 99 0 [some (Rf 1), some (I x10), some (I 2)] [] (hq cs iv)) (fun v h2 => Run sc 119 104 [some (Rf 1), some (I x1), some (I x2), some (I x3), some (I x4), some (I x5), some (I x6), some (I x7), some (I x8), some (I x9), some (I x10), d11, d12, d13, d14] (pushR v [(I s0)]) h2) :=
  (R_aload_n mc_119 dL_pages_97 rfl).trans <|
  (R_iload mc_119 dL_pages_98 rfl).trans <|
  (R_iconst mc_119 dL_pages_100 ⟨by decide, by decide⟩).trans <|
  R_invV mc_119 dL_pages_101 mo_119 ct_7_64 af_119_99 rfl rfl rfl ⟨Nat.le_of_ble_eq_true rfl, Nat.le_of_ble_eq_true rfl⟩
theorem B_L_pages_104 (sc : Nat × (Nat → Int)) (iv : Nat → Nat → Int) (cs : List (Nat × Nat)) (x1 : Int) (x2 : Int) (x3 : Int) (x4 : Int) (x5 : Int) (x6 : Int) (x7 : Int) (x8 : Int) (x9 : Int) (x10 : Int) (d11 : Option AV) (d12 : Option AV) (d13 : Option AV) (d14 : Option AV) (s0 : Int) (s1 : Int) : Run sc 119 104 [some (Rf 1), some (I x1), some (I x2), some (I x3), some (I x4), some (I x5), some (I x6), some (I x7), some (I x8), some (I x9), some (I x10), d11, d12, d13, d14] [(I s0), (I s1)] (hq cs iv) = chk (s1 + s0) (aBind (Run sc 99 0 [some (Rf 1), some (I x10), some (I 1)] [] (hq cs iv)) (fun v h2 => Run sc 119 114 [some (Rf 1), some (I x1), some (I x2), some (I x3), some (I x4), some (I x5), some (I x6), some (I x7), some (I x8), some (I x9), some (I x10), some (I (s1 + s0)), d12, d13, d14] (pushR v []) h2)) :=
  (R_iadd mc_119 dL_pages_104).trans <| chk_congr <|
  (R_istore mc_119 dL_pages_105 (Nat.le_of_ble_eq_true rfl)).trans <|
  (R_aload_n mc_119 dL_pages_107 rfl).trans <|
  (R_iload mc_119 dL_pages_108 rfl).trans <|
  (R_iconst mc_119 dL_pages_110 ⟨by decide, by decide⟩).trans <|
  R_invV mc_119 dL_pages_111 mo_119 ct_7_64 af_119_99 rfl rfl rfl ⟨Nat.le_of_ble_eq_true rfl, Nat.le_of_ble_eq_true rfl⟩
theorem B_L_pages_114 (sc : Nat × (Nat → Int)) (iv : Nat → Nat → Int) (cs : List (Nat × Nat)) (x1 : Int) (x2 : Int) (x3 : Int) (x4 : Int) (x5 : Int) (x6 : Int) (x7 : Int) (x8 : Int) (x9 : Int) (x10 : Int) (x11 : Int) (d12 : Option AV) (d13 : Option AV) (d14 : Option AV) (s0 : Int) : Run sc 119 114 [some (Rf 1), some (I x1), some (I x2), some (I x3), some (I x4), some (I x5), some (I x6), some (I x7), some (I x8), some (I x9), some (I x10), some (I x11), d12, d13, d14] [(I s0)] (hq cs iv) = aBind (Run sc 99 0 [some (Rf 1), some (I x10), some (I 3)] [] (hq cs iv)) (fun v h2 => Run sc 119 121 [some (Rf 1), some (I x1), some (I x2), some (I x3), some (I x4), some (I x5), some (I x6), some (I x7), some (I x8), some (I x9), some (I x10), some (I x11), d12, d13, d14] (pushR v [(I s0)]) h2) :=
  (R_aload_n mc_119 dL_pages_114 rfl).trans <|
  (R_iload mc_119 dL_pages_115 rfl).trans <|
  (R_iconst mc_119 dL_pages_117 ⟨by decide, by decide⟩).trans <|
  R_invV mc_119 dL_pages_118 mo_119 ct_7_64 af_119_99 rfl rfl rfl ⟨Nat.le_of_ble_eq_true rfl, Nat.le_of_ble_eq_true rfl⟩
theorem B_L_pages_121 (sc : Nat × (Nat → Int)) (iv : Nat → Nat → Int) (cs : List (Nat × Nat)) (x1 : Int) (x2 : Int) (x3 : Int) (x4 : Int) (x5 : Int) (x6 : Int) (x7 : Int) (x8 : Int) (x9 : Int) (x10 : Int) (x11 : Int) (d12 : Option AV) (d13 : Option AV) (d14 : Option AV) (s0 : Int) (s1 : Int) : Run sc 119 121 [some (Rf 1), some (I x1), some (I x2), some (I x3), some (I x4), some (I x5), some (I x6), some (I x7), some (I x8), some (I x9), some (I x10), some (I x11), d12, d13, d14] [(I s0), (I s1)] (hq cs iv) = chk (s1 + s0) (aBind (Run sc 99 0 [some (Rf 1), some (I x10), some (I 2)] [] (hq cs iv)) (fun v h2 => Run sc 119 131 [some (Rf 1), some (I x1), some (I x2), some (I x3), some (I x4), some (I x5), some (I x6), some (I x7), some (I x8), some (I x9), some (I x10), some (I x11), some (I (s1 + s0)), d13, d14] (pushR v []) h2)) :=
  (R_iadd mc_119 dL_pages_121).trans <| chk_congr <|
  (R_istore mc_119 dL_pages_122 (Nat.le_of_ble_eq_true rfl)).trans <|
  (R_aload_n mc_119 dL_pages_124 rfl).trans <|
  (R_iload mc_119 dL_pages_125 rfl).trans <|
  (R_iconst mc_119 dL_pages_127 ⟨by decide, by decide⟩).trans <|
  R_invV mc_119 dL_pages_128 mo_119 ct_7_64 af_119_99 rfl rfl rfl ⟨Nat.le_of_ble_eq_true rfl, Nat.le_of_ble_eq_true rfl⟩
theorem B_L_pages_131 (sc : Nat × (Nat → Int)) (iv : Nat → Nat → Int) (cs : List (Nat × Nat)) (x1 : Int) (x2 : Int) (x3 : Int) (x4 : Int) (x5 : Int) (x6 : Int) (x7 : Int) (x8 : Int) (x9 : Int) (x10 : Int) (x11 : Int) (x12 : Int) (d13 : Option AV) (d14 : Option AV) (s0 : Int) : Run sc 119 131 [some (Rf 1), some (I x1), some (I x2), some (I x3), some (I x4), some (I x5), some (I x6), some (I x7), some (I x8), some (I x9), some (I x10), some (I x11), some (I x12), d13, d14] [(I s0)] (hq cs iv) = if s0 < 1 then Run sc 119 188 [some (Rf 1), some (I x1), some (I x2), some (I x3), some (I x4), some (I x5), some (I x6), some (I x7), some (I x8), some (I x9), some (I x10), some (I x11), some (I x12), d13, d14] [] (hq cs iv) else aBind (Run sc 99 0 [some (Rf 1), some (I x10), some (I 3)] [] (hq cs iv)) (fun v h2 => Run sc 119 142 [some (Rf 1), some (I x1), some (I x2), some (I x3), some (I x4), some (I x5), some (I x6), some (I x7), some (I x8), some (I x9), some (I x10), some (I x11), some (I x12), d13, d14] (pushR v []) h2) :=
  (R_iconst mc_119 dL_pages_131 ⟨by decide, by decide⟩).trans <|
  (R_icmp_lt mc_119 dL_pages_132 (t := 188) rfl).trans <| ite_c2
  (rfl)
  ((R_aload_n mc_119 dL_pages_135 rfl).trans <|
  (R_iload mc_119 dL_pages_136 rfl).trans <|
  (R_iconst mc_119 dL_pages_138 ⟨by decide, by decide⟩).trans <|
  R_invV mc_119 dL_pages_139 mo_119 ct_7_64 af_119_99 rfl rfl rfl ⟨Nat.le_of_ble_eq_true rfl, Nat.le_of_ble_eq_true rfl⟩)
theorem B_L_pages_142 (sc : Nat × (Nat → Int)) (iv : Nat → Nat → Int) (cs : List (Nat × Nat)) (x1 : Int) (x2 : Int) (x3 : Int) (x4 : Int) (x5 : Int) (x6 : Int) (x7 : Int) (x8 : Int) (x9 : Int) (x10 : Int) (x11 : Int) (x12 : Int) (d13 : Option AV) (d14 : Option AV) (s0 : Int) : Run sc 119 142 [some (Rf 1), some (I x1), some (I x2), some (I x3), some (I x4), some (I x5), some (I x6), some (I x7), some (I x8), some (I x9), some (I x10), some (I x11), some (I x12), d13, d14] [(I s0)] (hq cs iv) = if s0 < 1 then Run sc 119 188 [some (Rf 1), some (I x1), some (I x2), some (I x3), some (I x4), some (I x5), some (I x6), some (I x7), some (I x8), some (I x9), some (I x10), some (I x11), some (I x12), d13, d14] [] (hq cs iv) else if x1 < x11 then Run sc 119 188 [some (Rf 1), some (I x1), some (I x2), some (I x3), some (I x4), some (I x5), some (I x6), some (I x7), some (I x8), some (I x9), some (I x10), some (I x11), some (I x12), d13, d14] [] (hq cs iv) else if x2 < x12 then Run sc 119 188 [some (Rf 1), some (I x1), some (I x2), some (I x3), some (I x4), some (I x5), some (I x6), some (I x7), some (I x8), some (I x9), some (I x10), some (I x11), some (I x12), d13, d14] [] (hq cs iv) else aBind (Run sc 99 0 [some (Rf 1), some (I x10), some (I 6)] [] (hq cs iv)) (fun v h2 => Run sc 119 166 [some (Rf 1), some (I x1), some (I x2), some (I x3), some (I x4), some (I x5), some (I x6), some (I x7), some (I x8), some (I x9), some (I x10), some (I x11), some (I x12), d13, d14] (pushR v []) h2) :=
  (R_iconst mc_119 dL_pages_142 ⟨by decide, by decide⟩).trans <|
  (R_icmp_lt mc_119 dL_pages_143 (t := 188) rfl).trans <| ite_c2
  (rfl)
  ((R_iload mc_119 dL_pages_146 rfl).trans <|
  (R_iload_n mc_119 dL_pages_148 rfl).trans <|
  (R_icmp_gt mc_119 dL_pages_149 (t := 188) rfl).trans <| ite_c2
  (rfl)
  ((R_iload mc_119 dL_pages_152 rfl).trans <|
  (R_iload_n mc_119 dL_pages_154 rfl).trans <|
  (R_icmp_gt mc_119 dL_pages_155 (t := 188) rfl).trans <| ite_c2
  (rfl)
  ((R_aload_n mc_119 dL_pages_158 rfl).trans <|
  (R_iload mc_119 dL_pages_159 rfl).trans <|
  (R_bipush mc_119 dL_pages_161 ⟨by decide, by decide⟩).trans <|
  R_invV mc_119 dL_pages_163 mo_119 ct_7_64 af_119_99 rfl rfl rfl ⟨Nat.le_of_ble_eq_true rfl, Nat.le_of_ble_eq_true rfl⟩)))
theorem B_L_pages_166 (sc : Nat × (Nat → Int)) (iv : Nat → Nat → Int) (cs : List (Nat × Nat)) (x1 : Int) (x2 : Int) (x3 : Int) (x4 : Int) (x5 : Int) (x6 : Int) (x7 : Int) (x8 : Int) (x9 : Int) (x10 : Int) (x11 : Int) (x12 : Int) (d13 : Option AV) (d14 : Option AV) (s0 : Int) : Run sc 119 166 [some (Rf 1), some (I x1), some (I x2), some (I x3), some (I x4), some (I x5), some (I x6), some (I x7), some (I x8), some (I x9), some (I x10), some (I x11), some (I x12), d13, d14] [(I s0)] (hq cs iv) = if s0 = (-2) then chk (x11 - 1) (chk (x12 - 1) (aBind (Run sc 102 0 [some (Rf 1), some (I (x11 - 1)), some (I (x12 - 1))] [] (hq cs iv)) (fun v h2 => Run sc 119 183 [some (Rf 1), some (I x1), some (I x2), some (I x3), some (I x4), some (I x5), some (I x6), some (I x7), some (I x8), some (I x9), some (I x10), some (I x11), some (I x12), d13, d14] (pushR v []) h2))) else Run sc 119 188 [some (Rf 1), some (I x1), some (I x2), some (I x3), some (I x4), some (I x5), some (I x6), some (I x7), some (I x8), some (I x9), some (I x10), some (I x11), some (I x12), d13, d14] [] (hq cs iv) :=
  (R_bipush mc_119 dL_pages_166 ⟨by decide, by decide⟩).trans <|
  (R_icmp_ne mc_119 dL_pages_168 (t := 188) rfl).trans <| ite_c2
  ((R_aload_n mc_119 dL_pages_171 rfl).trans <|
  (R_iload mc_119 dL_pages_172 rfl).trans <|
  (R_iconst mc_119 dL_pages_174 ⟨by decide, by decide⟩).trans <|
  (R_isub mc_119 dL_pages_175).trans <| chk_congr <|
  (R_iload mc_119 dL_pages_176 rfl).trans <|
  (R_iconst mc_119 dL_pages_178 ⟨by decide, by decide⟩).trans <|
  (R_isub mc_119 dL_pages_179).trans <| chk_congr <|
  R_invV mc_119 dL_pages_180 mo_119 ct_7_70 af_119_102 rfl rfl rfl ⟨Nat.le_of_ble_eq_true rfl, Nat.le_of_ble_eq_true rfl⟩)
  (rfl)
theorem B_L_pages_183 (sc : Nat × (Nat → Int)) (iv : Nat → Nat → Int) (cs : List (Nat × Nat)) (x1 : Int) (x2 : Int) (x3 : Int) (x4 : Int) (x5 : Int) (x6 : Int) (x7 : Int) (x8 : Int) (x9 : Int) (x10 : Int) (x11 : Int) (x12 : Int) (d13 : Option AV) (d14 : Option AV) (s0 : Int) : Run sc 119 183 [some (Rf 1), some (I x1), some (I x2), some (I x3), some (I x4), some (I x5), some (I x6), some (I x7), some (I x8), some (I x9), some (I x10), some (I x11), some (I x12), d13, d14] [(I s0)] (hq cs iv) = if s0 = x10 then Run sc 119 190 [some (Rf 1), some (I x1), some (I x2), some (I x3), some (I x4), some (I x5), some (I x6), some (I x7), some (I x8), some (I x9), some (I x10), some (I x11), some (I x12), d13, d14] [] (hq cs iv) else Run sc 119 188 [some (Rf 1), some (I x1), some (I x2), some (I x3), some (I x4), some (I x5), some (I x6), some (I x7), some (I x8), some (I x9), some (I x10), some (I x11), some (I x12), d13, d14] [] (hq cs iv) :=
  (R_iload mc_119 dL_pages_183 rfl).trans <|
  R_icmp_eq mc_119 dL_pages_185 (t := 190) rfl
theorem B_L_pages_188 (sc : Nat × (Nat → Int)) (iv : Nat → Nat → Int) (cs : List (Nat × Nat)) (x1 : Int) (x2 : Int) (x3 : Int) (x4 : Int) (x5 : Int) (x6 : Int) (x7 : Int) (x8 : Int) (x9 : Int) (x10 : Int) (x11 : Int) (x12 : Int) (d13 : Option AV) (d14 : Option AV) : Run sc 119 188 [some (Rf 1), some (I x1), some (I x2), some (I x3), some (I x4), some (I x5), some (I x6), some (I x7), some (I x8), some (I x9), some (I x10), some (I x11), some (I x12), d13, d14] [] (hq cs iv) = bck 0 1 0 (some (some (I 0), (hq cs iv))) :=
  (R_iconst mc_119 dL_pages_188 ⟨by decide, by decide⟩).trans <|
  R_ireturnZ mc_119 dL_pages_189 rfl
theorem B_L_pages_190 (sc : Nat × (Nat → Int)) (iv : Nat → Nat → Int) (cs : List (Nat × Nat)) (x1 : Int) (x2 : Int) (x3 : Int) (x4 : Int) (x5 : Int) (x6 : Int) (x7 : Int) (x8 : Int) (x9 : Int) (x10 : Int) (x11 : Int) (x12 : Int) (d13 : Option AV) (d14 : Option AV) : Run sc 119 190 [some (Rf 1), some (I x1), some (I x2), some (I x3), some (I x4), some (I x5), some (I x6), some (I x7), some (I x8), some (I x9), some (I x10), some (I x11), some (I x12), d13, d14] [] (hq cs iv) = chk (x10 + 1) (Run sc 119 29 [some (Rf 1), some (I x1), some (I x2), some (I x3), some (I x4), some (I x5), some (I x6), some (I x7), some (I x8), some (I x9), some (I (x10 + 1)), some (I x11), some (I x12), d13, d14] [] (hq cs iv)) :=
  (R_iinc mc_119 dL_pages_190 rfl).trans <| chk_congr <|
  R_goto mc_119 dL_pages_193 (t := 29) rfl
theorem B_L_pages_196 (sc : Nat × (Nat → Int)) (iv : Nat → Nat → Int) (cs : List (Nat × Nat)) (x1 : Int) (x2 : Int) (x3 : Int) (x4 : Int) (x5 : Int) (x6 : Int) (x7 : Int) (x8 : Int) (x9 : Int) (x10 : Int) (d11 : Option AV) (d12 : Option AV) (d13 : Option AV) (d14 : Option AV) : Run sc 119 196 [some (Rf 1), some (I x1), some (I x2), some (I x3), some (I x4), some (I x5), some (I x6), some (I x7), some (I x8), some (I x9), some (I x10), d11, d12, d13, d14] [] (hq cs iv) = aBind (Run sc 109 0 [some (I (x3 / 8)), some (I x1)] [] (hq cs iv)) (fun v h2 => Run sc 119 203 [some (Rf 1), some (I x1), some (I x2), some (I x3), some (I x4), some (I x5), some (I x6), some (I x7), some (I x8), some (I x9), some (I x10), d11, d12, d13, d14] (pushR v []) h2) :=
  (R_iload_n mc_119 dL_pages_196 rfl).trans <|
  (R_iconst mc_119 dL_pages_197 ⟨by decide, by decide⟩).trans <|
  (R_ishrK mc_119 dL_pages_198 ⟨by decide, by decide⟩ (z := 8) rfl).trans <|
  (R_iload_n mc_119 dL_pages_199 rfl).trans <|
  R_invS mc_119 dL_pages_200 mo_119 ct_7_61 (Or.inl rfl) af_119_109 (Nat.le_of_ble_eq_true rfl) rfl rfl ⟨Nat.le_of_ble_eq_true rfl, Nat.le_of_ble_eq_true rfl⟩
theorem B_L_pages_203 (sc : Nat × (Nat → Int)) (iv : Nat → Nat → Int) (cs : List (Nat × Nat)) (x1 : Int) (x2 : Int) (x3 : Int) (x4 : Int) (x5 : Int) (x6 : Int) (x7 : Int) (x8 : Int) (x9 : Int) (x10 : Int) (d11 : Option AV) (d12 : Option AV) (d13 : Option AV) (d14 : Option AV) (s0 : Int) : Run sc 119 203 [some (Rf 1), some (I x1), some (I x2), some (I x3), some (I x4), some (I x5), some (I x6), some (I x7), some (I x8), some (I x9), some (I x10), d11, d12, d13, d14] [(I s0)] (hq cs iv) = aBind (Run sc 109 0 [some (I (x3 / 256)), some (I x2)] [] (hq cs iv)) (fun v h2 => Run sc 119 213 [some (Rf 1), some (I x1), some (I x2), some (I x3), some (I x4), some (I x5), some (I x6), some (I x7), some (I x8), some (I x9), some (I s0), d11, d12, d13, d14] (pushR v []) h2) :=
  (R_istore mc_119 dL_pages_203 (Nat.le_of_ble_eq_true rfl)).trans <|
  (R_iload_n mc_119 dL_pages_205 rfl).trans <|
  (R_bipush mc_119 dL_pages_206 ⟨by decide, by decide⟩).trans <|
  (R_ishrK mc_119 dL_pages_208 ⟨by decide, by decide⟩ (z := 256) rfl).trans <|
  (R_iload_n mc_119 dL_pages_209 rfl).trans <|
  R_invS mc_119 dL_pages_210 mo_119 ct_7_61 (Or.inl rfl) af_119_109 (Nat.le_of_ble_eq_true rfl) rfl rfl ⟨Nat.le_of_ble_eq_true rfl, Nat.le_of_ble_eq_true rfl⟩
theorem B_L_pages_213 (sc : Nat × (Nat → Int)) (iv : Nat → Nat → Int) (cs : List (Nat × Nat)) (x1 : Int) (x2 : Int) (x3 : Int) (x4 : Int) (x5 : Int) (x6 : Int) (x7 : Int) (x8 : Int) (x9 : Int) (x10 : Int) (d11 : Option AV) (d12 : Option AV) (d13 : Option AV) (d14 : Option AV) (s0 : Int) : Run sc 119 213 [some (Rf 1), some (I x1), some (I x2), some (I x3), some (I x4), some (I x5), some (I x6), some (I x7), some (I x8), some (I x9), some (I x10), d11, d12, d13, d14] [(I s0)] (hq cs iv) = aBind (Run sc 102 0 [some (Rf 1), some (I x10), some (I s0)] [] (hq cs iv)) (fun v h2 => Run sc 119 223 [some (Rf 1), some (I x1), some (I x2), some (I x3), some (I x4), some (I x5), some (I x6), some (I x7), some (I x8), some (I x9), some (I x10), some (I s0), d12, d13, d14] (pushR v []) h2) :=
  (R_istore mc_119 dL_pages_213 (Nat.le_of_ble_eq_true rfl)).trans <|
  (R_aload_n mc_119 dL_pages_215 rfl).trans <|
  (R_iload mc_119 dL_pages_216 rfl).trans <|
  (R_iload mc_119 dL_pages_218 rfl).trans <|
  R_invV mc_119 dL_pages_220 mo_119 ct_7_70 af_119_102 rfl rfl rfl ⟨Nat.le_of_ble_eq_true rfl, Nat.le_of_ble_eq_true rfl⟩
theorem B_L_pages_223 (sc : Nat × (Nat → Int)) (iv : Nat → Nat → Int) (cs : List (Nat × Nat)) (x1 : Int) (x2 : Int) (x3 : Int) (x4 : Int) (x5 : Int) (x6 : Int) (x7 : Int) (x8 : Int) (x9 : Int) (x10 : Int) (x11 : Int) (d12 : Option AV) (d13 : Option AV) (d14 : Option AV) (s0 : Int) : Run sc 119 223 [some (Rf 1), some (I x1), some (I x2), some (I x3), some (I x4), some (I x5), some (I x6), some (I x7), some (I x8), some (I x9), some (I x10), some (I x11), d12, d13, d14] [(I s0)] (hq cs iv) = Run sc 119 228 [some (Rf 1), some (I x1), some (I x2), some (I x3), some (I x4), some (I x5), some (I x6), some (I x7), some (I x8), some (I x9), some (I x10), some (I x11), some (I s0), some (I 0), d14] [] (hq cs iv) :=
  (R_istore mc_119 dL_pages_223 (Nat.le_of_ble_eq_true rfl)).trans <|
  (R_iconst mc_119 dL_pages_225 ⟨by decide, by decide⟩).trans <|
  R_istore mc_119 dL_pages_226 (Nat.le_of_ble_eq_true rfl)
theorem B_L_pages_228 (sc : Nat × (Nat → Int)) (iv : Nat → Nat → Int) (cs : List (Nat × Nat)) (x1 : Int) (x2 : Int) (x3 : Int) (x4 : Int) (x5 : Int) (x6 : Int) (x7 : Int) (x8 : Int) (x9 : Int) (x10 : Int) (x11 : Int) (x12 : Int) (x13 : Int) (d14 : Option AV) : Run sc 119 228 [some (Rf 1), some (I x1), some (I x2), some (I x3), some (I x4), some (I x5), some (I x6), some (I x7), some (I x8), some (I x9), some (I x10), some (I x11), some (I x12), some (I x13), d14] [] (hq cs iv) = if x13 < x4 then aBind (Run sc 99 0 [some (Rf 1), some (I x13), some (I 0)] [] (hq cs iv)) (fun v h2 => Run sc 119 244 [some (Rf 1), some (I x1), some (I x2), some (I x3), some (I x4), some (I x5), some (I x6), some (I x7), some (I x8), some (I x9), some (I x10), some (I x11), some (I x12), some (I x13), d14] (pushR v [(I x10)]) h2) else Run sc 119 338 [some (Rf 1), some (I x1), some (I x2), some (I x3), some (I x4), some (I x5), some (I x6), some (I x7), some (I x8), some (I x9), some (I x10), some (I x11), some (I x12), some (I x13), d14] [] (hq cs iv) :=
  (R_iload mc_119 dL_pages_228 rfl).trans <|
  (R_iload mc_119 dL_pages_230 rfl).trans <|
  (R_icmp_ge mc_119 dL_pages_232 (t := 338) rfl).trans <| ite_c2
  ((R_iload mc_119 dL_pages_235 rfl).trans <|
  (R_aload_n mc_119 dL_pages_237 rfl).trans <|
  (R_iload mc_119 dL_pages_238 rfl).trans <|
  (R_iconst mc_119 dL_pages_240 ⟨by decide, by decide⟩).trans <|
  R_invV mc_119 dL_pages_241 mo_119 ct_7_64 af_119_99 rfl rfl rfl ⟨Nat.le_of_ble_eq_true rfl, Nat.le_of_ble_eq_true rfl⟩)
  (rfl)
theorem B_L_pages_244 (sc : Nat × (Nat → Int)) (iv : Nat → Nat → Int) (cs : List (Nat × Nat)) (x1 : Int) (x2 : Int) (x3 : Int) (x4 : Int) (x5 : Int) (x6 : Int) (x7 : Int) (x8 : Int) (x9 : Int) (x10 : Int) (x11 : Int) (x12 : Int) (x13 : Int) (d14 : Option AV) (s0 : Int) (s1 : Int) : Run sc 119 244 [some (Rf 1), some (I x1), some (I x2), some (I x3), some (I x4), some (I x5), some (I x6), some (I x7), some (I x8), some (I x9), some (I x10), some (I x11), some (I x12), some (I x13), d14] [(I s0), (I s1)] (hq cs iv) = if s1 < s0 then Run sc 119 303 [some (Rf 1), some (I x1), some (I x2), some (I x3), some (I x4), some (I x5), some (I x6), some (I x7), some (I x8), some (I x9), some (I x10), some (I x11), some (I x12), some (I x13), d14] [] (hq cs iv) else aBind (Run sc 99 0 [some (Rf 1), some (I x13), some (I 0)] [] (hq cs iv)) (fun v h2 => Run sc 119 256 [some (Rf 1), some (I x1), some (I x2), some (I x3), some (I x4), some (I x5), some (I x6), some (I x7), some (I x8), some (I x9), some (I x10), some (I x11), some (I x12), some (I x13), d14] (pushR v [(I x10)]) h2) :=
  (R_icmp_lt mc_119 dL_pages_244 (t := 303) rfl).trans <| ite_c2
  (rfl)
  ((R_iload mc_119 dL_pages_247 rfl).trans <|
  (R_aload_n mc_119 dL_pages_249 rfl).trans <|
  (R_iload mc_119 dL_pages_250 rfl).trans <|
  (R_iconst mc_119 dL_pages_252 ⟨by decide, by decide⟩).trans <|
  R_invV mc_119 dL_pages_253 mo_119 ct_7_64 af_119_99 rfl rfl rfl ⟨Nat.le_of_ble_eq_true rfl, Nat.le_of_ble_eq_true rfl⟩)
theorem B_L_pages_256 (sc : Nat × (Nat → Int)) (iv : Nat → Nat → Int) (cs : List (Nat × Nat)) (x1 : Int) (x2 : Int) (x3 : Int) (x4 : Int) (x5 : Int) (x6 : Int) (x7 : Int) (x8 : Int) (x9 : Int) (x10 : Int) (x11 : Int) (x12 : Int) (x13 : Int) (d14 : Option AV) (s0 : Int) (s1 : Int) : Run sc 119 256 [some (Rf 1), some (I x1), some (I x2), some (I x3), some (I x4), some (I x5), some (I x6), some (I x7), some (I x8), some (I x9), some (I x10), some (I x11), some (I x12), some (I x13), d14] [(I s0), (I s1)] (hq cs iv) = aBind (Run sc 99 0 [some (Rf 1), some (I x13), some (I 2)] [] (hq cs iv)) (fun v h2 => Run sc 119 263 [some (Rf 1), some (I x1), some (I x2), some (I x3), some (I x4), some (I x5), some (I x6), some (I x7), some (I x8), some (I x9), some (I x10), some (I x11), some (I x12), some (I x13), d14] (pushR v [(I s0), (I s1)]) h2) :=
  (R_aload_n mc_119 dL_pages_256 rfl).trans <|
  (R_iload mc_119 dL_pages_257 rfl).trans <|
  (R_iconst mc_119 dL_pages_259 ⟨by decide, by decide⟩).trans <|
  R_invV mc_119 dL_pages_260 mo_119 ct_7_64 af_119_99 rfl rfl rfl ⟨Nat.le_of_ble_eq_true rfl, Nat.le_of_ble_eq_true rfl⟩
theorem B_L_pages_263 (sc : Nat × (Nat → Int)) (iv : Nat → Nat → Int) (cs : List (Nat × Nat)) (x1 : Int) (x2 : Int) (x3 : Int) (x4 : Int) (x5 : Int) (x6 : Int) (x7 : Int) (x8 : Int) (x9 : Int) (x10 : Int) (x11 : Int) (x12 : Int) (x13 : Int) (d14 : Option AV) (s0 : Int) (s1 : Int) (s2 : Int) : Run sc 119 263 [some (Rf 1), some (I x1), some (I x2), some (I x3), some (I x4), some (I x5), some (I x6), some (I x7), some (I x8), some (I x9), some (I x10), some (I x11), some (I x12), some (I x13), d14] [(I s0), (I s1), (I s2)] (hq cs iv) = chk (s1 + s0) (if s2 < (s1 + s0) then aBind (Run sc 99 0 [some (Rf 1), some (I x13), some (I 1)] [] (hq cs iv)) (fun v h2 => Run sc 119 276 [some (Rf 1), some (I x1), some (I x2), some (I x3), some (I x4), some (I x5), some (I x6), some (I x7), some (I x8), some (I x9), some (I x10), some (I x11), some (I x12), some (I x13), d14] (pushR v [(I x11)]) h2) else Run sc 119 303 [some (Rf 1), some (I x1), some (I x2), some (I x3), some (I x4), some (I x5), some (I x6), some (I x7), some (I x8), some (I x9), some (I x10), some (I x11), some (I x12), some (I x13), d14] [] (hq cs iv)) :=
  (R_iadd mc_119 dL_pages_263).trans <| chk_congr <|
  (R_icmp_ge mc_119 dL_pages_264 (t := 303) rfl).trans <| ite_c2
  ((R_iload mc_119 dL_pages_267 rfl).trans <|
  (R_aload_n mc_119 dL_pages_269 rfl).trans <|
  (R_iload mc_119 dL_pages_270 rfl).trans <|
  (R_iconst mc_119 dL_pages_272 ⟨by decide, by decide⟩).trans <|
  R_invV mc_119 dL_pages_273 mo_119 ct_7_64 af_119_99 rfl rfl rfl ⟨Nat.le_of_ble_eq_true rfl, Nat.le_of_ble_eq_true rfl⟩)
  (rfl)
theorem B_L_pages_276 (sc : Nat × (Nat → Int)) (iv : Nat → Nat → Int) (cs : List (Nat × Nat)) (x1 : Int) (x2 : Int) (x3 : Int) (x4 : Int) (x5 : Int) (x6 : Int) (x7 : Int) (x8 : Int) (x9 : Int) (x10 : Int) (x11 : Int) (x12 : Int) (x13 : Int) (d14 : Option AV) (s0 : Int) (s1 : Int) : Run sc 119 276 [some (Rf 1), some (I x1), some (I x2), some (I x3), some (I x4), some (I x5), some (I x6), some (I x7), some (I x8), some (I x9), some (I x10), some (I x11), some (I x12), some (I x13), d14] [(I s0), (I s1)] (hq cs iv) = if s1 < s0 then Run sc 119 303 [some (Rf 1), some (I x1), some (I x2), some (I x3), some (I x4), some (I x5), some (I x6), some (I x7), some (I x8), some (I x9), some (I x10), some (I x11), some (I x12), some (I x13), d14] [] (hq cs iv) else aBind (Run sc 99 0 [some (Rf 1), some (I x13), some (I 1)] [] (hq cs iv)) (fun v h2 => Run sc 119 288 [some (Rf 1), some (I x1), some (I x2), some (I x3), some (I x4), some (I x5), some (I x6), some (I x7), some (I x8), some (I x9), some (I x10), some (I x11), some (I x12), some (I x13), d14] (pushR v [(I x11)]) h2) :=
  (R_icmp_lt mc_119 dL_pages_276 (t := 303) rfl).trans <| ite_c2
  (rfl)
  ((R_iload mc_119 dL_pages_279 rfl).trans <|
  (R_aload_n mc_119 dL_pages_281 rfl).trans <|
  (R_iload mc_119 dL_pages_282 rfl).trans <|
  (R_iconst mc_119 dL_pages_284 ⟨by decide, by decide⟩).trans <|
  R_invV mc_119 dL_pages_285 mo_119 ct_7_64 af_119_99 rfl rfl rfl ⟨Nat.le_of_ble_eq_true rfl, Nat.le_of_ble_eq_true rfl⟩)
theorem B_L_pages_288 (sc : Nat × (Nat → Int)) (iv : Nat → Nat → Int) (cs : List (Nat × Nat)) (x1 : Int) (x2 : Int) (x3 : Int) (x4 : Int) (x5 : Int) (x6 : Int) (x7 : Int) (x8 : Int) (x9 : Int) (x10 : Int) (x11 : Int) (x12 : Int) (x13 : Int) (d14 : Option AV) (s0 : Int) (s1 : Int) : Run sc 119 288 [some (Rf 1), some (I x1), some (I x2), some (I x3), some (I x4), some (I x5), some (I x6), some (I x7), some (I x8), some (I x9), some (I x10), some (I x11), some (I x12), some (I x13), d14] [(I s0), (I s1)] (hq cs iv) = aBind (Run sc 99 0 [some (Rf 1), some (I x13), some (I 3)] [] (hq cs iv)) (fun v h2 => Run sc 119 295 [some (Rf 1), some (I x1), some (I x2), some (I x3), some (I x4), some (I x5), some (I x6), some (I x7), some (I x8), some (I x9), some (I x10), some (I x11), some (I x12), some (I x13), d14] (pushR v [(I s0), (I s1)]) h2) :=
  (R_aload_n mc_119 dL_pages_288 rfl).trans <|
  (R_iload mc_119 dL_pages_289 rfl).trans <|
  (R_iconst mc_119 dL_pages_291 ⟨by decide, by decide⟩).trans <|
  R_invV mc_119 dL_pages_292 mo_119 ct_7_64 af_119_99 rfl rfl rfl ⟨Nat.le_of_ble_eq_true rfl, Nat.le_of_ble_eq_true rfl⟩
theorem B_L_pages_295 (sc : Nat × (Nat → Int)) (iv : Nat → Nat → Int) (cs : List (Nat × Nat)) (x1 : Int) (x2 : Int) (x3 : Int) (x4 : Int) (x5 : Int) (x6 : Int) (x7 : Int) (x8 : Int) (x9 : Int) (x10 : Int) (x11 : Int) (x12 : Int) (x13 : Int) (d14 : Option AV) (s0 : Int) (s1 : Int) (s2 : Int) : Run sc 119 295 [some (Rf 1), some (I x1), some (I x2), some (I x3), some (I x4), some (I x5), some (I x6), some (I x7), some (I x8), some (I x9), some (I x10), some (I x11), some (I x12), some (I x13), d14] [(I s0), (I s1), (I s2)] (hq cs iv) = chk (s1 + s0) (if s2 < (s1 + s0) then Run sc 119 304 [some (Rf 1), some (I x1), some (I x2), some (I x3), some (I x4), some (I x5), some (I x6), some (I x7), some (I x8), some (I x9), some (I x10), some (I x11), some (I x12), some (I x13), d14] [(I 1)] (hq cs iv) else Run sc 119 303 [some (Rf 1), some (I x1), some (I x2), some (I x3), some (I x4), some (I x5), some (I x6), some (I x7), some (I x8), some (I x9), some (I x10), some (I x11), some (I x12), some (I x13), d14] [] (hq cs iv)) :=
  (R_iadd mc_119 dL_pages_295).trans <| chk_congr <|
  (R_icmp_ge mc_119 dL_pages_296 (t := 303) rfl).trans <| ite_c2
  ((R_iconst mc_119 dL_pages_299 ⟨by decide, by decide⟩).trans <|
  R_goto mc_119 dL_pages_300 (t := 304) rfl)
  (rfl)
theorem B_L_pages_303 (sc : Nat × (Nat → Int)) (iv : Nat → Nat → Int) (cs : List (Nat × Nat)) (x1 : Int) (x2 : Int) (x3 : Int) (x4 : Int) (x5 : Int) (x6 : Int) (x7 : Int) (x8 : Int) (x9 : Int) (x10 : Int) (x11 : Int) (x12 : Int) (x13 : Int) (d14 : Option AV) : Run sc 119 303 [some (Rf 1), some (I x1), some (I x2), some (I x3), some (I x4), some (I x5), some (I x6), some (I x7), some (I x8), some (I x9), some (I x10), some (I x11), some (I x12), some (I x13), d14] [] (hq cs iv) = Run sc 119 304 [some (Rf 1), some (I x1), some (I x2), some (I x3), some (I x4), some (I x5), some (I x6), some (I x7), some (I x8), some (I x9), some (I x10), some (I x11), some (I x12), some (I x13), d14] [(I 0)] (hq cs iv) :=
  R_iconst mc_119 dL_pages_303 ⟨by decide, by decide⟩
theorem B_L_pages_304 (sc : Nat × (Nat → Int)) (iv : Nat → Nat → Int) (cs : List (Nat × Nat)) (x1 : Int) (x2 : Int) (x3 : Int) (x4 : Int) (x5 : Int) (x6 : Int) (x7 : Int) (x8 : Int) (x9 : Int) (x10 : Int) (x11 : Int) (x12 : Int) (x13 : Int) (d14 : Option AV) (s0 : Int) : Run sc 119 304 [some (Rf 1), some (I x1), some (I x2), some (I x3), some (I x4), some (I x5), some (I x6), some (I x7), some (I x8), some (I x9), some (I x10), some (I x11), some (I x12), some (I x13), d14] [(I s0)] (hq cs iv) = if s0 = 0 then Run sc 119 318 [some (Rf 1), some (I x1), some (I x2), some (I x3), some (I x4), some (I x5), some (I x6), some (I x7), some (I x8), some (I x9), some (I x10), some (I x11), some (I x12), some (I x13), some (I s0)] [] (hq cs iv) else if x13 < x12 then Run sc 119 330 [some (Rf 1), some (I x1), some (I x2), some (I x3), some (I x4), some (I x5), some (I x6), some (I x7), some (I x8), some (I x9), some (I x10), some (I x11), some (I x12), some (I x13), some (I s0)] [] (hq cs iv) else Run sc 119 318 [some (Rf 1), some (I x1), some (I x2), some (I x3), some (I x4), some (I x5), some (I x6), some (I x7), some (I x8), some (I x9), some (I x10), some (I x11), some (I x12), some (I x13), some (I s0)] [] (hq cs iv) :=
  (R_istore mc_119 dL_pages_304 (Nat.le_of_ble_eq_true rfl)).trans <|
  (R_iload mc_119 dL_pages_306 rfl).trans <|
  (R_if_eq mc_119 dL_pages_308 (t := 318) rfl).trans <| ite_c2
  (rfl)
  ((R_iload mc_119 dL_pages_311 rfl).trans <|
  (R_iload mc_119 dL_pages_313 rfl).trans <|
  R_icmp_lt mc_119 dL_pages_315 (t := 330) rfl)
theorem B_L_pages_318 (sc : Nat × (Nat → Int)) (iv : Nat → Nat → Int) (cs : List (Nat × Nat)) (x1 : Int) (x2 : Int) (x3 : Int) (x4 : Int) (x5 : Int) (x6 : Int) (x7 : Int) (x8 : Int) (x9 : Int) (x10 : Int) (x11 : Int) (x12 : Int) (x13 : Int) (x14 : Int) : Run sc 119 318 [some (Rf 1), some (I x1), some (I x2), some (I x3), some (I x4), some (I x5), some (I x6), some (I x7), some (I x8), some (I x9), some (I x10), some (I x11), some (I x12), some (I x13), some (I x14)] [] (hq cs iv) = if x14 = 0 then if x13 = x12 then Run sc 119 330 [some (Rf 1), some (I x1), some (I x2), some (I x3), some (I x4), some (I x5), some (I x6), some (I x7), some (I x8), some (I x9), some (I x10), some (I x11), some (I x12), some (I x13), some (I x14)] [] (hq cs iv) else Run sc 119 332 [some (Rf 1), some (I x1), some (I x2), some (I x3), some (I x4), some (I x5), some (I x6), some (I x7), some (I x8), some (I x9), some (I x10), some (I x11), some (I x12), some (I x13), some (I x14)] [] (hq cs iv) else Run sc 119 332 [some (Rf 1), some (I x1), some (I x2), some (I x3), some (I x4), some (I x5), some (I x6), some (I x7), some (I x8), some (I x9), some (I x10), some (I x11), some (I x12), some (I x13), some (I x14)] [] (hq cs iv) :=
  (R_iload mc_119 dL_pages_318 rfl).trans <|
  (R_if_ne mc_119 dL_pages_320 (t := 332) rfl).trans <| ite_c2
  ((R_iload mc_119 dL_pages_323 rfl).trans <|
  (R_iload mc_119 dL_pages_325 rfl).trans <|
  R_icmp_ne mc_119 dL_pages_327 (t := 332) rfl)
  (rfl)
theorem B_L_pages_330 (sc : Nat × (Nat → Int)) (iv : Nat → Nat → Int) (cs : List (Nat × Nat)) (x1 : Int) (x2 : Int) (x3 : Int) (x4 : Int) (x5 : Int) (x6 : Int) (x7 : Int) (x8 : Int) (x9 : Int) (x10 : Int) (x11 : Int) (x12 : Int) (x13 : Int) (x14 : Int) : Run sc 119 330 [some (Rf 1), some (I x1), some (I x2), some (I x3), some (I x4), some (I x5), some (I x6), some (I x7), some (I x8), some (I x9), some (I x10), some (I x11), some (I x12), some (I x13), some (I x14)] [] (hq cs iv) = bck 0 1 0 (some (some (I 0), (hq cs iv))) :=
  (R_iconst mc_119 dL_pages_330 ⟨by decide, by decide⟩).trans <|
  R_ireturnZ mc_119 dL_pages_331 rfl
theorem B_L_pages_332 (sc : Nat × (Nat → Int)) (iv : Nat → Nat → Int) (cs : List (Nat × Nat)) (x1 : Int) (x2 : Int) (x3 : Int) (x4 : Int) (x5 : Int) (x6 : Int) (x7 : Int) (x8 : Int) (x9 : Int) (x10 : Int) (x11 : Int) (x12 : Int) (x13 : Int) (x14 : Int) : Run sc 119 332 [some (Rf 1), some (I x1), some (I x2), some (I x3), some (I x4), some (I x5), some (I x6), some (I x7), some (I x8), some (I x9), some (I x10), some (I x11), some (I x12), some (I x13), some (I x14)] [] (hq cs iv) = chk (x13 + 1) (Run sc 119 228 [some (Rf 1), some (I x1), some (I x2), some (I x3), some (I x4), some (I x5), some (I x6), some (I x7), some (I x8), some (I x9), some (I x10), some (I x11), some (I x12), some (I (x13 + 1)), some (I x14)] [] (hq cs iv)) :=
  (R_iinc mc_119 dL_pages_332 rfl).trans <| chk_congr <|
  R_goto mc_119 dL_pages_335 (t := 228) rfl
theorem B_L_pages_338 (sc : Nat × (Nat → Int)) (iv : Nat → Nat → Int) (cs : List (Nat × Nat)) (x1 : Int) (x2 : Int) (x3 : Int) (x4 : Int) (x5 : Int) (x6 : Int) (x7 : Int) (x8 : Int) (x9 : Int) (x10 : Int) (x11 : Int) (x12 : Int) (x13 : Int) (d14 : Option AV) : Run sc 119 338 [some (Rf 1), some (I x1), some (I x2), some (I x3), some (I x4), some (I x5), some (I x6), some (I x7), some (I x8), some (I x9), some (I x10), some (I x11), some (I x12), some (I x13), d14] [] (hq cs iv) = chk (x1 * x2) (if x5 = (x1 * x2) then aBind (Run sc 84 0 [some (Rf 1), some (I x6), some (I 0), none, none] [] (hq cs iv)) (fun v h2 => Run sc 119 355 [some (Rf 1), some (I x1), some (I x2), some (I x3), some (I x4), some (I x5), some (I x6), some (I x7), some (I x8), some (I x9), some (I x10), some (I x11), some (I x12), some (I x13), d14] (pushR v [(I x7)]) h2) else Run sc 119 386 [some (Rf 1), some (I x1), some (I x2), some (I x3), some (I x4), some (I x5), some (I x6), some (I x7), some (I x8), some (I x9), some (I x10), some (I x11), some (I x12), some (I x13), d14] [] (hq cs iv)) :=
  (R_iload mc_119 dL_pages_338 rfl).trans <|
  (R_iload_n mc_119 dL_pages_340 rfl).trans <|
  (R_iload_n mc_119 dL_pages_341 rfl).trans <|
  (R_imul mc_119 dL_pages_342).trans <| chk_congr <|
  (R_icmp_ne mc_119 dL_pages_343 (t := 386) rfl).trans <| ite_c2
  ((R_iload mc_119 dL_pages_346 rfl).trans <|
  (R_aload_n mc_119 dL_pages_348 rfl).trans <|
  (R_iload mc_119 dL_pages_349 rfl).trans <|
  (R_iconst mc_119 dL_pages_351 ⟨by decide, by decide⟩).trans <|
  R_invV mc_119 dL_pages_352 mo_119 ct_7_9 af_119_84 rfl rfl rfl ⟨Nat.le_of_ble_eq_true rfl, Nat.le_of_ble_eq_true rfl⟩)
  (rfl)
theorem B_L_pages_355 (sc : Nat × (Nat → Int)) (iv : Nat → Nat → Int) (cs : List (Nat × Nat)) (x1 : Int) (x2 : Int) (x3 : Int) (x4 : Int) (x5 : Int) (x6 : Int) (x7 : Int) (x8 : Int) (x9 : Int) (x10 : Int) (x11 : Int) (x12 : Int) (x13 : Int) (d14 : Option AV) (s0 : Int) (s1 : Int) : Run sc 119 355 [some (Rf 1), some (I x1), some (I x2), some (I x3), some (I x4), some (I x5), some (I x6), some (I x7), some (I x8), some (I x9), some (I x10), some (I x11), some (I x12), some (I x13), d14] [(I s0), (I s1)] (hq cs iv) = if s1 = s0 then aBind (Run sc 84 0 [some (Rf 1), some (I x6), some (I 2), none, none] [] (hq cs iv)) (fun v h2 => Run sc 119 367 [some (Rf 1), some (I x1), some (I x2), some (I x3), some (I x4), some (I x5), some (I x6), some (I x7), some (I x8), some (I x9), some (I x10), some (I x11), some (I x12), some (I x13), d14] (pushR v [(I x8)]) h2) else Run sc 119 386 [some (Rf 1), some (I x1), some (I x2), some (I x3), some (I x4), some (I x5), some (I x6), some (I x7), some (I x8), some (I x9), some (I x10), some (I x11), some (I x12), some (I x13), d14] [] (hq cs iv) :=
  (R_icmp_ne mc_119 dL_pages_355 (t := 386) rfl).trans <| ite_c2
  ((R_iload mc_119 dL_pages_358 rfl).trans <|
  (R_aload_n mc_119 dL_pages_360 rfl).trans <|
  (R_iload mc_119 dL_pages_361 rfl).trans <|
  (R_iconst mc_119 dL_pages_363 ⟨by decide, by decide⟩).trans <|
  R_invV mc_119 dL_pages_364 mo_119 ct_7_9 af_119_84 rfl rfl rfl ⟨Nat.le_of_ble_eq_true rfl, Nat.le_of_ble_eq_true rfl⟩)
  (rfl)
theorem B_L_pages_367 (sc : Nat × (Nat → Int)) (iv : Nat → Nat → Int) (cs : List (Nat × Nat)) (x1 : Int) (x2 : Int) (x3 : Int) (x4 : Int) (x5 : Int) (x6 : Int) (x7 : Int) (x8 : Int) (x9 : Int) (x10 : Int) (x11 : Int) (x12 : Int) (x13 : Int) (d14 : Option AV) (s0 : Int) (s1 : Int) : Run sc 119 367 [some (Rf 1), some (I x1), some (I x2), some (I x3), some (I x4), some (I x5), some (I x6), some (I x7), some (I x8), some (I x9), some (I x10), some (I x11), some (I x12), some (I x13), d14] [(I s0), (I s1)] (hq cs iv) = if s1 = s0 then aBind (Run sc 84 0 [some (Rf 1), some (I x6), some (I 3), none, none] [] (hq cs iv)) (fun v h2 => Run sc 119 379 [some (Rf 1), some (I x1), some (I x2), some (I x3), some (I x4), some (I x5), some (I x6), some (I x7), some (I x8), some (I x9), some (I x10), some (I x11), some (I x12), some (I x13), d14] (pushR v [(I x9)]) h2) else Run sc 119 386 [some (Rf 1), some (I x1), some (I x2), some (I x3), some (I x4), some (I x5), some (I x6), some (I x7), some (I x8), some (I x9), some (I x10), some (I x11), some (I x12), some (I x13), d14] [] (hq cs iv) :=
  (R_icmp_ne mc_119 dL_pages_367 (t := 386) rfl).trans <| ite_c2
  ((R_iload mc_119 dL_pages_370 rfl).trans <|
  (R_aload_n mc_119 dL_pages_372 rfl).trans <|
  (R_iload mc_119 dL_pages_373 rfl).trans <|
  (R_iconst mc_119 dL_pages_375 ⟨by decide, by decide⟩).trans <|
  R_invV mc_119 dL_pages_376 mo_119 ct_7_9 af_119_84 rfl rfl rfl ⟨Nat.le_of_ble_eq_true rfl, Nat.le_of_ble_eq_true rfl⟩)
  (rfl)
theorem B_L_pages_379 (sc : Nat × (Nat → Int)) (iv : Nat → Nat → Int) (cs : List (Nat × Nat)) (x1 : Int) (x2 : Int) (x3 : Int) (x4 : Int) (x5 : Int) (x6 : Int) (x7 : Int) (x8 : Int) (x9 : Int) (x10 : Int) (x11 : Int) (x12 : Int) (x13 : Int) (d14 : Option AV) (s0 : Int) (s1 : Int) : Run sc 119 379 [some (Rf 1), some (I x1), some (I x2), some (I x3), some (I x4), some (I x5), some (I x6), some (I x7), some (I x8), some (I x9), some (I x10), some (I x11), some (I x12), some (I x13), d14] [(I s0), (I s1)] (hq cs iv) = if s1 = s0 then Run sc 119 387 [some (Rf 1), some (I x1), some (I x2), some (I x3), some (I x4), some (I x5), some (I x6), some (I x7), some (I x8), some (I x9), some (I x10), some (I x11), some (I x12), some (I x13), d14] [(I 1)] (hq cs iv) else Run sc 119 386 [some (Rf 1), some (I x1), some (I x2), some (I x3), some (I x4), some (I x5), some (I x6), some (I x7), some (I x8), some (I x9), some (I x10), some (I x11), some (I x12), some (I x13), d14] [] (hq cs iv) :=
  (R_icmp_ne mc_119 dL_pages_379 (t := 386) rfl).trans <| ite_c2
  ((R_iconst mc_119 dL_pages_382 ⟨by decide, by decide⟩).trans <|
  R_goto mc_119 dL_pages_383 (t := 387) rfl)
  (rfl)
theorem B_L_pages_386 (sc : Nat × (Nat → Int)) (iv : Nat → Nat → Int) (cs : List (Nat × Nat)) (x1 : Int) (x2 : Int) (x3 : Int) (x4 : Int) (x5 : Int) (x6 : Int) (x7 : Int) (x8 : Int) (x9 : Int) (x10 : Int) (x11 : Int) (x12 : Int) (x13 : Int) (d14 : Option AV) : Run sc 119 386 [some (Rf 1), some (I x1), some (I x2), some (I x3), some (I x4), some (I x5), some (I x6), some (I x7), some (I x8), some (I x9), some (I x10), some (I x11), some (I x12), some (I x13), d14] [] (hq cs iv) = Run sc 119 387 [some (Rf 1), some (I x1), some (I x2), some (I x3), some (I x4), some (I x5), some (I x6), some (I x7), some (I x8), some (I x9), some (I x10), some (I x11), some (I x12), some (I x13), d14] [(I 0)] (hq cs iv) :=
  R_iconst mc_119 dL_pages_386 ⟨by decide, by decide⟩
theorem B_L_pages_387 (sc : Nat × (Nat → Int)) (iv : Nat → Nat → Int) (cs : List (Nat × Nat)) (x1 : Int) (x2 : Int) (x3 : Int) (x4 : Int) (x5 : Int) (x6 : Int) (x7 : Int) (x8 : Int) (x9 : Int) (x10 : Int) (x11 : Int) (x12 : Int) (x13 : Int) (d14 : Option AV) (s0 : Int) : Run sc 119 387 [some (Rf 1), some (I x1), some (I x2), some (I x3), some (I x4), some (I x5), some (I x6), some (I x7), some (I x8), some (I x9), some (I x10), some (I x11), some (I x12), some (I x13), d14] [(I s0)] (hq cs iv) = if s0 = 0 then Run sc 119 458 [some (Rf 1), some (I x1), some (I x2), some (I x3), some (I x4), some (I x5), some (I x6), some (I x7), some (I x8), some (I x9), some (I x10), some (I x11), some (I x12), some (I s0), d14] [] (hq cs iv) else aBind (Run sc 99 0 [some (Rf 1), some (I x4), some (I 0)] [] (hq cs iv)) (fun v h2 => Run sc 119 401 [some (Rf 1), some (I x1), some (I x2), some (I x3), some (I x4), some (I x5), some (I x6), some (I x7), some (I x8), some (I x9), some (I x10), some (I x11), some (I x12), some (I s0), d14] (pushR v []) h2) :=
  (R_istore mc_119 dL_pages_387 (Nat.le_of_ble_eq_true rfl)).trans <|
  (R_iload mc_119 dL_pages_389 rfl).trans <|
  (R_if_eq mc_119 dL_pages_391 (t := 458) rfl).trans <| ite_c2
  (rfl)
  ((R_aload_n mc_119 dL_pages_394 rfl).trans <|
  (R_iload mc_119 dL_pages_395 rfl).trans <|
  (R_iconst mc_119 dL_pages_397 ⟨by decide, by decide⟩).trans <|
  R_invV mc_119 dL_pages_398 mo_119 ct_7_64 af_119_99 rfl rfl rfl ⟨Nat.le_of_ble_eq_true rfl, Nat.le_of_ble_eq_true rfl⟩)
theorem B_L_pages_401 (sc : Nat × (Nat → Int)) (iv : Nat → Nat → Int) (cs : List (Nat × Nat)) (x1 : Int) (x2 : Int) (x3 : Int) (x4 : Int) (x5 : Int) (x6 : Int) (x7 : Int) (x8 : Int) (x9 : Int) (x10 : Int) (x11 : Int) (x12 : Int) (x13 : Int) (d14 : Option AV) (s0 : Int) : Run sc 119 401 [some (Rf 1), some (I x1), some (I x2), some (I x3), some (I x4), some (I x5), some (I x6), some (I x7), some (I x8), some (I x9), some (I x10), some (I x11), some (I x12), some (I x13), d14] [(I s0)] (hq cs iv) = if s0 = (-1) then aBind (Run sc 100 0 [some (Rf 1), some (I x4), some (I 9), some (I 9), none, none] [] (hq cs iv)) (fun v h2 => Run sc 119 415 [some (Rf 1), some (I x1), some (I x2), some (I x3), some (I x4), some (I x5), some (I x6), some (I x7), some (I x8), some (I x9), some (I x10), some (I x11), some (I x12), some (I x13), d14] (pushR v []) h2) else Run sc 119 458 [some (Rf 1), some (I x1), some (I x2), some (I x3), some (I x4), some (I x5), some (I x6), some (I x7), some (I x8), some (I x9), some (I x10), some (I x11), some (I x12), some (I x13), d14] [] (hq cs iv) :=
  (R_iconst mc_119 dL_pages_401 ⟨by decide, by decide⟩).trans <|
  (R_icmp_ne mc_119 dL_pages_402 (t := 458) rfl).trans <| ite_c2
  ((R_aload_n mc_119 dL_pages_405 rfl).trans <|
  (R_iload mc_119 dL_pages_406 rfl).trans <|
  (R_bipush mc_119 dL_pages_408 ⟨by decide, by decide⟩).trans <|
  (R_bipush mc_119 dL_pages_410 ⟨by decide, by decide⟩).trans <|
  R_invV mc_119 dL_pages_412 mo_119 ct_7_67 af_119_100 rfl rfl rfl ⟨Nat.le_of_ble_eq_true rfl, Nat.le_of_ble_eq_true rfl⟩)
  (rfl)
theorem B_L_pages_415 (sc : Nat × (Nat → Int)) (iv : Nat → Nat → Int) (cs : List (Nat × Nat)) (x1 : Int) (x2 : Int) (x3 : Int) (x4 : Int) (x5 : Int) (x6 : Int) (x7 : Int) (x8 : Int) (x9 : Int) (x10 : Int) (x11 : Int) (x12 : Int) (x13 : Int) (d14 : Option AV) (s0 : Int) : Run sc 119 415 [some (Rf 1), some (I x1), some (I x2), some (I x3), some (I x4), some (I x5), some (I x6), some (I x7), some (I x8), some (I x9), some (I x10), some (I x11), some (I x12), some (I x13), d14] [(I s0)] (hq cs iv) = if s0 = (-1) then aBind (Run sc 100 0 [some (Rf 1), some (I 0), some (I 7), some (I 0), none, none] [] (hq cs iv)) (fun v h2 => Run sc 119 427 [some (Rf 1), some (I x1), some (I x2), some (I x3), some (I x4), some (I x5), some (I x6), some (I x7), some (I x8), some (I x9), some (I x10), some (I x11), some (I x12), some (I x13), d14] (pushR v []) h2) else Run sc 119 458 [some (Rf 1), some (I x1), some (I x2), some (I x3), some (I x4), some (I x5), some (I x6), some (I x7), some (I x8), some (I x9), some (I x10), some (I x11), some (I x12), some (I x13), d14] [] (hq cs iv) :=
  (R_iconst mc_119 dL_pages_415 ⟨by decide, by decide⟩).trans <|
  (R_icmp_ne mc_119 dL_pages_416 (t := 458) rfl).trans <| ite_c2
  ((R_aload_n mc_119 dL_pages_419 rfl).trans <|
  (R_iconst mc_119 dL_pages_420 ⟨by decide, by decide⟩).trans <|
  (R_bipush mc_119 dL_pages_421 ⟨by decide, by decide⟩).trans <|
  (R_iconst mc_119 dL_pages_423 ⟨by decide, by decide⟩).trans <|
  R_invV mc_119 dL_pages_424 mo_119 ct_7_67 af_119_100 rfl rfl rfl ⟨Nat.le_of_ble_eq_true rfl, Nat.le_of_ble_eq_true rfl⟩)
  (rfl)
theorem B_L_pages_427 (sc : Nat × (Nat → Int)) (iv : Nat → Nat → Int) (cs : List (Nat × Nat)) (x1 : Int) (x2 : Int) (x3 : Int) (x4 : Int) (x5 : Int) (x6 : Int) (x7 : Int) (x8 : Int) (x9 : Int) (x10 : Int) (x11 : Int) (x12 : Int) (x13 : Int) (d14 : Option AV) (s0 : Int) : Run sc 119 427 [some (Rf 1), some (I x1), some (I x2), some (I x3), some (I x4), some (I x5), some (I x6), some (I x7), some (I x8), some (I x9), some (I x10), some (I x11), some (I x12), some (I x13), d14] [(I s0)] (hq cs iv) = if s0 = (-2) then aBind (Run sc 100 0 [some (Rf 1), some (I 0), some (I 0), some (I 3), none, none] [] (hq cs iv)) (fun v h2 => Run sc 119 439 [some (Rf 1), some (I x1), some (I x2), some (I x3), some (I x4), some (I x5), some (I x6), some (I x7), some (I x8), some (I x9), some (I x10), some (I x11), some (I x12), some (I x13), d14] (pushR v []) h2) else Run sc 119 458 [some (Rf 1), some (I x1), some (I x2), some (I x3), some (I x4), some (I x5), some (I x6), some (I x7), some (I x8), some (I x9), some (I x10), some (I x11), some (I x12), some (I x13), d14] [] (hq cs iv) :=
  (R_bipush mc_119 dL_pages_427 ⟨by decide, by decide⟩).trans <|
  (R_icmp_ne mc_119 dL_pages_429 (t := 458) rfl).trans <| ite_c2
  ((R_aload_n mc_119 dL_pages_432 rfl).trans <|
  (R_iconst mc_119 dL_pages_433 ⟨by decide, by decide⟩).trans <|
  (R_iconst mc_119 dL_pages_434 ⟨by decide, by decide⟩).trans <|
  (R_iconst mc_119 dL_pages_435 ⟨by decide, by decide⟩).trans <|
  R_invV mc_119 dL_pages_436 mo_119 ct_7_67 af_119_100 rfl rfl rfl ⟨Nat.le_of_ble_eq_true rfl, Nat.le_of_ble_eq_true rfl⟩)
  (rfl)
theorem B_L_pages_439 (sc : Nat × (Nat → Int)) (iv : Nat → Nat → Int) (cs : List (Nat × Nat)) (x1 : Int) (x2 : Int) (x3 : Int) (x4 : Int) (x5 : Int) (x6 : Int) (x7 : Int) (x8 : Int) (x9 : Int) (x10 : Int) (x11 : Int) (x12 : Int) (x13 : Int) (d14 : Option AV) (s0 : Int) : Run sc 119 439 [some (Rf 1), some (I x1), some (I x2), some (I x3), some (I x4), some (I x5), some (I x6), some (I x7), some (I x8), some (I x9), some (I x10), some (I x11), some (I x12), some (I x13), d14] [(I s0)] (hq cs iv) = if s0 = (-2) then aBind (Run sc 102 0 [some (Rf 1), some (I x1), some (I 0)] [] (hq cs iv)) (fun v h2 => Run sc 119 450 [some (Rf 1), some (I x1), some (I x2), some (I x3), some (I x4), some (I x5), some (I x6), some (I x7), some (I x8), some (I x9), some (I x10), some (I x11), some (I x12), some (I x13), d14] (pushR v []) h2) else Run sc 119 458 [some (Rf 1), some (I x1), some (I x2), some (I x3), some (I x4), some (I x5), some (I x6), some (I x7), some (I x8), some (I x9), some (I x10), some (I x11), some (I x12), some (I x13), d14] [] (hq cs iv) :=
  (R_bipush mc_119 dL_pages_439 ⟨by decide, by decide⟩).trans <|
  (R_icmp_ne mc_119 dL_pages_441 (t := 458) rfl).trans <| ite_c2
  ((R_aload_n mc_119 dL_pages_444 rfl).trans <|
  (R_iload_n mc_119 dL_pages_445 rfl).trans <|
  (R_iconst mc_119 dL_pages_446 ⟨by decide, by decide⟩).trans <|
  R_invV mc_119 dL_pages_447 mo_119 ct_7_70 af_119_102 rfl rfl rfl ⟨Nat.le_of_ble_eq_true rfl, Nat.le_of_ble_eq_true rfl⟩)
  (rfl)
theorem B_L_pages_450 (sc : Nat × (Nat → Int)) (iv : Nat → Nat → Int) (cs : List (Nat × Nat)) (x1 : Int) (x2 : Int) (x3 : Int) (x4 : Int) (x5 : Int) (x6 : Int) (x7 : Int) (x8 : Int) (x9 : Int) (x10 : Int) (x11 : Int) (x12 : Int) (x13 : Int) (d14 : Option AV) (s0 : Int) : Run sc 119 450 [some (Rf 1), some (I x1), some (I x2), some (I x3), some (I x4), some (I x5), some (I x6), some (I x7), some (I x8), some (I x9), some (I x10), some (I x11), some (I x12), some (I x13), d14] [(I s0)] (hq cs iv) = if s0 = (-1) then Run sc 119 459 [some (Rf 1), some (I x1), some (I x2), some (I x3), some (I x4), some (I x5), some (I x6), some (I x7), some (I x8), some (I x9), some (I x10), some (I x11), some (I x12), some (I x13), d14] [(I 1)] (hq cs iv) else Run sc 119 458 [some (Rf 1), some (I x1), some (I x2), some (I x3), some (I x4), some (I x5), some (I x6), some (I x7), some (I x8), some (I x9), some (I x10), some (I x11), some (I x12), some (I x13), d14] [] (hq cs iv) :=
  (R_iconst mc_119 dL_pages_450 ⟨by decide, by decide⟩).trans <|
  (R_icmp_ne mc_119 dL_pages_451 (t := 458) rfl).trans <| ite_c2
  ((R_iconst mc_119 dL_pages_454 ⟨by decide, by decide⟩).trans <|
  R_goto mc_119 dL_pages_455 (t := 459) rfl)
  (rfl)
theorem B_L_pages_458 (sc : Nat × (Nat → Int)) (iv : Nat → Nat → Int) (cs : List (Nat × Nat)) (x1 : Int) (x2 : Int) (x3 : Int) (x4 : Int) (x5 : Int) (x6 : Int) (x7 : Int) (x8 : Int) (x9 : Int) (x10 : Int) (x11 : Int) (x12 : Int) (x13 : Int) (d14 : Option AV) : Run sc 119 458 [some (Rf 1), some (I x1), some (I x2), some (I x3), some (I x4), some (I x5), some (I x6), some (I x7), some (I x8), some (I x9), some (I x10), some (I x11), some (I x12), some (I x13), d14] [] (hq cs iv) = Run sc 119 459 [some (Rf 1), some (I x1), some (I x2), some (I x3), some (I x4), some (I x5), some (I x6), some (I x7), some (I x8), some (I x9), some (I x10), some (I x11), some (I x12), some (I x13), d14] [(I 0)] (hq cs iv) :=
  R_iconst mc_119 dL_pages_458 ⟨by decide, by decide⟩
theorem B_L_pages_459 (sc : Nat × (Nat → Int)) (iv : Nat → Nat → Int) (cs : List (Nat × Nat)) (x1 : Int) (x2 : Int) (x3 : Int) (x4 : Int) (x5 : Int) (x6 : Int) (x7 : Int) (x8 : Int) (x9 : Int) (x10 : Int) (x11 : Int) (x12 : Int) (x13 : Int) (d14 : Option AV) (s0 : Int) : Run sc 119 459 [some (Rf 1), some (I x1), some (I x2), some (I x3), some (I x4), some (I x5), some (I x6), some (I x7), some (I x8), some (I x9), some (I x10), some (I x11), some (I x12), some (I x13), d14] [(I s0)] (hq cs iv) = bck 0 1 s0 (some (some (I s0), (hq cs iv))) :=
  R_ireturnZ mc_119 dL_pages_459 rfl
theorem B_L_orders_0 (sc : Nat × (Nat → Int)) (iv : Nat → Nat → Int) (cs : List (Nat × Nat)) (x1 : Int) (x2 : Int) : Run sc 120 0 [some (Rf 1), some (I x1), some (I x2), none, none, none, none, none, none, none] [] (hq cs iv) = aBind (Run sc 84 0 [some (Rf 1), some (I x1), some (I 2), none, none] [] (hq cs iv)) (fun v h2 => Run sc 120 6 [some (Rf 1), some (I x1), some (I x2), none, none, none, none, none, none, none] (pushR v []) h2) :=
  (R_aload_n mc_120 dL_orders_0 rfl).trans <|
  (R_iload_n mc_120 dL_orders_1 rfl).trans <|
  (R_iconst mc_120 dL_orders_2 ⟨by decide, by decide⟩).trans <|
  R_invV mc_120 dL_orders_3 mo_120 ct_7_9 af_120_84 rfl rfl rfl ⟨Nat.le_of_ble_eq_true rfl, Nat.le_of_ble_eq_true rfl⟩
theorem B_L_orders_6 (sc : Nat × (Nat → Int)) (iv : Nat → Nat → Int) (cs : List (Nat × Nat)) (x1 : Int) (x2 : Int) (d3 : Option AV) (d4 : Option AV) (d5 : Option AV) (d6 : Option AV) (d7 : Option AV) (d8 : Option AV) (d9 : Option AV) (s0 : Int) : Run sc 120 6 [some (Rf 1), some (I x1), some (I x2), d3, d4, d5, d6, d7, d8, d9] [(I s0)] (hq cs iv) = if s0 = 0 then aBind (Run sc 89 0 [some (Rf 1), some (I x1), some (I 0), some (I 0), none] [] (hq cs iv)) (fun v h2 => Run sc 120 18 [some (Rf 1), some (I x1), some (I x2), some (I s0), d4, d5, d6, d7, d8, d9] (pushR v []) h2) else Run sc 120 45 [some (Rf 1), some (I x1), some (I x2), some (I s0), d4, d5, d6, d7, d8, d9] [] (hq cs iv) :=
  (R_istore_n mc_120 dL_orders_6 (Nat.le_of_ble_eq_true rfl)).trans <|
  (R_iload_n mc_120 dL_orders_7 rfl).trans <|
  (R_if_ne mc_120 dL_orders_8 (t := 45) rfl).trans <| ite_c2
  ((R_aload_n mc_120 dL_orders_11 rfl).trans <|
  (R_iload_n mc_120 dL_orders_12 rfl).trans <|
  (R_iconst mc_120 dL_orders_13 ⟨by decide, by decide⟩).trans <|
  (R_iconst mc_120 dL_orders_14 ⟨by decide, by decide⟩).trans <|
  R_invV mc_120 dL_orders_15 mo_120 ct_7_73 af_120_89 rfl rfl rfl ⟨Nat.le_of_ble_eq_true rfl, Nat.le_of_ble_eq_true rfl⟩)
  (rfl)
theorem B_L_orders_18 (sc : Nat × (Nat → Int)) (iv : Nat → Nat → Int) (cs : List (Nat × Nat)) (x1 : Int) (x2 : Int) (x3 : Int) (d4 : Option AV) (d5 : Option AV) (d6 : Option AV) (d7 : Option AV) (d8 : Option AV) (d9 : Option AV) (s0 : Int) : Run sc 120 18 [some (Rf 1), some (I x1), some (I x2), some (I x3), d4, d5, d6, d7, d8, d9] [(I s0)] (hq cs iv) = if s0 = (-2) then aBind (Run sc 91 0 [some (Rf 1), some (I x1)] [] (hq cs iv)) (fun v h2 => Run sc 120 28 [some (Rf 1), some (I x1), some (I x2), some (I x3), d4, d5, d6, d7, d8, d9] (pushR v []) h2) else Run sc 120 43 [some (Rf 1), some (I x1), some (I x2), some (I x3), d4, d5, d6, d7, d8, d9] [] (hq cs iv) :=
  (R_bipush mc_120 dL_orders_18 ⟨by decide, by decide⟩).trans <|
  (R_icmp_ne mc_120 dL_orders_20 (t := 43) rfl).trans <| ite_c2
  ((R_aload_n mc_120 dL_orders_23 rfl).trans <|
  (R_iload_n mc_120 dL_orders_24 rfl).trans <|
  R_invV mc_120 dL_orders_25 mo_120 ct_7_76 af_120_91 rfl rfl rfl ⟨Nat.le_of_ble_eq_true rfl, Nat.le_of_ble_eq_true rfl⟩)
  (rfl)
theorem B_L_orders_28 (sc : Nat × (Nat → Int)) (iv : Nat → Nat → Int) (cs : List (Nat × Nat)) (x1 : Int) (x2 : Int) (x3 : Int) (d4 : Option AV) (d5 : Option AV) (d6 : Option AV) (d7 : Option AV) (d8 : Option AV) (d9 : Option AV) (s0 : Int) : Run sc 120 28 [some (Rf 1), some (I x1), some (I x2), some (I x3), d4, d5, d6, d7, d8, d9] [(I s0)] (hq cs iv) = if s0 = 0 then aBind (Run sc 90 0 [some (Rf 1), some (I x1), none] [] (hq cs iv)) (fun v h2 => Run sc 120 36 [some (Rf 1), some (I x1), some (I x2), some (I x3), d4, d5, d6, d7, d8, d9] (pushR v []) h2) else Run sc 120 43 [some (Rf 1), some (I x1), some (I x2), some (I x3), d4, d5, d6, d7, d8, d9] [] (hq cs iv) :=
  (R_if_ne mc_120 dL_orders_28 (t := 43) rfl).trans <| ite_c2
  ((R_aload_n mc_120 dL_orders_31 rfl).trans <|
  (R_iload_n mc_120 dL_orders_32 rfl).trans <|
  R_invV mc_120 dL_orders_33 mo_120 ct_7_79 af_120_90 rfl rfl rfl ⟨Nat.le_of_ble_eq_true rfl, Nat.le_of_ble_eq_true rfl⟩)
  (rfl)
theorem B_L_orders_36 (sc : Nat × (Nat → Int)) (iv : Nat → Nat → Int) (cs : List (Nat × Nat)) (x1 : Int) (x2 : Int) (x3 : Int) (d4 : Option AV) (d5 : Option AV) (d6 : Option AV) (d7 : Option AV) (d8 : Option AV) (d9 : Option AV) (s0 : Int) : Run sc 120 36 [some (Rf 1), some (I x1), some (I x2), some (I x3), d4, d5, d6, d7, d8, d9] [(I s0)] (hq cs iv) = if s0 = 0 then Run sc 120 44 [some (Rf 1), some (I x1), some (I x2), some (I x3), d4, d5, d6, d7, d8, d9] [(I 1)] (hq cs iv) else Run sc 120 43 [some (Rf 1), some (I x1), some (I x2), some (I x3), d4, d5, d6, d7, d8, d9] [] (hq cs iv) :=
  (R_if_ne mc_120 dL_orders_36 (t := 43) rfl).trans <| ite_c2
  ((R_iconst mc_120 dL_orders_39 ⟨by decide, by decide⟩).trans <|
  R_goto mc_120 dL_orders_40 (t := 44) rfl)
  (rfl)
theorem B_L_orders_43 (sc : Nat × (Nat → Int)) (iv : Nat → Nat → Int) (cs : List (Nat × Nat)) (x1 : Int) (x2 : Int) (x3 : Int) (d4 : Option AV) (d5 : Option AV) (d6 : Option AV) (d7 : Option AV) (d8 : Option AV) (d9 : Option AV) : Run sc 120 43 [some (Rf 1), some (I x1), some (I x2), some (I x3), d4, d5, d6, d7, d8, d9] [] (hq cs iv) = Run sc 120 44 [some (Rf 1), some (I x1), some (I x2), some (I x3), d4, d5, d6, d7, d8, d9] [(I 0)] (hq cs iv) :=
  R_iconst mc_120 dL_orders_43 ⟨by decide, by decide⟩
theorem B_L_orders_44 (sc : Nat × (Nat → Int)) (iv : Nat → Nat → Int) (cs : List (Nat × Nat)) (x1 : Int) (x2 : Int) (x3 : Int) (d4 : Option AV) (d5 : Option AV) (d6 : Option AV) (d7 : Option AV) (d8 : Option AV) (d9 : Option AV) (s0 : Int) : Run sc 120 44 [some (Rf 1), some (I x1), some (I x2), some (I x3), d4, d5, d6, d7, d8, d9] [(I s0)] (hq cs iv) = bck 0 1 s0 (some (some (I s0), (hq cs iv))) :=
  R_ireturnZ mc_120 dL_orders_44 rfl
theorem B_L_orders_45 (sc : Nat × (Nat → Int)) (iv : Nat → Nat → Int) (cs : List (Nat × Nat)) (x1 : Int) (x2 : Int) (x3 : Int) (d4 : Option AV) (d5 : Option AV) (d6 : Option AV) (d7 : Option AV) (d8 : Option AV) (d9 : Option AV) : Run sc 120 45 [some (Rf 1), some (I x1), some (I x2), some (I x3), d4, d5, d6, d7, d8, d9] [] (hq cs iv) = aBind (Run sc 109 0 [some (I x2), some (I x3)] [] (hq cs iv)) (fun v h2 => Run sc 120 50 [some (Rf 1), some (I x1), some (I x2), some (I x3), d4, d5, d6, d7, d8, d9] (pushR v []) h2) :=
  (R_iload_n mc_120 dL_orders_45 rfl).trans <|
  (R_iload_n mc_120 dL_orders_46 rfl).trans <|
  R_invS mc_120 dL_orders_47 mo_120 ct_7_61 (Or.inl rfl) af_120_109 (Nat.le_of_ble_eq_true rfl) rfl rfl ⟨Nat.le_of_ble_eq_true rfl, Nat.le_of_ble_eq_true rfl⟩
theorem B_L_orders_50 (sc : Nat × (Nat → Int)) (iv : Nat → Nat → Int) (cs : List (Nat × Nat)) (x1 : Int) (x2 : Int) (x3 : Int) (d4 : Option AV) (d5 : Option AV) (d6 : Option AV) (d7 : Option AV) (d8 : Option AV) (d9 : Option AV) (s0 : Int) : Run sc 120 50 [some (Rf 1), some (I x1), some (I x2), some (I x3), d4, d5, d6, d7, d8, d9] [(I s0)] (hq cs iv) = aBind (Run sc 109 0 [some (I (x2 / 64)), some (I x3)] [] (hq cs iv)) (fun v h2 => Run sc 120 60 [some (Rf 1), some (I x1), some (I x2), some (I x3), some (I s0), d5, d6, d7, d8, d9] (pushR v []) h2) :=
  (R_istore mc_120 dL_orders_50 (Nat.le_of_ble_eq_true rfl)).trans <|
  (R_iload_n mc_120 dL_orders_52 rfl).trans <|
  (R_bipush mc_120 dL_orders_53 ⟨by decide, by decide⟩).trans <|
  (R_ishrK mc_120 dL_orders_55 ⟨by decide, by decide⟩ (z := 64) rfl).trans <|
  (R_iload_n mc_120 dL_orders_56 rfl).trans <|
  R_invS mc_120 dL_orders_57 mo_120 ct_7_61 (Or.inl rfl) af_120_109 (Nat.le_of_ble_eq_true rfl) rfl rfl ⟨Nat.le_of_ble_eq_true rfl, Nat.le_of_ble_eq_true rfl⟩
theorem B_L_orders_60 (sc : Nat × (Nat → Int)) (iv : Nat → Nat → Int) (cs : List (Nat × Nat)) (x1 : Int) (x2 : Int) (x3 : Int) (x4 : Int) (d5 : Option AV) (d6 : Option AV) (d7 : Option AV) (d8 : Option AV) (d9 : Option AV) (s0 : Int) : Run sc 120 60 [some (Rf 1), some (I x1), some (I x2), some (I x3), some (I x4), d5, d6, d7, d8, d9] [(I s0)] (hq cs iv) = aBind (Run sc 88 0 [some (Rf 1), some (I x1), some (I x4), none] [] (hq cs iv)) (fun v h2 => Run sc 120 69 [some (Rf 1), some (I x1), some (I x2), some (I x3), some (I x4), some (I s0), d6, d7, d8, d9] (pushR v []) h2) :=
  (R_istore mc_120 dL_orders_60 (Nat.le_of_ble_eq_true rfl)).trans <|
  (R_aload_n mc_120 dL_orders_62 rfl).trans <|
  (R_iload_n mc_120 dL_orders_63 rfl).trans <|
  (R_iload mc_120 dL_orders_64 rfl).trans <|
  R_invV mc_120 dL_orders_66 mo_120 ct_7_22 af_120_88 rfl rfl rfl ⟨Nat.le_of_ble_eq_true rfl, Nat.le_of_ble_eq_true rfl⟩
theorem B_L_orders_69 (sc : Nat × (Nat → Int)) (iv : Nat → Nat → Int) (cs : List (Nat × Nat)) (x1 : Int) (x2 : Int) (x3 : Int) (x4 : Int) (x5 : Int) (d6 : Option AV) (d7 : Option AV) (d8 : Option AV) (d9 : Option AV) (s0 : Int) : Run sc 120 69 [some (Rf 1), some (I x1), some (I x2), some (I x3), some (I x4), some (I x5), d6, d7, d8, d9] [(I s0)] (hq cs iv) = aBind (Run sc 89 0 [some (Rf 1), some (I x1), some (I x4), some (I x5), none] [] (hq cs iv)) (fun v h2 => Run sc 120 80 [some (Rf 1), some (I x1), some (I x2), some (I x3), some (I x4), some (I x5), some (I s0), d7, d8, d9] (pushR v []) h2) :=
  (R_istore mc_120 dL_orders_69 (Nat.le_of_ble_eq_true rfl)).trans <|
  (R_aload_n mc_120 dL_orders_71 rfl).trans <|
  (R_iload_n mc_120 dL_orders_72 rfl).trans <|
  (R_iload mc_120 dL_orders_73 rfl).trans <|
  (R_iload mc_120 dL_orders_75 rfl).trans <|
  R_invV mc_120 dL_orders_77 mo_120 ct_7_73 af_120_89 rfl rfl rfl ⟨Nat.le_of_ble_eq_true rfl, Nat.le_of_ble_eq_true rfl⟩
theorem B_L_orders_80 (sc : Nat × (Nat → Int)) (iv : Nat → Nat → Int) (cs : List (Nat × Nat)) (x1 : Int) (x2 : Int) (x3 : Int) (x4 : Int) (x5 : Int) (x6 : Int) (d7 : Option AV) (d8 : Option AV) (d9 : Option AV) (s0 : Int) : Run sc 120 80 [some (Rf 1), some (I x1), some (I x2), some (I x3), some (I x4), some (I x5), some (I x6), d7, d8, d9] [(I s0)] (hq cs iv) = aBind (Run sc 84 0 [some (Rf 1), some (I x1), some (I 3), none, none] [] (hq cs iv)) (fun v h2 => Run sc 120 90 [some (Rf 1), some (I x1), some (I x2), some (I x3), some (I x4), some (I x5), some (I x6), some (I s0), d8, d9] (pushR v [(I s0)]) h2) :=
  (R_istore mc_120 dL_orders_80 (Nat.le_of_ble_eq_true rfl)).trans <|
  (R_iload mc_120 dL_orders_82 rfl).trans <|
  (R_aload_n mc_120 dL_orders_84 rfl).trans <|
  (R_iload_n mc_120 dL_orders_85 rfl).trans <|
  (R_iconst mc_120 dL_orders_86 ⟨by decide, by decide⟩).trans <|
  R_invV mc_120 dL_orders_87 mo_120 ct_7_9 af_120_84 rfl rfl rfl ⟨Nat.le_of_ble_eq_true rfl, Nat.le_of_ble_eq_true rfl⟩
theorem B_L_orders_90 (sc : Nat × (Nat → Int)) (iv : Nat → Nat → Int) (cs : List (Nat × Nat)) (x1 : Int) (x2 : Int) (x3 : Int) (x4 : Int) (x5 : Int) (x6 : Int) (x7 : Int) (d8 : Option AV) (d9 : Option AV) (s0 : Int) (s1 : Int) : Run sc 120 90 [some (Rf 1), some (I x1), some (I x2), some (I x3), some (I x4), some (I x5), some (I x6), some (I x7), d8, d9] [(I s0), (I s1)] (hq cs iv) = if s1 = s0 then aBind (Run sc 88 0 [some (Rf 1), some (I x1), some (I x5), none] [] (hq cs iv)) (fun v h2 => Run sc 120 100 [some (Rf 1), some (I x1), some (I x2), some (I x3), some (I x4), some (I x5), some (I x6), some (I x7), d8, d9] (pushR v []) h2) else Run sc 120 129 [some (Rf 1), some (I x1), some (I x2), some (I x3), some (I x4), some (I x5), some (I x6), some (I x7), d8, d9] [] (hq cs iv) :=
  (R_icmp_ne mc_120 dL_orders_90 (t := 129) rfl).trans <| ite_c2
  ((R_aload_n mc_120 dL_orders_93 rfl).trans <|
  (R_iload_n mc_120 dL_orders_94 rfl).trans <|
  (R_iload mc_120 dL_orders_95 rfl).trans <|
  R_invV mc_120 dL_orders_97 mo_120 ct_7_22 af_120_88 rfl rfl rfl ⟨Nat.le_of_ble_eq_true rfl, Nat.le_of_ble_eq_true rfl⟩)
  (rfl)
theorem B_L_orders_100 (sc : Nat × (Nat → Int)) (iv : Nat → Nat → Int) (cs : List (Nat × Nat)) (x1 : Int) (x2 : Int) (x3 : Int) (x4 : Int) (x5 : Int) (x6 : Int) (x7 : Int) (d8 : Option AV) (d9 : Option AV) (s0 : Int) : Run sc 120 100 [some (Rf 1), some (I x1), some (I x2), some (I x3), some (I x4), some (I x5), some (I x6), some (I x7), d8, d9] [(I s0)] (hq cs iv) = if s0 = x6 then aBind (Run sc 89 0 [some (Rf 1), some (I x1), some (I x3), some (I 0), none] [] (hq cs iv)) (fun v h2 => Run sc 120 112 [some (Rf 1), some (I x1), some (I x2), some (I x3), some (I x4), some (I x5), some (I x6), some (I x7), d8, d9] (pushR v []) h2) else Run sc 120 129 [some (Rf 1), some (I x1), some (I x2), some (I x3), some (I x4), some (I x5), some (I x6), some (I x7), d8, d9] [] (hq cs iv) :=
  (R_iload mc_120 dL_orders_100 rfl).trans <|
  (R_icmp_ne mc_120 dL_orders_102 (t := 129) rfl).trans <| ite_c2
  ((R_aload_n mc_120 dL_orders_105 rfl).trans <|
  (R_iload_n mc_120 dL_orders_106 rfl).trans <|
  (R_iload_n mc_120 dL_orders_107 rfl).trans <|
  (R_iconst mc_120 dL_orders_108 ⟨by decide, by decide⟩).trans <|
  R_invV mc_120 dL_orders_109 mo_120 ct_7_73 af_120_89 rfl rfl rfl ⟨Nat.le_of_ble_eq_true rfl, Nat.le_of_ble_eq_true rfl⟩)
  (rfl)
theorem B_L_orders_112 (sc : Nat × (Nat → Int)) (iv : Nat → Nat → Int) (cs : List (Nat × Nat)) (x1 : Int) (x2 : Int) (x3 : Int) (x4 : Int) (x5 : Int) (x6 : Int) (x7 : Int) (d8 : Option AV) (d9 : Option AV) (s0 : Int) : Run sc 120 112 [some (Rf 1), some (I x1), some (I x2), some (I x3), some (I x4), some (I x5), some (I x6), some (I x7), d8, d9] [(I s0)] (hq cs iv) = if s0 = (-2) then aBind (Run sc 89 0 [some (Rf 1), some (I 0), some (I 0), some (I 0), none] [] (hq cs iv)) (fun v h2 => Run sc 120 124 [some (Rf 1), some (I x1), some (I x2), some (I x3), some (I x4), some (I x5), some (I x6), some (I x7), d8, d9] (pushR v []) h2) else Run sc 120 129 [some (Rf 1), some (I x1), some (I x2), some (I x3), some (I x4), some (I x5), some (I x6), some (I x7), d8, d9] [] (hq cs iv) :=
  (R_bipush mc_120 dL_orders_112 ⟨by decide, by decide⟩).trans <|
  (R_icmp_ne mc_120 dL_orders_114 (t := 129) rfl).trans <| ite_c2
  ((R_aload_n mc_120 dL_orders_117 rfl).trans <|
  (R_iconst mc_120 dL_orders_118 ⟨by decide, by decide⟩).trans <|
  (R_iconst mc_120 dL_orders_119 ⟨by decide, by decide⟩).trans <|
  (R_iconst mc_120 dL_orders_120 ⟨by decide, by decide⟩).trans <|
  R_invV mc_120 dL_orders_121 mo_120 ct_7_73 af_120_89 rfl rfl rfl ⟨Nat.le_of_ble_eq_true rfl, Nat.le_of_ble_eq_true rfl⟩)
  (rfl)
theorem B_L_orders_124 (sc : Nat × (Nat → Int)) (iv : Nat → Nat → Int) (cs : List (Nat × Nat)) (x1 : Int) (x2 : Int) (x3 : Int) (x4 : Int) (x5 : Int) (x6 : Int) (x7 : Int) (d8 : Option AV) (d9 : Option AV) (s0 : Int) : Run sc 120 124 [some (Rf 1), some (I x1), some (I x2), some (I x3), some (I x4), some (I x5), some (I x6), some (I x7), d8, d9] [(I s0)] (hq cs iv) = if s0 = (-2) then Run sc 120 131 [some (Rf 1), some (I x1), some (I x2), some (I x3), some (I x4), some (I x5), some (I x6), some (I x7), d8, d9] [] (hq cs iv) else Run sc 120 129 [some (Rf 1), some (I x1), some (I x2), some (I x3), some (I x4), some (I x5), some (I x6), some (I x7), d8, d9] [] (hq cs iv) :=
  (R_bipush mc_120 dL_orders_124 ⟨by decide, by decide⟩).trans <|
  R_icmp_eq mc_120 dL_orders_126 (t := 131) rfl
theorem B_L_orders_129 (sc : Nat × (Nat → Int)) (iv : Nat → Nat → Int) (cs : List (Nat × Nat)) (x1 : Int) (x2 : Int) (x3 : Int) (x4 : Int) (x5 : Int) (x6 : Int) (x7 : Int) (d8 : Option AV) (d9 : Option AV) : Run sc 120 129 [some (Rf 1), some (I x1), some (I x2), some (I x3), some (I x4), some (I x5), some (I x6), some (I x7), d8, d9] [] (hq cs iv) = bck 0 1 0 (some (some (I 0), (hq cs iv))) :=
  (R_iconst mc_120 dL_orders_129 ⟨by decide, by decide⟩).trans <|
  R_ireturnZ mc_120 dL_orders_130 rfl
theorem B_L_orders_131 (sc : Nat × (Nat → Int)) (iv : Nat → Nat → Int) (cs : List (Nat × Nat)) (x1 : Int) (x2 : Int) (x3 : Int) (x4 : Int) (x5 : Int) (x6 : Int) (x7 : Int) (d8 : Option AV) (d9 : Option AV) : Run sc 120 131 [some (Rf 1), some (I x1), some (I x2), some (I x3), some (I x4), some (I x5), some (I x6), some (I x7), d8, d9] [] (hq cs iv) = if ((x2 / 4096) % (1 + 1)) = 0 then aBind (Run sc 91 0 [some (Rf 1), some (I x1)] [] (hq cs iv)) (fun v h2 => Run sc 120 145 [some (Rf 1), some (I x1), some (I x2), some (I x3), some (I x4), some (I x5), some (I x6), some (I x7), d8, d9] (pushR v []) h2) else Run sc 120 191 [some (Rf 1), some (I x1), some (I x2), some (I x3), some (I x4), some (I x5), some (I x6), some (I x7), d8, d9] [] (hq cs iv) :=
  (R_iload_n mc_120 dL_orders_131 rfl).trans <|
  (R_bipush mc_120 dL_orders_132 ⟨by decide, by decide⟩).trans <|
  (R_ishrK mc_120 dL_orders_134 ⟨by decide, by decide⟩ (z := 4096) rfl).trans <|
  (R_iconst mc_120 dL_orders_135 ⟨by decide, by decide⟩).trans <|
  (R_iand mc_120 dL_orders_136 (by decide)).trans <|
  (R_if_ne mc_120 dL_orders_137 (t := 191) rfl).trans <| ite_c2
  ((R_aload_n mc_120 dL_orders_140 rfl).trans <|
  (R_iload_n mc_120 dL_orders_141 rfl).trans <|
  R_invV mc_120 dL_orders_142 mo_120 ct_7_76 af_120_91 rfl rfl rfl ⟨Nat.le_of_ble_eq_true rfl, Nat.le_of_ble_eq_true rfl⟩)
  (rfl)
theorem B_L_orders_145 (sc : Nat × (Nat → Int)) (iv : Nat → Nat → Int) (cs : List (Nat × Nat)) (x1 : Int) (x2 : Int) (x3 : Int) (x4 : Int) (x5 : Int) (x6 : Int) (x7 : Int) (d8 : Option AV) (d9 : Option AV) (s0 : Int) : Run sc 120 145 [some (Rf 1), some (I x1), some (I x2), some (I x3), some (I x4), some (I x5), some (I x6), some (I x7), d8, d9] [(I s0)] (hq cs iv) = aBind (Run sc 84 0 [some (Rf 1), some (I x1), some (I 3), none, none] [] (hq cs iv)) (fun v h2 => Run sc 120 153 [some (Rf 1), some (I x1), some (I x2), some (I x3), some (I x4), some (I x5), some (I x6), some (I x7), some (I s0), d9] (pushR v []) h2) :=
  (R_istore mc_120 dL_orders_145 (Nat.le_of_ble_eq_true rfl)).trans <|
  (R_aload_n mc_120 dL_orders_147 rfl).trans <|
  (R_iload_n mc_120 dL_orders_148 rfl).trans <|
  (R_iconst mc_120 dL_orders_149 ⟨by decide, by decide⟩).trans <|
  R_invV mc_120 dL_orders_150 mo_120 ct_7_9 af_120_84 rfl rfl rfl ⟨Nat.le_of_ble_eq_true rfl, Nat.le_of_ble_eq_true rfl⟩
theorem B_L_orders_153 (sc : Nat × (Nat → Int)) (iv : Nat → Nat → Int) (cs : List (Nat × Nat)) (x1 : Int) (x2 : Int) (x3 : Int) (x4 : Int) (x5 : Int) (x6 : Int) (x7 : Int) (x8 : Int) (d9 : Option AV) (s0 : Int) : Run sc 120 153 [some (Rf 1), some (I x1), some (I x2), some (I x3), some (I x4), some (I x5), some (I x6), some (I x7), some (I x8), d9] [(I s0)] (hq cs iv) = if x8 = 0 then if s0 = x7 then Run sc 120 177 [some (Rf 1), some (I x1), some (I x2), some (I x3), some (I x4), some (I x5), some (I x6), some (I x7), some (I x8), some (I s0)] [] (hq cs iv) else Run sc 120 189 [some (Rf 1), some (I x1), some (I x2), some (I x3), some (I x4), some (I x5), some (I x6), some (I x7), some (I x8), some (I s0)] [] (hq cs iv) else Run sc 120 170 [some (Rf 1), some (I x1), some (I x2), some (I x3), some (I x4), some (I x5), some (I x6), some (I x7), some (I x8), some (I s0)] [] (hq cs iv) :=
  (R_istore mc_120 dL_orders_153 (Nat.le_of_ble_eq_true rfl)).trans <|
  (R_iload mc_120 dL_orders_155 rfl).trans <|
  (R_if_ne mc_120 dL_orders_157 (t := 170) rfl).trans <| ite_c2
  ((R_iload mc_120 dL_orders_160 rfl).trans <|
  (R_iload mc_120 dL_orders_162 rfl).trans <|
  (R_icmp_ne mc_120 dL_orders_164 (t := 189) rfl).trans <| ite_c2
  (R_goto mc_120 dL_orders_167 (t := 177) rfl)
  (rfl))
  (rfl)
theorem B_L_orders_170 (sc : Nat × (Nat → Int)) (iv : Nat → Nat → Int) (cs : List (Nat × Nat)) (x1 : Int) (x2 : Int) (x3 : Int) (x4 : Int) (x5 : Int) (x6 : Int) (x7 : Int) (x8 : Int) (x9 : Int) : Run sc 120 170 [some (Rf 1), some (I x1), some (I x2), some (I x3), some (I x4), some (I x5), some (I x6), some (I x7), some (I x8), some (I x9)] [] (hq cs iv) = if x9 < x7 then Run sc 120 177 [some (Rf 1), some (I x1), some (I x2), some (I x3), some (I x4), some (I x5), some (I x6), some (I x7), some (I x8), some (I x9)] [] (hq cs iv) else Run sc 120 189 [some (Rf 1), some (I x1), some (I x2), some (I x3), some (I x4), some (I x5), some (I x6), some (I x7), some (I x8), some (I x9)] [] (hq cs iv) :=
  (R_iload mc_120 dL_orders_170 rfl).trans <|
  (R_iload mc_120 dL_orders_172 rfl).trans <|
  R_icmp_ge mc_120 dL_orders_174 (t := 189) rfl
theorem B_L_orders_177 (sc : Nat × (Nat → Int)) (iv : Nat → Nat → Int) (cs : List (Nat × Nat)) (x1 : Int) (x2 : Int) (x3 : Int) (x4 : Int) (x5 : Int) (x6 : Int) (x7 : Int) (x8 : Int) (x9 : Int) : Run sc 120 177 [some (Rf 1), some (I x1), some (I x2), some (I x3), some (I x4), some (I x5), some (I x6), some (I x7), some (I x8), some (I x9)] [] (hq cs iv) = aBind (Run sc 91 0 [some (Rf 1), some (I x1)] [] (hq cs iv)) (fun v h2 => Run sc 120 182 [some (Rf 1), some (I x1), some (I x2), some (I x3), some (I x4), some (I x5), some (I x6), some (I x7), some (I x8), some (I x9)] (pushR v []) h2) :=
  (R_aload_n mc_120 dL_orders_177 rfl).trans <|
  (R_iload_n mc_120 dL_orders_178 rfl).trans <|
  R_invV mc_120 dL_orders_179 mo_120 ct_7_76 af_120_91 rfl rfl rfl ⟨Nat.le_of_ble_eq_true rfl, Nat.le_of_ble_eq_true rfl⟩
theorem B_L_orders_182 (sc : Nat × (Nat → Int)) (iv : Nat → Nat → Int) (cs : List (Nat × Nat)) (x1 : Int) (x2 : Int) (x3 : Int) (x4 : Int) (x5 : Int) (x6 : Int) (x7 : Int) (x8 : Int) (x9 : Int) (s0 : Int) : Run sc 120 182 [some (Rf 1), some (I x1), some (I x2), some (I x3), some (I x4), some (I x5), some (I x6), some (I x7), some (I x8), some (I x9)] [(I s0)] (hq cs iv) = if s0 = 0 then Run sc 120 190 [some (Rf 1), some (I x1), some (I x2), some (I x3), some (I x4), some (I x5), some (I x6), some (I x7), some (I x8), some (I x9)] [(I 1)] (hq cs iv) else Run sc 120 189 [some (Rf 1), some (I x1), some (I x2), some (I x3), some (I x4), some (I x5), some (I x6), some (I x7), some (I x8), some (I x9)] [] (hq cs iv) :=
  (R_if_ne mc_120 dL_orders_182 (t := 189) rfl).trans <| ite_c2
  ((R_iconst mc_120 dL_orders_185 ⟨by decide, by decide⟩).trans <|
  R_goto mc_120 dL_orders_186 (t := 190) rfl)
  (rfl)
theorem B_L_orders_189 (sc : Nat × (Nat → Int)) (iv : Nat → Nat → Int) (cs : List (Nat × Nat)) (x1 : Int) (x2 : Int) (x3 : Int) (x4 : Int) (x5 : Int) (x6 : Int) (x7 : Int) (x8 : Int) (x9 : Int) : Run sc 120 189 [some (Rf 1), some (I x1), some (I x2), some (I x3), some (I x4), some (I x5), some (I x6), some (I x7), some (I x8), some (I x9)] [] (hq cs iv) = Run sc 120 190 [some (Rf 1), some (I x1), some (I x2), some (I x3), some (I x4), some (I x5), some (I x6), some (I x7), some (I x8), some (I x9)] [(I 0)] (hq cs iv) :=
  R_iconst mc_120 dL_orders_189 ⟨by decide, by decide⟩
theorem B_L_orders_190 (sc : Nat × (Nat → Int)) (iv : Nat → Nat → Int) (cs : List (Nat × Nat)) (x1 : Int) (x2 : Int) (x3 : Int) (x4 : Int) (x5 : Int) (x6 : Int) (x7 : Int) (x8 : Int) (x9 : Int) (s0 : Int) : Run sc 120 190 [some (Rf 1), some (I x1), some (I x2), some (I x3), some (I x4), some (I x5), some (I x6), some (I x7), some (I x8), some (I x9)] [(I s0)] (hq cs iv) = bck 0 1 s0 (some (some (I s0), (hq cs iv))) :=
  R_ireturnZ mc_120 dL_orders_190 rfl
theorem B_L_orders_191 (sc : Nat × (Nat → Int)) (iv : Nat → Nat → Int) (cs : List (Nat × Nat)) (x1 : Int) (x2 : Int) (x3 : Int) (x4 : Int) (x5 : Int) (x6 : Int) (x7 : Int) (d8 : Option AV) (d9 : Option AV) : Run sc 120 191 [some (Rf 1), some (I x1), some (I x2), some (I x3), some (I x4), some (I x5), some (I x6), some (I x7), d8, d9] [] (hq cs iv) = aBind (Run sc 90 0 [some (Rf 1), some (I x1), none] [] (hq cs iv)) (fun v h2 => Run sc 120 196 [some (Rf 1), some (I x1), some (I x2), some (I x3), some (I x4), some (I x5), some (I x6), some (I x7), d8, d9] (pushR v []) h2) :=
  (R_aload_n mc_120 dL_orders_191 rfl).trans <|
  (R_iload_n mc_120 dL_orders_192 rfl).trans <|
  R_invV mc_120 dL_orders_193 mo_120 ct_7_79 af_120_90 rfl rfl rfl ⟨Nat.le_of_ble_eq_true rfl, Nat.le_of_ble_eq_true rfl⟩
theorem B_L_orders_196 (sc : Nat × (Nat → Int)) (iv : Nat → Nat → Int) (cs : List (Nat × Nat)) (x1 : Int) (x2 : Int) (x3 : Int) (x4 : Int) (x5 : Int) (x6 : Int) (x7 : Int) (d8 : Option AV) (d9 : Option AV) (s0 : Int) : Run sc 120 196 [some (Rf 1), some (I x1), some (I x2), some (I x3), some (I x4), some (I x5), some (I x6), some (I x7), d8, d9] [(I s0)] (hq cs iv) = aBind (Run sc 84 0 [some (Rf 1), some (I x1), some (I 3), none, none] [] (hq cs iv)) (fun v h2 => Run sc 120 202 [some (Rf 1), some (I x1), some (I x2), some (I x3), some (I x4), some (I x5), some (I x6), some (I x7), d8, d9] (pushR v [(I s0)]) h2) :=
  (R_aload_n mc_120 dL_orders_196 rfl).trans <|
  (R_iload_n mc_120 dL_orders_197 rfl).trans <|
  (R_iconst mc_120 dL_orders_198 ⟨by decide, by decide⟩).trans <|
  R_invV mc_120 dL_orders_199 mo_120 ct_7_9 af_120_84 rfl rfl rfl ⟨Nat.le_of_ble_eq_true rfl, Nat.le_of_ble_eq_true rfl⟩
theorem B_L_orders_202 (sc : Nat × (Nat → Int)) (iv : Nat → Nat → Int) (cs : List (Nat × Nat)) (x1 : Int) (x2 : Int) (x3 : Int) (x4 : Int) (x5 : Int) (x6 : Int) (x7 : Int) (d8 : Option AV) (d9 : Option AV) (s0 : Int) (s1 : Int) : Run sc 120 202 [some (Rf 1), some (I x1), some (I x2), some (I x3), some (I x4), some (I x5), some (I x6), some (I x7), d8, d9] [(I s0), (I s1)] (hq cs iv) = if s1 = s0 then aBind (Run sc 112 0 [some (Rf 1), some (I x1), none, none, none, none, none, none, none, none] [] (hq cs iv)) (fun v h2 => Run sc 120 210 [some (Rf 1), some (I x1), some (I x2), some (I x3), some (I x4), some (I x5), some (I x6), some (I x7), d8, d9] (pushR v []) h2) else Run sc 120 238 [some (Rf 1), some (I x1), some (I x2), some (I x3), some (I x4), some (I x5), some (I x6), some (I x7), d8, d9] [] (hq cs iv) :=
  (R_icmp_ne mc_120 dL_orders_202 (t := 238) rfl).trans <| ite_c2
  ((R_aload_n mc_120 dL_orders_205 rfl).trans <|
  (R_iload_n mc_120 dL_orders_206 rfl).trans <|
  R_invS mc_120 dL_orders_207 mo_120 ct_7_82 (Or.inl rfl) af_120_112 (Nat.le_of_ble_eq_true rfl) rfl rfl ⟨Nat.le_of_ble_eq_true rfl, Nat.le_of_ble_eq_true rfl⟩)
  (rfl)
theorem B_L_orders_210 (sc : Nat × (Nat → Int)) (iv : Nat → Nat → Int) (cs : List (Nat × Nat)) (x1 : Int) (x2 : Int) (x3 : Int) (x4 : Int) (x5 : Int) (x6 : Int) (x7 : Int) (d8 : Option AV) (d9 : Option AV) (s0 : Int) : Run sc 120 210 [some (Rf 1), some (I x1), some (I x2), some (I x3), some (I x4), some (I x5), some (I x6), some (I x7), d8, d9] [(I s0)] (hq cs iv) = if s0 = 0 then Run sc 120 238 [some (Rf 1), some (I x1), some (I x2), some (I x3), some (I x4), some (I x5), some (I x6), some (I x7), d8, d9] [] (hq cs iv) else aBind (Run sc 90 0 [some (Rf 1), some (I 0), none] [] (hq cs iv)) (fun v h2 => Run sc 120 218 [some (Rf 1), some (I x1), some (I x2), some (I x3), some (I x4), some (I x5), some (I x6), some (I x7), d8, d9] (pushR v []) h2) :=
  (R_if_eq mc_120 dL_orders_210 (t := 238) rfl).trans <| ite_c2
  (rfl)
  ((R_aload_n mc_120 dL_orders_213 rfl).trans <|
  (R_iconst mc_120 dL_orders_214 ⟨by decide, by decide⟩).trans <|
  R_invV mc_120 dL_orders_215 mo_120 ct_7_79 af_120_90 rfl rfl rfl ⟨Nat.le_of_ble_eq_true rfl, Nat.le_of_ble_eq_true rfl⟩)
theorem B_L_orders_218 (sc : Nat × (Nat → Int)) (iv : Nat → Nat → Int) (cs : List (Nat × Nat)) (x1 : Int) (x2 : Int) (x3 : Int) (x4 : Int) (x5 : Int) (x6 : Int) (x7 : Int) (d8 : Option AV) (d9 : Option AV) (s0 : Int) : Run sc 120 218 [some (Rf 1), some (I x1), some (I x2), some (I x3), some (I x4), some (I x5), some (I x6), some (I x7), d8, d9] [(I s0)] (hq cs iv) = if s0 = (-2) then aBind (Run sc 91 0 [some (Rf 1), some (I 7)] [] (hq cs iv)) (fun v h2 => Run sc 120 229 [some (Rf 1), some (I x1), some (I x2), some (I x3), some (I x4), some (I x5), some (I x6), some (I x7), d8, d9] (pushR v []) h2) else Run sc 120 238 [some (Rf 1), some (I x1), some (I x2), some (I x3), some (I x4), some (I x5), some (I x6), some (I x7), d8, d9] [] (hq cs iv) :=
  (R_bipush mc_120 dL_orders_218 ⟨by decide, by decide⟩).trans <|
  (R_icmp_ne mc_120 dL_orders_220 (t := 238) rfl).trans <| ite_c2
  ((R_aload_n mc_120 dL_orders_223 rfl).trans <|
  (R_bipush mc_120 dL_orders_224 ⟨by decide, by decide⟩).trans <|
  R_invV mc_120 dL_orders_226 mo_120 ct_7_76 af_120_91 rfl rfl rfl ⟨Nat.le_of_ble_eq_true rfl, Nat.le_of_ble_eq_true rfl⟩)
  (rfl)
theorem B_L_orders_229 (sc : Nat × (Nat → Int)) (iv : Nat → Nat → Int) (cs : List (Nat × Nat)) (x1 : Int) (x2 : Int) (x3 : Int) (x4 : Int) (x5 : Int) (x6 : Int) (x7 : Int) (d8 : Option AV) (d9 : Option AV) (s0 : Int) : Run sc 120 229 [some (Rf 1), some (I x1), some (I x2), some (I x3), some (I x4), some (I x5), some (I x6), some (I x7), d8, d9] [(I s0)] (hq cs iv) = if s0 = (-2) then Run sc 120 239 [some (Rf 1), some (I x1), some (I x2), some (I x3), some (I x4), some (I x5), some (I x6), some (I x7), d8, d9] [(I 1)] (hq cs iv) else Run sc 120 238 [some (Rf 1), some (I x1), some (I x2), some (I x3), some (I x4), some (I x5), some (I x6), some (I x7), d8, d9] [] (hq cs iv) :=
  (R_bipush mc_120 dL_orders_229 ⟨by decide, by decide⟩).trans <|
  (R_icmp_ne mc_120 dL_orders_231 (t := 238) rfl).trans <| ite_c2
  ((R_iconst mc_120 dL_orders_234 ⟨by decide, by decide⟩).trans <|
  R_goto mc_120 dL_orders_235 (t := 239) rfl)
  (rfl)
theorem B_L_orders_238 (sc : Nat × (Nat → Int)) (iv : Nat → Nat → Int) (cs : List (Nat × Nat)) (x1 : Int) (x2 : Int) (x3 : Int) (x4 : Int) (x5 : Int) (x6 : Int) (x7 : Int) (d8 : Option AV) (d9 : Option AV) : Run sc 120 238 [some (Rf 1), some (I x1), some (I x2), some (I x3), some (I x4), some (I x5), some (I x6), some (I x7), d8, d9] [] (hq cs iv) = Run sc 120 239 [some (Rf 1), some (I x1), some (I x2), some (I x3), some (I x4), some (I x5), some (I x6), some (I x7), d8, d9] [(I 0)] (hq cs iv) :=
  R_iconst mc_120 dL_orders_238 ⟨by decide, by decide⟩
theorem B_L_orders_239 (sc : Nat × (Nat → Int)) (iv : Nat → Nat → Int) (cs : List (Nat × Nat)) (x1 : Int) (x2 : Int) (x3 : Int) (x4 : Int) (x5 : Int) (x6 : Int) (x7 : Int) (d8 : Option AV) (d9 : Option AV) (s0 : Int) : Run sc 120 239 [some (Rf 1), some (I x1), some (I x2), some (I x3), some (I x4), some (I x5), some (I x6), some (I x7), d8, d9] [(I s0)] (hq cs iv) = bck 0 1 s0 (some (some (I s0), (hq cs iv))) :=
  R_ireturnZ mc_120 dL_orders_239 rfl
