theorem B_L_law_18 (sc : Nat × (Nat → Int)) (iv : Nat → Nat → Int) (x3 : Int) : Run sc 0 18 [some (Rf 0), some (Rf 1), some (Rf 52), some (I x3)] [] (hp iv) = chk ((sc.1 : Int) - 6) (if ((sc.1 : Int) - 6) < x3 then Run sc 0 1036 [some (Rf 0), some (Rf 1), some (Rf 52), some (I x3)] [] (hp iv) else bck 0 ((sc.1 : Int) - 1) x3 (if ((sc.2 (Int.toNat x3)) % (31 + 1)) = 0 then Run sc 0 152 [some (Rf 0), some (Rf 1), some (Rf 52), some (I x3)] [] (hp iv) else if ((sc.2 (Int.toNat x3)) % (31 + 1)) = 1 then Run sc 0 185 [some (Rf 0), some (Rf 1), some (Rf 52), some (I x3)] [] (hp iv) else if ((sc.2 (Int.toNat x3)) % (31 + 1)) = 2 then Run sc 0 210 [some (Rf 0), some (Rf 1), some (Rf 52), some (I x3)] [] (hp iv) else if ((sc.2 (Int.toNat x3)) % (31 + 1)) = 3 then Run sc 0 223 [some (Rf 0), some (Rf 1), some (Rf 52), some (I x3)] [] (hp iv) else if ((sc.2 (Int.toNat x3)) % (31 + 1)) = 4 then Run sc 0 236 [some (Rf 0), some (Rf 1), some (Rf 52), some (I x3)] [] (hp iv) else if ((sc.2 (Int.toNat x3)) % (31 + 1)) = 5 then Run sc 0 279 [some (Rf 0), some (Rf 1), some (Rf 52), some (I x3)] [] (hp iv) else if ((sc.2 (Int.toNat x3)) % (31 + 1)) = 6 then Run sc 0 342 [some (Rf 0), some (Rf 1), some (Rf 52), some (I x3)] [] (hp iv) else if ((sc.2 (Int.toNat x3)) % (31 + 1)) = 7 then Run sc 0 375 [some (Rf 0), some (Rf 1), some (Rf 52), some (I x3)] [] (hp iv) else if ((sc.2 (Int.toNat x3)) % (31 + 1)) = 8 then Run sc 0 408 [some (Rf 0), some (Rf 1), some (Rf 52), some (I x3)] [] (hp iv) else if ((sc.2 (Int.toNat x3)) % (31 + 1)) = 9 then Run sc 0 441 [some (Rf 0), some (Rf 1), some (Rf 52), some (I x3)] [] (hp iv) else if ((sc.2 (Int.toNat x3)) % (31 + 1)) = 10 then Run sc 0 464 [some (Rf 0), some (Rf 1), some (Rf 52), some (I x3)] [] (hp iv) else if ((sc.2 (Int.toNat x3)) % (31 + 1)) = 11 then Run sc 0 507 [some (Rf 0), some (Rf 1), some (Rf 52), some (I x3)] [] (hp iv) else if ((sc.2 (Int.toNat x3)) % (31 + 1)) = 12 then Run sc 0 540 [some (Rf 0), some (Rf 1), some (Rf 52), some (I x3)] [] (hp iv) else if ((sc.2 (Int.toNat x3)) % (31 + 1)) = 13 then Run sc 0 583 [some (Rf 0), some (Rf 1), some (Rf 52), some (I x3)] [] (hp iv) else if ((sc.2 (Int.toNat x3)) % (31 + 1)) = 14 then Run sc 0 606 [some (Rf 0), some (Rf 1), some (Rf 52), some (I x3)] [] (hp iv) else if ((sc.2 (Int.toNat x3)) % (31 + 1)) = 15 then Run sc 0 629 [some (Rf 0), some (Rf 1), some (Rf 52), some (I x3)] [] (hp iv) else if ((sc.2 (Int.toNat x3)) % (31 + 1)) = 16 then Run sc 0 662 [some (Rf 0), some (Rf 1), some (Rf 52), some (I x3)] [] (hp iv) else if ((sc.2 (Int.toNat x3)) % (31 + 1)) = 17 then Run sc 0 747 [some (Rf 0), some (Rf 1), some (Rf 52), some (I x3)] [] (hp iv) else if ((sc.2 (Int.toNat x3)) % (31 + 1)) = 18 then Run sc 0 806 [some (Rf 0), some (Rf 1), some (Rf 52), some (I x3)] [] (hp iv) else if ((sc.2 (Int.toNat x3)) % (31 + 1)) = 19 then Run sc 0 829 [some (Rf 0), some (Rf 1), some (Rf 52), some (I x3)] [] (hp iv) else if ((sc.2 (Int.toNat x3)) % (31 + 1)) = 20 then Run sc 0 842 [some (Rf 0), some (Rf 1), some (Rf 52), some (I x3)] [] (hp iv) else if ((sc.2 (Int.toNat x3)) % (31 + 1)) = 21 then Run sc 0 865 [some (Rf 0), some (Rf 1), some (Rf 52), some (I x3)] [] (hp iv) else if ((sc.2 (Int.toNat x3)) % (31 + 1)) = 22 then Run sc 0 908 [some (Rf 0), some (Rf 1), some (Rf 52), some (I x3)] [] (hp iv) else if ((sc.2 (Int.toNat x3)) % (31 + 1)) = 23 then Run sc 0 941 [some (Rf 0), some (Rf 1), some (Rf 52), some (I x3)] [] (hp iv) else if ((sc.2 (Int.toNat x3)) % (31 + 1)) = 24 then Run sc 0 984 [some (Rf 0), some (Rf 1), some (Rf 52), some (I x3)] [] (hp iv) else if ((sc.2 (Int.toNat x3)) % (31 + 1)) = 25 then Run sc 0 997 [some (Rf 0), some (Rf 1), some (Rf 52), some (I x3)] [] (hp iv) else Run sc 0 1030 [some (Rf 0), some (Rf 1), some (Rf 52), some (I x3)] [] (hp iv))) :=
  (R_iload_n mc_0 dL_law_18 rfl).trans <|
  (R_aload_n mc_0 dL_law_19 rfl).trans <|
  (R_scriptlen mc_0 dL_law_20 rfl).trans <|
  (R_bipush mc_0 dL_law_21 ⟨by decide, by decide⟩).trans <|
  (R_isub mc_0 dL_law_23).trans <| chk_congr <|
  (R_icmp_gt mc_0 dL_law_24 (t := 1036) rfl).trans <| ite_c2
  (rfl)
  ((R_aload_n mc_0 dL_law_27 rfl).trans <|
  (R_iload_n mc_0 dL_law_28 rfl).trans <|
  (R_script mc_0 dL_law_29 rfl).trans <| bck_congr <|
  (R_bipush mc_0 dL_law_30 ⟨by decide, by decide⟩).trans <|
  (R_iand mc_0 dL_law_32 (by decide)).trans <|
  (by
    by_cases z0 : ((sc.2 (Int.toNat x3)) % (31 + 1)) = 0
    · rw [if_pos z0]; exact R_switchIn mc_0 dL_law_33 (by omega) (by omega) (by rw [z0]; rfl) (t := 152) rfl
    rw [if_neg z0]
    by_cases z1 : ((sc.2 (Int.toNat x3)) % (31 + 1)) = 1
    · rw [if_pos z1]; exact R_switchIn mc_0 dL_law_33 (by omega) (by omega) (by rw [z1]; rfl) (t := 185) rfl
    rw [if_neg z1]
    by_cases z2 : ((sc.2 (Int.toNat x3)) % (31 + 1)) = 2
    · rw [if_pos z2]; exact R_switchIn mc_0 dL_law_33 (by omega) (by omega) (by rw [z2]; rfl) (t := 210) rfl
    rw [if_neg z2]
    by_cases z3 : ((sc.2 (Int.toNat x3)) % (31 + 1)) = 3
    · rw [if_pos z3]; exact R_switchIn mc_0 dL_law_33 (by omega) (by omega) (by rw [z3]; rfl) (t := 223) rfl
    rw [if_neg z3]
    by_cases z4 : ((sc.2 (Int.toNat x3)) % (31 + 1)) = 4
    · rw [if_pos z4]; exact R_switchIn mc_0 dL_law_33 (by omega) (by omega) (by rw [z4]; rfl) (t := 236) rfl
    rw [if_neg z4]
    by_cases z5 : ((sc.2 (Int.toNat x3)) % (31 + 1)) = 5
    · rw [if_pos z5]; exact R_switchIn mc_0 dL_law_33 (by omega) (by omega) (by rw [z5]; rfl) (t := 279) rfl
    rw [if_neg z5]
    by_cases z6 : ((sc.2 (Int.toNat x3)) % (31 + 1)) = 6
    · rw [if_pos z6]; exact R_switchIn mc_0 dL_law_33 (by omega) (by omega) (by rw [z6]; rfl) (t := 342) rfl
    rw [if_neg z6]
    by_cases z7 : ((sc.2 (Int.toNat x3)) % (31 + 1)) = 7
    · rw [if_pos z7]; exact R_switchIn mc_0 dL_law_33 (by omega) (by omega) (by rw [z7]; rfl) (t := 375) rfl
    rw [if_neg z7]
    by_cases z8 : ((sc.2 (Int.toNat x3)) % (31 + 1)) = 8
    · rw [if_pos z8]; exact R_switchIn mc_0 dL_law_33 (by omega) (by omega) (by rw [z8]; rfl) (t := 408) rfl
    rw [if_neg z8]
    by_cases z9 : ((sc.2 (Int.toNat x3)) % (31 + 1)) = 9
    · rw [if_pos z9]; exact R_switchIn mc_0 dL_law_33 (by omega) (by omega) (by rw [z9]; rfl) (t := 441) rfl
    rw [if_neg z9]
    by_cases z10 : ((sc.2 (Int.toNat x3)) % (31 + 1)) = 10
    · rw [if_pos z10]; exact R_switchIn mc_0 dL_law_33 (by omega) (by omega) (by rw [z10]; rfl) (t := 464) rfl
    rw [if_neg z10]
    by_cases z11 : ((sc.2 (Int.toNat x3)) % (31 + 1)) = 11
    · rw [if_pos z11]; exact R_switchIn mc_0 dL_law_33 (by omega) (by omega) (by rw [z11]; rfl) (t := 507) rfl
    rw [if_neg z11]
    by_cases z12 : ((sc.2 (Int.toNat x3)) % (31 + 1)) = 12
    · rw [if_pos z12]; exact R_switchIn mc_0 dL_law_33 (by omega) (by omega) (by rw [z12]; rfl) (t := 540) rfl
    rw [if_neg z12]
    by_cases z13 : ((sc.2 (Int.toNat x3)) % (31 + 1)) = 13
    · rw [if_pos z13]; exact R_switchIn mc_0 dL_law_33 (by omega) (by omega) (by rw [z13]; rfl) (t := 583) rfl
    rw [if_neg z13]
    by_cases z14 : ((sc.2 (Int.toNat x3)) % (31 + 1)) = 14
    · rw [if_pos z14]; exact R_switchIn mc_0 dL_law_33 (by omega) (by omega) (by rw [z14]; rfl) (t := 606) rfl
    rw [if_neg z14]
    by_cases z15 : ((sc.2 (Int.toNat x3)) % (31 + 1)) = 15
    · rw [if_pos z15]; exact R_switchIn mc_0 dL_law_33 (by omega) (by omega) (by rw [z15]; rfl) (t := 629) rfl
    rw [if_neg z15]
    by_cases z16 : ((sc.2 (Int.toNat x3)) % (31 + 1)) = 16
    · rw [if_pos z16]; exact R_switchIn mc_0 dL_law_33 (by omega) (by omega) (by rw [z16]; rfl) (t := 662) rfl
    rw [if_neg z16]
    by_cases z17 : ((sc.2 (Int.toNat x3)) % (31 + 1)) = 17
    · rw [if_pos z17]; exact R_switchIn mc_0 dL_law_33 (by omega) (by omega) (by rw [z17]; rfl) (t := 747) rfl
    rw [if_neg z17]
    by_cases z18 : ((sc.2 (Int.toNat x3)) % (31 + 1)) = 18
    · rw [if_pos z18]; exact R_switchIn mc_0 dL_law_33 (by omega) (by omega) (by rw [z18]; rfl) (t := 806) rfl
    rw [if_neg z18]
    by_cases z19 : ((sc.2 (Int.toNat x3)) % (31 + 1)) = 19
    · rw [if_pos z19]; exact R_switchIn mc_0 dL_law_33 (by omega) (by omega) (by rw [z19]; rfl) (t := 829) rfl
    rw [if_neg z19]
    by_cases z20 : ((sc.2 (Int.toNat x3)) % (31 + 1)) = 20
    · rw [if_pos z20]; exact R_switchIn mc_0 dL_law_33 (by omega) (by omega) (by rw [z20]; rfl) (t := 842) rfl
    rw [if_neg z20]
    by_cases z21 : ((sc.2 (Int.toNat x3)) % (31 + 1)) = 21
    · rw [if_pos z21]; exact R_switchIn mc_0 dL_law_33 (by omega) (by omega) (by rw [z21]; rfl) (t := 865) rfl
    rw [if_neg z21]
    by_cases z22 : ((sc.2 (Int.toNat x3)) % (31 + 1)) = 22
    · rw [if_pos z22]; exact R_switchIn mc_0 dL_law_33 (by omega) (by omega) (by rw [z22]; rfl) (t := 908) rfl
    rw [if_neg z22]
    by_cases z23 : ((sc.2 (Int.toNat x3)) % (31 + 1)) = 23
    · rw [if_pos z23]; exact R_switchIn mc_0 dL_law_33 (by omega) (by omega) (by rw [z23]; rfl) (t := 941) rfl
    rw [if_neg z23]
    by_cases z24 : ((sc.2 (Int.toNat x3)) % (31 + 1)) = 24
    · rw [if_pos z24]; exact R_switchIn mc_0 dL_law_33 (by omega) (by omega) (by rw [z24]; rfl) (t := 984) rfl
    rw [if_neg z24]
    by_cases z25 : ((sc.2 (Int.toNat x3)) % (31 + 1)) = 25
    · rw [if_pos z25]; exact R_switchIn mc_0 dL_law_33 (by omega) (by omega) (by rw [z25]; rfl) (t := 997) rfl
    rw [if_neg z25]
    exact R_switchOut mc_0 dL_law_33 (by omega) (t := 1030) rfl))
theorem B_L_law_152 (sc : Nat × (Nat → Int)) (iv : Nat → Nat → Int) (x3 : Int) : Run sc 0 152 [some (Rf 0), some (Rf 1), some (Rf 52), some (I x3)] [] (hp iv) = chk (x3 + 1) (bck 0 ((sc.1 : Int) - 1) (x3 + 1) (chk (x3 + 2) (bck 0 ((sc.1 : Int) - 1) (x3 + 2) (aBind (Run sc 77 0 [some (Rf 1), some (I (sc.2 (Int.toNat (x3 + 1)))), some (I (sc.2 (Int.toNat (x3 + 2))))] [] (hp iv)) (fun v h2 => Run sc 0 166 [some (Rf 0), some (Rf 1), some (Rf 52), some (I x3)] (pushR v []) h2))))) :=
  (R_aload_n mc_0 dL_law_152 rfl).trans <|
  (R_aload_n mc_0 dL_law_153 rfl).trans <|
  (R_iload_n mc_0 dL_law_154 rfl).trans <|
  (R_iconst mc_0 dL_law_155 ⟨by decide, by decide⟩).trans <|
  (R_iadd mc_0 dL_law_156).trans <| chk_congr <|
  (R_script mc_0 dL_law_157 rfl).trans <| bck_congr <|
  (R_aload_n mc_0 dL_law_158 rfl).trans <|
  (R_iload_n mc_0 dL_law_159 rfl).trans <|
  (R_iconst mc_0 dL_law_160 ⟨by decide, by decide⟩).trans <|
  (R_iadd mc_0 dL_law_161).trans <| chk_congr <|
  (R_script mc_0 dL_law_162 rfl).trans <| bck_congr <|
  R_invV mc_0 dL_law_163 mo_0 ct_8_13 af_0_77 rfl rfl rfl ⟨Nat.le_of_ble_eq_true rfl, Nat.le_of_ble_eq_true rfl⟩
theorem B_L_law_166 (sc : Nat × (Nat → Int)) (iv : Nat → Nat → Int) (x3 : Int) (s0 : Int) : Run sc 0 166 [some (Rf 0), some (Rf 1), some (Rf 52), some (I x3)] [(I s0)] (hp iv) = chk (x3 + 1) (bck 0 ((sc.1 : Int) - 1) (x3 + 1) (chk (x3 + 2) (bck 0 ((sc.1 : Int) - 1) (x3 + 2) (aBind (Run sc 111 0 [some (Rf 52), some (I (sc.2 (Int.toNat (x3 + 1)))), some (I (sc.2 (Int.toNat (x3 + 2))))] [] (hp iv)) (fun v h2 => Run sc 0 180 [some (Rf 0), some (Rf 1), some (Rf 52), some (I x3)] (pushR v [(I s0)]) h2))))) :=
  (R_aload_n mc_0 dL_law_166 rfl).trans <|
  (R_aload_n mc_0 dL_law_167 rfl).trans <|
  (R_iload_n mc_0 dL_law_168 rfl).trans <|
  (R_iconst mc_0 dL_law_169 ⟨by decide, by decide⟩).trans <|
  (R_iadd mc_0 dL_law_170).trans <| chk_congr <|
  (R_script mc_0 dL_law_171 rfl).trans <| bck_congr <|
  (R_aload_n mc_0 dL_law_172 rfl).trans <|
  (R_iload_n mc_0 dL_law_173 rfl).trans <|
  (R_iconst mc_0 dL_law_174 ⟨by decide, by decide⟩).trans <|
  (R_iadd mc_0 dL_law_175).trans <| chk_congr <|
  (R_script mc_0 dL_law_176 rfl).trans <| bck_congr <|
  R_invV mc_0 dL_law_177 mo_0 ct_8_17 af_0_111 rfl rfl rfl ⟨Nat.le_of_ble_eq_true rfl, Nat.le_of_ble_eq_true rfl⟩
theorem B_L_law_180 (sc : Nat × (Nat → Int)) (iv : Nat → Nat → Int) (x3 : Int) (s0 : Int) (s1 : Int) : Run sc 0 180 [some (Rf 0), some (Rf 1), some (Rf 52), some (I x3)] [(I s0), (I s1)] (hp iv) = if s1 = s0 then Run sc 0 1030 [some (Rf 0), some (Rf 1), some (Rf 52), some (I x3)] [] (hp iv) else bck 0 1 0 (some (some (I 0), hp iv)) :=
  (R_icmp_eq mc_0 dL_law_180 (t := 1030) rfl).trans <| ite_c2
  (rfl)
  ((R_iconst mc_0 dL_law_183 ⟨by decide, by decide⟩).trans <|
  R_ireturnZ mc_0 dL_law_184 rfl)
theorem B_L_law_185 (sc : Nat × (Nat → Int)) (iv : Nat → Nat → Int) (x3 : Int) : Run sc 0 185 [some (Rf 0), some (Rf 1), some (Rf 52), some (I x3)] [] (hp iv) = chk (x3 + 1) (bck 0 ((sc.1 : Int) - 1) (x3 + 1) (aBind (Run sc 78 0 [some (Rf 1), some (I ((sc.2 (Int.toNat (x3 + 1))) % 65536))] [] (hp iv)) (fun v h2 => Run sc 0 195 [some (Rf 0), some (Rf 1), some (Rf 52), some (I x3)] (pushR v []) h2))) :=
  (R_aload_n mc_0 dL_law_185 rfl).trans <|
  (R_aload_n mc_0 dL_law_186 rfl).trans <|
  (R_iload_n mc_0 dL_law_187 rfl).trans <|
  (R_iconst mc_0 dL_law_188 ⟨by decide, by decide⟩).trans <|
  (R_iadd mc_0 dL_law_189).trans <| chk_congr <|
  (R_script mc_0 dL_law_190 rfl).trans <| bck_congr <|
  (R_i2c mc_0 dL_law_191).trans <|
  R_invV mc_0 dL_law_192 mo_0 ct_8_18 af_0_78 rfl rfl rfl ⟨Nat.le_of_ble_eq_true rfl, Nat.le_of_ble_eq_true rfl⟩
theorem B_L_law_195 (sc : Nat × (Nat → Int)) (iv : Nat → Nat → Int) (x3 : Int) (s0 : Int) : Run sc 0 195 [some (Rf 0), some (Rf 1), some (Rf 52), some (I x3)] [(I s0)] (hp iv) = chk (x3 + 1) (bck 0 ((sc.1 : Int) - 1) (x3 + 1) (aBind (Run sc 121 0 [some (Rf 52), some (I ((sc.2 (Int.toNat (x3 + 1))) % 65536))] [] (hp iv)) (fun v h2 => Run sc 0 205 [some (Rf 0), some (Rf 1), some (Rf 52), some (I x3)] (pushR v [(I s0)]) h2))) :=
  (R_aload_n mc_0 dL_law_195 rfl).trans <|
  (R_aload_n mc_0 dL_law_196 rfl).trans <|
  (R_iload_n mc_0 dL_law_197 rfl).trans <|
  (R_iconst mc_0 dL_law_198 ⟨by decide, by decide⟩).trans <|
  (R_iadd mc_0 dL_law_199).trans <| chk_congr <|
  (R_script mc_0 dL_law_200 rfl).trans <| bck_congr <|
  (R_i2c mc_0 dL_law_201).trans <|
  R_invV mc_0 dL_law_202 mo_0 ct_8_22 af_0_121 rfl rfl rfl ⟨Nat.le_of_ble_eq_true rfl, Nat.le_of_ble_eq_true rfl⟩
theorem B_L_law_205 (sc : Nat × (Nat → Int)) (iv : Nat → Nat → Int) (x3 : Int) (s0 : Int) (s1 : Int) : Run sc 0 205 [some (Rf 0), some (Rf 1), some (Rf 52), some (I x3)] [(I s0), (I s1)] (hp iv) = if s1 = s0 then Run sc 0 1030 [some (Rf 0), some (Rf 1), some (Rf 52), some (I x3)] [] (hp iv) else bck 0 1 0 (some (some (I 0), hp iv)) :=
  (R_icmp_eq mc_0 dL_law_205 (t := 1030) rfl).trans <| ite_c2
  (rfl)
  ((R_iconst mc_0 dL_law_208 ⟨by decide, by decide⟩).trans <|
  R_ireturnZ mc_0 dL_law_209 rfl)
theorem B_L_law_210 (sc : Nat × (Nat → Int)) (iv : Nat → Nat → Int) (x3 : Int) : Run sc 0 210 [some (Rf 0), some (Rf 1), some (Rf 52), some (I x3)] [] (hp iv) = aBind (Run sc 79 0 [some (Rf 1), none] [] (hp iv)) (fun v h2 => Run sc 0 214 [some (Rf 0), some (Rf 1), some (Rf 52), some (I x3)] (pushR v []) h2) :=
  (R_aload_n mc_0 dL_law_210 rfl).trans <|
  R_invV mc_0 dL_law_211 mo_0 ct_8_23 af_0_79 rfl rfl rfl ⟨Nat.le_of_ble_eq_true rfl, Nat.le_of_ble_eq_true rfl⟩
theorem B_L_law_214 (sc : Nat × (Nat → Int)) (iv : Nat → Nat → Int) (x3 : Int) (s0 : Int) : Run sc 0 214 [some (Rf 0), some (Rf 1), some (Rf 52), some (I x3)] [(I s0)] (hp iv) = aBind (Run sc 122 0 [some (Rf 52), none] [] (hp iv)) (fun v h2 => Run sc 0 218 [some (Rf 0), some (Rf 1), some (Rf 52), some (I x3)] (pushR v [(I s0)]) h2) :=
  (R_aload_n mc_0 dL_law_214 rfl).trans <|
  R_invV mc_0 dL_law_215 mo_0 ct_8_27 af_0_122 rfl rfl rfl ⟨Nat.le_of_ble_eq_true rfl, Nat.le_of_ble_eq_true rfl⟩
theorem B_L_law_218 (sc : Nat × (Nat → Int)) (iv : Nat → Nat → Int) (x3 : Int) (s0 : Int) (s1 : Int) : Run sc 0 218 [some (Rf 0), some (Rf 1), some (Rf 52), some (I x3)] [(I s0), (I s1)] (hp iv) = if s1 = s0 then Run sc 0 1030 [some (Rf 0), some (Rf 1), some (Rf 52), some (I x3)] [] (hp iv) else bck 0 1 0 (some (some (I 0), hp iv)) :=
  (R_icmp_eq mc_0 dL_law_218 (t := 1030) rfl).trans <| ite_c2
  (rfl)
  ((R_iconst mc_0 dL_law_221 ⟨by decide, by decide⟩).trans <|
  R_ireturnZ mc_0 dL_law_222 rfl)
theorem B_L_law_223 (sc : Nat × (Nat → Int)) (iv : Nat → Nat → Int) (x3 : Int) : Run sc 0 223 [some (Rf 0), some (Rf 1), some (Rf 52), some (I x3)] [] (hp iv) = aBind (Run sc 80 0 [some (Rf 1), none] [] (hp iv)) (fun v h2 => Run sc 0 227 [some (Rf 0), some (Rf 1), some (Rf 52), some (I x3)] (pushR v []) h2) :=
  (R_aload_n mc_0 dL_law_223 rfl).trans <|
  R_invV mc_0 dL_law_224 mo_0 ct_8_28 af_0_80 rfl rfl rfl ⟨Nat.le_of_ble_eq_true rfl, Nat.le_of_ble_eq_true rfl⟩
theorem B_L_law_227 (sc : Nat × (Nat → Int)) (iv : Nat → Nat → Int) (x3 : Int) (s0 : Int) : Run sc 0 227 [some (Rf 0), some (Rf 1), some (Rf 52), some (I x3)] [(I s0)] (hp iv) = aBind (Run sc 128 0 [some (Rf 52), none] [] (hp iv)) (fun v h2 => Run sc 0 231 [some (Rf 0), some (Rf 1), some (Rf 52), some (I x3)] (pushR v [(I s0)]) h2) :=
  (R_aload_n mc_0 dL_law_227 rfl).trans <|
  R_invV mc_0 dL_law_228 mo_0 ct_8_31 af_0_128 rfl rfl rfl ⟨Nat.le_of_ble_eq_true rfl, Nat.le_of_ble_eq_true rfl⟩
theorem B_L_law_231 (sc : Nat × (Nat → Int)) (iv : Nat → Nat → Int) (x3 : Int) (s0 : Int) (s1 : Int) : Run sc 0 231 [some (Rf 0), some (Rf 1), some (Rf 52), some (I x3)] [(I s0), (I s1)] (hp iv) = if s1 = s0 then Run sc 0 1030 [some (Rf 0), some (Rf 1), some (Rf 52), some (I x3)] [] (hp iv) else bck 0 1 0 (some (some (I 0), hp iv)) :=
  (R_icmp_eq mc_0 dL_law_231 (t := 1030) rfl).trans <| ite_c2
  (rfl)
  ((R_iconst mc_0 dL_law_234 ⟨by decide, by decide⟩).trans <|
  R_ireturnZ mc_0 dL_law_235 rfl)
theorem B_L_law_236 (sc : Nat × (Nat → Int)) (iv : Nat → Nat → Int) (x3 : Int) : Run sc 0 236 [some (Rf 0), some (Rf 1), some (Rf 52), some (I x3)] [] (hp iv) = chk (x3 + 1) (bck 0 ((sc.1 : Int) - 1) (x3 + 1) (chk (x3 + 2) (bck 0 ((sc.1 : Int) - 1) (x3 + 2) (chk (x3 + 3) (bck 0 ((sc.1 : Int) - 1) (x3 + 3) (aBind (Run sc 81 0 [some (Rf 1), some (I (sc.2 (Int.toNat (x3 + 1)))), some (I (sc.2 (Int.toNat (x3 + 2)))), some (I (sc.2 (Int.toNat (x3 + 3)))), none] [] (hp iv)) (fun v h2 => Run sc 0 255 [some (Rf 0), some (Rf 1), some (Rf 52), some (I x3)] (pushR v []) h2))))))) :=
  (R_aload_n mc_0 dL_law_236 rfl).trans <|
  (R_aload_n mc_0 dL_law_237 rfl).trans <|
  (R_iload_n mc_0 dL_law_238 rfl).trans <|
  (R_iconst mc_0 dL_law_239 ⟨by decide, by decide⟩).trans <|
  (R_iadd mc_0 dL_law_240).trans <| chk_congr <|
  (R_script mc_0 dL_law_241 rfl).trans <| bck_congr <|
  (R_aload_n mc_0 dL_law_242 rfl).trans <|
  (R_iload_n mc_0 dL_law_243 rfl).trans <|
  (R_iconst mc_0 dL_law_244 ⟨by decide, by decide⟩).trans <|
  (R_iadd mc_0 dL_law_245).trans <| chk_congr <|
  (R_script mc_0 dL_law_246 rfl).trans <| bck_congr <|
  (R_aload_n mc_0 dL_law_247 rfl).trans <|
  (R_iload_n mc_0 dL_law_248 rfl).trans <|
  (R_iconst mc_0 dL_law_249 ⟨by decide, by decide⟩).trans <|
  (R_iadd mc_0 dL_law_250).trans <| chk_congr <|
  (R_script mc_0 dL_law_251 rfl).trans <| bck_congr <|
  R_invV mc_0 dL_law_252 mo_0 ct_8_32 af_0_81 rfl rfl rfl ⟨Nat.le_of_ble_eq_true rfl, Nat.le_of_ble_eq_true rfl⟩
theorem B_L_law_255 (sc : Nat × (Nat → Int)) (iv : Nat → Nat → Int) (x3 : Int) (s0 : Int) : Run sc 0 255 [some (Rf 0), some (Rf 1), some (Rf 52), some (I x3)] [(I s0)] (hp iv) = chk (x3 + 1) (bck 0 ((sc.1 : Int) - 1) (x3 + 1) (chk (x3 + 2) (bck 0 ((sc.1 : Int) - 1) (x3 + 2) (chk (x3 + 3) (bck 0 ((sc.1 : Int) - 1) (x3 + 3) (aBind (Run sc 130 0 [some (Rf 52), some (I (sc.2 (Int.toNat (x3 + 1)))), some (I (sc.2 (Int.toNat (x3 + 2)))), some (I (sc.2 (Int.toNat (x3 + 3)))), none] [] (hp iv)) (fun v h2 => Run sc 0 274 [some (Rf 0), some (Rf 1), some (Rf 52), some (I x3)] (pushR v [(I s0)]) h2))))))) :=
  (R_aload_n mc_0 dL_law_255 rfl).trans <|
  (R_aload_n mc_0 dL_law_256 rfl).trans <|
  (R_iload_n mc_0 dL_law_257 rfl).trans <|
  (R_iconst mc_0 dL_law_258 ⟨by decide, by decide⟩).trans <|
  (R_iadd mc_0 dL_law_259).trans <| chk_congr <|
  (R_script mc_0 dL_law_260 rfl).trans <| bck_congr <|
  (R_aload_n mc_0 dL_law_261 rfl).trans <|
  (R_iload_n mc_0 dL_law_262 rfl).trans <|
  (R_iconst mc_0 dL_law_263 ⟨by decide, by decide⟩).trans <|
  (R_iadd mc_0 dL_law_264).trans <| chk_congr <|
  (R_script mc_0 dL_law_265 rfl).trans <| bck_congr <|
  (R_aload_n mc_0 dL_law_266 rfl).trans <|
  (R_iload_n mc_0 dL_law_267 rfl).trans <|
  (R_iconst mc_0 dL_law_268 ⟨by decide, by decide⟩).trans <|
  (R_iadd mc_0 dL_law_269).trans <| chk_congr <|
  (R_script mc_0 dL_law_270 rfl).trans <| bck_congr <|
  R_invV mc_0 dL_law_271 mo_0 ct_8_36 af_0_130 rfl rfl rfl ⟨Nat.le_of_ble_eq_true rfl, Nat.le_of_ble_eq_true rfl⟩
theorem B_L_law_274 (sc : Nat × (Nat → Int)) (iv : Nat → Nat → Int) (x3 : Int) (s0 : Int) (s1 : Int) : Run sc 0 274 [some (Rf 0), some (Rf 1), some (Rf 52), some (I x3)] [(I s0), (I s1)] (hp iv) = if s1 = s0 then Run sc 0 1030 [some (Rf 0), some (Rf 1), some (Rf 52), some (I x3)] [] (hp iv) else bck 0 1 0 (some (some (I 0), hp iv)) :=
  (R_icmp_eq mc_0 dL_law_274 (t := 1030) rfl).trans <| ite_c2
  (rfl)
  ((R_iconst mc_0 dL_law_277 ⟨by decide, by decide⟩).trans <|
  R_ireturnZ mc_0 dL_law_278 rfl)
theorem B_L_law_279 (sc : Nat × (Nat → Int)) (iv : Nat → Nat → Int) (x3 : Int) : Run sc 0 279 [some (Rf 0), some (Rf 1), some (Rf 52), some (I x3)] [] (hp iv) = chk (x3 + 1) (bck 0 ((sc.1 : Int) - 1) (x3 + 1) (chk (x3 + 2) (bck 0 ((sc.1 : Int) - 1) (x3 + 2) (chk (x3 + 3) (bck 0 ((sc.1 : Int) - 1) (x3 + 3) (chk (x3 + 4) (bck 0 ((sc.1 : Int) - 1) (x3 + 4) (chk (x3 + 5) (bck 0 ((sc.1 : Int) - 1) (x3 + 5) (aBind (Run sc 82 0 [some (Rf 1), some (I (sc.2 (Int.toNat (x3 + 1)))), some (I (sc.2 (Int.toNat (x3 + 2)))), some (I (sc.2 (Int.toNat (x3 + 3)))), some (I (sc.2 (Int.toNat (x3 + 4)))), some (I (sc.2 (Int.toNat (x3 + 5)))), none, none] [] (hp iv)) (fun v h2 => Run sc 0 308 [some (Rf 0), some (Rf 1), some (Rf 52), some (I x3)] (pushR v []) h2))))))))))) :=
  (R_aload_n mc_0 dL_law_279 rfl).trans <|
  (R_aload_n mc_0 dL_law_280 rfl).trans <|
  (R_iload_n mc_0 dL_law_281 rfl).trans <|
  (R_iconst mc_0 dL_law_282 ⟨by decide, by decide⟩).trans <|
  (R_iadd mc_0 dL_law_283).trans <| chk_congr <|
  (R_script mc_0 dL_law_284 rfl).trans <| bck_congr <|
  (R_aload_n mc_0 dL_law_285 rfl).trans <|
  (R_iload_n mc_0 dL_law_286 rfl).trans <|
  (R_iconst mc_0 dL_law_287 ⟨by decide, by decide⟩).trans <|
  (R_iadd mc_0 dL_law_288).trans <| chk_congr <|
  (R_script mc_0 dL_law_289 rfl).trans <| bck_congr <|
  (R_aload_n mc_0 dL_law_290 rfl).trans <|
  (R_iload_n mc_0 dL_law_291 rfl).trans <|
  (R_iconst mc_0 dL_law_292 ⟨by decide, by decide⟩).trans <|
  (R_iadd mc_0 dL_law_293).trans <| chk_congr <|
  (R_script mc_0 dL_law_294 rfl).trans <| bck_congr <|
  (R_aload_n mc_0 dL_law_295 rfl).trans <|
  (R_iload_n mc_0 dL_law_296 rfl).trans <|
  (R_iconst mc_0 dL_law_297 ⟨by decide, by decide⟩).trans <|
  (R_iadd mc_0 dL_law_298).trans <| chk_congr <|
  (R_script mc_0 dL_law_299 rfl).trans <| bck_congr <|
  (R_aload_n mc_0 dL_law_300 rfl).trans <|
  (R_iload_n mc_0 dL_law_301 rfl).trans <|
  (R_iconst mc_0 dL_law_302 ⟨by decide, by decide⟩).trans <|
  (R_iadd mc_0 dL_law_303).trans <| chk_congr <|
  (R_script mc_0 dL_law_304 rfl).trans <| bck_congr <|
  R_invV mc_0 dL_law_305 mo_0 ct_8_37 af_0_82 rfl rfl rfl ⟨Nat.le_of_ble_eq_true rfl, Nat.le_of_ble_eq_true rfl⟩
theorem B_L_law_308 (sc : Nat × (Nat → Int)) (iv : Nat → Nat → Int) (x3 : Int) (s0 : Int) : Run sc 0 308 [some (Rf 0), some (Rf 1), some (Rf 52), some (I x3)] [(I s0)] (hp iv) = chk (x3 + 1) (bck 0 ((sc.1 : Int) - 1) (x3 + 1) (chk (x3 + 2) (bck 0 ((sc.1 : Int) - 1) (x3 + 2) (chk (x3 + 3) (bck 0 ((sc.1 : Int) - 1) (x3 + 3) (chk (x3 + 4) (bck 0 ((sc.1 : Int) - 1) (x3 + 4) (chk (x3 + 5) (bck 0 ((sc.1 : Int) - 1) (x3 + 5) (aBind (Run sc 131 0 [some (Rf 52), some (I (sc.2 (Int.toNat (x3 + 1)))), some (I (sc.2 (Int.toNat (x3 + 2)))), some (I (sc.2 (Int.toNat (x3 + 3)))), some (I (sc.2 (Int.toNat (x3 + 4)))), some (I (sc.2 (Int.toNat (x3 + 5)))), none, none] [] (hp iv)) (fun v h2 => Run sc 0 337 [some (Rf 0), some (Rf 1), some (Rf 52), some (I x3)] (pushR v [(I s0)]) h2))))))))))) :=
  (R_aload_n mc_0 dL_law_308 rfl).trans <|
  (R_aload_n mc_0 dL_law_309 rfl).trans <|
  (R_iload_n mc_0 dL_law_310 rfl).trans <|
  (R_iconst mc_0 dL_law_311 ⟨by decide, by decide⟩).trans <|
  (R_iadd mc_0 dL_law_312).trans <| chk_congr <|
  (R_script mc_0 dL_law_313 rfl).trans <| bck_congr <|
  (R_aload_n mc_0 dL_law_314 rfl).trans <|
  (R_iload_n mc_0 dL_law_315 rfl).trans <|
  (R_iconst mc_0 dL_law_316 ⟨by decide, by decide⟩).trans <|
  (R_iadd mc_0 dL_law_317).trans <| chk_congr <|
  (R_script mc_0 dL_law_318 rfl).trans <| bck_congr <|
  (R_aload_n mc_0 dL_law_319 rfl).trans <|
  (R_iload_n mc_0 dL_law_320 rfl).trans <|
  (R_iconst mc_0 dL_law_321 ⟨by decide, by decide⟩).trans <|
  (R_iadd mc_0 dL_law_322).trans <| chk_congr <|
  (R_script mc_0 dL_law_323 rfl).trans <| bck_congr <|
  (R_aload_n mc_0 dL_law_324 rfl).trans <|
  (R_iload_n mc_0 dL_law_325 rfl).trans <|
  (R_iconst mc_0 dL_law_326 ⟨by decide, by decide⟩).trans <|
  (R_iadd mc_0 dL_law_327).trans <| chk_congr <|
  (R_script mc_0 dL_law_328 rfl).trans <| bck_congr <|
  (R_aload_n mc_0 dL_law_329 rfl).trans <|
  (R_iload_n mc_0 dL_law_330 rfl).trans <|
  (R_iconst mc_0 dL_law_331 ⟨by decide, by decide⟩).trans <|
  (R_iadd mc_0 dL_law_332).trans <| chk_congr <|
  (R_script mc_0 dL_law_333 rfl).trans <| bck_congr <|
  R_invV mc_0 dL_law_334 mo_0 ct_8_41 af_0_131 rfl rfl rfl ⟨Nat.le_of_ble_eq_true rfl, Nat.le_of_ble_eq_true rfl⟩
theorem B_L_law_337 (sc : Nat × (Nat → Int)) (iv : Nat → Nat → Int) (x3 : Int) (s0 : Int) (s1 : Int) : Run sc 0 337 [some (Rf 0), some (Rf 1), some (Rf 52), some (I x3)] [(I s0), (I s1)] (hp iv) = if s1 = s0 then Run sc 0 1030 [some (Rf 0), some (Rf 1), some (Rf 52), some (I x3)] [] (hp iv) else bck 0 1 0 (some (some (I 0), hp iv)) :=
  (R_icmp_eq mc_0 dL_law_337 (t := 1030) rfl).trans <| ite_c2
  (rfl)
  ((R_iconst mc_0 dL_law_340 ⟨by decide, by decide⟩).trans <|
  R_ireturnZ mc_0 dL_law_341 rfl)
theorem B_L_law_342 (sc : Nat × (Nat → Int)) (iv : Nat → Nat → Int) (x3 : Int) : Run sc 0 342 [some (Rf 0), some (Rf 1), some (Rf 52), some (I x3)] [] (hp iv) = chk (x3 + 1) (bck 0 ((sc.1 : Int) - 1) (x3 + 1) (chk (x3 + 2) (bck 0 ((sc.1 : Int) - 1) (x3 + 2) (aBind (Run sc 83 0 [some (Rf 1), some (I (sc.2 (Int.toNat (x3 + 1)))), some (I (sc.2 (Int.toNat (x3 + 2))))] [] (hp iv)) (fun v h2 => Run sc 0 356 [some (Rf 0), some (Rf 1), some (Rf 52), some (I x3)] (pushR v []) h2))))) :=
  (R_aload_n mc_0 dL_law_342 rfl).trans <|
  (R_aload_n mc_0 dL_law_343 rfl).trans <|
  (R_iload_n mc_0 dL_law_344 rfl).trans <|
  (R_iconst mc_0 dL_law_345 ⟨by decide, by decide⟩).trans <|
  (R_iadd mc_0 dL_law_346).trans <| chk_congr <|
  (R_script mc_0 dL_law_347 rfl).trans <| bck_congr <|
  (R_aload_n mc_0 dL_law_348 rfl).trans <|
  (R_iload_n mc_0 dL_law_349 rfl).trans <|
  (R_iconst mc_0 dL_law_350 ⟨by decide, by decide⟩).trans <|
  (R_iadd mc_0 dL_law_351).trans <| chk_congr <|
  (R_script mc_0 dL_law_352 rfl).trans <| bck_congr <|
  R_invV mc_0 dL_law_353 mo_0 ct_8_42 af_0_83 rfl rfl rfl ⟨Nat.le_of_ble_eq_true rfl, Nat.le_of_ble_eq_true rfl⟩
theorem B_L_law_356 (sc : Nat × (Nat → Int)) (iv : Nat → Nat → Int) (x3 : Int) (s0 : Int) : Run sc 0 356 [some (Rf 0), some (Rf 1), some (Rf 52), some (I x3)] [(I s0)] (hp iv) = chk (x3 + 1) (bck 0 ((sc.1 : Int) - 1) (x3 + 1) (chk (x3 + 2) (bck 0 ((sc.1 : Int) - 1) (x3 + 2) (aBind (Run sc 132 0 [some (Rf 52), some (I (sc.2 (Int.toNat (x3 + 1)))), some (I (sc.2 (Int.toNat (x3 + 2))))] [] (hp iv)) (fun v h2 => Run sc 0 370 [some (Rf 0), some (Rf 1), some (Rf 52), some (I x3)] (pushR v [(I s0)]) h2))))) :=
  (R_aload_n mc_0 dL_law_356 rfl).trans <|
  (R_aload_n mc_0 dL_law_357 rfl).trans <|
  (R_iload_n mc_0 dL_law_358 rfl).trans <|
  (R_iconst mc_0 dL_law_359 ⟨by decide, by decide⟩).trans <|
  (R_iadd mc_0 dL_law_360).trans <| chk_congr <|
  (R_script mc_0 dL_law_361 rfl).trans <| bck_congr <|
  (R_aload_n mc_0 dL_law_362 rfl).trans <|
  (R_iload_n mc_0 dL_law_363 rfl).trans <|
  (R_iconst mc_0 dL_law_364 ⟨by decide, by decide⟩).trans <|
  (R_iadd mc_0 dL_law_365).trans <| chk_congr <|
  (R_script mc_0 dL_law_366 rfl).trans <| bck_congr <|
  R_invV mc_0 dL_law_367 mo_0 ct_8_45 af_0_132 rfl rfl rfl ⟨Nat.le_of_ble_eq_true rfl, Nat.le_of_ble_eq_true rfl⟩
theorem B_L_law_370 (sc : Nat × (Nat → Int)) (iv : Nat → Nat → Int) (x3 : Int) (s0 : Int) (s1 : Int) : Run sc 0 370 [some (Rf 0), some (Rf 1), some (Rf 52), some (I x3)] [(I s0), (I s1)] (hp iv) = if s1 = s0 then Run sc 0 1030 [some (Rf 0), some (Rf 1), some (Rf 52), some (I x3)] [] (hp iv) else bck 0 1 0 (some (some (I 0), hp iv)) :=
  (R_icmp_eq mc_0 dL_law_370 (t := 1030) rfl).trans <| ite_c2
  (rfl)
  ((R_iconst mc_0 dL_law_373 ⟨by decide, by decide⟩).trans <|
  R_ireturnZ mc_0 dL_law_374 rfl)
theorem B_L_law_375 (sc : Nat × (Nat → Int)) (iv : Nat → Nat → Int) (x3 : Int) : Run sc 0 375 [some (Rf 0), some (Rf 1), some (Rf 52), some (I x3)] [] (hp iv) = chk (x3 + 1) (bck 0 ((sc.1 : Int) - 1) (x3 + 1) (chk (x3 + 2) (bck 0 ((sc.1 : Int) - 1) (x3 + 2) (aBind (Run sc 84 0 [some (Rf 1), some (I (sc.2 (Int.toNat (x3 + 1)))), some (I (sc.2 (Int.toNat (x3 + 2)))), none, none] [] (hp iv)) (fun v h2 => Run sc 0 389 [some (Rf 0), some (Rf 1), some (Rf 52), some (I x3)] (pushR v []) h2))))) :=
  (R_aload_n mc_0 dL_law_375 rfl).trans <|
  (R_aload_n mc_0 dL_law_376 rfl).trans <|
  (R_iload_n mc_0 dL_law_377 rfl).trans <|
  (R_iconst mc_0 dL_law_378 ⟨by decide, by decide⟩).trans <|
  (R_iadd mc_0 dL_law_379).trans <| chk_congr <|
  (R_script mc_0 dL_law_380 rfl).trans <| bck_congr <|
  (R_aload_n mc_0 dL_law_381 rfl).trans <|
  (R_iload_n mc_0 dL_law_382 rfl).trans <|
  (R_iconst mc_0 dL_law_383 ⟨by decide, by decide⟩).trans <|
  (R_iadd mc_0 dL_law_384).trans <| chk_congr <|
  (R_script mc_0 dL_law_385 rfl).trans <| bck_congr <|
  R_invV mc_0 dL_law_386 mo_0 ct_8_46 af_0_84 rfl rfl rfl ⟨Nat.le_of_ble_eq_true rfl, Nat.le_of_ble_eq_true rfl⟩
theorem B_L_law_389 (sc : Nat × (Nat → Int)) (iv : Nat → Nat → Int) (x3 : Int) (s0 : Int) : Run sc 0 389 [some (Rf 0), some (Rf 1), some (Rf 52), some (I x3)] [(I s0)] (hp iv) = chk (x3 + 1) (bck 0 ((sc.1 : Int) - 1) (x3 + 1) (chk (x3 + 2) (bck 0 ((sc.1 : Int) - 1) (x3 + 2) (aBind (Run sc 136 0 [some (Rf 52), some (I (sc.2 (Int.toNat (x3 + 1)))), some (I (sc.2 (Int.toNat (x3 + 2)))), none, none, none, none] [] (hp iv)) (fun v h2 => Run sc 0 403 [some (Rf 0), some (Rf 1), some (Rf 52), some (I x3)] (pushR v [(I s0)]) h2))))) :=
  (R_aload_n mc_0 dL_law_389 rfl).trans <|
  (R_aload_n mc_0 dL_law_390 rfl).trans <|
  (R_iload_n mc_0 dL_law_391 rfl).trans <|
  (R_iconst mc_0 dL_law_392 ⟨by decide, by decide⟩).trans <|
  (R_iadd mc_0 dL_law_393).trans <| chk_congr <|
  (R_script mc_0 dL_law_394 rfl).trans <| bck_congr <|
  (R_aload_n mc_0 dL_law_395 rfl).trans <|
  (R_iload_n mc_0 dL_law_396 rfl).trans <|
  (R_iconst mc_0 dL_law_397 ⟨by decide, by decide⟩).trans <|
  (R_iadd mc_0 dL_law_398).trans <| chk_congr <|
  (R_script mc_0 dL_law_399 rfl).trans <| bck_congr <|
  R_invV mc_0 dL_law_400 mo_0 ct_8_49 af_0_136 rfl rfl rfl ⟨Nat.le_of_ble_eq_true rfl, Nat.le_of_ble_eq_true rfl⟩
theorem B_L_law_403 (sc : Nat × (Nat → Int)) (iv : Nat → Nat → Int) (x3 : Int) (s0 : Int) (s1 : Int) : Run sc 0 403 [some (Rf 0), some (Rf 1), some (Rf 52), some (I x3)] [(I s0), (I s1)] (hp iv) = if s1 = s0 then Run sc 0 1030 [some (Rf 0), some (Rf 1), some (Rf 52), some (I x3)] [] (hp iv) else bck 0 1 0 (some (some (I 0), hp iv)) :=
  (R_icmp_eq mc_0 dL_law_403 (t := 1030) rfl).trans <| ite_c2
  (rfl)
  ((R_iconst mc_0 dL_law_406 ⟨by decide, by decide⟩).trans <|
  R_ireturnZ mc_0 dL_law_407 rfl)
theorem B_L_law_408 (sc : Nat × (Nat → Int)) (iv : Nat → Nat → Int) (x3 : Int) : Run sc 0 408 [some (Rf 0), some (Rf 1), some (Rf 52), some (I x3)] [] (hp iv) = chk (x3 + 1) (bck 0 ((sc.1 : Int) - 1) (x3 + 1) (chk (x3 + 2) (bck 0 ((sc.1 : Int) - 1) (x3 + 2) (aBind (Run sc 85 0 [some (Rf 1), some (I (sc.2 (Int.toNat (x3 + 1)))), some (I (sc.2 (Int.toNat (x3 + 2))))] [] (hp iv)) (fun v h2 => Run sc 0 422 [some (Rf 0), some (Rf 1), some (Rf 52), some (I x3)] (pushR v []) h2))))) :=
  (R_aload_n mc_0 dL_law_408 rfl).trans <|
  (R_aload_n mc_0 dL_law_409 rfl).trans <|
  (R_iload_n mc_0 dL_law_410 rfl).trans <|
  (R_iconst mc_0 dL_law_411 ⟨by decide, by decide⟩).trans <|
  (R_iadd mc_0 dL_law_412).trans <| chk_congr <|
  (R_script mc_0 dL_law_413 rfl).trans <| bck_congr <|
  (R_aload_n mc_0 dL_law_414 rfl).trans <|
  (R_iload_n mc_0 dL_law_415 rfl).trans <|
  (R_iconst mc_0 dL_law_416 ⟨by decide, by decide⟩).trans <|
  (R_iadd mc_0 dL_law_417).trans <| chk_congr <|
  (R_script mc_0 dL_law_418 rfl).trans <| bck_congr <|
  R_invV mc_0 dL_law_419 mo_0 ct_8_50 af_0_85 rfl rfl rfl ⟨Nat.le_of_ble_eq_true rfl, Nat.le_of_ble_eq_true rfl⟩
theorem B_L_law_422 (sc : Nat × (Nat → Int)) (iv : Nat → Nat → Int) (x3 : Int) (s0 : Int) : Run sc 0 422 [some (Rf 0), some (Rf 1), some (Rf 52), some (I x3)] [(I s0)] (hp iv) = chk (x3 + 1) (bck 0 ((sc.1 : Int) - 1) (x3 + 1) (chk (x3 + 2) (bck 0 ((sc.1 : Int) - 1) (x3 + 2) (aBind (Run sc 135 0 [some (Rf 52), some (I (sc.2 (Int.toNat (x3 + 1)))), some (I (sc.2 (Int.toNat (x3 + 2))))] [] (hp iv)) (fun v h2 => Run sc 0 436 [some (Rf 0), some (Rf 1), some (Rf 52), some (I x3)] (pushR v [(I s0)]) h2))))) :=
  (R_aload_n mc_0 dL_law_422 rfl).trans <|
  (R_aload_n mc_0 dL_law_423 rfl).trans <|
  (R_iload_n mc_0 dL_law_424 rfl).trans <|
  (R_iconst mc_0 dL_law_425 ⟨by decide, by decide⟩).trans <|
  (R_iadd mc_0 dL_law_426).trans <| chk_congr <|
  (R_script mc_0 dL_law_427 rfl).trans <| bck_congr <|
  (R_aload_n mc_0 dL_law_428 rfl).trans <|
  (R_iload_n mc_0 dL_law_429 rfl).trans <|
  (R_iconst mc_0 dL_law_430 ⟨by decide, by decide⟩).trans <|
  (R_iadd mc_0 dL_law_431).trans <| chk_congr <|
  (R_script mc_0 dL_law_432 rfl).trans <| bck_congr <|
  R_invV mc_0 dL_law_433 mo_0 ct_8_53 af_0_135 rfl rfl rfl ⟨Nat.le_of_ble_eq_true rfl, Nat.le_of_ble_eq_true rfl⟩
theorem B_L_law_436 (sc : Nat × (Nat → Int)) (iv : Nat → Nat → Int) (x3 : Int) (s0 : Int) (s1 : Int) : Run sc 0 436 [some (Rf 0), some (Rf 1), some (Rf 52), some (I x3)] [(I s0), (I s1)] (hp iv) = if s1 = s0 then Run sc 0 1030 [some (Rf 0), some (Rf 1), some (Rf 52), some (I x3)] [] (hp iv) else bck 0 1 0 (some (some (I 0), hp iv)) :=
  (R_icmp_eq mc_0 dL_law_436 (t := 1030) rfl).trans <| ite_c2
  (rfl)
  ((R_iconst mc_0 dL_law_439 ⟨by decide, by decide⟩).trans <|
  R_ireturnZ mc_0 dL_law_440 rfl)
theorem B_L_law_441 (sc : Nat × (Nat → Int)) (iv : Nat → Nat → Int) (x3 : Int) : Run sc 0 441 [some (Rf 0), some (Rf 1), some (Rf 52), some (I x3)] [] (hp iv) = chk (x3 + 1) (bck 0 ((sc.1 : Int) - 1) (x3 + 1) (aBind (Run sc 86 0 [some (Rf 1), some (I (sc.2 (Int.toNat (x3 + 1)))), none, none, none] [] (hp iv)) (fun v h2 => Run sc 0 450 [some (Rf 0), some (Rf 1), some (Rf 52), some (I x3)] (pushR v []) h2))) :=
  (R_aload_n mc_0 dL_law_441 rfl).trans <|
  (R_aload_n mc_0 dL_law_442 rfl).trans <|
  (R_iload_n mc_0 dL_law_443 rfl).trans <|
  (R_iconst mc_0 dL_law_444 ⟨by decide, by decide⟩).trans <|
  (R_iadd mc_0 dL_law_445).trans <| chk_congr <|
  (R_script mc_0 dL_law_446 rfl).trans <| bck_congr <|
  R_invV mc_0 dL_law_447 mo_0 ct_8_54 af_0_86 rfl rfl rfl ⟨Nat.le_of_ble_eq_true rfl, Nat.le_of_ble_eq_true rfl⟩
theorem B_L_law_450 (sc : Nat × (Nat → Int)) (iv : Nat → Nat → Int) (x3 : Int) (s0 : Int) : Run sc 0 450 [some (Rf 0), some (Rf 1), some (Rf 52), some (I x3)] [(I s0)] (hp iv) = chk (x3 + 1) (bck 0 ((sc.1 : Int) - 1) (x3 + 1) (aBind (Run sc 138 0 [some (Rf 52), some (I (sc.2 (Int.toNat (x3 + 1)))), none, none, none, none, none] [] (hp iv)) (fun v h2 => Run sc 0 459 [some (Rf 0), some (Rf 1), some (Rf 52), some (I x3)] (pushR v [(I s0)]) h2))) :=
  (R_aload_n mc_0 dL_law_450 rfl).trans <|
  (R_aload_n mc_0 dL_law_451 rfl).trans <|
  (R_iload_n mc_0 dL_law_452 rfl).trans <|
  (R_iconst mc_0 dL_law_453 ⟨by decide, by decide⟩).trans <|
  (R_iadd mc_0 dL_law_454).trans <| chk_congr <|
  (R_script mc_0 dL_law_455 rfl).trans <| bck_congr <|
  R_invV mc_0 dL_law_456 mo_0 ct_8_58 af_0_138 rfl rfl rfl ⟨Nat.le_of_ble_eq_true rfl, Nat.le_of_ble_eq_true rfl⟩
theorem B_L_law_459 (sc : Nat × (Nat → Int)) (iv : Nat → Nat → Int) (x3 : Int) (s0 : Int) (s1 : Int) : Run sc 0 459 [some (Rf 0), some (Rf 1), some (Rf 52), some (I x3)] [(I s0), (I s1)] (hp iv) = if s1 = s0 then Run sc 0 1030 [some (Rf 0), some (Rf 1), some (Rf 52), some (I x3)] [] (hp iv) else bck 0 1 0 (some (some (I 0), hp iv)) :=
  (R_icmp_eq mc_0 dL_law_459 (t := 1030) rfl).trans <| ite_c2
  (rfl)
  ((R_iconst mc_0 dL_law_462 ⟨by decide, by decide⟩).trans <|
  R_ireturnZ mc_0 dL_law_463 rfl)
theorem B_L_law_464 (sc : Nat × (Nat → Int)) (iv : Nat → Nat → Int) (x3 : Int) : Run sc 0 464 [some (Rf 0), some (Rf 1), some (Rf 52), some (I x3)] [] (hp iv) = chk (x3 + 1) (bck 0 ((sc.1 : Int) - 1) (x3 + 1) (chk (x3 + 2) (bck 0 ((sc.1 : Int) - 1) (x3 + 2) (chk (x3 + 3) (bck 0 ((sc.1 : Int) - 1) (x3 + 3) (aBind (Run sc 87 0 [some (Rf 1), some (I (sc.2 (Int.toNat (x3 + 1)))), some (I (sc.2 (Int.toNat (x3 + 2)))), some (I (sc.2 (Int.toNat (x3 + 3)))), none] [] (hp iv)) (fun v h2 => Run sc 0 483 [some (Rf 0), some (Rf 1), some (Rf 52), some (I x3)] (pushR v []) h2))))))) :=
  (R_aload_n mc_0 dL_law_464 rfl).trans <|
  (R_aload_n mc_0 dL_law_465 rfl).trans <|
  (R_iload_n mc_0 dL_law_466 rfl).trans <|
  (R_iconst mc_0 dL_law_467 ⟨by decide, by decide⟩).trans <|
  (R_iadd mc_0 dL_law_468).trans <| chk_congr <|
  (R_script mc_0 dL_law_469 rfl).trans <| bck_congr <|
  (R_aload_n mc_0 dL_law_470 rfl).trans <|
  (R_iload_n mc_0 dL_law_471 rfl).trans <|
  (R_iconst mc_0 dL_law_472 ⟨by decide, by decide⟩).trans <|
  (R_iadd mc_0 dL_law_473).trans <| chk_congr <|
  (R_script mc_0 dL_law_474 rfl).trans <| bck_congr <|
  (R_aload_n mc_0 dL_law_475 rfl).trans <|
  (R_iload_n mc_0 dL_law_476 rfl).trans <|
  (R_iconst mc_0 dL_law_477 ⟨by decide, by decide⟩).trans <|
  (R_iadd mc_0 dL_law_478).trans <| chk_congr <|
  (R_script mc_0 dL_law_479 rfl).trans <| bck_congr <|
  R_invV mc_0 dL_law_480 mo_0 ct_8_59 af_0_87 rfl rfl rfl ⟨Nat.le_of_ble_eq_true rfl, Nat.le_of_ble_eq_true rfl⟩
theorem B_L_law_483 (sc : Nat × (Nat → Int)) (iv : Nat → Nat → Int) (x3 : Int) (s0 : Int) : Run sc 0 483 [some (Rf 0), some (Rf 1), some (Rf 52), some (I x3)] [(I s0)] (hp iv) = chk (x3 + 1) (bck 0 ((sc.1 : Int) - 1) (x3 + 1) (chk (x3 + 2) (bck 0 ((sc.1 : Int) - 1) (x3 + 2) (chk (x3 + 3) (bck 0 ((sc.1 : Int) - 1) (x3 + 3) (aBind (Run sc 140 0 [some (Rf 52), some (I (sc.2 (Int.toNat (x3 + 1)))), some (I (sc.2 (Int.toNat (x3 + 2)))), some (I (sc.2 (Int.toNat (x3 + 3))))] [] (hp iv)) (fun v h2 => Run sc 0 502 [some (Rf 0), some (Rf 1), some (Rf 52), some (I x3)] (pushR v [(I s0)]) h2))))))) :=
  (R_aload_n mc_0 dL_law_483 rfl).trans <|
  (R_aload_n mc_0 dL_law_484 rfl).trans <|
  (R_iload_n mc_0 dL_law_485 rfl).trans <|
  (R_iconst mc_0 dL_law_486 ⟨by decide, by decide⟩).trans <|
  (R_iadd mc_0 dL_law_487).trans <| chk_congr <|
  (R_script mc_0 dL_law_488 rfl).trans <| bck_congr <|
  (R_aload_n mc_0 dL_law_489 rfl).trans <|
  (R_iload_n mc_0 dL_law_490 rfl).trans <|
  (R_iconst mc_0 dL_law_491 ⟨by decide, by decide⟩).trans <|
  (R_iadd mc_0 dL_law_492).trans <| chk_congr <|
  (R_script mc_0 dL_law_493 rfl).trans <| bck_congr <|
  (R_aload_n mc_0 dL_law_494 rfl).trans <|
  (R_iload_n mc_0 dL_law_495 rfl).trans <|
  (R_iconst mc_0 dL_law_496 ⟨by decide, by decide⟩).trans <|
  (R_iadd mc_0 dL_law_497).trans <| chk_congr <|
  (R_script mc_0 dL_law_498 rfl).trans <| bck_congr <|
  R_invV mc_0 dL_law_499 mo_0 ct_8_62 af_0_140 rfl rfl rfl ⟨Nat.le_of_ble_eq_true rfl, Nat.le_of_ble_eq_true rfl⟩
theorem B_L_law_502 (sc : Nat × (Nat → Int)) (iv : Nat → Nat → Int) (x3 : Int) (s0 : Int) (s1 : Int) : Run sc 0 502 [some (Rf 0), some (Rf 1), some (Rf 52), some (I x3)] [(I s0), (I s1)] (hp iv) = if s1 = s0 then Run sc 0 1030 [some (Rf 0), some (Rf 1), some (Rf 52), some (I x3)] [] (hp iv) else bck 0 1 0 (some (some (I 0), hp iv)) :=
  (R_icmp_eq mc_0 dL_law_502 (t := 1030) rfl).trans <| ite_c2
  (rfl)
  ((R_iconst mc_0 dL_law_505 ⟨by decide, by decide⟩).trans <|
  R_ireturnZ mc_0 dL_law_506 rfl)
theorem B_L_law_507 (sc : Nat × (Nat → Int)) (iv : Nat → Nat → Int) (x3 : Int) : Run sc 0 507 [some (Rf 0), some (Rf 1), some (Rf 52), some (I x3)] [] (hp iv) = chk (x3 + 1) (bck 0 ((sc.1 : Int) - 1) (x3 + 1) (chk (x3 + 2) (bck 0 ((sc.1 : Int) - 1) (x3 + 2) (aBind (Run sc 88 0 [some (Rf 1), some (I (sc.2 (Int.toNat (x3 + 1)))), some (I (sc.2 (Int.toNat (x3 + 2)))), none] [] (hp iv)) (fun v h2 => Run sc 0 521 [some (Rf 0), some (Rf 1), some (Rf 52), some (I x3)] (pushR v []) h2))))) :=
  (R_aload_n mc_0 dL_law_507 rfl).trans <|
  (R_aload_n mc_0 dL_law_508 rfl).trans <|
  (R_iload_n mc_0 dL_law_509 rfl).trans <|
  (R_iconst mc_0 dL_law_510 ⟨by decide, by decide⟩).trans <|
  (R_iadd mc_0 dL_law_511).trans <| chk_congr <|
  (R_script mc_0 dL_law_512 rfl).trans <| bck_congr <|
  (R_aload_n mc_0 dL_law_513 rfl).trans <|
  (R_iload_n mc_0 dL_law_514 rfl).trans <|
  (R_iconst mc_0 dL_law_515 ⟨by decide, by decide⟩).trans <|
  (R_iadd mc_0 dL_law_516).trans <| chk_congr <|
  (R_script mc_0 dL_law_517 rfl).trans <| bck_congr <|
  R_invV mc_0 dL_law_518 mo_0 ct_8_63 af_0_88 rfl rfl rfl ⟨Nat.le_of_ble_eq_true rfl, Nat.le_of_ble_eq_true rfl⟩
theorem B_L_law_521 (sc : Nat × (Nat → Int)) (iv : Nat → Nat → Int) (x3 : Int) (s0 : Int) : Run sc 0 521 [some (Rf 0), some (Rf 1), some (Rf 52), some (I x3)] [(I s0)] (hp iv) = chk (x3 + 1) (bck 0 ((sc.1 : Int) - 1) (x3 + 1) (chk (x3 + 2) (bck 0 ((sc.1 : Int) - 1) (x3 + 2) (aBind (Run sc 141 0 [some (Rf 52), some (I (sc.2 (Int.toNat (x3 + 1)))), some (I (sc.2 (Int.toNat (x3 + 2))))] [] (hp iv)) (fun v h2 => Run sc 0 535 [some (Rf 0), some (Rf 1), some (Rf 52), some (I x3)] (pushR v [(I s0)]) h2))))) :=
  (R_aload_n mc_0 dL_law_521 rfl).trans <|
  (R_aload_n mc_0 dL_law_522 rfl).trans <|
  (R_iload_n mc_0 dL_law_523 rfl).trans <|
  (R_iconst mc_0 dL_law_524 ⟨by decide, by decide⟩).trans <|
  (R_iadd mc_0 dL_law_525).trans <| chk_congr <|
  (R_script mc_0 dL_law_526 rfl).trans <| bck_congr <|
  (R_aload_n mc_0 dL_law_527 rfl).trans <|
  (R_iload_n mc_0 dL_law_528 rfl).trans <|
  (R_iconst mc_0 dL_law_529 ⟨by decide, by decide⟩).trans <|
  (R_iadd mc_0 dL_law_530).trans <| chk_congr <|
  (R_script mc_0 dL_law_531 rfl).trans <| bck_congr <|
  R_invV mc_0 dL_law_532 mo_0 ct_8_66 af_0_141 rfl rfl rfl ⟨Nat.le_of_ble_eq_true rfl, Nat.le_of_ble_eq_true rfl⟩
theorem B_L_law_535 (sc : Nat × (Nat → Int)) (iv : Nat → Nat → Int) (x3 : Int) (s0 : Int) (s1 : Int) : Run sc 0 535 [some (Rf 0), some (Rf 1), some (Rf 52), some (I x3)] [(I s0), (I s1)] (hp iv) = if s1 = s0 then Run sc 0 1030 [some (Rf 0), some (Rf 1), some (Rf 52), some (I x3)] [] (hp iv) else bck 0 1 0 (some (some (I 0), hp iv)) :=
  (R_icmp_eq mc_0 dL_law_535 (t := 1030) rfl).trans <| ite_c2
  (rfl)
  ((R_iconst mc_0 dL_law_538 ⟨by decide, by decide⟩).trans <|
  R_ireturnZ mc_0 dL_law_539 rfl)
theorem B_L_law_540 (sc : Nat × (Nat → Int)) (iv : Nat → Nat → Int) (x3 : Int) : Run sc 0 540 [some (Rf 0), some (Rf 1), some (Rf 52), some (I x3)] [] (hp iv) = chk (x3 + 1) (bck 0 ((sc.1 : Int) - 1) (x3 + 1) (chk (x3 + 2) (bck 0 ((sc.1 : Int) - 1) (x3 + 2) (chk (x3 + 3) (bck 0 ((sc.1 : Int) - 1) (x3 + 3) (aBind (Run sc 89 0 [some (Rf 1), some (I (sc.2 (Int.toNat (x3 + 1)))), some (I (sc.2 (Int.toNat (x3 + 2)))), some (I (sc.2 (Int.toNat (x3 + 3)))), none] [] (hp iv)) (fun v h2 => Run sc 0 559 [some (Rf 0), some (Rf 1), some (Rf 52), some (I x3)] (pushR v []) h2))))))) :=
  (R_aload_n mc_0 dL_law_540 rfl).trans <|
  (R_aload_n mc_0 dL_law_541 rfl).trans <|
  (R_iload_n mc_0 dL_law_542 rfl).trans <|
  (R_iconst mc_0 dL_law_543 ⟨by decide, by decide⟩).trans <|
  (R_iadd mc_0 dL_law_544).trans <| chk_congr <|
  (R_script mc_0 dL_law_545 rfl).trans <| bck_congr <|
  (R_aload_n mc_0 dL_law_546 rfl).trans <|
  (R_iload_n mc_0 dL_law_547 rfl).trans <|
  (R_iconst mc_0 dL_law_548 ⟨by decide, by decide⟩).trans <|
  (R_iadd mc_0 dL_law_549).trans <| chk_congr <|
  (R_script mc_0 dL_law_550 rfl).trans <| bck_congr <|
  (R_aload_n mc_0 dL_law_551 rfl).trans <|
  (R_iload_n mc_0 dL_law_552 rfl).trans <|
  (R_iconst mc_0 dL_law_553 ⟨by decide, by decide⟩).trans <|
  (R_iadd mc_0 dL_law_554).trans <| chk_congr <|
  (R_script mc_0 dL_law_555 rfl).trans <| bck_congr <|
  R_invV mc_0 dL_law_556 mo_0 ct_8_67 af_0_89 rfl rfl rfl ⟨Nat.le_of_ble_eq_true rfl, Nat.le_of_ble_eq_true rfl⟩
theorem B_L_law_559 (sc : Nat × (Nat → Int)) (iv : Nat → Nat → Int) (x3 : Int) (s0 : Int) : Run sc 0 559 [some (Rf 0), some (Rf 1), some (Rf 52), some (I x3)] [(I s0)] (hp iv) = chk (x3 + 1) (bck 0 ((sc.1 : Int) - 1) (x3 + 1) (chk (x3 + 2) (bck 0 ((sc.1 : Int) - 1) (x3 + 2) (chk (x3 + 3) (bck 0 ((sc.1 : Int) - 1) (x3 + 3) (aBind (Run sc 143 0 [some (Rf 52), some (I (sc.2 (Int.toNat (x3 + 1)))), some (I (sc.2 (Int.toNat (x3 + 2)))), some (I (sc.2 (Int.toNat (x3 + 3))))] [] (hp iv)) (fun v h2 => Run sc 0 578 [some (Rf 0), some (Rf 1), some (Rf 52), some (I x3)] (pushR v [(I s0)]) h2))))))) :=
  (R_aload_n mc_0 dL_law_559 rfl).trans <|
  (R_aload_n mc_0 dL_law_560 rfl).trans <|
  (R_iload_n mc_0 dL_law_561 rfl).trans <|
  (R_iconst mc_0 dL_law_562 ⟨by decide, by decide⟩).trans <|
  (R_iadd mc_0 dL_law_563).trans <| chk_congr <|
  (R_script mc_0 dL_law_564 rfl).trans <| bck_congr <|
  (R_aload_n mc_0 dL_law_565 rfl).trans <|
  (R_iload_n mc_0 dL_law_566 rfl).trans <|
  (R_iconst mc_0 dL_law_567 ⟨by decide, by decide⟩).trans <|
  (R_iadd mc_0 dL_law_568).trans <| chk_congr <|
  (R_script mc_0 dL_law_569 rfl).trans <| bck_congr <|
  (R_aload_n mc_0 dL_law_570 rfl).trans <|
  (R_iload_n mc_0 dL_law_571 rfl).trans <|
  (R_iconst mc_0 dL_law_572 ⟨by decide, by decide⟩).trans <|
  (R_iadd mc_0 dL_law_573).trans <| chk_congr <|
  (R_script mc_0 dL_law_574 rfl).trans <| bck_congr <|
  R_invV mc_0 dL_law_575 mo_0 ct_8_70 af_0_143 rfl rfl rfl ⟨Nat.le_of_ble_eq_true rfl, Nat.le_of_ble_eq_true rfl⟩
theorem B_L_law_578 (sc : Nat × (Nat → Int)) (iv : Nat → Nat → Int) (x3 : Int) (s0 : Int) (s1 : Int) : Run sc 0 578 [some (Rf 0), some (Rf 1), some (Rf 52), some (I x3)] [(I s0), (I s1)] (hp iv) = if s1 = s0 then Run sc 0 1030 [some (Rf 0), some (Rf 1), some (Rf 52), some (I x3)] [] (hp iv) else bck 0 1 0 (some (some (I 0), hp iv)) :=
  (R_icmp_eq mc_0 dL_law_578 (t := 1030) rfl).trans <| ite_c2
  (rfl)
  ((R_iconst mc_0 dL_law_581 ⟨by decide, by decide⟩).trans <|
  R_ireturnZ mc_0 dL_law_582 rfl)
theorem B_L_law_583 (sc : Nat × (Nat → Int)) (iv : Nat → Nat → Int) (x3 : Int) : Run sc 0 583 [some (Rf 0), some (Rf 1), some (Rf 52), some (I x3)] [] (hp iv) = chk (x3 + 1) (bck 0 ((sc.1 : Int) - 1) (x3 + 1) (aBind (Run sc 90 0 [some (Rf 1), some (I (sc.2 (Int.toNat (x3 + 1)))), none] [] (hp iv)) (fun v h2 => Run sc 0 592 [some (Rf 0), some (Rf 1), some (Rf 52), some (I x3)] (pushR v []) h2))) :=
  (R_aload_n mc_0 dL_law_583 rfl).trans <|
  (R_aload_n mc_0 dL_law_584 rfl).trans <|
  (R_iload_n mc_0 dL_law_585 rfl).trans <|
  (R_iconst mc_0 dL_law_586 ⟨by decide, by decide⟩).trans <|
  (R_iadd mc_0 dL_law_587).trans <| chk_congr <|
  (R_script mc_0 dL_law_588 rfl).trans <| bck_congr <|
  R_invV mc_0 dL_law_589 mo_0 ct_8_71 af_0_90 rfl rfl rfl ⟨Nat.le_of_ble_eq_true rfl, Nat.le_of_ble_eq_true rfl⟩
theorem B_L_law_592 (sc : Nat × (Nat → Int)) (iv : Nat → Nat → Int) (x3 : Int) (s0 : Int) : Run sc 0 592 [some (Rf 0), some (Rf 1), some (Rf 52), some (I x3)] [(I s0)] (hp iv) = chk (x3 + 1) (bck 0 ((sc.1 : Int) - 1) (x3 + 1) (aBind (Run sc 144 0 [some (Rf 52), some (I (sc.2 (Int.toNat (x3 + 1))))] [] (hp iv)) (fun v h2 => Run sc 0 601 [some (Rf 0), some (Rf 1), some (Rf 52), some (I x3)] (pushR v [(I s0)]) h2))) :=
  (R_aload_n mc_0 dL_law_592 rfl).trans <|
  (R_aload_n mc_0 dL_law_593 rfl).trans <|
  (R_iload_n mc_0 dL_law_594 rfl).trans <|
  (R_iconst mc_0 dL_law_595 ⟨by decide, by decide⟩).trans <|
  (R_iadd mc_0 dL_law_596).trans <| chk_congr <|
  (R_script mc_0 dL_law_597 rfl).trans <| bck_congr <|
  R_invV mc_0 dL_law_598 mo_0 ct_8_74 af_0_144 rfl rfl rfl ⟨Nat.le_of_ble_eq_true rfl, Nat.le_of_ble_eq_true rfl⟩
theorem B_L_law_601 (sc : Nat × (Nat → Int)) (iv : Nat → Nat → Int) (x3 : Int) (s0 : Int) (s1 : Int) : Run sc 0 601 [some (Rf 0), some (Rf 1), some (Rf 52), some (I x3)] [(I s0), (I s1)] (hp iv) = if s1 = s0 then Run sc 0 1030 [some (Rf 0), some (Rf 1), some (Rf 52), some (I x3)] [] (hp iv) else bck 0 1 0 (some (some (I 0), hp iv)) :=
  (R_icmp_eq mc_0 dL_law_601 (t := 1030) rfl).trans <| ite_c2
  (rfl)
  ((R_iconst mc_0 dL_law_604 ⟨by decide, by decide⟩).trans <|
  R_ireturnZ mc_0 dL_law_605 rfl)
theorem B_L_law_606 (sc : Nat × (Nat → Int)) (iv : Nat → Nat → Int) (x3 : Int) : Run sc 0 606 [some (Rf 0), some (Rf 1), some (Rf 52), some (I x3)] [] (hp iv) = chk (x3 + 1) (bck 0 ((sc.1 : Int) - 1) (x3 + 1) (aBind (Run sc 91 0 [some (Rf 1), some (I (sc.2 (Int.toNat (x3 + 1))))] [] (hp iv)) (fun v h2 => Run sc 0 615 [some (Rf 0), some (Rf 1), some (Rf 52), some (I x3)] (pushR v []) h2))) :=
  (R_aload_n mc_0 dL_law_606 rfl).trans <|
  (R_aload_n mc_0 dL_law_607 rfl).trans <|
  (R_iload_n mc_0 dL_law_608 rfl).trans <|
  (R_iconst mc_0 dL_law_609 ⟨by decide, by decide⟩).trans <|
  (R_iadd mc_0 dL_law_610).trans <| chk_congr <|
  (R_script mc_0 dL_law_611 rfl).trans <| bck_congr <|
  R_invV mc_0 dL_law_612 mo_0 ct_8_75 af_0_91 rfl rfl rfl ⟨Nat.le_of_ble_eq_true rfl, Nat.le_of_ble_eq_true rfl⟩
theorem B_L_law_615 (sc : Nat × (Nat → Int)) (iv : Nat → Nat → Int) (x3 : Int) (s0 : Int) : Run sc 0 615 [some (Rf 0), some (Rf 1), some (Rf 52), some (I x3)] [(I s0)] (hp iv) = chk (x3 + 1) (bck 0 ((sc.1 : Int) - 1) (x3 + 1) (aBind (Run sc 149 0 [some (Rf 52), some (I (sc.2 (Int.toNat (x3 + 1)))), none, none, none, none] [] (hp iv)) (fun v h2 => Run sc 0 624 [some (Rf 0), some (Rf 1), some (Rf 52), some (I x3)] (pushR v [(I s0)]) h2))) :=
  (R_aload_n mc_0 dL_law_615 rfl).trans <|
  (R_aload_n mc_0 dL_law_616 rfl).trans <|
  (R_iload_n mc_0 dL_law_617 rfl).trans <|
  (R_iconst mc_0 dL_law_618 ⟨by decide, by decide⟩).trans <|
  (R_iadd mc_0 dL_law_619).trans <| chk_congr <|
  (R_script mc_0 dL_law_620 rfl).trans <| bck_congr <|
  R_invV mc_0 dL_law_621 mo_0 ct_8_78 af_0_149 rfl rfl rfl ⟨Nat.le_of_ble_eq_true rfl, Nat.le_of_ble_eq_true rfl⟩
theorem B_L_law_624 (sc : Nat × (Nat → Int)) (iv : Nat → Nat → Int) (x3 : Int) (s0 : Int) (s1 : Int) : Run sc 0 624 [some (Rf 0), some (Rf 1), some (Rf 52), some (I x3)] [(I s0), (I s1)] (hp iv) = if s1 = s0 then Run sc 0 1030 [some (Rf 0), some (Rf 1), some (Rf 52), some (I x3)] [] (hp iv) else bck 0 1 0 (some (some (I 0), hp iv)) :=
  (R_icmp_eq mc_0 dL_law_624 (t := 1030) rfl).trans <| ite_c2
  (rfl)
  ((R_iconst mc_0 dL_law_627 ⟨by decide, by decide⟩).trans <|
  R_ireturnZ mc_0 dL_law_628 rfl)
theorem B_L_law_629 (sc : Nat × (Nat → Int)) (iv : Nat → Nat → Int) (x3 : Int) : Run sc 0 629 [some (Rf 0), some (Rf 1), some (Rf 52), some (I x3)] [] (hp iv) = chk (x3 + 1) (bck 0 ((sc.1 : Int) - 1) (x3 + 1) (chk (x3 + 2) (bck 0 ((sc.1 : Int) - 1) (x3 + 2) (aBind (Run sc 92 0 [some (Rf 1), some (I (sc.2 (Int.toNat (x3 + 1)))), some (I (sc.2 (Int.toNat (x3 + 2)))), none] [] (hp iv)) (fun v h2 => Run sc 0 643 [some (Rf 0), some (Rf 1), some (Rf 52), some (I x3)] (pushR v []) h2))))) :=
  (R_aload_n mc_0 dL_law_629 rfl).trans <|
  (R_aload_n mc_0 dL_law_630 rfl).trans <|
  (R_iload_n mc_0 dL_law_631 rfl).trans <|
  (R_iconst mc_0 dL_law_632 ⟨by decide, by decide⟩).trans <|
  (R_iadd mc_0 dL_law_633).trans <| chk_congr <|
  (R_script mc_0 dL_law_634 rfl).trans <| bck_congr <|
  (R_aload_n mc_0 dL_law_635 rfl).trans <|
  (R_iload_n mc_0 dL_law_636 rfl).trans <|
  (R_iconst mc_0 dL_law_637 ⟨by decide, by decide⟩).trans <|
  (R_iadd mc_0 dL_law_638).trans <| chk_congr <|
  (R_script mc_0 dL_law_639 rfl).trans <| bck_congr <|
  R_invV mc_0 dL_law_640 mo_0 ct_8_79 af_0_92 rfl rfl rfl ⟨Nat.le_of_ble_eq_true rfl, Nat.le_of_ble_eq_true rfl⟩
theorem B_L_law_643 (sc : Nat × (Nat → Int)) (iv : Nat → Nat → Int) (x3 : Int) (s0 : Int) : Run sc 0 643 [some (Rf 0), some (Rf 1), some (Rf 52), some (I x3)] [(I s0)] (hp iv) = chk (x3 + 1) (bck 0 ((sc.1 : Int) - 1) (x3 + 1) (chk (x3 + 2) (bck 0 ((sc.1 : Int) - 1) (x3 + 2) (aBind (Run sc 150 0 [some (Rf 52), some (I (sc.2 (Int.toNat (x3 + 1)))), some (I (sc.2 (Int.toNat (x3 + 2)))), none] [] (hp iv)) (fun v h2 => Run sc 0 657 [some (Rf 0), some (Rf 1), some (Rf 52), some (I x3)] (pushR v [(I s0)]) h2))))) :=
  (R_aload_n mc_0 dL_law_643 rfl).trans <|
  (R_aload_n mc_0 dL_law_644 rfl).trans <|
  (R_iload_n mc_0 dL_law_645 rfl).trans <|
  (R_iconst mc_0 dL_law_646 ⟨by decide, by decide⟩).trans <|
  (R_iadd mc_0 dL_law_647).trans <| chk_congr <|
  (R_script mc_0 dL_law_648 rfl).trans <| bck_congr <|
  (R_aload_n mc_0 dL_law_649 rfl).trans <|
  (R_iload_n mc_0 dL_law_650 rfl).trans <|
  (R_iconst mc_0 dL_law_651 ⟨by decide, by decide⟩).trans <|
  (R_iadd mc_0 dL_law_652).trans <| chk_congr <|
  (R_script mc_0 dL_law_653 rfl).trans <| bck_congr <|
  R_invV mc_0 dL_law_654 mo_0 ct_8_82 af_0_150 rfl rfl rfl ⟨Nat.le_of_ble_eq_true rfl, Nat.le_of_ble_eq_true rfl⟩
theorem B_L_law_657 (sc : Nat × (Nat → Int)) (iv : Nat → Nat → Int) (x3 : Int) (s0 : Int) (s1 : Int) : Run sc 0 657 [some (Rf 0), some (Rf 1), some (Rf 52), some (I x3)] [(I s0), (I s1)] (hp iv) = if s1 = s0 then Run sc 0 1030 [some (Rf 0), some (Rf 1), some (Rf 52), some (I x3)] [] (hp iv) else bck 0 1 0 (some (some (I 0), hp iv)) :=
  (R_icmp_eq mc_0 dL_law_657 (t := 1030) rfl).trans <| ite_c2
  (rfl)
  ((R_iconst mc_0 dL_law_660 ⟨by decide, by decide⟩).trans <|
  R_ireturnZ mc_0 dL_law_661 rfl)
theorem B_L_law_662 (sc : Nat × (Nat → Int)) (iv : Nat → Nat → Int) (x3 : Int) : Run sc 0 662 [some (Rf 0), some (Rf 1), some (Rf 52), some (I x3)] [] (hp iv) = chk (x3 + 1) (bck 0 ((sc.1 : Int) - 1) (x3 + 1) (chk (x3 + 2) (bck 0 ((sc.1 : Int) - 1) (x3 + 2) (chk (x3 + 3) (bck 0 ((sc.1 : Int) - 1) (x3 + 3) (if (sc.2 (Int.toNat (x3 + 3))) = 0 then Run sc 0 685 [some (Rf 0), some (Rf 1), some (Rf 52), some (I x3)] [(I (sc.2 (Int.toNat (x3 + 2)))), (I (sc.2 (Int.toNat (x3 + 1)))), (Rf 1)] (hp iv) else Run sc 0 686 [some (Rf 0), some (Rf 1), some (Rf 52), some (I x3)] [(I 1), (I (sc.2 (Int.toNat (x3 + 2)))), (I (sc.2 (Int.toNat (x3 + 1)))), (Rf 1)] (hp iv))))))) :=
  (R_aload_n mc_0 dL_law_662 rfl).trans <|
  (R_aload_n mc_0 dL_law_663 rfl).trans <|
  (R_iload_n mc_0 dL_law_664 rfl).trans <|
  (R_iconst mc_0 dL_law_665 ⟨by decide, by decide⟩).trans <|
  (R_iadd mc_0 dL_law_666).trans <| chk_congr <|
  (R_script mc_0 dL_law_667 rfl).trans <| bck_congr <|
  (R_aload_n mc_0 dL_law_668 rfl).trans <|
  (R_iload_n mc_0 dL_law_669 rfl).trans <|
  (R_iconst mc_0 dL_law_670 ⟨by decide, by decide⟩).trans <|
  (R_iadd mc_0 dL_law_671).trans <| chk_congr <|
  (R_script mc_0 dL_law_672 rfl).trans <| bck_congr <|
  (R_aload_n mc_0 dL_law_673 rfl).trans <|
  (R_iload_n mc_0 dL_law_674 rfl).trans <|
  (R_iconst mc_0 dL_law_675 ⟨by decide, by decide⟩).trans <|
  (R_iadd mc_0 dL_law_676).trans <| chk_congr <|
  (R_script mc_0 dL_law_677 rfl).trans <| bck_congr <|
  (R_if_eq mc_0 dL_law_678 (t := 685) rfl).trans <| ite_c2
  (rfl)
  ((R_iconst mc_0 dL_law_681 ⟨by decide, by decide⟩).trans <|
  R_goto mc_0 dL_law_682 (t := 686) rfl)
theorem B_L_law_685 (sc : Nat × (Nat → Int)) (iv : Nat → Nat → Int) (x3 : Int) (s0 : Int) (s1 : Int) : Run sc 0 685 [some (Rf 0), some (Rf 1), some (Rf 52), some (I x3)] [(I s0), (I s1), (Rf 1)] (hp iv) = Run sc 0 686 [some (Rf 0), some (Rf 1), some (Rf 52), some (I x3)] [(I 0), (I s0), (I s1), (Rf 1)] (hp iv) :=
  R_iconst mc_0 dL_law_685 ⟨by decide, by decide⟩
theorem B_L_law_686 (sc : Nat × (Nat → Int)) (iv : Nat → Nat → Int) (x3 : Int) (s0 : Int) (s1 : Int) (s2 : Int) : Run sc 0 686 [some (Rf 0), some (Rf 1), some (Rf 52), some (I x3)] [(I s0), (I s1), (I s2), (Rf 1)] (hp iv) = chk (x3 + 4) (bck 0 ((sc.1 : Int) - 1) (x3 + 4) (if (sc.2 (Int.toNat (x3 + 4))) = 0 then Run sc 0 698 [some (Rf 0), some (Rf 1), some (Rf 52), some (I x3)] [(I s0), (I s1), (I s2), (Rf 1)] (hp iv) else Run sc 0 699 [some (Rf 0), some (Rf 1), some (Rf 52), some (I x3)] [(I 1), (I s0), (I s1), (I s2), (Rf 1)] (hp iv))) :=
  (R_aload_n mc_0 dL_law_686 rfl).trans <|
  (R_iload_n mc_0 dL_law_687 rfl).trans <|
  (R_iconst mc_0 dL_law_688 ⟨by decide, by decide⟩).trans <|
  (R_iadd mc_0 dL_law_689).trans <| chk_congr <|
  (R_script mc_0 dL_law_690 rfl).trans <| bck_congr <|
  (R_if_eq mc_0 dL_law_691 (t := 698) rfl).trans <| ite_c2
  (rfl)
  ((R_iconst mc_0 dL_law_694 ⟨by decide, by decide⟩).trans <|
  R_goto mc_0 dL_law_695 (t := 699) rfl)
theorem B_L_law_698 (sc : Nat × (Nat → Int)) (iv : Nat → Nat → Int) (x3 : Int) (s0 : Int) (s1 : Int) (s2 : Int) : Run sc 0 698 [some (Rf 0), some (Rf 1), some (Rf 52), some (I x3)] [(I s0), (I s1), (I s2), (Rf 1)] (hp iv) = Run sc 0 699 [some (Rf 0), some (Rf 1), some (Rf 52), some (I x3)] [(I 0), (I s0), (I s1), (I s2), (Rf 1)] (hp iv) :=
  R_iconst mc_0 dL_law_698 ⟨by decide, by decide⟩
theorem B_L_law_699 (sc : Nat × (Nat → Int)) (iv : Nat → Nat → Int) (x3 : Int) (s0 : Int) (s1 : Int) (s2 : Int) (s3 : Int) : Run sc 0 699 [some (Rf 0), some (Rf 1), some (Rf 52), some (I x3)] [(I s0), (I s1), (I s2), (I s3), (Rf 1)] (hp iv) = aBind (Run sc 93 0 [some (Rf 1), some (I s3), some (I s2), some (I s1), some (I s0)] [] (hp iv)) (fun v h2 => Run sc 0 702 [some (Rf 0), some (Rf 1), some (Rf 52), some (I x3)] (pushR v []) h2) :=
  R_invV mc_0 dL_law_699 mo_0 ct_8_83 af_0_93 rfl rfl rfl ⟨Nat.le_of_ble_eq_true rfl, Nat.le_of_ble_eq_true rfl⟩
theorem B_L_law_702 (sc : Nat × (Nat → Int)) (iv : Nat → Nat → Int) (x3 : Int) (s0 : Int) : Run sc 0 702 [some (Rf 0), some (Rf 1), some (Rf 52), some (I x3)] [(I s0)] (hp iv) = chk (x3 + 1) (bck 0 ((sc.1 : Int) - 1) (x3 + 1) (chk (x3 + 2) (bck 0 ((sc.1 : Int) - 1) (x3 + 2) (chk (x3 + 3) (bck 0 ((sc.1 : Int) - 1) (x3 + 3) (if (sc.2 (Int.toNat (x3 + 3))) = 0 then Run sc 0 725 [some (Rf 0), some (Rf 1), some (Rf 52), some (I x3)] [(I (sc.2 (Int.toNat (x3 + 2)))), (I (sc.2 (Int.toNat (x3 + 1)))), (Rf 52), (I s0)] (hp iv) else Run sc 0 726 [some (Rf 0), some (Rf 1), some (Rf 52), some (I x3)] [(I 1), (I (sc.2 (Int.toNat (x3 + 2)))), (I (sc.2 (Int.toNat (x3 + 1)))), (Rf 52), (I s0)] (hp iv))))))) :=
  (R_aload_n mc_0 dL_law_702 rfl).trans <|
  (R_aload_n mc_0 dL_law_703 rfl).trans <|
  (R_iload_n mc_0 dL_law_704 rfl).trans <|
  (R_iconst mc_0 dL_law_705 ⟨by decide, by decide⟩).trans <|
  (R_iadd mc_0 dL_law_706).trans <| chk_congr <|
  (R_script mc_0 dL_law_707 rfl).trans <| bck_congr <|
  (R_aload_n mc_0 dL_law_708 rfl).trans <|
  (R_iload_n mc_0 dL_law_709 rfl).trans <|
  (R_iconst mc_0 dL_law_710 ⟨by decide, by decide⟩).trans <|
  (R_iadd mc_0 dL_law_711).trans <| chk_congr <|
  (R_script mc_0 dL_law_712 rfl).trans <| bck_congr <|
  (R_aload_n mc_0 dL_law_713 rfl).trans <|
  (R_iload_n mc_0 dL_law_714 rfl).trans <|
  (R_iconst mc_0 dL_law_715 ⟨by decide, by decide⟩).trans <|
  (R_iadd mc_0 dL_law_716).trans <| chk_congr <|
  (R_script mc_0 dL_law_717 rfl).trans <| bck_congr <|
  (R_if_eq mc_0 dL_law_718 (t := 725) rfl).trans <| ite_c2
  (rfl)
  ((R_iconst mc_0 dL_law_721 ⟨by decide, by decide⟩).trans <|
  R_goto mc_0 dL_law_722 (t := 726) rfl)
theorem B_L_law_725 (sc : Nat × (Nat → Int)) (iv : Nat → Nat → Int) (x3 : Int) (s0 : Int) (s1 : Int) (s3 : Int) : Run sc 0 725 [some (Rf 0), some (Rf 1), some (Rf 52), some (I x3)] [(I s0), (I s1), (Rf 52), (I s3)] (hp iv) = Run sc 0 726 [some (Rf 0), some (Rf 1), some (Rf 52), some (I x3)] [(I 0), (I s0), (I s1), (Rf 52), (I s3)] (hp iv) :=
  R_iconst mc_0 dL_law_725 ⟨by decide, by decide⟩
theorem B_L_law_726 (sc : Nat × (Nat → Int)) (iv : Nat → Nat → Int) (x3 : Int) (s0 : Int) (s1 : Int) (s2 : Int) (s4 : Int) : Run sc 0 726 [some (Rf 0), some (Rf 1), some (Rf 52), some (I x3)] [(I s0), (I s1), (I s2), (Rf 52), (I s4)] (hp iv) = chk (x3 + 4) (bck 0 ((sc.1 : Int) - 1) (x3 + 4) (if (sc.2 (Int.toNat (x3 + 4))) = 0 then Run sc 0 738 [some (Rf 0), some (Rf 1), some (Rf 52), some (I x3)] [(I s0), (I s1), (I s2), (Rf 52), (I s4)] (hp iv) else Run sc 0 739 [some (Rf 0), some (Rf 1), some (Rf 52), some (I x3)] [(I 1), (I s0), (I s1), (I s2), (Rf 52), (I s4)] (hp iv))) :=
  (R_aload_n mc_0 dL_law_726 rfl).trans <|
  (R_iload_n mc_0 dL_law_727 rfl).trans <|
  (R_iconst mc_0 dL_law_728 ⟨by decide, by decide⟩).trans <|
  (R_iadd mc_0 dL_law_729).trans <| chk_congr <|
  (R_script mc_0 dL_law_730 rfl).trans <| bck_congr <|
  (R_if_eq mc_0 dL_law_731 (t := 738) rfl).trans <| ite_c2
  (rfl)
  ((R_iconst mc_0 dL_law_734 ⟨by decide, by decide⟩).trans <|
  R_goto mc_0 dL_law_735 (t := 739) rfl)
theorem B_L_law_738 (sc : Nat × (Nat → Int)) (iv : Nat → Nat → Int) (x3 : Int) (s0 : Int) (s1 : Int) (s2 : Int) (s4 : Int) : Run sc 0 738 [some (Rf 0), some (Rf 1), some (Rf 52), some (I x3)] [(I s0), (I s1), (I s2), (Rf 52), (I s4)] (hp iv) = Run sc 0 739 [some (Rf 0), some (Rf 1), some (Rf 52), some (I x3)] [(I 0), (I s0), (I s1), (I s2), (Rf 52), (I s4)] (hp iv) :=
  R_iconst mc_0 dL_law_738 ⟨by decide, by decide⟩
theorem B_L_law_739 (sc : Nat × (Nat → Int)) (iv : Nat → Nat → Int) (x3 : Int) (s0 : Int) (s1 : Int) (s2 : Int) (s3 : Int) (s5 : Int) : Run sc 0 739 [some (Rf 0), some (Rf 1), some (Rf 52), some (I x3)] [(I s0), (I s1), (I s2), (I s3), (Rf 52), (I s5)] (hp iv) = aBind (Run sc 155 0 [some (Rf 52), some (I s3), some (I s2), some (I s1), some (I s0)] [] (hp iv)) (fun v h2 => Run sc 0 742 [some (Rf 0), some (Rf 1), some (Rf 52), some (I x3)] (pushR v [(I s5)]) h2) :=
  R_invV mc_0 dL_law_739 mo_0 ct_8_87 af_0_155 rfl rfl rfl ⟨Nat.le_of_ble_eq_true rfl, Nat.le_of_ble_eq_true rfl⟩
theorem B_L_law_742 (sc : Nat × (Nat → Int)) (iv : Nat → Nat → Int) (x3 : Int) (s0 : Int) (s1 : Int) : Run sc 0 742 [some (Rf 0), some (Rf 1), some (Rf 52), some (I x3)] [(I s0), (I s1)] (hp iv) = if s1 = s0 then Run sc 0 1030 [some (Rf 0), some (Rf 1), some (Rf 52), some (I x3)] [] (hp iv) else bck 0 1 0 (some (some (I 0), hp iv)) :=
  (R_icmp_eq mc_0 dL_law_742 (t := 1030) rfl).trans <| ite_c2
  (rfl)
  ((R_iconst mc_0 dL_law_745 ⟨by decide, by decide⟩).trans <|
  R_ireturnZ mc_0 dL_law_746 rfl)
theorem B_L_law_747 (sc : Nat × (Nat → Int)) (iv : Nat → Nat → Int) (x3 : Int) : Run sc 0 747 [some (Rf 0), some (Rf 1), some (Rf 52), some (I x3)] [] (hp iv) = chk (x3 + 1) (bck 0 ((sc.1 : Int) - 1) (x3 + 1) (chk (x3 + 2) (bck 0 ((sc.1 : Int) - 1) (x3 + 2) (chk (x3 + 3) (bck 0 ((sc.1 : Int) - 1) (x3 + 3) (if (sc.2 (Int.toNat (x3 + 3))) = 0 then Run sc 0 770 [some (Rf 0), some (Rf 1), some (Rf 52), some (I x3)] [(I (sc.2 (Int.toNat (x3 + 2)))), (I (sc.2 (Int.toNat (x3 + 1)))), (Rf 1)] (hp iv) else Run sc 0 771 [some (Rf 0), some (Rf 1), some (Rf 52), some (I x3)] [(I 1), (I (sc.2 (Int.toNat (x3 + 2)))), (I (sc.2 (Int.toNat (x3 + 1)))), (Rf 1)] (hp iv))))))) :=
  (R_aload_n mc_0 dL_law_747 rfl).trans <|
  (R_aload_n mc_0 dL_law_748 rfl).trans <|
  (R_iload_n mc_0 dL_law_749 rfl).trans <|
  (R_iconst mc_0 dL_law_750 ⟨by decide, by decide⟩).trans <|
  (R_iadd mc_0 dL_law_751).trans <| chk_congr <|
  (R_script mc_0 dL_law_752 rfl).trans <| bck_congr <|
  (R_aload_n mc_0 dL_law_753 rfl).trans <|
  (R_iload_n mc_0 dL_law_754 rfl).trans <|
  (R_iconst mc_0 dL_law_755 ⟨by decide, by decide⟩).trans <|
  (R_iadd mc_0 dL_law_756).trans <| chk_congr <|
  (R_script mc_0 dL_law_757 rfl).trans <| bck_congr <|
  (R_aload_n mc_0 dL_law_758 rfl).trans <|
  (R_iload_n mc_0 dL_law_759 rfl).trans <|
  (R_iconst mc_0 dL_law_760 ⟨by decide, by decide⟩).trans <|
  (R_iadd mc_0 dL_law_761).trans <| chk_congr <|
  (R_script mc_0 dL_law_762 rfl).trans <| bck_congr <|
  (R_if_eq mc_0 dL_law_763 (t := 770) rfl).trans <| ite_c2
  (rfl)
  ((R_iconst mc_0 dL_law_766 ⟨by decide, by decide⟩).trans <|
  R_goto mc_0 dL_law_767 (t := 771) rfl)
theorem B_L_law_770 (sc : Nat × (Nat → Int)) (iv : Nat → Nat → Int) (x3 : Int) (s0 : Int) (s1 : Int) : Run sc 0 770 [some (Rf 0), some (Rf 1), some (Rf 52), some (I x3)] [(I s0), (I s1), (Rf 1)] (hp iv) = Run sc 0 771 [some (Rf 0), some (Rf 1), some (Rf 52), some (I x3)] [(I 0), (I s0), (I s1), (Rf 1)] (hp iv) :=
  R_iconst mc_0 dL_law_770 ⟨by decide, by decide⟩
theorem B_L_law_771 (sc : Nat × (Nat → Int)) (iv : Nat → Nat → Int) (x3 : Int) (s0 : Int) (s1 : Int) (s2 : Int) : Run sc 0 771 [some (Rf 0), some (Rf 1), some (Rf 52), some (I x3)] [(I s0), (I s1), (I s2), (Rf 1)] (hp iv) = aBind (Run sc 94 0 [some (Rf 1), some (I s2), some (I s1), some (I s0)] [] (hp iv)) (fun v h2 => Run sc 0 774 [some (Rf 0), some (Rf 1), some (Rf 52), some (I x3)] (pushR v []) h2) :=
  R_invV mc_0 dL_law_771 mo_0 ct_8_88 af_0_94 rfl rfl rfl ⟨Nat.le_of_ble_eq_true rfl, Nat.le_of_ble_eq_true rfl⟩
theorem B_L_law_774 (sc : Nat × (Nat → Int)) (iv : Nat → Nat → Int) (x3 : Int) (s0 : Int) : Run sc 0 774 [some (Rf 0), some (Rf 1), some (Rf 52), some (I x3)] [(I s0)] (hp iv) = chk (x3 + 1) (bck 0 ((sc.1 : Int) - 1) (x3 + 1) (chk (x3 + 2) (bck 0 ((sc.1 : Int) - 1) (x3 + 2) (chk (x3 + 3) (bck 0 ((sc.1 : Int) - 1) (x3 + 3) (if (sc.2 (Int.toNat (x3 + 3))) = 0 then Run sc 0 797 [some (Rf 0), some (Rf 1), some (Rf 52), some (I x3)] [(I (sc.2 (Int.toNat (x3 + 2)))), (I (sc.2 (Int.toNat (x3 + 1)))), (Rf 52), (I s0)] (hp iv) else Run sc 0 798 [some (Rf 0), some (Rf 1), some (Rf 52), some (I x3)] [(I 1), (I (sc.2 (Int.toNat (x3 + 2)))), (I (sc.2 (Int.toNat (x3 + 1)))), (Rf 52), (I s0)] (hp iv))))))) :=
  (R_aload_n mc_0 dL_law_774 rfl).trans <|
  (R_aload_n mc_0 dL_law_775 rfl).trans <|
  (R_iload_n mc_0 dL_law_776 rfl).trans <|
  (R_iconst mc_0 dL_law_777 ⟨by decide, by decide⟩).trans <|
  (R_iadd mc_0 dL_law_778).trans <| chk_congr <|
  (R_script mc_0 dL_law_779 rfl).trans <| bck_congr <|
  (R_aload_n mc_0 dL_law_780 rfl).trans <|
  (R_iload_n mc_0 dL_law_781 rfl).trans <|
  (R_iconst mc_0 dL_law_782 ⟨by decide, by decide⟩).trans <|
  (R_iadd mc_0 dL_law_783).trans <| chk_congr <|
  (R_script mc_0 dL_law_784 rfl).trans <| bck_congr <|
  (R_aload_n mc_0 dL_law_785 rfl).trans <|
  (R_iload_n mc_0 dL_law_786 rfl).trans <|
  (R_iconst mc_0 dL_law_787 ⟨by decide, by decide⟩).trans <|
  (R_iadd mc_0 dL_law_788).trans <| chk_congr <|
  (R_script mc_0 dL_law_789 rfl).trans <| bck_congr <|
  (R_if_eq mc_0 dL_law_790 (t := 797) rfl).trans <| ite_c2
  (rfl)
  ((R_iconst mc_0 dL_law_793 ⟨by decide, by decide⟩).trans <|
  R_goto mc_0 dL_law_794 (t := 798) rfl)
theorem B_L_law_797 (sc : Nat × (Nat → Int)) (iv : Nat → Nat → Int) (x3 : Int) (s0 : Int) (s1 : Int) (s3 : Int) : Run sc 0 797 [some (Rf 0), some (Rf 1), some (Rf 52), some (I x3)] [(I s0), (I s1), (Rf 52), (I s3)] (hp iv) = Run sc 0 798 [some (Rf 0), some (Rf 1), some (Rf 52), some (I x3)] [(I 0), (I s0), (I s1), (Rf 52), (I s3)] (hp iv) :=
  R_iconst mc_0 dL_law_797 ⟨by decide, by decide⟩
theorem B_L_law_798 (sc : Nat × (Nat → Int)) (iv : Nat → Nat → Int) (x3 : Int) (s0 : Int) (s1 : Int) (s2 : Int) (s4 : Int) : Run sc 0 798 [some (Rf 0), some (Rf 1), some (Rf 52), some (I x3)] [(I s0), (I s1), (I s2), (Rf 52), (I s4)] (hp iv) = aBind (Run sc 156 0 [some (Rf 52), some (I s2), some (I s1), some (I s0)] [] (hp iv)) (fun v h2 => Run sc 0 801 [some (Rf 0), some (Rf 1), some (Rf 52), some (I x3)] (pushR v [(I s4)]) h2) :=
  R_invV mc_0 dL_law_798 mo_0 ct_8_92 af_0_156 rfl rfl rfl ⟨Nat.le_of_ble_eq_true rfl, Nat.le_of_ble_eq_true rfl⟩
theorem B_L_law_801 (sc : Nat × (Nat → Int)) (iv : Nat → Nat → Int) (x3 : Int) (s0 : Int) (s1 : Int) : Run sc 0 801 [some (Rf 0), some (Rf 1), some (Rf 52), some (I x3)] [(I s0), (I s1)] (hp iv) = if s1 = s0 then Run sc 0 1030 [some (Rf 0), some (Rf 1), some (Rf 52), some (I x3)] [] (hp iv) else bck 0 1 0 (some (some (I 0), hp iv)) :=
  (R_icmp_eq mc_0 dL_law_801 (t := 1030) rfl).trans <| ite_c2
  (rfl)
  ((R_iconst mc_0 dL_law_804 ⟨by decide, by decide⟩).trans <|
  R_ireturnZ mc_0 dL_law_805 rfl)
theorem B_L_law_806 (sc : Nat × (Nat → Int)) (iv : Nat → Nat → Int) (x3 : Int) : Run sc 0 806 [some (Rf 0), some (Rf 1), some (Rf 52), some (I x3)] [] (hp iv) = chk (x3 + 1) (bck 0 ((sc.1 : Int) - 1) (x3 + 1) (aBind (Run sc 95 0 [some (Rf 1), some (I (sc.2 (Int.toNat (x3 + 1))))] [] (hp iv)) (fun v h2 => Run sc 0 815 [some (Rf 0), some (Rf 1), some (Rf 52), some (I x3)] (pushR v []) h2))) :=
  (R_aload_n mc_0 dL_law_806 rfl).trans <|
  (R_aload_n mc_0 dL_law_807 rfl).trans <|
  (R_iload_n mc_0 dL_law_808 rfl).trans <|
  (R_iconst mc_0 dL_law_809 ⟨by decide, by decide⟩).trans <|
  (R_iadd mc_0 dL_law_810).trans <| chk_congr <|
  (R_script mc_0 dL_law_811 rfl).trans <| bck_congr <|
  R_invV mc_0 dL_law_812 mo_0 ct_8_93 af_0_95 rfl rfl rfl ⟨Nat.le_of_ble_eq_true rfl, Nat.le_of_ble_eq_true rfl⟩
theorem B_L_law_815 (sc : Nat × (Nat → Int)) (iv : Nat → Nat → Int) (x3 : Int) (s0 : Int) : Run sc 0 815 [some (Rf 0), some (Rf 1), some (Rf 52), some (I x3)] [(I s0)] (hp iv) = chk (x3 + 1) (bck 0 ((sc.1 : Int) - 1) (x3 + 1) (aBind (Run sc 157 0 [some (Rf 52), some (I (sc.2 (Int.toNat (x3 + 1)))), none, none, none, none] [] (hp iv)) (fun v h2 => Run sc 0 824 [some (Rf 0), some (Rf 1), some (Rf 52), some (I x3)] (pushR v [(I s0)]) h2))) :=
  (R_aload_n mc_0 dL_law_815 rfl).trans <|
  (R_aload_n mc_0 dL_law_816 rfl).trans <|
  (R_iload_n mc_0 dL_law_817 rfl).trans <|
  (R_iconst mc_0 dL_law_818 ⟨by decide, by decide⟩).trans <|
  (R_iadd mc_0 dL_law_819).trans <| chk_congr <|
  (R_script mc_0 dL_law_820 rfl).trans <| bck_congr <|
  R_invV mc_0 dL_law_821 mo_0 ct_8_96 af_0_157 rfl rfl rfl ⟨Nat.le_of_ble_eq_true rfl, Nat.le_of_ble_eq_true rfl⟩
theorem B_L_law_824 (sc : Nat × (Nat → Int)) (iv : Nat → Nat → Int) (x3 : Int) (s0 : Int) (s1 : Int) : Run sc 0 824 [some (Rf 0), some (Rf 1), some (Rf 52), some (I x3)] [(I s0), (I s1)] (hp iv) = if s1 = s0 then Run sc 0 1030 [some (Rf 0), some (Rf 1), some (Rf 52), some (I x3)] [] (hp iv) else bck 0 1 0 (some (some (I 0), hp iv)) :=
  (R_icmp_eq mc_0 dL_law_824 (t := 1030) rfl).trans <| ite_c2
  (rfl)
  ((R_iconst mc_0 dL_law_827 ⟨by decide, by decide⟩).trans <|
  R_ireturnZ mc_0 dL_law_828 rfl)
theorem B_L_law_829 (sc : Nat × (Nat → Int)) (iv : Nat → Nat → Int) (x3 : Int) : Run sc 0 829 [some (Rf 0), some (Rf 1), some (Rf 52), some (I x3)] [] (hp iv) = aBind (Run sc 96 0 [some (Rf 1), none] [] (hp iv)) (fun v h2 => Run sc 0 833 [some (Rf 0), some (Rf 1), some (Rf 52), some (I x3)] (pushR v []) h2) :=
  (R_aload_n mc_0 dL_law_829 rfl).trans <|
  R_invV mc_0 dL_law_830 mo_0 ct_8_97 af_0_96 rfl rfl rfl ⟨Nat.le_of_ble_eq_true rfl, Nat.le_of_ble_eq_true rfl⟩
theorem B_L_law_833 (sc : Nat × (Nat → Int)) (iv : Nat → Nat → Int) (x3 : Int) (s0 : Int) : Run sc 0 833 [some (Rf 0), some (Rf 1), some (Rf 52), some (I x3)] [(I s0)] (hp iv) = aBind (Run sc 159 0 [some (Rf 52), none, none] [] (hp iv)) (fun v h2 => Run sc 0 837 [some (Rf 0), some (Rf 1), some (Rf 52), some (I x3)] (pushR v [(I s0)]) h2) :=
  (R_aload_n mc_0 dL_law_833 rfl).trans <|
  R_invV mc_0 dL_law_834 mo_0 ct_8_100 af_0_159 rfl rfl rfl ⟨Nat.le_of_ble_eq_true rfl, Nat.le_of_ble_eq_true rfl⟩
theorem B_L_law_837 (sc : Nat × (Nat → Int)) (iv : Nat → Nat → Int) (x3 : Int) (s0 : Int) (s1 : Int) : Run sc 0 837 [some (Rf 0), some (Rf 1), some (Rf 52), some (I x3)] [(I s0), (I s1)] (hp iv) = if s1 = s0 then Run sc 0 1030 [some (Rf 0), some (Rf 1), some (Rf 52), some (I x3)] [] (hp iv) else bck 0 1 0 (some (some (I 0), hp iv)) :=
  (R_icmp_eq mc_0 dL_law_837 (t := 1030) rfl).trans <| ite_c2
  (rfl)
  ((R_iconst mc_0 dL_law_840 ⟨by decide, by decide⟩).trans <|
  R_ireturnZ mc_0 dL_law_841 rfl)
theorem B_L_law_842 (sc : Nat × (Nat → Int)) (iv : Nat → Nat → Int) (x3 : Int) : Run sc 0 842 [some (Rf 0), some (Rf 1), some (Rf 52), some (I x3)] [] (hp iv) = chk (x3 + 1) (bck 0 ((sc.1 : Int) - 1) (x3 + 1) (aBind (Run sc 97 0 [some (Rf 1), some (I (sc.2 (Int.toNat (x3 + 1))))] [] (hp iv)) (fun v h2 => Run sc 0 851 [some (Rf 0), some (Rf 1), some (Rf 52), some (I x3)] (pushR v []) h2))) :=
  (R_aload_n mc_0 dL_law_842 rfl).trans <|
  (R_aload_n mc_0 dL_law_843 rfl).trans <|
  (R_iload_n mc_0 dL_law_844 rfl).trans <|
  (R_iconst mc_0 dL_law_845 ⟨by decide, by decide⟩).trans <|
  (R_iadd mc_0 dL_law_846).trans <| chk_congr <|
  (R_script mc_0 dL_law_847 rfl).trans <| bck_congr <|
  R_invV mc_0 dL_law_848 mo_0 ct_8_101 af_0_97 rfl rfl rfl ⟨Nat.le_of_ble_eq_true rfl, Nat.le_of_ble_eq_true rfl⟩
theorem B_L_law_851 (sc : Nat × (Nat → Int)) (iv : Nat → Nat → Int) (x3 : Int) (s0 : Int) : Run sc 0 851 [some (Rf 0), some (Rf 1), some (Rf 52), some (I x3)] [(I s0)] (hp iv) = chk (x3 + 1) (bck 0 ((sc.1 : Int) - 1) (x3 + 1) (aBind (Run sc 163 0 [some (Rf 52), some (I (sc.2 (Int.toNat (x3 + 1)))), none, none, none, none, none, none] [] (hp iv)) (fun v h2 => Run sc 0 860 [some (Rf 0), some (Rf 1), some (Rf 52), some (I x3)] (pushR v [(I s0)]) h2))) :=
  (R_aload_n mc_0 dL_law_851 rfl).trans <|
  (R_aload_n mc_0 dL_law_852 rfl).trans <|
  (R_iload_n mc_0 dL_law_853 rfl).trans <|
  (R_iconst mc_0 dL_law_854 ⟨by decide, by decide⟩).trans <|
  (R_iadd mc_0 dL_law_855).trans <| chk_congr <|
  (R_script mc_0 dL_law_856 rfl).trans <| bck_congr <|
  R_invV mc_0 dL_law_857 mo_0 ct_8_104 af_0_163 rfl rfl rfl ⟨Nat.le_of_ble_eq_true rfl, Nat.le_of_ble_eq_true rfl⟩
theorem B_L_law_860 (sc : Nat × (Nat → Int)) (iv : Nat → Nat → Int) (x3 : Int) (s0 : Int) (s1 : Int) : Run sc 0 860 [some (Rf 0), some (Rf 1), some (Rf 52), some (I x3)] [(I s0), (I s1)] (hp iv) = if s1 = s0 then Run sc 0 1030 [some (Rf 0), some (Rf 1), some (Rf 52), some (I x3)] [] (hp iv) else bck 0 1 0 (some (some (I 0), hp iv)) :=
  (R_icmp_eq mc_0 dL_law_860 (t := 1030) rfl).trans <| ite_c2
  (rfl)
  ((R_iconst mc_0 dL_law_863 ⟨by decide, by decide⟩).trans <|
  R_ireturnZ mc_0 dL_law_864 rfl)
theorem B_L_law_865 (sc : Nat × (Nat → Int)) (iv : Nat → Nat → Int) (x3 : Int) : Run sc 0 865 [some (Rf 0), some (Rf 1), some (Rf 52), some (I x3)] [] (hp iv) = chk (x3 + 1) (bck 0 ((sc.1 : Int) - 1) (x3 + 1) (chk (x3 + 2) (bck 0 ((sc.1 : Int) - 1) (x3 + 2) (chk (x3 + 3) (bck 0 ((sc.1 : Int) - 1) (x3 + 3) (aBind (Run sc 98 0 [some (Rf 1), some (I (sc.2 (Int.toNat (x3 + 1)))), some (I (sc.2 (Int.toNat (x3 + 2)))), some (I (sc.2 (Int.toNat (x3 + 3))))] [] (hp iv)) (fun v h2 => Run sc 0 884 [some (Rf 0), some (Rf 1), some (Rf 52), some (I x3)] (pushR v []) h2))))))) :=
  (R_aload_n mc_0 dL_law_865 rfl).trans <|
  (R_aload_n mc_0 dL_law_866 rfl).trans <|
  (R_iload_n mc_0 dL_law_867 rfl).trans <|
  (R_iconst mc_0 dL_law_868 ⟨by decide, by decide⟩).trans <|
  (R_iadd mc_0 dL_law_869).trans <| chk_congr <|
  (R_script mc_0 dL_law_870 rfl).trans <| bck_congr <|
  (R_aload_n mc_0 dL_law_871 rfl).trans <|
  (R_iload_n mc_0 dL_law_872 rfl).trans <|
  (R_iconst mc_0 dL_law_873 ⟨by decide, by decide⟩).trans <|
  (R_iadd mc_0 dL_law_874).trans <| chk_congr <|
  (R_script mc_0 dL_law_875 rfl).trans <| bck_congr <|
  (R_aload_n mc_0 dL_law_876 rfl).trans <|
  (R_iload_n mc_0 dL_law_877 rfl).trans <|
  (R_iconst mc_0 dL_law_878 ⟨by decide, by decide⟩).trans <|
  (R_iadd mc_0 dL_law_879).trans <| chk_congr <|
  (R_script mc_0 dL_law_880 rfl).trans <| bck_congr <|
  R_invV mc_0 dL_law_881 mo_0 ct_8_105 af_0_98 rfl rfl rfl ⟨Nat.le_of_ble_eq_true rfl, Nat.le_of_ble_eq_true rfl⟩
theorem B_L_law_884 (sc : Nat × (Nat → Int)) (iv : Nat → Nat → Int) (x3 : Int) (s0 : Int) : Run sc 0 884 [some (Rf 0), some (Rf 1), some (Rf 52), some (I x3)] [(I s0)] (hp iv) = chk (x3 + 1) (bck 0 ((sc.1 : Int) - 1) (x3 + 1) (chk (x3 + 2) (bck 0 ((sc.1 : Int) - 1) (x3 + 2) (chk (x3 + 3) (bck 0 ((sc.1 : Int) - 1) (x3 + 3) (aBind (Run sc 168 0 [some (Rf 52), some (I (sc.2 (Int.toNat (x3 + 1)))), some (I (sc.2 (Int.toNat (x3 + 2)))), some (I (sc.2 (Int.toNat (x3 + 3))))] [] (hp iv)) (fun v h2 => Run sc 0 903 [some (Rf 0), some (Rf 1), some (Rf 52), some (I x3)] (pushR v [(I s0)]) h2))))))) :=
  (R_aload_n mc_0 dL_law_884 rfl).trans <|
  (R_aload_n mc_0 dL_law_885 rfl).trans <|
  (R_iload_n mc_0 dL_law_886 rfl).trans <|
  (R_iconst mc_0 dL_law_887 ⟨by decide, by decide⟩).trans <|
  (R_iadd mc_0 dL_law_888).trans <| chk_congr <|
  (R_script mc_0 dL_law_889 rfl).trans <| bck_congr <|
  (R_aload_n mc_0 dL_law_890 rfl).trans <|
  (R_iload_n mc_0 dL_law_891 rfl).trans <|
  (R_iconst mc_0 dL_law_892 ⟨by decide, by decide⟩).trans <|
  (R_iadd mc_0 dL_law_893).trans <| chk_congr <|
  (R_script mc_0 dL_law_894 rfl).trans <| bck_congr <|
  (R_aload_n mc_0 dL_law_895 rfl).trans <|
  (R_iload_n mc_0 dL_law_896 rfl).trans <|
  (R_iconst mc_0 dL_law_897 ⟨by decide, by decide⟩).trans <|
  (R_iadd mc_0 dL_law_898).trans <| chk_congr <|
  (R_script mc_0 dL_law_899 rfl).trans <| bck_congr <|
  R_invV mc_0 dL_law_900 mo_0 ct_8_108 af_0_168 rfl rfl rfl ⟨Nat.le_of_ble_eq_true rfl, Nat.le_of_ble_eq_true rfl⟩
theorem B_L_law_903 (sc : Nat × (Nat → Int)) (iv : Nat → Nat → Int) (x3 : Int) (s0 : Int) (s1 : Int) : Run sc 0 903 [some (Rf 0), some (Rf 1), some (Rf 52), some (I x3)] [(I s0), (I s1)] (hp iv) = if s1 = s0 then Run sc 0 1030 [some (Rf 0), some (Rf 1), some (Rf 52), some (I x3)] [] (hp iv) else bck 0 1 0 (some (some (I 0), hp iv)) :=
  (R_icmp_eq mc_0 dL_law_903 (t := 1030) rfl).trans <| ite_c2
  (rfl)
  ((R_iconst mc_0 dL_law_906 ⟨by decide, by decide⟩).trans <|
  R_ireturnZ mc_0 dL_law_907 rfl)
theorem B_L_law_908 (sc : Nat × (Nat → Int)) (iv : Nat → Nat → Int) (x3 : Int) : Run sc 0 908 [some (Rf 0), some (Rf 1), some (Rf 52), some (I x3)] [] (hp iv) = chk (x3 + 1) (bck 0 ((sc.1 : Int) - 1) (x3 + 1) (chk (x3 + 2) (bck 0 ((sc.1 : Int) - 1) (x3 + 2) (aBind (Run sc 99 0 [some (Rf 1), some (I (sc.2 (Int.toNat (x3 + 1)))), some (I (sc.2 (Int.toNat (x3 + 2))))] [] (hp iv)) (fun v h2 => Run sc 0 922 [some (Rf 0), some (Rf 1), some (Rf 52), some (I x3)] (pushR v []) h2))))) :=
  (R_aload_n mc_0 dL_law_908 rfl).trans <|
  (R_aload_n mc_0 dL_law_909 rfl).trans <|
  (R_iload_n mc_0 dL_law_910 rfl).trans <|
  (R_iconst mc_0 dL_law_911 ⟨by decide, by decide⟩).trans <|
  (R_iadd mc_0 dL_law_912).trans <| chk_congr <|
  (R_script mc_0 dL_law_913 rfl).trans <| bck_congr <|
  (R_aload_n mc_0 dL_law_914 rfl).trans <|
  (R_iload_n mc_0 dL_law_915 rfl).trans <|
  (R_iconst mc_0 dL_law_916 ⟨by decide, by decide⟩).trans <|
  (R_iadd mc_0 dL_law_917).trans <| chk_congr <|
  (R_script mc_0 dL_law_918 rfl).trans <| bck_congr <|
  R_invV mc_0 dL_law_919 mo_0 ct_8_109 af_0_99 rfl rfl rfl ⟨Nat.le_of_ble_eq_true rfl, Nat.le_of_ble_eq_true rfl⟩
theorem B_L_law_922 (sc : Nat × (Nat → Int)) (iv : Nat → Nat → Int) (x3 : Int) (s0 : Int) : Run sc 0 922 [some (Rf 0), some (Rf 1), some (Rf 52), some (I x3)] [(I s0)] (hp iv) = chk (x3 + 1) (bck 0 ((sc.1 : Int) - 1) (x3 + 1) (chk (x3 + 2) (bck 0 ((sc.1 : Int) - 1) (x3 + 2) (aBind (Run sc 169 0 [some (Rf 52), some (I (sc.2 (Int.toNat (x3 + 1)))), some (I (sc.2 (Int.toNat (x3 + 2)))), none, none, none, none, none, none, none, none, none] [] (hp iv)) (fun v h2 => Run sc 0 936 [some (Rf 0), some (Rf 1), some (Rf 52), some (I x3)] (pushR v [(I s0)]) h2))))) :=
  (R_aload_n mc_0 dL_law_922 rfl).trans <|
  (R_aload_n mc_0 dL_law_923 rfl).trans <|
  (R_iload_n mc_0 dL_law_924 rfl).trans <|
  (R_iconst mc_0 dL_law_925 ⟨by decide, by decide⟩).trans <|
  (R_iadd mc_0 dL_law_926).trans <| chk_congr <|
  (R_script mc_0 dL_law_927 rfl).trans <| bck_congr <|
  (R_aload_n mc_0 dL_law_928 rfl).trans <|
  (R_iload_n mc_0 dL_law_929 rfl).trans <|
  (R_iconst mc_0 dL_law_930 ⟨by decide, by decide⟩).trans <|
  (R_iadd mc_0 dL_law_931).trans <| chk_congr <|
  (R_script mc_0 dL_law_932 rfl).trans <| bck_congr <|
  R_invV mc_0 dL_law_933 mo_0 ct_8_112 af_0_169 rfl rfl rfl ⟨Nat.le_of_ble_eq_true rfl, Nat.le_of_ble_eq_true rfl⟩
theorem B_L_law_936 (sc : Nat × (Nat → Int)) (iv : Nat → Nat → Int) (x3 : Int) (s0 : Int) (s1 : Int) : Run sc 0 936 [some (Rf 0), some (Rf 1), some (Rf 52), some (I x3)] [(I s0), (I s1)] (hp iv) = if s1 = s0 then Run sc 0 1030 [some (Rf 0), some (Rf 1), some (Rf 52), some (I x3)] [] (hp iv) else bck 0 1 0 (some (some (I 0), hp iv)) :=
  (R_icmp_eq mc_0 dL_law_936 (t := 1030) rfl).trans <| ite_c2
  (rfl)
  ((R_iconst mc_0 dL_law_939 ⟨by decide, by decide⟩).trans <|
  R_ireturnZ mc_0 dL_law_940 rfl)
theorem B_L_law_941 (sc : Nat × (Nat → Int)) (iv : Nat → Nat → Int) (x3 : Int) : Run sc 0 941 [some (Rf 0), some (Rf 1), some (Rf 52), some (I x3)] [] (hp iv) = chk (x3 + 1) (bck 0 ((sc.1 : Int) - 1) (x3 + 1) (chk (x3 + 2) (bck 0 ((sc.1 : Int) - 1) (x3 + 2) (chk (x3 + 3) (bck 0 ((sc.1 : Int) - 1) (x3 + 3) (aBind (Run sc 100 0 [some (Rf 1), some (I (sc.2 (Int.toNat (x3 + 1)))), some (I (sc.2 (Int.toNat (x3 + 2)))), some (I (sc.2 (Int.toNat (x3 + 3)))), none, none] [] (hp iv)) (fun v h2 => Run sc 0 960 [some (Rf 0), some (Rf 1), some (Rf 52), some (I x3)] (pushR v []) h2))))))) :=
  (R_aload_n mc_0 dL_law_941 rfl).trans <|
  (R_aload_n mc_0 dL_law_942 rfl).trans <|
  (R_iload_n mc_0 dL_law_943 rfl).trans <|
  (R_iconst mc_0 dL_law_944 ⟨by decide, by decide⟩).trans <|
  (R_iadd mc_0 dL_law_945).trans <| chk_congr <|
  (R_script mc_0 dL_law_946 rfl).trans <| bck_congr <|
  (R_aload_n mc_0 dL_law_947 rfl).trans <|
  (R_iload_n mc_0 dL_law_948 rfl).trans <|
  (R_iconst mc_0 dL_law_949 ⟨by decide, by decide⟩).trans <|
  (R_iadd mc_0 dL_law_950).trans <| chk_congr <|
  (R_script mc_0 dL_law_951 rfl).trans <| bck_congr <|
  (R_aload_n mc_0 dL_law_952 rfl).trans <|
  (R_iload_n mc_0 dL_law_953 rfl).trans <|
  (R_iconst mc_0 dL_law_954 ⟨by decide, by decide⟩).trans <|
  (R_iadd mc_0 dL_law_955).trans <| chk_congr <|
  (R_script mc_0 dL_law_956 rfl).trans <| bck_congr <|
  R_invV mc_0 dL_law_957 mo_0 ct_8_113 af_0_100 rfl rfl rfl ⟨Nat.le_of_ble_eq_true rfl, Nat.le_of_ble_eq_true rfl⟩
theorem B_L_law_960 (sc : Nat × (Nat → Int)) (iv : Nat → Nat → Int) (x3 : Int) (s0 : Int) : Run sc 0 960 [some (Rf 0), some (Rf 1), some (Rf 52), some (I x3)] [(I s0)] (hp iv) = chk (x3 + 1) (bck 0 ((sc.1 : Int) - 1) (x3 + 1) (chk (x3 + 2) (bck 0 ((sc.1 : Int) - 1) (x3 + 2) (chk (x3 + 3) (bck 0 ((sc.1 : Int) - 1) (x3 + 3) (aBind (Run sc 174 0 [some (Rf 52), some (I (sc.2 (Int.toNat (x3 + 1)))), some (I (sc.2 (Int.toNat (x3 + 2)))), some (I (sc.2 (Int.toNat (x3 + 3)))), none, none] [] (hp iv)) (fun v h2 => Run sc 0 979 [some (Rf 0), some (Rf 1), some (Rf 52), some (I x3)] (pushR v [(I s0)]) h2))))))) :=
  (R_aload_n mc_0 dL_law_960 rfl).trans <|
  (R_aload_n mc_0 dL_law_961 rfl).trans <|
  (R_iload_n mc_0 dL_law_962 rfl).trans <|
  (R_iconst mc_0 dL_law_963 ⟨by decide, by decide⟩).trans <|
  (R_iadd mc_0 dL_law_964).trans <| chk_congr <|
  (R_script mc_0 dL_law_965 rfl).trans <| bck_congr <|
  (R_aload_n mc_0 dL_law_966 rfl).trans <|
  (R_iload_n mc_0 dL_law_967 rfl).trans <|
  (R_iconst mc_0 dL_law_968 ⟨by decide, by decide⟩).trans <|
  (R_iadd mc_0 dL_law_969).trans <| chk_congr <|
  (R_script mc_0 dL_law_970 rfl).trans <| bck_congr <|
  (R_aload_n mc_0 dL_law_971 rfl).trans <|
  (R_iload_n mc_0 dL_law_972 rfl).trans <|
  (R_iconst mc_0 dL_law_973 ⟨by decide, by decide⟩).trans <|
  (R_iadd mc_0 dL_law_974).trans <| chk_congr <|
  (R_script mc_0 dL_law_975 rfl).trans <| bck_congr <|
  R_invV mc_0 dL_law_976 mo_0 ct_8_116 af_0_174 rfl rfl rfl ⟨Nat.le_of_ble_eq_true rfl, Nat.le_of_ble_eq_true rfl⟩
theorem B_L_law_979 (sc : Nat × (Nat → Int)) (iv : Nat → Nat → Int) (x3 : Int) (s0 : Int) (s1 : Int) : Run sc 0 979 [some (Rf 0), some (Rf 1), some (Rf 52), some (I x3)] [(I s0), (I s1)] (hp iv) = if s1 = s0 then Run sc 0 1030 [some (Rf 0), some (Rf 1), some (Rf 52), some (I x3)] [] (hp iv) else bck 0 1 0 (some (some (I 0), hp iv)) :=
  (R_icmp_eq mc_0 dL_law_979 (t := 1030) rfl).trans <| ite_c2
  (rfl)
  ((R_iconst mc_0 dL_law_982 ⟨by decide, by decide⟩).trans <|
  R_ireturnZ mc_0 dL_law_983 rfl)
theorem B_L_law_984 (sc : Nat × (Nat → Int)) (iv : Nat → Nat → Int) (x3 : Int) : Run sc 0 984 [some (Rf 0), some (Rf 1), some (Rf 52), some (I x3)] [] (hp iv) = aBind (Run sc 101 0 [some (Rf 1)] [] (hp iv)) (fun v h2 => Run sc 0 988 [some (Rf 0), some (Rf 1), some (Rf 52), some (I x3)] (pushR v []) h2) :=
  (R_aload_n mc_0 dL_law_984 rfl).trans <|
  R_invV mc_0 dL_law_985 mo_0 ct_8_117 af_0_101 rfl rfl rfl ⟨Nat.le_of_ble_eq_true rfl, Nat.le_of_ble_eq_true rfl⟩
theorem B_L_law_988 (sc : Nat × (Nat → Int)) (iv : Nat → Nat → Int) (x3 : Int) (s0 : Int) : Run sc 0 988 [some (Rf 0), some (Rf 1), some (Rf 52), some (I x3)] [(I s0)] (hp iv) = aBind (Run sc 167 0 [some (Rf 52)] [] (hp iv)) (fun v h2 => Run sc 0 992 [some (Rf 0), some (Rf 1), some (Rf 52), some (I x3)] (pushR v [(I s0)]) h2) :=
  (R_aload_n mc_0 dL_law_988 rfl).trans <|
  R_invV mc_0 dL_law_989 mo_0 ct_8_120 af_0_167 rfl rfl rfl ⟨Nat.le_of_ble_eq_true rfl, Nat.le_of_ble_eq_true rfl⟩
theorem B_L_law_992 (sc : Nat × (Nat → Int)) (iv : Nat → Nat → Int) (x3 : Int) (s0 : Int) (s1 : Int) : Run sc 0 992 [some (Rf 0), some (Rf 1), some (Rf 52), some (I x3)] [(I s0), (I s1)] (hp iv) = if s1 = s0 then Run sc 0 1030 [some (Rf 0), some (Rf 1), some (Rf 52), some (I x3)] [] (hp iv) else bck 0 1 0 (some (some (I 0), hp iv)) :=
  (R_icmp_eq mc_0 dL_law_992 (t := 1030) rfl).trans <| ite_c2
  (rfl)
  ((R_iconst mc_0 dL_law_995 ⟨by decide, by decide⟩).trans <|
  R_ireturnZ mc_0 dL_law_996 rfl)
theorem B_L_law_997 (sc : Nat × (Nat → Int)) (iv : Nat → Nat → Int) (x3 : Int) : Run sc 0 997 [some (Rf 0), some (Rf 1), some (Rf 52), some (I x3)] [] (hp iv) = chk (x3 + 1) (bck 0 ((sc.1 : Int) - 1) (x3 + 1) (chk (x3 + 2) (bck 0 ((sc.1 : Int) - 1) (x3 + 2) (aBind (Run sc 102 0 [some (Rf 1), some (I (sc.2 (Int.toNat (x3 + 1)))), some (I (sc.2 (Int.toNat (x3 + 2))))] [] (hp iv)) (fun v h2 => Run sc 0 1011 [some (Rf 0), some (Rf 1), some (Rf 52), some (I x3)] (pushR v []) h2))))) :=
  (R_aload_n mc_0 dL_law_997 rfl).trans <|
  (R_aload_n mc_0 dL_law_998 rfl).trans <|
  (R_iload_n mc_0 dL_law_999 rfl).trans <|
  (R_iconst mc_0 dL_law_1000 ⟨by decide, by decide⟩).trans <|
  (R_iadd mc_0 dL_law_1001).trans <| chk_congr <|
  (R_script mc_0 dL_law_1002 rfl).trans <| bck_congr <|
  (R_aload_n mc_0 dL_law_1003 rfl).trans <|
  (R_iload_n mc_0 dL_law_1004 rfl).trans <|
  (R_iconst mc_0 dL_law_1005 ⟨by decide, by decide⟩).trans <|
  (R_iadd mc_0 dL_law_1006).trans <| chk_congr <|
  (R_script mc_0 dL_law_1007 rfl).trans <| bck_congr <|
  R_invV mc_0 dL_law_1008 mo_0 ct_8_121 af_0_102 rfl rfl rfl ⟨Nat.le_of_ble_eq_true rfl, Nat.le_of_ble_eq_true rfl⟩
theorem B_L_law_1011 (sc : Nat × (Nat → Int)) (iv : Nat → Nat → Int) (x3 : Int) (s0 : Int) : Run sc 0 1011 [some (Rf 0), some (Rf 1), some (Rf 52), some (I x3)] [(I s0)] (hp iv) = chk (x3 + 1) (bck 0 ((sc.1 : Int) - 1) (x3 + 1) (chk (x3 + 2) (bck 0 ((sc.1 : Int) - 1) (x3 + 2) (aBind (Run sc 175 0 [some (Rf 52), some (I (sc.2 (Int.toNat (x3 + 1)))), some (I (sc.2 (Int.toNat (x3 + 2))))] [] (hp iv)) (fun v h2 => Run sc 0 1025 [some (Rf 0), some (Rf 1), some (Rf 52), some (I x3)] (pushR v [(I s0)]) h2))))) :=
  (R_aload_n mc_0 dL_law_1011 rfl).trans <|
  (R_aload_n mc_0 dL_law_1012 rfl).trans <|
  (R_iload_n mc_0 dL_law_1013 rfl).trans <|
  (R_iconst mc_0 dL_law_1014 ⟨by decide, by decide⟩).trans <|
  (R_iadd mc_0 dL_law_1015).trans <| chk_congr <|
  (R_script mc_0 dL_law_1016 rfl).trans <| bck_congr <|
  (R_aload_n mc_0 dL_law_1017 rfl).trans <|
  (R_iload_n mc_0 dL_law_1018 rfl).trans <|
  (R_iconst mc_0 dL_law_1019 ⟨by decide, by decide⟩).trans <|
  (R_iadd mc_0 dL_law_1020).trans <| chk_congr <|
  (R_script mc_0 dL_law_1021 rfl).trans <| bck_congr <|
  R_invV mc_0 dL_law_1022 mo_0 ct_8_124 af_0_175 rfl rfl rfl ⟨Nat.le_of_ble_eq_true rfl, Nat.le_of_ble_eq_true rfl⟩
theorem B_L_law_1025 (sc : Nat × (Nat → Int)) (iv : Nat → Nat → Int) (x3 : Int) (s0 : Int) (s1 : Int) : Run sc 0 1025 [some (Rf 0), some (Rf 1), some (Rf 52), some (I x3)] [(I s0), (I s1)] (hp iv) = if s1 = s0 then Run sc 0 1030 [some (Rf 0), some (Rf 1), some (Rf 52), some (I x3)] [] (hp iv) else bck 0 1 0 (some (some (I 0), hp iv)) :=
  (R_icmp_eq mc_0 dL_law_1025 (t := 1030) rfl).trans <| ite_c2
  (rfl)
  ((R_iconst mc_0 dL_law_1028 ⟨by decide, by decide⟩).trans <|
  R_ireturnZ mc_0 dL_law_1029 rfl)
theorem B_L_law_1030 (sc : Nat × (Nat → Int)) (iv : Nat → Nat → Int) (x3 : Int) : Run sc 0 1030 [some (Rf 0), some (Rf 1), some (Rf 52), some (I x3)] [] (hp iv) = chk (x3 + 6) (Run sc 0 18 [some (Rf 0), some (Rf 1), some (Rf 52), some (I (x3 + 6))] [] (hp iv)) :=
  (R_iinc mc_0 dL_law_1030 rfl).trans <| chk_congr <|
  R_goto mc_0 dL_law_1033 (t := 18) rfl
theorem B_L_law_1036 (sc : Nat × (Nat → Int)) (iv : Nat → Nat → Int) (x3 : Int) : Run sc 0 1036 [some (Rf 0), some (Rf 1), some (Rf 52), some (I x3)] [] (hp iv) = bck 0 1 1 (some (some (I 1), hp iv)) :=
  (R_iconst mc_0 dL_law_1036 ⟨by decide, by decide⟩).trans <|
  R_ireturnZ mc_0 dL_law_1037 rfl
