theorem B_X5_carries_0 (sc : Nat × (Nat → Int)) (iv : Nat → Nat → Int) (x1 : Int) : Run sc 74 0 [some (Rf 6), some (I x1)] [] (hp iv) = if (iv 6 0) < x1 then Run sc 74 12 [some (Rf 6), some (I x1)] [] (hp iv) else Run sc 74 13 [some (Rf 6), some (I x1)] [(I 1)] (hp iv) :=
  (R_iload_n mc_74 dX5_carries_0 rfl).trans <|
  (R_aload_n mc_74 dX5_carries_1 rfl).trans <|
  (R_getI mc_74 dX5_carries_2 mo_74 ft_5_7 rfl rfl).trans <|
  (R_icmp_gt mc_74 dX5_carries_5 (t := 12) rfl).trans <| ite_c2
  (rfl)
  ((R_iconst mc_74 dX5_carries_8 ⟨by decide, by decide⟩).trans <|
  R_goto mc_74 dX5_carries_9 (t := 13) rfl)
theorem B_X5_carries_12 (sc : Nat × (Nat → Int)) (iv : Nat → Nat → Int) (x1 : Int) : Run sc 74 12 [some (Rf 6), some (I x1)] [] (hp iv) = Run sc 74 13 [some (Rf 6), some (I x1)] [(I 0)] (hp iv) :=
  R_iconst mc_74 dX5_carries_12 ⟨by decide, by decide⟩
theorem B_X5_carries_13 (sc : Nat × (Nat → Int)) (iv : Nat → Nat → Int) (x1 : Int) (s0 : Int) : Run sc 74 13 [some (Rf 6), some (I x1)] [(I s0)] (hp iv) = bck 0 1 s0 (some (some (I s0), (hp iv))) :=
  R_ireturnZ mc_74 dX5_carries_13 rfl
theorem B_X5_cost_0 (sc : Nat × (Nat → Int)) (iv : Nat → Nat → Int) (x1 : Int) : Run sc 75 0 [some (Rf 6), some (I x1)] [] (hp iv) = aBind (Run sc 74 0 [some (Rf 6), some (I x1)] [] (hp iv)) (fun v h2 => Run sc 75 5 [some (Rf 6), some (I x1)] (pushR v []) h2) :=
  (R_aload_n mc_75 dX5_cost_0 rfl).trans <|
  (R_iload_n mc_75 dX5_cost_1 rfl).trans <|
  R_invV mc_75 dX5_cost_2 mo_75 ct_5_16 af_75_74 rfl rfl rfl ⟨Nat.le_of_ble_eq_true rfl, Nat.le_of_ble_eq_true rfl⟩
theorem B_X5_cost_5 (sc : Nat × (Nat → Int)) (iv : Nat → Nat → Int) (x1 : Int) (s0 : Int) : Run sc 75 5 [some (Rf 6), some (I x1)] [(I s0)] (hp iv) = if s0 = 0 then Run sc 75 12 [some (Rf 6), some (I x1)] [] (hp iv) else Run sc 75 18 [some (Rf 6), some (I x1)] [(I x1)] (hp iv) :=
  (R_if_eq mc_75 dX5_cost_5 (t := 12) rfl).trans <| ite_c2
  (rfl)
  ((R_iload_n mc_75 dX5_cost_8 rfl).trans <|
  R_goto mc_75 dX5_cost_9 (t := 18) rfl)
theorem B_X5_cost_12 (sc : Nat × (Nat → Int)) (iv : Nat → Nat → Int) (x1 : Int) : Run sc 75 12 [some (Rf 6), some (I x1)] [] (hp iv) = chk (2 * (iv 6 1)) (Run sc 75 18 [some (Rf 6), some (I x1)] [(I (2 * (iv 6 1)))] (hp iv)) :=
  (R_iconst mc_75 dX5_cost_12 ⟨by decide, by decide⟩).trans <|
  (R_aload_n mc_75 dX5_cost_13 rfl).trans <|
  (R_getI mc_75 dX5_cost_14 mo_75 ft_5_13 rfl rfl).trans <|
  (R_imul mc_75 dX5_cost_17).trans <| chk_congr <|
  rfl
theorem B_X5_cost_18 (sc : Nat × (Nat → Int)) (iv : Nat → Nat → Int) (x1 : Int) (s0 : Int) : Run sc 75 18 [some (Rf 6), some (I x1)] [(I s0)] (hp iv) = some (some (I s0), (hp iv)) :=
  R_ireturn mc_75 dX5_cost_18 rfl
