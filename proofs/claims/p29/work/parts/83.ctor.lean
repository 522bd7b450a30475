/-! the constructors, by program (gen/ctor.py): from the empty heap -/
section CTOR
def kk_0 : List (Nat × Nat) := []
def rr_0 : Nat → Nat → Nat := fun _ _ => 0
def ii_0 : Nat → Nat → Int := fun _ _ => 0
def hk_0 : AH := (kk_0, rr_0, ii_0)
def kk_1 : List (Nat × Nat) := [(6, 6)]
def hk_1 : AH := (kk_1, rr_0, ii_0)
def kk_2 : List (Nat × Nat) := [(6, 6), (3, 5)]
def hk_2 : AH := (kk_2, rr_0, ii_0)
def ii_1 : Nat → Nat → Int := setO ii_0 2 (upI (ii_0 2) 0 10)
def hk_3 : AH := (kk_2, rr_0, ii_1)
def ii_2 : Nat → Nat → Int := setO ii_1 2 (upI (ii_1 2) 1 8)
def hk_4 : AH := (kk_2, rr_0, ii_2)
def kk_3 : List (Nat × Nat) := [(6, 6), (3, 5), (9, 7)]
def hk_5 : AH := (kk_3, rr_0, ii_2)
def rr_1 : Nat → Nat → Nat := setR rr_0 2 2 3
def hk_6 : AH := (kk_3, rr_1, ii_2)
def kk_4 : List (Nat × Nat) := [(6, 6), (3, 5), (9, 7), (8, 576)]
def hk_7 : AH := (kk_4, rr_1, ii_2)
def rr_2 : Nat → Nat → Nat := setR rr_1 2 3 4
def hk_8 : AH := (kk_4, rr_2, ii_2)
def kk_5 : List (Nat × Nat) := [(6, 6), (3, 5), (9, 7), (8, 576), (8, 576)]
def hk_9 : AH := (kk_5, rr_2, ii_2)
def rr_3 : Nat → Nat → Nat := setR rr_2 2 4 5
def hk_10 : AH := (kk_5, rr_3, ii_2)
def rr_4 : Nat → Nat → Nat := setR rr_3 1 0 2
def hk_11 : AH := (kk_5, rr_4, ii_2)
def kk_6 : List (Nat × Nat) := [(6, 6), (3, 5), (9, 7), (8, 576), (8, 576), (5, 2)]
def hk_12 : AH := (kk_6, rr_4, ii_2)
def ii_3 : Nat → Nat → Int := setO ii_2 6 (upI (ii_2 6) 0 60)
def hk_13 : AH := (kk_6, rr_4, ii_3)
def ii_4 : Nat → Nat → Int := setO ii_3 6 (upI (ii_3 6) 1 30)
def hk_14 : AH := (kk_6, rr_4, ii_4)
def rr_5 : Nat → Nat → Nat := setR rr_4 1 1 6
def hk_15 : AH := (kk_6, rr_5, ii_4)
def kk_7 : List (Nat × Nat) := [(6, 6), (3, 5), (9, 7), (8, 576), (8, 576), (5, 2), (11, 6)]
def hk_16 : AH := (kk_7, rr_5, ii_4)
def rr_6 : Nat → Nat → Nat := setR rr_5 1 2 7
def hk_17 : AH := (kk_7, rr_6, ii_4)
def kk_8 : List (Nat × Nat) := [(6, 6), (3, 5), (9, 7), (8, 576), (8, 576), (5, 2), (11, 6), (2, 9)]
def hk_18 : AH := (kk_8, rr_6, ii_4)
def rr_7 : Nat → Nat → Nat := setR rr_6 8 0 2
def hk_19 : AH := (kk_8, rr_7, ii_4)
def rr_8 : Nat → Nat → Nat := setR rr_7 8 1 6
def hk_20 : AH := (kk_8, rr_8, ii_4)
def ii_5 : Nat → Nat → Int := setO ii_4 8 (upI (ii_4 8) 2 1)
def hk_21 : AH := (kk_8, rr_8, ii_5)
def kk_9 : List (Nat × Nat) := [(6, 6), (3, 5), (9, 7), (8, 576), (8, 576), (5, 2), (11, 6), (2, 9), (8, 288)]
def hk_22 : AH := (kk_9, rr_8, ii_5)
def rr_9 : Nat → Nat → Nat := setR rr_8 8 4 9
def hk_23 : AH := (kk_9, rr_9, ii_5)
def kk_10 : List (Nat × Nat) := [(6, 6), (3, 5), (9, 7), (8, 576), (8, 576), (5, 2), (11, 6), (2, 9), (8, 288), (8, 288)]
def hk_24 : AH := (kk_10, rr_9, ii_5)
def rr_10 : Nat → Nat → Nat := setR rr_9 8 5 10
def hk_25 : AH := (kk_10, rr_10, ii_5)
def kk_11 : List (Nat × Nat) := [(6, 6), (3, 5), (9, 7), (8, 576), (8, 576), (5, 2), (11, 6), (2, 9), (8, 288), (8, 288), (8, 288)]
def hk_26 : AH := (kk_11, rr_10, ii_5)
def rr_11 : Nat → Nat → Nat := setR rr_10 8 6 11
def hk_27 : AH := (kk_11, rr_11, ii_5)
def kk_12 : List (Nat × Nat) := [(6, 6), (3, 5), (9, 7), (8, 576), (8, 576), (5, 2), (11, 6), (2, 9), (8, 288), (8, 288), (8, 288), (8, 288)]
def hk_28 : AH := (kk_12, rr_11, ii_5)
def rr_12 : Nat → Nat → Nat := setR rr_11 8 7 12
def hk_29 : AH := (kk_12, rr_12, ii_5)
def kk_13 : List (Nat × Nat) := [(6, 6), (3, 5), (9, 7), (8, 576), (8, 576), (5, 2), (11, 6), (2, 9), (8, 288), (8, 288), (8, 288), (8, 288), (8, 288)]
def hk_30 : AH := (kk_13, rr_12, ii_5)
def rr_13 : Nat → Nat → Nat := setR rr_12 8 8 13
def hk_31 : AH := (kk_13, rr_13, ii_5)
def rr_14 : Nat → Nat → Nat := setR rr_13 7 0 8
def hk_32 : AH := (kk_13, rr_14, ii_5)
def kk_14 : List (Nat × Nat) := [(6, 6), (3, 5), (9, 7), (8, 576), (8, 576), (5, 2), (11, 6), (2, 9), (8, 288), (8, 288), (8, 288), (8, 288), (8, 288), (2, 9)]
def hk_33 : AH := (kk_14, rr_14, ii_5)
def rr_15 : Nat → Nat → Nat := setR rr_14 14 0 2
def hk_34 : AH := (kk_14, rr_15, ii_5)
def rr_16 : Nat → Nat → Nat := setR rr_15 14 1 6
def hk_35 : AH := (kk_14, rr_16, ii_5)
def ii_6 : Nat → Nat → Int := setO ii_5 14 (upI (ii_5 14) 2 2)
def hk_36 : AH := (kk_14, rr_16, ii_6)
def kk_15 : List (Nat × Nat) := [(6, 6), (3, 5), (9, 7), (8, 576), (8, 576), (5, 2), (11, 6), (2, 9), (8, 288), (8, 288), (8, 288), (8, 288), (8, 288), (2, 9), (8, 288)]
def hk_37 : AH := (kk_15, rr_16, ii_6)
def rr_17 : Nat → Nat → Nat := setR rr_16 14 4 15
def hk_38 : AH := (kk_15, rr_17, ii_6)
def kk_16 : List (Nat × Nat) := [(6, 6), (3, 5), (9, 7), (8, 576), (8, 576), (5, 2), (11, 6), (2, 9), (8, 288), (8, 288), (8, 288), (8, 288), (8, 288), (2, 9), (8, 288), (8, 288)]
def hk_39 : AH := (kk_16, rr_17, ii_6)
def rr_18 : Nat → Nat → Nat := setR rr_17 14 5 16
def hk_40 : AH := (kk_16, rr_18, ii_6)
def kk_17 : List (Nat × Nat) := [(6, 6), (3, 5), (9, 7), (8, 576), (8, 576), (5, 2), (11, 6), (2, 9), (8, 288), (8, 288), (8, 288), (8, 288), (8, 288), (2, 9), (8, 288), (8, 288), (8, 288)]
def hk_41 : AH := (kk_17, rr_18, ii_6)
def rr_19 : Nat → Nat → Nat := setR rr_18 14 6 17
def hk_42 : AH := (kk_17, rr_19, ii_6)
def kk_18 : List (Nat × Nat) := [(6, 6), (3, 5), (9, 7), (8, 576), (8, 576), (5, 2), (11, 6), (2, 9), (8, 288), (8, 288), (8, 288), (8, 288), (8, 288), (2, 9), (8, 288), (8, 288), (8, 288), (8, 288)]
def hk_43 : AH := (kk_18, rr_19, ii_6)
def rr_20 : Nat → Nat → Nat := setR rr_19 14 7 18
def hk_44 : AH := (kk_18, rr_20, ii_6)
def kk_19 : List (Nat × Nat) := [(6, 6), (3, 5), (9, 7), (8, 576), (8, 576), (5, 2), (11, 6), (2, 9), (8, 288), (8, 288), (8, 288), (8, 288), (8, 288), (2, 9), (8, 288), (8, 288), (8, 288), (8, 288), (8, 288)]
def hk_45 : AH := (kk_19, rr_20, ii_6)
def rr_21 : Nat → Nat → Nat := setR rr_20 14 8 19
def hk_46 : AH := (kk_19, rr_21, ii_6)
def rr_22 : Nat → Nat → Nat := setR rr_21 7 1 14
def hk_47 : AH := (kk_19, rr_22, ii_6)
def kk_20 : List (Nat × Nat) := [(6, 6), (3, 5), (9, 7), (8, 576), (8, 576), (5, 2), (11, 6), (2, 9), (8, 288), (8, 288), (8, 288), (8, 288), (8, 288), (2, 9), (8, 288), (8, 288), (8, 288), (8, 288), (8, 288), (2, 9)]
def hk_48 : AH := (kk_20, rr_22, ii_6)
def rr_23 : Nat → Nat → Nat := setR rr_22 20 0 2
def hk_49 : AH := (kk_20, rr_23, ii_6)
def rr_24 : Nat → Nat → Nat := setR rr_23 20 1 6
def hk_50 : AH := (kk_20, rr_24, ii_6)
def ii_7 : Nat → Nat → Int := setO ii_6 20 (upI (ii_6 20) 2 3)
def hk_51 : AH := (kk_20, rr_24, ii_7)
def kk_21 : List (Nat × Nat) := [(6, 6), (3, 5), (9, 7), (8, 576), (8, 576), (5, 2), (11, 6), (2, 9), (8, 288), (8, 288), (8, 288), (8, 288), (8, 288), (2, 9), (8, 288), (8, 288), (8, 288), (8, 288), (8, 288), (2, 9), (8, 288)]
def hk_52 : AH := (kk_21, rr_24, ii_7)
def rr_25 : Nat → Nat → Nat := setR rr_24 20 4 21
def hk_53 : AH := (kk_21, rr_25, ii_7)
def kk_22 : List (Nat × Nat) := [(6, 6), (3, 5), (9, 7), (8, 576), (8, 576), (5, 2), (11, 6), (2, 9), (8, 288), (8, 288), (8, 288), (8, 288), (8, 288), (2, 9), (8, 288), (8, 288), (8, 288), (8, 288), (8, 288), (2, 9), (8, 288), (8, 288)]
def hk_54 : AH := (kk_22, rr_25, ii_7)
def rr_26 : Nat → Nat → Nat := setR rr_25 20 5 22
def hk_55 : AH := (kk_22, rr_26, ii_7)
def kk_23 : List (Nat × Nat) := [(6, 6), (3, 5), (9, 7), (8, 576), (8, 576), (5, 2), (11, 6), (2, 9), (8, 288), (8, 288), (8, 288), (8, 288), (8, 288), (2, 9), (8, 288), (8, 288), (8, 288), (8, 288), (8, 288), (2, 9), (8, 288), (8, 288), (8, 288)]
def hk_56 : AH := (kk_23, rr_26, ii_7)
def rr_27 : Nat → Nat → Nat := setR rr_26 20 6 23
def hk_57 : AH := (kk_23, rr_27, ii_7)
def kk_24 : List (Nat × Nat) := [(6, 6), (3, 5), (9, 7), (8, 576), (8, 576), (5, 2), (11, 6), (2, 9), (8, 288), (8, 288), (8, 288), (8, 288), (8, 288), (2, 9), (8, 288), (8, 288), (8, 288), (8, 288), (8, 288), (2, 9), (8, 288), (8, 288), (8, 288), (8, 288)]
def hk_58 : AH := (kk_24, rr_27, ii_7)
def rr_28 : Nat → Nat → Nat := setR rr_27 20 7 24
def hk_59 : AH := (kk_24, rr_28, ii_7)
def kk_25 : List (Nat × Nat) := [(6, 6), (3, 5), (9, 7), (8, 576), (8, 576), (5, 2), (11, 6), (2, 9), (8, 288), (8, 288), (8, 288), (8, 288), (8, 288), (2, 9), (8, 288), (8, 288), (8, 288), (8, 288), (8, 288), (2, 9), (8, 288), (8, 288), (8, 288), (8, 288), (8, 288)]
def hk_60 : AH := (kk_25, rr_28, ii_7)
def rr_29 : Nat → Nat → Nat := setR rr_28 20 8 25
def hk_61 : AH := (kk_25, rr_29, ii_7)
def rr_30 : Nat → Nat → Nat := setR rr_29 7 2 20
def hk_62 : AH := (kk_25, rr_30, ii_7)
def kk_26 : List (Nat × Nat) := [(6, 6), (3, 5), (9, 7), (8, 576), (8, 576), (5, 2), (11, 6), (2, 9), (8, 288), (8, 288), (8, 288), (8, 288), (8, 288), (2, 9), (8, 288), (8, 288), (8, 288), (8, 288), (8, 288), (2, 9), (8, 288), (8, 288), (8, 288), (8, 288), (8, 288), (2, 9)]
def hk_63 : AH := (kk_26, rr_30, ii_7)
def rr_31 : Nat → Nat → Nat := setR rr_30 26 0 2
def hk_64 : AH := (kk_26, rr_31, ii_7)
def rr_32 : Nat → Nat → Nat := setR rr_31 26 1 6
def hk_65 : AH := (kk_26, rr_32, ii_7)
def ii_8 : Nat → Nat → Int := setO ii_7 26 (upI (ii_7 26) 2 4)
def hk_66 : AH := (kk_26, rr_32, ii_8)
def kk_27 : List (Nat × Nat) := [(6, 6), (3, 5), (9, 7), (8, 576), (8, 576), (5, 2), (11, 6), (2, 9), (8, 288), (8, 288), (8, 288), (8, 288), (8, 288), (2, 9), (8, 288), (8, 288), (8, 288), (8, 288), (8, 288), (2, 9), (8, 288), (8, 288), (8, 288), (8, 288), (8, 288), (2, 9), (8, 288)]
def hk_67 : AH := (kk_27, rr_32, ii_8)
def rr_33 : Nat → Nat → Nat := setR rr_32 26 4 27
def hk_68 : AH := (kk_27, rr_33, ii_8)
def kk_28 : List (Nat × Nat) := [(6, 6), (3, 5), (9, 7), (8, 576), (8, 576), (5, 2), (11, 6), (2, 9), (8, 288), (8, 288), (8, 288), (8, 288), (8, 288), (2, 9), (8, 288), (8, 288), (8, 288), (8, 288), (8, 288), (2, 9), (8, 288), (8, 288), (8, 288), (8, 288), (8, 288), (2, 9), (8, 288), (8, 288)]
def hk_69 : AH := (kk_28, rr_33, ii_8)
def rr_34 : Nat → Nat → Nat := setR rr_33 26 5 28
def hk_70 : AH := (kk_28, rr_34, ii_8)
def kk_29 : List (Nat × Nat) := [(6, 6), (3, 5), (9, 7), (8, 576), (8, 576), (5, 2), (11, 6), (2, 9), (8, 288), (8, 288), (8, 288), (8, 288), (8, 288), (2, 9), (8, 288), (8, 288), (8, 288), (8, 288), (8, 288), (2, 9), (8, 288), (8, 288), (8, 288), (8, 288), (8, 288), (2, 9), (8, 288), (8, 288), (8, 288)]
def hk_71 : AH := (kk_29, rr_34, ii_8)
def rr_35 : Nat → Nat → Nat := setR rr_34 26 6 29
def hk_72 : AH := (kk_29, rr_35, ii_8)
def kk_30 : List (Nat × Nat) := [(6, 6), (3, 5), (9, 7), (8, 576), (8, 576), (5, 2), (11, 6), (2, 9), (8, 288), (8, 288), (8, 288), (8, 288), (8, 288), (2, 9), (8, 288), (8, 288), (8, 288), (8, 288), (8, 288), (2, 9), (8, 288), (8, 288), (8, 288), (8, 288), (8, 288), (2, 9), (8, 288), (8, 288), (8, 288), (8, 288)]
def hk_73 : AH := (kk_30, rr_35, ii_8)
def rr_36 : Nat → Nat → Nat := setR rr_35 26 7 30
def hk_74 : AH := (kk_30, rr_36, ii_8)
def kk_31 : List (Nat × Nat) := [(6, 6), (3, 5), (9, 7), (8, 576), (8, 576), (5, 2), (11, 6), (2, 9), (8, 288), (8, 288), (8, 288), (8, 288), (8, 288), (2, 9), (8, 288), (8, 288), (8, 288), (8, 288), (8, 288), (2, 9), (8, 288), (8, 288), (8, 288), (8, 288), (8, 288), (2, 9), (8, 288), (8, 288), (8, 288), (8, 288), (8, 288)]
def hk_75 : AH := (kk_31, rr_36, ii_8)
def rr_37 : Nat → Nat → Nat := setR rr_36 26 8 31
def hk_76 : AH := (kk_31, rr_37, ii_8)
def rr_38 : Nat → Nat → Nat := setR rr_37 7 3 26
def hk_77 : AH := (kk_31, rr_38, ii_8)
def kk_32 : List (Nat × Nat) := [(6, 6), (3, 5), (9, 7), (8, 576), (8, 576), (5, 2), (11, 6), (2, 9), (8, 288), (8, 288), (8, 288), (8, 288), (8, 288), (2, 9), (8, 288), (8, 288), (8, 288), (8, 288), (8, 288), (2, 9), (8, 288), (8, 288), (8, 288), (8, 288), (8, 288), (2, 9), (8, 288), (8, 288), (8, 288), (8, 288), (8, 288), (2, 9)]
def hk_78 : AH := (kk_32, rr_38, ii_8)
def rr_39 : Nat → Nat → Nat := setR rr_38 32 0 2
def hk_79 : AH := (kk_32, rr_39, ii_8)
def rr_40 : Nat → Nat → Nat := setR rr_39 32 1 6
def hk_80 : AH := (kk_32, rr_40, ii_8)
def ii_9 : Nat → Nat → Int := setO ii_8 32 (upI (ii_8 32) 2 5)
def hk_81 : AH := (kk_32, rr_40, ii_9)
def kk_33 : List (Nat × Nat) := [(6, 6), (3, 5), (9, 7), (8, 576), (8, 576), (5, 2), (11, 6), (2, 9), (8, 288), (8, 288), (8, 288), (8, 288), (8, 288), (2, 9), (8, 288), (8, 288), (8, 288), (8, 288), (8, 288), (2, 9), (8, 288), (8, 288), (8, 288), (8, 288), (8, 288), (2, 9), (8, 288), (8, 288), (8, 288), (8, 288), (8, 288), (2, 9), (8, 288)]
def hk_82 : AH := (kk_33, rr_40, ii_9)
def rr_41 : Nat → Nat → Nat := setR rr_40 32 4 33
def hk_83 : AH := (kk_33, rr_41, ii_9)
def kk_34 : List (Nat × Nat) := [(6, 6), (3, 5), (9, 7), (8, 576), (8, 576), (5, 2), (11, 6), (2, 9), (8, 288), (8, 288), (8, 288), (8, 288), (8, 288), (2, 9), (8, 288), (8, 288), (8, 288), (8, 288), (8, 288), (2, 9), (8, 288), (8, 288), (8, 288), (8, 288), (8, 288), (2, 9), (8, 288), (8, 288), (8, 288), (8, 288), (8, 288), (2, 9), (8, 288), (8, 288)]
def hk_84 : AH := (kk_34, rr_41, ii_9)
def rr_42 : Nat → Nat → Nat := setR rr_41 32 5 34
def hk_85 : AH := (kk_34, rr_42, ii_9)
def kk_35 : List (Nat × Nat) := [(6, 6), (3, 5), (9, 7), (8, 576), (8, 576), (5, 2), (11, 6), (2, 9), (8, 288), (8, 288), (8, 288), (8, 288), (8, 288), (2, 9), (8, 288), (8, 288), (8, 288), (8, 288), (8, 288), (2, 9), (8, 288), (8, 288), (8, 288), (8, 288), (8, 288), (2, 9), (8, 288), (8, 288), (8, 288), (8, 288), (8, 288), (2, 9), (8, 288), (8, 288), (8, 288)]
def hk_86 : AH := (kk_35, rr_42, ii_9)
def rr_43 : Nat → Nat → Nat := setR rr_42 32 6 35
def hk_87 : AH := (kk_35, rr_43, ii_9)
def kk_36 : List (Nat × Nat) := [(6, 6), (3, 5), (9, 7), (8, 576), (8, 576), (5, 2), (11, 6), (2, 9), (8, 288), (8, 288), (8, 288), (8, 288), (8, 288), (2, 9), (8, 288), (8, 288), (8, 288), (8, 288), (8, 288), (2, 9), (8, 288), (8, 288), (8, 288), (8, 288), (8, 288), (2, 9), (8, 288), (8, 288), (8, 288), (8, 288), (8, 288), (2, 9), (8, 288), (8, 288), (8, 288), (8, 288)]
def hk_88 : AH := (kk_36, rr_43, ii_9)
def rr_44 : Nat → Nat → Nat := setR rr_43 32 7 36
def hk_89 : AH := (kk_36, rr_44, ii_9)
def kk_37 : List (Nat × Nat) := [(6, 6), (3, 5), (9, 7), (8, 576), (8, 576), (5, 2), (11, 6), (2, 9), (8, 288), (8, 288), (8, 288), (8, 288), (8, 288), (2, 9), (8, 288), (8, 288), (8, 288), (8, 288), (8, 288), (2, 9), (8, 288), (8, 288), (8, 288), (8, 288), (8, 288), (2, 9), (8, 288), (8, 288), (8, 288), (8, 288), (8, 288), (2, 9), (8, 288), (8, 288), (8, 288), (8, 288), (8, 288)]
def hk_90 : AH := (kk_37, rr_44, ii_9)
def rr_45 : Nat → Nat → Nat := setR rr_44 32 8 37
def hk_91 : AH := (kk_37, rr_45, ii_9)
def rr_46 : Nat → Nat → Nat := setR rr_45 7 4 32
def hk_92 : AH := (kk_37, rr_46, ii_9)
def kk_38 : List (Nat × Nat) := [(6, 6), (3, 5), (9, 7), (8, 576), (8, 576), (5, 2), (11, 6), (2, 9), (8, 288), (8, 288), (8, 288), (8, 288), (8, 288), (2, 9), (8, 288), (8, 288), (8, 288), (8, 288), (8, 288), (2, 9), (8, 288), (8, 288), (8, 288), (8, 288), (8, 288), (2, 9), (8, 288), (8, 288), (8, 288), (8, 288), (8, 288), (2, 9), (8, 288), (8, 288), (8, 288), (8, 288), (8, 288), (2, 9)]
def hk_93 : AH := (kk_38, rr_46, ii_9)
def rr_47 : Nat → Nat → Nat := setR rr_46 38 0 2
def hk_94 : AH := (kk_38, rr_47, ii_9)
def rr_48 : Nat → Nat → Nat := setR rr_47 38 1 6
def hk_95 : AH := (kk_38, rr_48, ii_9)
def ii_10 : Nat → Nat → Int := setO ii_9 38 (upI (ii_9 38) 2 6)
def hk_96 : AH := (kk_38, rr_48, ii_10)
def kk_39 : List (Nat × Nat) := [(6, 6), (3, 5), (9, 7), (8, 576), (8, 576), (5, 2), (11, 6), (2, 9), (8, 288), (8, 288), (8, 288), (8, 288), (8, 288), (2, 9), (8, 288), (8, 288), (8, 288), (8, 288), (8, 288), (2, 9), (8, 288), (8, 288), (8, 288), (8, 288), (8, 288), (2, 9), (8, 288), (8, 288), (8, 288), (8, 288), (8, 288), (2, 9), (8, 288), (8, 288), (8, 288), (8, 288), (8, 288), (2, 9), (8, 288)]
def hk_97 : AH := (kk_39, rr_48, ii_10)
def rr_49 : Nat → Nat → Nat := setR rr_48 38 4 39
def hk_98 : AH := (kk_39, rr_49, ii_10)
def kk_40 : List (Nat × Nat) := [(6, 6), (3, 5), (9, 7), (8, 576), (8, 576), (5, 2), (11, 6), (2, 9), (8, 288), (8, 288), (8, 288), (8, 288), (8, 288), (2, 9), (8, 288), (8, 288), (8, 288), (8, 288), (8, 288), (2, 9), (8, 288), (8, 288), (8, 288), (8, 288), (8, 288), (2, 9), (8, 288), (8, 288), (8, 288), (8, 288), (8, 288), (2, 9), (8, 288), (8, 288), (8, 288), (8, 288), (8, 288), (2, 9), (8, 288), (8, 288)]
def hk_99 : AH := (kk_40, rr_49, ii_10)
def rr_50 : Nat → Nat → Nat := setR rr_49 38 5 40
def hk_100 : AH := (kk_40, rr_50, ii_10)
def kk_41 : List (Nat × Nat) := [(6, 6), (3, 5), (9, 7), (8, 576), (8, 576), (5, 2), (11, 6), (2, 9), (8, 288), (8, 288), (8, 288), (8, 288), (8, 288), (2, 9), (8, 288), (8, 288), (8, 288), (8, 288), (8, 288), (2, 9), (8, 288), (8, 288), (8, 288), (8, 288), (8, 288), (2, 9), (8, 288), (8, 288), (8, 288), (8, 288), (8, 288), (2, 9), (8, 288), (8, 288), (8, 288), (8, 288), (8, 288), (2, 9), (8, 288), (8, 288), (8, 288)]
def hk_101 : AH := (kk_41, rr_50, ii_10)
def rr_51 : Nat → Nat → Nat := setR rr_50 38 6 41
def hk_102 : AH := (kk_41, rr_51, ii_10)
def kk_42 : List (Nat × Nat) := [(6, 6), (3, 5), (9, 7), (8, 576), (8, 576), (5, 2), (11, 6), (2, 9), (8, 288), (8, 288), (8, 288), (8, 288), (8, 288), (2, 9), (8, 288), (8, 288), (8, 288), (8, 288), (8, 288), (2, 9), (8, 288), (8, 288), (8, 288), (8, 288), (8, 288), (2, 9), (8, 288), (8, 288), (8, 288), (8, 288), (8, 288), (2, 9), (8, 288), (8, 288), (8, 288), (8, 288), (8, 288), (2, 9), (8, 288), (8, 288), (8, 288), (8, 288)]
def hk_103 : AH := (kk_42, rr_51, ii_10)
def rr_52 : Nat → Nat → Nat := setR rr_51 38 7 42
def hk_104 : AH := (kk_42, rr_52, ii_10)
def kk_43 : List (Nat × Nat) := [(6, 6), (3, 5), (9, 7), (8, 576), (8, 576), (5, 2), (11, 6), (2, 9), (8, 288), (8, 288), (8, 288), (8, 288), (8, 288), (2, 9), (8, 288), (8, 288), (8, 288), (8, 288), (8, 288), (2, 9), (8, 288), (8, 288), (8, 288), (8, 288), (8, 288), (2, 9), (8, 288), (8, 288), (8, 288), (8, 288), (8, 288), (2, 9), (8, 288), (8, 288), (8, 288), (8, 288), (8, 288), (2, 9), (8, 288), (8, 288), (8, 288), (8, 288), (8, 288)]
def hk_105 : AH := (kk_43, rr_52, ii_10)
def rr_53 : Nat → Nat → Nat := setR rr_52 38 8 43
def hk_106 : AH := (kk_43, rr_53, ii_10)
def rr_54 : Nat → Nat → Nat := setR rr_53 7 5 38
def hk_107 : AH := (kk_43, rr_54, ii_10)
def kk_44 : List (Nat × Nat) := [(6, 6), (3, 5), (9, 7), (8, 576), (8, 576), (5, 2), (11, 6), (2, 9), (8, 288), (8, 288), (8, 288), (8, 288), (8, 288), (2, 9), (8, 288), (8, 288), (8, 288), (8, 288), (8, 288), (2, 9), (8, 288), (8, 288), (8, 288), (8, 288), (8, 288), (2, 9), (8, 288), (8, 288), (8, 288), (8, 288), (8, 288), (2, 9), (8, 288), (8, 288), (8, 288), (8, 288), (8, 288), (2, 9), (8, 288), (8, 288), (8, 288), (8, 288), (8, 288), (0, 6)]
def hk_108 : AH := (kk_44, rr_54, ii_10)
def rr_55 : Nat → Nat → Nat := setR rr_54 44 0 2
def hk_109 : AH := (kk_44, rr_55, ii_10)
def kk_45 : List (Nat × Nat) := [(6, 6), (3, 5), (9, 7), (8, 576), (8, 576), (5, 2), (11, 6), (2, 9), (8, 288), (8, 288), (8, 288), (8, 288), (8, 288), (2, 9), (8, 288), (8, 288), (8, 288), (8, 288), (8, 288), (2, 9), (8, 288), (8, 288), (8, 288), (8, 288), (8, 288), (2, 9), (8, 288), (8, 288), (8, 288), (8, 288), (8, 288), (2, 9), (8, 288), (8, 288), (8, 288), (8, 288), (8, 288), (2, 9), (8, 288), (8, 288), (8, 288), (8, 288), (8, 288), (0, 6), (9, 625)]
def hk_110 : AH := (kk_45, rr_55, ii_10)
def rr_56 : Nat → Nat → Nat := setR rr_55 44 1 45
def hk_111 : AH := (kk_45, rr_56, ii_10)
def kk_46 : List (Nat × Nat) := [(6, 6), (3, 5), (9, 7), (8, 576), (8, 576), (5, 2), (11, 6), (2, 9), (8, 288), (8, 288), (8, 288), (8, 288), (8, 288), (2, 9), (8, 288), (8, 288), (8, 288), (8, 288), (8, 288), (2, 9), (8, 288), (8, 288), (8, 288), (8, 288), (8, 288), (2, 9), (8, 288), (8, 288), (8, 288), (8, 288), (8, 288), (2, 9), (8, 288), (8, 288), (8, 288), (8, 288), (8, 288), (2, 9), (8, 288), (8, 288), (8, 288), (8, 288), (8, 288), (0, 6), (9, 625), (9, 625)]
def hk_112 : AH := (kk_46, rr_56, ii_10)
def rr_57 : Nat → Nat → Nat := setR rr_56 44 2 46
def hk_113 : AH := (kk_46, rr_57, ii_10)
def kk_47 : List (Nat × Nat) := [(6, 6), (3, 5), (9, 7), (8, 576), (8, 576), (5, 2), (11, 6), (2, 9), (8, 288), (8, 288), (8, 288), (8, 288), (8, 288), (2, 9), (8, 288), (8, 288), (8, 288), (8, 288), (8, 288), (2, 9), (8, 288), (8, 288), (8, 288), (8, 288), (8, 288), (2, 9), (8, 288), (8, 288), (8, 288), (8, 288), (8, 288), (2, 9), (8, 288), (8, 288), (8, 288), (8, 288), (8, 288), (2, 9), (8, 288), (8, 288), (8, 288), (8, 288), (8, 288), (0, 6), (9, 625), (9, 625), (9, 625)]
def hk_114 : AH := (kk_47, rr_57, ii_10)
def rr_58 : Nat → Nat → Nat := setR rr_57 44 3 47
def hk_115 : AH := (kk_47, rr_58, ii_10)
def kk_48 : List (Nat × Nat) := [(6, 6), (3, 5), (9, 7), (8, 576), (8, 576), (5, 2), (11, 6), (2, 9), (8, 288), (8, 288), (8, 288), (8, 288), (8, 288), (2, 9), (8, 288), (8, 288), (8, 288), (8, 288), (8, 288), (2, 9), (8, 288), (8, 288), (8, 288), (8, 288), (8, 288), (2, 9), (8, 288), (8, 288), (8, 288), (8, 288), (8, 288), (2, 9), (8, 288), (8, 288), (8, 288), (8, 288), (8, 288), (2, 9), (8, 288), (8, 288), (8, 288), (8, 288), (8, 288), (0, 6), (9, 625), (9, 625), (9, 625), (8, 625)]
def hk_116 : AH := (kk_48, rr_58, ii_10)
def rr_59 : Nat → Nat → Nat := setR rr_58 44 4 48
def hk_117 : AH := (kk_48, rr_59, ii_10)
def rr_60 : Nat → Nat → Nat := setR rr_59 1 3 44
def hk_118 : AH := (kk_48, rr_60, ii_10)
def kk_49 : List (Nat × Nat) := [(6, 6), (3, 5), (9, 7), (8, 576), (8, 576), (5, 2), (11, 6), (2, 9), (8, 288), (8, 288), (8, 288), (8, 288), (8, 288), (2, 9), (8, 288), (8, 288), (8, 288), (8, 288), (8, 288), (2, 9), (8, 288), (8, 288), (8, 288), (8, 288), (8, 288), (2, 9), (8, 288), (8, 288), (8, 288), (8, 288), (8, 288), (2, 9), (8, 288), (8, 288), (8, 288), (8, 288), (8, 288), (2, 9), (8, 288), (8, 288), (8, 288), (8, 288), (8, 288), (0, 6), (9, 625), (9, 625), (9, 625), (8, 625), (4, 4)]
def hk_119 : AH := (kk_49, rr_60, ii_10)
def ii_11 : Nat → Nat → Int := setO ii_10 49 (upI (ii_10 49) 1 8)
def hk_120 : AH := (kk_49, rr_60, ii_11)
def ii_12 : Nat → Nat → Int := setO ii_11 49 (upI (ii_11 49) 2 6)
def hk_121 : AH := (kk_49, rr_60, ii_12)
def ii_13 : Nat → Nat → Int := setO ii_12 49 (upI (ii_12 49) 3 1)
def hk_122 : AH := (kk_49, rr_60, ii_13)
def rr_61 : Nat → Nat → Nat := setR rr_60 49 0 2
def hk_123 : AH := (kk_49, rr_61, ii_13)
def rr_62 : Nat → Nat → Nat := setR rr_61 1 4 49
def hk_124 : AH := (kk_49, rr_62, ii_13)
def kk_50 : List (Nat × Nat) := [(6, 6), (3, 5), (9, 7), (8, 576), (8, 576), (5, 2), (11, 6), (2, 9), (8, 288), (8, 288), (8, 288), (8, 288), (8, 288), (2, 9), (8, 288), (8, 288), (8, 288), (8, 288), (8, 288), (2, 9), (8, 288), (8, 288), (8, 288), (8, 288), (8, 288), (2, 9), (8, 288), (8, 288), (8, 288), (8, 288), (8, 288), (2, 9), (8, 288), (8, 288), (8, 288), (8, 288), (8, 288), (2, 9), (8, 288), (8, 288), (8, 288), (8, 288), (8, 288), (0, 6), (9, 625), (9, 625), (9, 625), (8, 625), (4, 4), (1, 4)]
def hk_125 : AH := (kk_50, rr_62, ii_13)
def kk_51 : List (Nat × Nat) := [(6, 6), (3, 5), (9, 7), (8, 576), (8, 576), (5, 2), (11, 6), (2, 9), (8, 288), (8, 288), (8, 288), (8, 288), (8, 288), (2, 9), (8, 288), (8, 288), (8, 288), (8, 288), (8, 288), (2, 9), (8, 288), (8, 288), (8, 288), (8, 288), (8, 288), (2, 9), (8, 288), (8, 288), (8, 288), (8, 288), (8, 288), (2, 9), (8, 288), (8, 288), (8, 288), (8, 288), (8, 288), (2, 9), (8, 288), (8, 288), (8, 288), (8, 288), (8, 288), (0, 6), (9, 625), (9, 625), (9, 625), (8, 625), (4, 4), (1, 4), (10, 120)]
def hk_126 : AH := (kk_51, rr_62, ii_13)
def rr_63 : Nat → Nat → Nat := setR rr_62 50 0 51
def hk_127 : AH := (kk_51, rr_63, ii_13)
def rr_64 : Nat → Nat → Nat := setR rr_63 1 5 50
def hk_128 : AH := (kk_51, rr_64, ii_13)
theorem KS_1 {sc : Nat × (Nat → Int)} : Run sc 48 0 [some (Rf 2)] [] hk_2 = Run sc 48 19 [some (Rf 2)] [(I 7), (Rf 2)] hk_4 := by
  refine Eq.trans (b := Run sc 48 1 [some (Rf 2)] [(Rf 2)] hk_2) (R_aload_n mc_48 dX3_init_0 rfl) ?_
  refine Eq.trans (b := Run sc 48 4 [some (Rf 2)] [] hk_2) (R_objI mc_48 dX3_init_1 mo_48 ct_3_3 (by decide)) ?_
  refine Eq.trans (b := Run sc 48 5 [some (Rf 2)] [(Rf 2)] hk_2) (R_aload_n mc_48 dX3_init_4 rfl) ?_
  refine Eq.trans (b := Run sc 48 7 [some (Rf 2)] [(I 10), (Rf 2)] hk_2) (R_bipush mc_48 dX3_init_5 ⟨by decide, by decide⟩) ?_
  refine Eq.trans (b := Run sc 48 10 [some (Rf 2)] [] hk_3) ((R_putI mc_48 dX3_init_7 mo_48 ft_3_9 (by decide +kernel) (n := 5) rfl rfl (lo := (-2147483648)) (hi := 2147483647) rfl rfl).trans (bck_pos (by decide))) ?_
  refine Eq.trans (b := Run sc 48 11 [some (Rf 2)] [(Rf 2)] hk_3) (R_aload_n mc_48 dX3_init_10 rfl) ?_
  refine Eq.trans (b := Run sc 48 13 [some (Rf 2)] [(I 8), (Rf 2)] hk_3) (R_bipush mc_48 dX3_init_11 ⟨by decide, by decide⟩) ?_
  refine Eq.trans (b := Run sc 48 16 [some (Rf 2)] [] hk_4) ((R_putI mc_48 dX3_init_13 mo_48 ft_3_15 (by decide +kernel) (n := 5) rfl rfl (lo := (-2147483648)) (hi := 2147483647) rfl rfl).trans (bck_pos (by decide))) ?_
  refine Eq.trans (b := Run sc 48 17 [some (Rf 2)] [(Rf 2)] hk_4) (R_aload_n mc_48 dX3_init_16 rfl) ?_
  refine Eq.trans (b := Run sc 48 19 [some (Rf 2)] [(I 7), (Rf 2)] hk_4) (R_bipush mc_48 dX3_init_17 ⟨by decide, by decide⟩) ?_
  rfl
theorem KS_2 {sc : Nat × (Nat → Int)} : Run sc 48 19 [some (Rf 2)] [(I 7), (Rf 2)] hk_4 = Run sc 48 42 [some (Rf 2)] [] hk_10 := by
  refine Eq.trans (b := Run sc 48 21 [some (Rf 2)] [(Rf 3), (Rf 2)] hk_5) (R_newa_boolean mc_48 dX3_init_19 (by decide)) ?_
  refine Eq.trans (b := Run sc 48 24 [some (Rf 2)] [] hk_6) (R_putR mc_48 dX3_init_21 mo_48 ft_3_18 (by decide +kernel) (n := 5) rfl rfl (by decide)) ?_
  refine Eq.trans (b := Run sc 48 25 [some (Rf 2)] [(Rf 2)] hk_6) (R_aload_n mc_48 dX3_init_24 rfl) ?_
  refine Eq.trans (b := Run sc 48 28 [some (Rf 2)] [(I 576), (Rf 2)] hk_6) (R_sipush mc_48 dX3_init_25 ⟨by decide, by decide⟩) ?_
  refine Eq.trans (b := Run sc 48 30 [some (Rf 2)] [(Rf 4), (Rf 2)] hk_7) (R_newa_int mc_48 dX3_init_28 (by decide)) ?_
  refine Eq.trans (b := Run sc 48 33 [some (Rf 2)] [] hk_8) (R_putR mc_48 dX3_init_30 mo_48 ft_3_22 (by decide +kernel) (n := 5) rfl rfl (by decide)) ?_
  refine Eq.trans (b := Run sc 48 34 [some (Rf 2)] [(Rf 2)] hk_8) (R_aload_n mc_48 dX3_init_33 rfl) ?_
  refine Eq.trans (b := Run sc 48 37 [some (Rf 2)] [(I 576), (Rf 2)] hk_8) (R_sipush mc_48 dX3_init_34 ⟨by decide, by decide⟩) ?_
  refine Eq.trans (b := Run sc 48 39 [some (Rf 2)] [(Rf 5), (Rf 2)] hk_9) (R_newa_int mc_48 dX3_init_37 (by decide)) ?_
  refine Eq.trans (b := Run sc 48 42 [some (Rf 2)] [] hk_10) (R_putR mc_48 dX3_init_39 mo_48 ft_3_26 (by decide +kernel) (n := 5) rfl rfl (by decide)) ?_
  rfl
theorem KT_3 {sc : Nat × (Nat → Int)} : Run sc 48 0 [some (Rf 2)] [] hk_2 = some (none, hk_10) := by
  rw [KS_1, KS_2]
  exact R_return mc_48 dX3_init_42 rfl
theorem KS_4 {sc : Nat × (Nat → Int)} : Run sc 76 0 [some (Rf 1), none] [] hk_1 = Run sc 76 20 [some (Rf 1), none] [(Rf 6), (Rf 6), (Rf 1)] hk_12 := by
  refine Eq.trans (b := Run sc 76 1 [some (Rf 1), none] [(Rf 1)] hk_1) (R_aload_n mc_76 dX6_init_0 rfl) ?_
  refine Eq.trans (b := Run sc 76 4 [some (Rf 1), none] [] hk_1) (R_objI mc_76 dX6_init_1 mo_76 ct_6_1 (by decide)) ?_
  refine Eq.trans (b := Run sc 76 5 [some (Rf 1), none] [(Rf 1)] hk_1) (R_aload_n mc_76 dX6_init_4 rfl) ?_
  refine Eq.trans (b := Run sc 76 8 [some (Rf 1), none] [(Rf 2), (Rf 1)] hk_2) (R_new mc_76 dX6_init_5 mo_76 (o := 3) rfl) ?_
  refine Eq.trans (b := Run sc 76 9 [some (Rf 1), none] [(Rf 2), (Rf 2), (Rf 1)] hk_2) (R_dup mc_76 dX6_init_8) ?_
  refine Eq.trans (b := Run sc 76 12 [some (Rf 1), none] [(Rf 2), (Rf 1)] hk_10) ((R_invI mc_76 dX6_init_9 mo_76 ct_6_9 (Or.inl rfl) (by decide) (b := 2) (rest := [(Rf 2), (Rf 1)]) (lv2 := [some (Rf 2)]) rfl (by decide) rfl ⟨Nat.le_of_ble_eq_true rfl, Nat.le_of_ble_eq_true rfl⟩).trans (by rw [KT_3, aBind_some, pushR_none])) ?_
  refine Eq.trans (b := Run sc 76 15 [some (Rf 1), none] [] hk_11) (R_putR mc_76 dX6_init_12 mo_76 ft_6_10 (by decide +kernel) (n := 6) rfl rfl (by decide)) ?_
  refine Eq.trans (b := Run sc 76 16 [some (Rf 1), none] [(Rf 1)] hk_11) (R_aload_n mc_76 dX6_init_15 rfl) ?_
  refine Eq.trans (b := Run sc 76 19 [some (Rf 1), none] [(Rf 6), (Rf 1)] hk_12) (R_new mc_76 dX6_init_16 mo_76 (o := 5) rfl) ?_
  refine Eq.trans (b := Run sc 76 20 [some (Rf 1), none] [(Rf 6), (Rf 6), (Rf 1)] hk_12) (R_dup mc_76 dX6_init_19) ?_
  rfl
theorem KS_5 {sc : Nat × (Nat → Int)} : Run sc 73 0 [some (Rf 6)] [] hk_12 = Run sc 73 16 [some (Rf 6)] [] hk_14 := by
  refine Eq.trans (b := Run sc 73 1 [some (Rf 6)] [(Rf 6)] hk_12) (R_aload_n mc_73 dX5_init_0 rfl) ?_
  refine Eq.trans (b := Run sc 73 4 [some (Rf 6)] [] hk_12) (R_objI mc_73 dX5_init_1 mo_73 ct_5_1 (by decide)) ?_
  refine Eq.trans (b := Run sc 73 5 [some (Rf 6)] [(Rf 6)] hk_12) (R_aload_n mc_73 dX5_init_4 rfl) ?_
  refine Eq.trans (b := Run sc 73 7 [some (Rf 6)] [(I 60), (Rf 6)] hk_12) (R_bipush mc_73 dX5_init_5 ⟨by decide, by decide⟩) ?_
  refine Eq.trans (b := Run sc 73 10 [some (Rf 6)] [] hk_13) ((R_putI mc_73 dX5_init_7 mo_73 ft_5_7 (by decide +kernel) (n := 2) rfl rfl (lo := (-2147483648)) (hi := 2147483647) rfl rfl).trans (bck_pos (by decide))) ?_
  refine Eq.trans (b := Run sc 73 11 [some (Rf 6)] [(Rf 6)] hk_13) (R_aload_n mc_73 dX5_init_10 rfl) ?_
  refine Eq.trans (b := Run sc 73 13 [some (Rf 6)] [(I 30), (Rf 6)] hk_13) (R_bipush mc_73 dX5_init_11 ⟨by decide, by decide⟩) ?_
  refine Eq.trans (b := Run sc 73 16 [some (Rf 6)] [] hk_14) ((R_putI mc_73 dX5_init_13 mo_73 ft_5_13 (by decide +kernel) (n := 2) rfl rfl (lo := (-2147483648)) (hi := 2147483647) rfl rfl).trans (bck_pos (by decide))) ?_
  rfl
theorem KT_6 {sc : Nat × (Nat → Int)} : Run sc 73 0 [some (Rf 6)] [] hk_12 = some (none, hk_14) := by
  rw [KS_5]
  exact R_return mc_73 dX5_init_16 rfl
theorem KS_7 {sc : Nat × (Nat → Int)} : Run sc 76 20 [some (Rf 1), none] [(Rf 6), (Rf 6), (Rf 1)] hk_12 = Run sc 76 40 [some (Rf 1), some (I 0)] [(I 6), (I 0)] hk_17 := by
  refine Eq.trans (b := Run sc 76 23 [some (Rf 1), none] [(Rf 6), (Rf 1)] hk_14) ((R_invI mc_76 dX6_init_20 mo_76 ct_6_18 (Or.inr rfl) (by decide) (b := 6) (rest := [(Rf 6), (Rf 1)]) (lv2 := [some (Rf 6)]) rfl (by decide) rfl ⟨Nat.le_of_ble_eq_true rfl, Nat.le_of_ble_eq_true rfl⟩).trans (by rw [KT_6, aBind_some, pushR_none])) ?_
  refine Eq.trans (b := Run sc 76 26 [some (Rf 1), none] [] hk_15) (R_putR mc_76 dX6_init_23 mo_76 ft_6_19 (by decide +kernel) (n := 6) rfl rfl (by decide)) ?_
  refine Eq.trans (b := Run sc 76 27 [some (Rf 1), none] [(Rf 1)] hk_15) (R_aload_n mc_76 dX6_init_26 rfl) ?_
  refine Eq.trans (b := Run sc 76 29 [some (Rf 1), none] [(I 6), (Rf 1)] hk_15) (R_bipush mc_76 dX6_init_27 ⟨by decide, by decide⟩) ?_
  refine Eq.trans (b := Run sc 76 32 [some (Rf 1), none] [(Rf 7), (Rf 1)] hk_16) (R_anew mc_76 dX6_init_29 mo_76 rfl (by decide)) ?_
  refine Eq.trans (b := Run sc 76 35 [some (Rf 1), none] [] hk_17) (R_putR mc_76 dX6_init_32 mo_76 ft_6_25 (by decide +kernel) (n := 6) rfl rfl (by decide)) ?_
  refine Eq.trans (b := Run sc 76 36 [some (Rf 1), none] [(I 0)] hk_17) (R_iconst mc_76 dX6_init_35 ⟨by decide, by decide⟩) ?_
  refine Eq.trans (b := Run sc 76 37 [some (Rf 1), some (I 0)] [] hk_17) (R_istore_n mc_76 dX6_init_36 (Nat.le_of_ble_eq_true rfl)) ?_
  refine Eq.trans (b := Run sc 76 38 [some (Rf 1), some (I 0)] [(I 0)] hk_17) (R_iload_n mc_76 dX6_init_37 rfl) ?_
  refine Eq.trans (b := Run sc 76 40 [some (Rf 1), some (I 0)] [(I 6), (I 0)] hk_17) (R_bipush mc_76 dX6_init_38 ⟨by decide, by decide⟩) ?_
  rfl
theorem KS_8 {sc : Nat × (Nat → Int)} : Run sc 76 40 [some (Rf 1), some (I 0)] [(I 6), (I 0)] hk_17 = Run sc 76 60 [some (Rf 1), some (I 0)] [(Rf 6), (Rf 2), (Rf 8), (Rf 8), (I 0), (Rf 7)] hk_18 := by
  refine Eq.trans (b := Run sc 76 43 [some (Rf 1), some (I 0)] [] hk_17) ((R_icmp_ge mc_76 dX6_init_40 (t := 73) rfl).trans (if_pos (by decide))) ?_
  refine Eq.trans (b := Run sc 76 44 [some (Rf 1), some (I 0)] [(Rf 1)] hk_17) (R_aload_n mc_76 dX6_init_43 rfl) ?_
  refine Eq.trans (b := Run sc 76 47 [some (Rf 1), some (I 0)] [(Rf 7)] hk_17) (R_getR mc_76 dX6_init_44 mo_76 ft_6_25 (n := 6) rfl rfl (r := 7) rfl (by decide)) ?_
  refine Eq.trans (b := Run sc 76 48 [some (Rf 1), some (I 0)] [(I 0), (Rf 7)] hk_17) (R_iload_n mc_76 dX6_init_47 rfl) ?_
  refine Eq.trans (b := Run sc 76 51 [some (Rf 1), some (I 0)] [(Rf 8), (I 0), (Rf 7)] hk_18) (R_new mc_76 dX6_init_48 mo_76 (o := 2) rfl) ?_
  refine Eq.trans (b := Run sc 76 52 [some (Rf 1), some (I 0)] [(Rf 8), (Rf 8), (I 0), (Rf 7)] hk_18) (R_dup mc_76 dX6_init_51) ?_
  refine Eq.trans (b := Run sc 76 53 [some (Rf 1), some (I 0)] [(Rf 1), (Rf 8), (Rf 8), (I 0), (Rf 7)] hk_18) (R_aload_n mc_76 dX6_init_52 rfl) ?_
  refine Eq.trans (b := Run sc 76 56 [some (Rf 1), some (I 0)] [(Rf 2), (Rf 8), (Rf 8), (I 0), (Rf 7)] hk_18) (R_getR mc_76 dX6_init_53 mo_76 ft_6_10 (n := 6) rfl rfl (r := 2) rfl (by decide)) ?_
  refine Eq.trans (b := Run sc 76 57 [some (Rf 1), some (I 0)] [(Rf 1), (Rf 2), (Rf 8), (Rf 8), (I 0), (Rf 7)] hk_18) (R_aload_n mc_76 dX6_init_56 rfl) ?_
  refine Eq.trans (b := Run sc 76 60 [some (Rf 1), some (I 0)] [(Rf 6), (Rf 2), (Rf 8), (Rf 8), (I 0), (Rf 7)] hk_18) (R_getR mc_76 dX6_init_57 mo_76 ft_6_19 (n := 6) rfl rfl (r := 6) rfl (by decide)) ?_
  rfl
theorem KS_9 {sc : Nat × (Nat → Int)} : Run sc 29 0 [some (Rf 8), some (Rf 2), some (Rf 6), some (I 1)] [] hk_18 = Run sc 29 16 [some (Rf 8), some (Rf 2), some (Rf 6), some (I 1)] [(I 1), (Rf 8)] hk_20 := by
  refine Eq.trans (b := Run sc 29 1 [some (Rf 8), some (Rf 2), some (Rf 6), some (I 1)] [(Rf 8)] hk_18) (R_aload_n mc_29 dX2_init_0 rfl) ?_
  refine Eq.trans (b := Run sc 29 4 [some (Rf 8), some (Rf 2), some (Rf 6), some (I 1)] [] hk_18) (R_objI mc_29 dX2_init_1 mo_29 ct_2_3 (by decide)) ?_
  refine Eq.trans (b := Run sc 29 5 [some (Rf 8), some (Rf 2), some (Rf 6), some (I 1)] [(Rf 8)] hk_18) (R_aload_n mc_29 dX2_init_4 rfl) ?_
  refine Eq.trans (b := Run sc 29 6 [some (Rf 8), some (Rf 2), some (Rf 6), some (I 1)] [(Rf 2), (Rf 8)] hk_18) (R_aload_n mc_29 dX2_init_5 rfl) ?_
  refine Eq.trans (b := Run sc 29 9 [some (Rf 8), some (Rf 2), some (Rf 6), some (I 1)] [] hk_19) (R_putR mc_29 dX2_init_6 mo_29 ft_2_9 (by decide +kernel) (n := 9) rfl rfl (by decide)) ?_
  refine Eq.trans (b := Run sc 29 10 [some (Rf 8), some (Rf 2), some (Rf 6), some (I 1)] [(Rf 8)] hk_19) (R_aload_n mc_29 dX2_init_9 rfl) ?_
  refine Eq.trans (b := Run sc 29 11 [some (Rf 8), some (Rf 2), some (Rf 6), some (I 1)] [(Rf 6), (Rf 8)] hk_19) (R_aload_n mc_29 dX2_init_10 rfl) ?_
  refine Eq.trans (b := Run sc 29 14 [some (Rf 8), some (Rf 2), some (Rf 6), some (I 1)] [] hk_20) (R_putR mc_29 dX2_init_11 mo_29 ft_2_15 (by decide +kernel) (n := 9) rfl rfl (by decide)) ?_
  refine Eq.trans (b := Run sc 29 15 [some (Rf 8), some (Rf 2), some (Rf 6), some (I 1)] [(Rf 8)] hk_20) (R_aload_n mc_29 dX2_init_14 rfl) ?_
  refine Eq.trans (b := Run sc 29 16 [some (Rf 8), some (Rf 2), some (Rf 6), some (I 1)] [(I 1), (Rf 8)] hk_20) (R_iload_n mc_29 dX2_init_15 rfl) ?_
  rfl
theorem KS_10 {sc : Nat × (Nat → Int)} : Run sc 29 16 [some (Rf 8), some (Rf 2), some (Rf 6), some (I 1)] [(I 1), (Rf 8)] hk_20 = Run sc 29 38 [some (Rf 8), some (Rf 2), some (Rf 6), some (I 1)] [(Rf 8)] hk_25 := by
  refine Eq.trans (b := Run sc 29 19 [some (Rf 8), some (Rf 2), some (Rf 6), some (I 1)] [] hk_21) ((R_putI mc_29 dX2_init_16 mo_29 ft_2_19 (by decide +kernel) (n := 9) rfl rfl (lo := (-2147483648)) (hi := 2147483647) rfl rfl).trans (bck_pos (by decide))) ?_
  refine Eq.trans (b := Run sc 29 20 [some (Rf 8), some (Rf 2), some (Rf 6), some (I 1)] [(Rf 8)] hk_21) (R_aload_n mc_29 dX2_init_19 rfl) ?_
  refine Eq.trans (b := Run sc 29 23 [some (Rf 8), some (Rf 2), some (Rf 6), some (I 1)] [(I 288), (Rf 8)] hk_21) (R_sipush mc_29 dX2_init_20 ⟨by decide, by decide⟩) ?_
  refine Eq.trans (b := Run sc 29 25 [some (Rf 8), some (Rf 2), some (Rf 6), some (I 1)] [(Rf 9), (Rf 8)] hk_22) (R_newa_int mc_29 dX2_init_23 (by decide)) ?_
  refine Eq.trans (b := Run sc 29 28 [some (Rf 8), some (Rf 2), some (Rf 6), some (I 1)] [] hk_23) (R_putR mc_29 dX2_init_25 mo_29 ft_2_23 (by decide +kernel) (n := 9) rfl rfl (by decide)) ?_
  refine Eq.trans (b := Run sc 29 29 [some (Rf 8), some (Rf 2), some (Rf 6), some (I 1)] [(Rf 8)] hk_23) (R_aload_n mc_29 dX2_init_28 rfl) ?_
  refine Eq.trans (b := Run sc 29 32 [some (Rf 8), some (Rf 2), some (Rf 6), some (I 1)] [(I 288), (Rf 8)] hk_23) (R_sipush mc_29 dX2_init_29 ⟨by decide, by decide⟩) ?_
  refine Eq.trans (b := Run sc 29 34 [some (Rf 8), some (Rf 2), some (Rf 6), some (I 1)] [(Rf 10), (Rf 8)] hk_24) (R_newa_int mc_29 dX2_init_32 (by decide)) ?_
  refine Eq.trans (b := Run sc 29 37 [some (Rf 8), some (Rf 2), some (Rf 6), some (I 1)] [] hk_25) (R_putR mc_29 dX2_init_34 mo_29 ft_2_27 (by decide +kernel) (n := 9) rfl rfl (by decide)) ?_
  refine Eq.trans (b := Run sc 29 38 [some (Rf 8), some (Rf 2), some (Rf 6), some (I 1)] [(Rf 8)] hk_25) (R_aload_n mc_29 dX2_init_37 rfl) ?_
  rfl
theorem KS_11 {sc : Nat × (Nat → Int)} : Run sc 29 38 [some (Rf 8), some (Rf 2), some (Rf 6), some (I 1)] [(Rf 8)] hk_25 = Run sc 29 61 [some (Rf 8), some (Rf 2), some (Rf 6), some (I 1)] [(Rf 13), (Rf 8)] hk_30 := by
  refine Eq.trans (b := Run sc 29 41 [some (Rf 8), some (Rf 2), some (Rf 6), some (I 1)] [(I 288), (Rf 8)] hk_25) (R_sipush mc_29 dX2_init_38 ⟨by decide, by decide⟩) ?_
  refine Eq.trans (b := Run sc 29 43 [some (Rf 8), some (Rf 2), some (Rf 6), some (I 1)] [(Rf 11), (Rf 8)] hk_26) (R_newa_int mc_29 dX2_init_41 (by decide)) ?_
  refine Eq.trans (b := Run sc 29 46 [some (Rf 8), some (Rf 2), some (Rf 6), some (I 1)] [] hk_27) (R_putR mc_29 dX2_init_43 mo_29 ft_2_30 (by decide +kernel) (n := 9) rfl rfl (by decide)) ?_
  refine Eq.trans (b := Run sc 29 47 [some (Rf 8), some (Rf 2), some (Rf 6), some (I 1)] [(Rf 8)] hk_27) (R_aload_n mc_29 dX2_init_46 rfl) ?_
  refine Eq.trans (b := Run sc 29 50 [some (Rf 8), some (Rf 2), some (Rf 6), some (I 1)] [(I 288), (Rf 8)] hk_27) (R_sipush mc_29 dX2_init_47 ⟨by decide, by decide⟩) ?_
  refine Eq.trans (b := Run sc 29 52 [some (Rf 8), some (Rf 2), some (Rf 6), some (I 1)] [(Rf 12), (Rf 8)] hk_28) (R_newa_int mc_29 dX2_init_50 (by decide)) ?_
  refine Eq.trans (b := Run sc 29 55 [some (Rf 8), some (Rf 2), some (Rf 6), some (I 1)] [] hk_29) (R_putR mc_29 dX2_init_52 mo_29 ft_2_33 (by decide +kernel) (n := 9) rfl rfl (by decide)) ?_
  refine Eq.trans (b := Run sc 29 56 [some (Rf 8), some (Rf 2), some (Rf 6), some (I 1)] [(Rf 8)] hk_29) (R_aload_n mc_29 dX2_init_55 rfl) ?_
  refine Eq.trans (b := Run sc 29 59 [some (Rf 8), some (Rf 2), some (Rf 6), some (I 1)] [(I 288), (Rf 8)] hk_29) (R_sipush mc_29 dX2_init_56 ⟨by decide, by decide⟩) ?_
  refine Eq.trans (b := Run sc 29 61 [some (Rf 8), some (Rf 2), some (Rf 6), some (I 1)] [(Rf 13), (Rf 8)] hk_30) (R_newa_int mc_29 dX2_init_59 (by decide)) ?_
  rfl
theorem KS_12 {sc : Nat × (Nat → Int)} : Run sc 29 61 [some (Rf 8), some (Rf 2), some (Rf 6), some (I 1)] [(Rf 13), (Rf 8)] hk_30 = Run sc 29 64 [some (Rf 8), some (Rf 2), some (Rf 6), some (I 1)] [] hk_31 := by
  refine Eq.trans (b := Run sc 29 64 [some (Rf 8), some (Rf 2), some (Rf 6), some (I 1)] [] hk_31) (R_putR mc_29 dX2_init_61 mo_29 ft_2_36 (by decide +kernel) (n := 9) rfl rfl (by decide)) ?_
  rfl
theorem KT_13 {sc : Nat × (Nat → Int)} : Run sc 29 0 [some (Rf 8), some (Rf 2), some (Rf 6), some (I 1)] [] hk_18 = some (none, hk_31) := by
  rw [KS_9, KS_10, KS_11, KS_12]
  exact R_return mc_29 dX2_init_64 rfl
theorem KS_14 {sc : Nat × (Nat → Int)} : Run sc 76 60 [some (Rf 1), some (I 0)] [(Rf 6), (Rf 2), (Rf 8), (Rf 8), (I 0), (Rf 7)] hk_18 = Run sc 76 43 [some (Rf 1), some (I 1)] [] hk_32 := by
  refine Eq.trans (b := Run sc 76 61 [some (Rf 1), some (I 0)] [(I 0), (Rf 6), (Rf 2), (Rf 8), (Rf 8), (I 0), (Rf 7)] hk_18) (R_iload_n mc_76 dX6_init_60 rfl) ?_
  refine Eq.trans (b := Run sc 76 62 [some (Rf 1), some (I 0)] [(I 1), (I 0), (Rf 6), (Rf 2), (Rf 8), (Rf 8), (I 0), (Rf 7)] hk_18) (R_iconst mc_76 dX6_init_61 ⟨by decide, by decide⟩) ?_
  refine Eq.trans (b := Run sc 76 63 [some (Rf 1), some (I 0)] [(I 1), (Rf 6), (Rf 2), (Rf 8), (Rf 8), (I 0), (Rf 7)] hk_18) ((R_iadd mc_76 dX6_init_62).trans (chk_pos (by decide))) ?_
  refine Eq.trans (b := Run sc 76 66 [some (Rf 1), some (I 0)] [(Rf 8), (I 0), (Rf 7)] hk_31) ((R_invI mc_76 dX6_init_63 mo_76 ct_6_29 (Or.inl rfl) (by decide) (b := 8) (rest := [(Rf 8), (I 0), (Rf 7)]) (lv2 := [some (Rf 8), some (Rf 2), some (Rf 6), some (I 1)]) rfl (by decide) rfl ⟨Nat.le_of_ble_eq_true rfl, Nat.le_of_ble_eq_true rfl⟩).trans (by rw [KT_13, aBind_some, pushR_none])) ?_
  refine Eq.trans (b := Run sc 76 67 [some (Rf 1), some (I 0)] [] hk_32) ((R_aastore mc_76 dX6_init_66 (m := 9) rfl (n := 6) rfl).trans (bck_pos (by decide))) ?_
  refine Eq.trans (b := Run sc 76 70 [some (Rf 1), some (I 1)] [] hk_32) ((R_iinc mc_76 dX6_init_67 rfl).trans (chk_pos (by decide))) ?_
  refine Eq.trans (b := Run sc 76 37 [some (Rf 1), some (I 1)] [] hk_32) (R_goto mc_76 dX6_init_70 (t := 37) rfl) ?_
  refine Eq.trans (b := Run sc 76 38 [some (Rf 1), some (I 1)] [(I 1)] hk_32) (R_iload_n mc_76 dX6_init_37 rfl) ?_
  refine Eq.trans (b := Run sc 76 40 [some (Rf 1), some (I 1)] [(I 6), (I 1)] hk_32) (R_bipush mc_76 dX6_init_38 ⟨by decide, by decide⟩) ?_
  refine Eq.trans (b := Run sc 76 43 [some (Rf 1), some (I 1)] [] hk_32) ((R_icmp_ge mc_76 dX6_init_40 (t := 73) rfl).trans (if_pos (by decide))) ?_
  rfl
theorem KS_15 {sc : Nat × (Nat → Int)} : Run sc 76 43 [some (Rf 1), some (I 1)] [] hk_32 = Run sc 76 61 [some (Rf 1), some (I 1)] [(I 1), (Rf 6), (Rf 2), (Rf 14), (Rf 14), (I 1), (Rf 7)] hk_33 := by
  refine Eq.trans (b := Run sc 76 44 [some (Rf 1), some (I 1)] [(Rf 1)] hk_32) (R_aload_n mc_76 dX6_init_43 rfl) ?_
  refine Eq.trans (b := Run sc 76 47 [some (Rf 1), some (I 1)] [(Rf 7)] hk_32) (R_getR mc_76 dX6_init_44 mo_76 ft_6_25 (n := 6) rfl rfl (r := 7) rfl (by decide)) ?_
  refine Eq.trans (b := Run sc 76 48 [some (Rf 1), some (I 1)] [(I 1), (Rf 7)] hk_32) (R_iload_n mc_76 dX6_init_47 rfl) ?_
  refine Eq.trans (b := Run sc 76 51 [some (Rf 1), some (I 1)] [(Rf 14), (I 1), (Rf 7)] hk_33) (R_new mc_76 dX6_init_48 mo_76 (o := 2) rfl) ?_
  refine Eq.trans (b := Run sc 76 52 [some (Rf 1), some (I 1)] [(Rf 14), (Rf 14), (I 1), (Rf 7)] hk_33) (R_dup mc_76 dX6_init_51) ?_
  refine Eq.trans (b := Run sc 76 53 [some (Rf 1), some (I 1)] [(Rf 1), (Rf 14), (Rf 14), (I 1), (Rf 7)] hk_33) (R_aload_n mc_76 dX6_init_52 rfl) ?_
  refine Eq.trans (b := Run sc 76 56 [some (Rf 1), some (I 1)] [(Rf 2), (Rf 14), (Rf 14), (I 1), (Rf 7)] hk_33) (R_getR mc_76 dX6_init_53 mo_76 ft_6_10 (n := 6) rfl rfl (r := 2) rfl (by decide)) ?_
  refine Eq.trans (b := Run sc 76 57 [some (Rf 1), some (I 1)] [(Rf 1), (Rf 2), (Rf 14), (Rf 14), (I 1), (Rf 7)] hk_33) (R_aload_n mc_76 dX6_init_56 rfl) ?_
  refine Eq.trans (b := Run sc 76 60 [some (Rf 1), some (I 1)] [(Rf 6), (Rf 2), (Rf 14), (Rf 14), (I 1), (Rf 7)] hk_33) (R_getR mc_76 dX6_init_57 mo_76 ft_6_19 (n := 6) rfl rfl (r := 6) rfl (by decide)) ?_
  refine Eq.trans (b := Run sc 76 61 [some (Rf 1), some (I 1)] [(I 1), (Rf 6), (Rf 2), (Rf 14), (Rf 14), (I 1), (Rf 7)] hk_33) (R_iload_n mc_76 dX6_init_60 rfl) ?_
  rfl
theorem KS_16 {sc : Nat × (Nat → Int)} : Run sc 29 0 [some (Rf 14), some (Rf 2), some (Rf 6), some (I 2)] [] hk_33 = Run sc 29 16 [some (Rf 14), some (Rf 2), some (Rf 6), some (I 2)] [(I 2), (Rf 14)] hk_35 := by
  refine Eq.trans (b := Run sc 29 1 [some (Rf 14), some (Rf 2), some (Rf 6), some (I 2)] [(Rf 14)] hk_33) (R_aload_n mc_29 dX2_init_0 rfl) ?_
  refine Eq.trans (b := Run sc 29 4 [some (Rf 14), some (Rf 2), some (Rf 6), some (I 2)] [] hk_33) (R_objI mc_29 dX2_init_1 mo_29 ct_2_3 (by decide)) ?_
  refine Eq.trans (b := Run sc 29 5 [some (Rf 14), some (Rf 2), some (Rf 6), some (I 2)] [(Rf 14)] hk_33) (R_aload_n mc_29 dX2_init_4 rfl) ?_
  refine Eq.trans (b := Run sc 29 6 [some (Rf 14), some (Rf 2), some (Rf 6), some (I 2)] [(Rf 2), (Rf 14)] hk_33) (R_aload_n mc_29 dX2_init_5 rfl) ?_
  refine Eq.trans (b := Run sc 29 9 [some (Rf 14), some (Rf 2), some (Rf 6), some (I 2)] [] hk_34) (R_putR mc_29 dX2_init_6 mo_29 ft_2_9 (by decide +kernel) (n := 9) rfl rfl (by decide)) ?_
  refine Eq.trans (b := Run sc 29 10 [some (Rf 14), some (Rf 2), some (Rf 6), some (I 2)] [(Rf 14)] hk_34) (R_aload_n mc_29 dX2_init_9 rfl) ?_
  refine Eq.trans (b := Run sc 29 11 [some (Rf 14), some (Rf 2), some (Rf 6), some (I 2)] [(Rf 6), (Rf 14)] hk_34) (R_aload_n mc_29 dX2_init_10 rfl) ?_
  refine Eq.trans (b := Run sc 29 14 [some (Rf 14), some (Rf 2), some (Rf 6), some (I 2)] [] hk_35) (R_putR mc_29 dX2_init_11 mo_29 ft_2_15 (by decide +kernel) (n := 9) rfl rfl (by decide)) ?_
  refine Eq.trans (b := Run sc 29 15 [some (Rf 14), some (Rf 2), some (Rf 6), some (I 2)] [(Rf 14)] hk_35) (R_aload_n mc_29 dX2_init_14 rfl) ?_
  refine Eq.trans (b := Run sc 29 16 [some (Rf 14), some (Rf 2), some (Rf 6), some (I 2)] [(I 2), (Rf 14)] hk_35) (R_iload_n mc_29 dX2_init_15 rfl) ?_
  rfl
theorem KS_17 {sc : Nat × (Nat → Int)} : Run sc 29 16 [some (Rf 14), some (Rf 2), some (Rf 6), some (I 2)] [(I 2), (Rf 14)] hk_35 = Run sc 29 38 [some (Rf 14), some (Rf 2), some (Rf 6), some (I 2)] [(Rf 14)] hk_40 := by
  refine Eq.trans (b := Run sc 29 19 [some (Rf 14), some (Rf 2), some (Rf 6), some (I 2)] [] hk_36) ((R_putI mc_29 dX2_init_16 mo_29 ft_2_19 (by decide +kernel) (n := 9) rfl rfl (lo := (-2147483648)) (hi := 2147483647) rfl rfl).trans (bck_pos (by decide))) ?_
  refine Eq.trans (b := Run sc 29 20 [some (Rf 14), some (Rf 2), some (Rf 6), some (I 2)] [(Rf 14)] hk_36) (R_aload_n mc_29 dX2_init_19 rfl) ?_
  refine Eq.trans (b := Run sc 29 23 [some (Rf 14), some (Rf 2), some (Rf 6), some (I 2)] [(I 288), (Rf 14)] hk_36) (R_sipush mc_29 dX2_init_20 ⟨by decide, by decide⟩) ?_
  refine Eq.trans (b := Run sc 29 25 [some (Rf 14), some (Rf 2), some (Rf 6), some (I 2)] [(Rf 15), (Rf 14)] hk_37) (R_newa_int mc_29 dX2_init_23 (by decide)) ?_
  refine Eq.trans (b := Run sc 29 28 [some (Rf 14), some (Rf 2), some (Rf 6), some (I 2)] [] hk_38) (R_putR mc_29 dX2_init_25 mo_29 ft_2_23 (by decide +kernel) (n := 9) rfl rfl (by decide)) ?_
  refine Eq.trans (b := Run sc 29 29 [some (Rf 14), some (Rf 2), some (Rf 6), some (I 2)] [(Rf 14)] hk_38) (R_aload_n mc_29 dX2_init_28 rfl) ?_
  refine Eq.trans (b := Run sc 29 32 [some (Rf 14), some (Rf 2), some (Rf 6), some (I 2)] [(I 288), (Rf 14)] hk_38) (R_sipush mc_29 dX2_init_29 ⟨by decide, by decide⟩) ?_
  refine Eq.trans (b := Run sc 29 34 [some (Rf 14), some (Rf 2), some (Rf 6), some (I 2)] [(Rf 16), (Rf 14)] hk_39) (R_newa_int mc_29 dX2_init_32 (by decide)) ?_
  refine Eq.trans (b := Run sc 29 37 [some (Rf 14), some (Rf 2), some (Rf 6), some (I 2)] [] hk_40) (R_putR mc_29 dX2_init_34 mo_29 ft_2_27 (by decide +kernel) (n := 9) rfl rfl (by decide)) ?_
  refine Eq.trans (b := Run sc 29 38 [some (Rf 14), some (Rf 2), some (Rf 6), some (I 2)] [(Rf 14)] hk_40) (R_aload_n mc_29 dX2_init_37 rfl) ?_
  rfl
theorem KS_18 {sc : Nat × (Nat → Int)} : Run sc 29 38 [some (Rf 14), some (Rf 2), some (Rf 6), some (I 2)] [(Rf 14)] hk_40 = Run sc 29 61 [some (Rf 14), some (Rf 2), some (Rf 6), some (I 2)] [(Rf 19), (Rf 14)] hk_45 := by
  refine Eq.trans (b := Run sc 29 41 [some (Rf 14), some (Rf 2), some (Rf 6), some (I 2)] [(I 288), (Rf 14)] hk_40) (R_sipush mc_29 dX2_init_38 ⟨by decide, by decide⟩) ?_
  refine Eq.trans (b := Run sc 29 43 [some (Rf 14), some (Rf 2), some (Rf 6), some (I 2)] [(Rf 17), (Rf 14)] hk_41) (R_newa_int mc_29 dX2_init_41 (by decide)) ?_
  refine Eq.trans (b := Run sc 29 46 [some (Rf 14), some (Rf 2), some (Rf 6), some (I 2)] [] hk_42) (R_putR mc_29 dX2_init_43 mo_29 ft_2_30 (by decide +kernel) (n := 9) rfl rfl (by decide)) ?_
  refine Eq.trans (b := Run sc 29 47 [some (Rf 14), some (Rf 2), some (Rf 6), some (I 2)] [(Rf 14)] hk_42) (R_aload_n mc_29 dX2_init_46 rfl) ?_
  refine Eq.trans (b := Run sc 29 50 [some (Rf 14), some (Rf 2), some (Rf 6), some (I 2)] [(I 288), (Rf 14)] hk_42) (R_sipush mc_29 dX2_init_47 ⟨by decide, by decide⟩) ?_
  refine Eq.trans (b := Run sc 29 52 [some (Rf 14), some (Rf 2), some (Rf 6), some (I 2)] [(Rf 18), (Rf 14)] hk_43) (R_newa_int mc_29 dX2_init_50 (by decide)) ?_
  refine Eq.trans (b := Run sc 29 55 [some (Rf 14), some (Rf 2), some (Rf 6), some (I 2)] [] hk_44) (R_putR mc_29 dX2_init_52 mo_29 ft_2_33 (by decide +kernel) (n := 9) rfl rfl (by decide)) ?_
  refine Eq.trans (b := Run sc 29 56 [some (Rf 14), some (Rf 2), some (Rf 6), some (I 2)] [(Rf 14)] hk_44) (R_aload_n mc_29 dX2_init_55 rfl) ?_
  refine Eq.trans (b := Run sc 29 59 [some (Rf 14), some (Rf 2), some (Rf 6), some (I 2)] [(I 288), (Rf 14)] hk_44) (R_sipush mc_29 dX2_init_56 ⟨by decide, by decide⟩) ?_
  refine Eq.trans (b := Run sc 29 61 [some (Rf 14), some (Rf 2), some (Rf 6), some (I 2)] [(Rf 19), (Rf 14)] hk_45) (R_newa_int mc_29 dX2_init_59 (by decide)) ?_
  rfl
theorem KS_19 {sc : Nat × (Nat → Int)} : Run sc 29 61 [some (Rf 14), some (Rf 2), some (Rf 6), some (I 2)] [(Rf 19), (Rf 14)] hk_45 = Run sc 29 64 [some (Rf 14), some (Rf 2), some (Rf 6), some (I 2)] [] hk_46 := by
  refine Eq.trans (b := Run sc 29 64 [some (Rf 14), some (Rf 2), some (Rf 6), some (I 2)] [] hk_46) (R_putR mc_29 dX2_init_61 mo_29 ft_2_36 (by decide +kernel) (n := 9) rfl rfl (by decide)) ?_
  rfl
theorem KT_20 {sc : Nat × (Nat → Int)} : Run sc 29 0 [some (Rf 14), some (Rf 2), some (Rf 6), some (I 2)] [] hk_33 = some (none, hk_46) := by
  rw [KS_16, KS_17, KS_18, KS_19]
  exact R_return mc_29 dX2_init_64 rfl
theorem KS_21 {sc : Nat × (Nat → Int)} : Run sc 76 61 [some (Rf 1), some (I 1)] [(I 1), (Rf 6), (Rf 2), (Rf 14), (Rf 14), (I 1), (Rf 7)] hk_33 = Run sc 76 44 [some (Rf 1), some (I 2)] [(Rf 1)] hk_47 := by
  refine Eq.trans (b := Run sc 76 62 [some (Rf 1), some (I 1)] [(I 1), (I 1), (Rf 6), (Rf 2), (Rf 14), (Rf 14), (I 1), (Rf 7)] hk_33) (R_iconst mc_76 dX6_init_61 ⟨by decide, by decide⟩) ?_
  refine Eq.trans (b := Run sc 76 63 [some (Rf 1), some (I 1)] [(I 2), (Rf 6), (Rf 2), (Rf 14), (Rf 14), (I 1), (Rf 7)] hk_33) ((R_iadd mc_76 dX6_init_62).trans (chk_pos (by decide))) ?_
  refine Eq.trans (b := Run sc 76 66 [some (Rf 1), some (I 1)] [(Rf 14), (I 1), (Rf 7)] hk_46) ((R_invI mc_76 dX6_init_63 mo_76 ct_6_29 (Or.inl rfl) (by decide) (b := 14) (rest := [(Rf 14), (I 1), (Rf 7)]) (lv2 := [some (Rf 14), some (Rf 2), some (Rf 6), some (I 2)]) rfl (by decide) rfl ⟨Nat.le_of_ble_eq_true rfl, Nat.le_of_ble_eq_true rfl⟩).trans (by rw [KT_20, aBind_some, pushR_none])) ?_
  refine Eq.trans (b := Run sc 76 67 [some (Rf 1), some (I 1)] [] hk_47) ((R_aastore mc_76 dX6_init_66 (m := 9) rfl (n := 6) rfl).trans (bck_pos (by decide))) ?_
  refine Eq.trans (b := Run sc 76 70 [some (Rf 1), some (I 2)] [] hk_47) ((R_iinc mc_76 dX6_init_67 rfl).trans (chk_pos (by decide))) ?_
  refine Eq.trans (b := Run sc 76 37 [some (Rf 1), some (I 2)] [] hk_47) (R_goto mc_76 dX6_init_70 (t := 37) rfl) ?_
  refine Eq.trans (b := Run sc 76 38 [some (Rf 1), some (I 2)] [(I 2)] hk_47) (R_iload_n mc_76 dX6_init_37 rfl) ?_
  refine Eq.trans (b := Run sc 76 40 [some (Rf 1), some (I 2)] [(I 6), (I 2)] hk_47) (R_bipush mc_76 dX6_init_38 ⟨by decide, by decide⟩) ?_
  refine Eq.trans (b := Run sc 76 43 [some (Rf 1), some (I 2)] [] hk_47) ((R_icmp_ge mc_76 dX6_init_40 (t := 73) rfl).trans (if_pos (by decide))) ?_
  refine Eq.trans (b := Run sc 76 44 [some (Rf 1), some (I 2)] [(Rf 1)] hk_47) (R_aload_n mc_76 dX6_init_43 rfl) ?_
  rfl
theorem KS_22 {sc : Nat × (Nat → Int)} : Run sc 76 44 [some (Rf 1), some (I 2)] [(Rf 1)] hk_47 = Run sc 76 62 [some (Rf 1), some (I 2)] [(I 1), (I 2), (Rf 6), (Rf 2), (Rf 20), (Rf 20), (I 2), (Rf 7)] hk_48 := by
  refine Eq.trans (b := Run sc 76 47 [some (Rf 1), some (I 2)] [(Rf 7)] hk_47) (R_getR mc_76 dX6_init_44 mo_76 ft_6_25 (n := 6) rfl rfl (r := 7) rfl (by decide)) ?_
  refine Eq.trans (b := Run sc 76 48 [some (Rf 1), some (I 2)] [(I 2), (Rf 7)] hk_47) (R_iload_n mc_76 dX6_init_47 rfl) ?_
  refine Eq.trans (b := Run sc 76 51 [some (Rf 1), some (I 2)] [(Rf 20), (I 2), (Rf 7)] hk_48) (R_new mc_76 dX6_init_48 mo_76 (o := 2) rfl) ?_
  refine Eq.trans (b := Run sc 76 52 [some (Rf 1), some (I 2)] [(Rf 20), (Rf 20), (I 2), (Rf 7)] hk_48) (R_dup mc_76 dX6_init_51) ?_
  refine Eq.trans (b := Run sc 76 53 [some (Rf 1), some (I 2)] [(Rf 1), (Rf 20), (Rf 20), (I 2), (Rf 7)] hk_48) (R_aload_n mc_76 dX6_init_52 rfl) ?_
  refine Eq.trans (b := Run sc 76 56 [some (Rf 1), some (I 2)] [(Rf 2), (Rf 20), (Rf 20), (I 2), (Rf 7)] hk_48) (R_getR mc_76 dX6_init_53 mo_76 ft_6_10 (n := 6) rfl rfl (r := 2) rfl (by decide)) ?_
  refine Eq.trans (b := Run sc 76 57 [some (Rf 1), some (I 2)] [(Rf 1), (Rf 2), (Rf 20), (Rf 20), (I 2), (Rf 7)] hk_48) (R_aload_n mc_76 dX6_init_56 rfl) ?_
  refine Eq.trans (b := Run sc 76 60 [some (Rf 1), some (I 2)] [(Rf 6), (Rf 2), (Rf 20), (Rf 20), (I 2), (Rf 7)] hk_48) (R_getR mc_76 dX6_init_57 mo_76 ft_6_19 (n := 6) rfl rfl (r := 6) rfl (by decide)) ?_
  refine Eq.trans (b := Run sc 76 61 [some (Rf 1), some (I 2)] [(I 2), (Rf 6), (Rf 2), (Rf 20), (Rf 20), (I 2), (Rf 7)] hk_48) (R_iload_n mc_76 dX6_init_60 rfl) ?_
  refine Eq.trans (b := Run sc 76 62 [some (Rf 1), some (I 2)] [(I 1), (I 2), (Rf 6), (Rf 2), (Rf 20), (Rf 20), (I 2), (Rf 7)] hk_48) (R_iconst mc_76 dX6_init_61 ⟨by decide, by decide⟩) ?_
  rfl
theorem KS_23 {sc : Nat × (Nat → Int)} : Run sc 29 0 [some (Rf 20), some (Rf 2), some (Rf 6), some (I 3)] [] hk_48 = Run sc 29 16 [some (Rf 20), some (Rf 2), some (Rf 6), some (I 3)] [(I 3), (Rf 20)] hk_50 := by
  refine Eq.trans (b := Run sc 29 1 [some (Rf 20), some (Rf 2), some (Rf 6), some (I 3)] [(Rf 20)] hk_48) (R_aload_n mc_29 dX2_init_0 rfl) ?_
  refine Eq.trans (b := Run sc 29 4 [some (Rf 20), some (Rf 2), some (Rf 6), some (I 3)] [] hk_48) (R_objI mc_29 dX2_init_1 mo_29 ct_2_3 (by decide)) ?_
  refine Eq.trans (b := Run sc 29 5 [some (Rf 20), some (Rf 2), some (Rf 6), some (I 3)] [(Rf 20)] hk_48) (R_aload_n mc_29 dX2_init_4 rfl) ?_
  refine Eq.trans (b := Run sc 29 6 [some (Rf 20), some (Rf 2), some (Rf 6), some (I 3)] [(Rf 2), (Rf 20)] hk_48) (R_aload_n mc_29 dX2_init_5 rfl) ?_
  refine Eq.trans (b := Run sc 29 9 [some (Rf 20), some (Rf 2), some (Rf 6), some (I 3)] [] hk_49) (R_putR mc_29 dX2_init_6 mo_29 ft_2_9 (by decide +kernel) (n := 9) rfl rfl (by decide)) ?_
  refine Eq.trans (b := Run sc 29 10 [some (Rf 20), some (Rf 2), some (Rf 6), some (I 3)] [(Rf 20)] hk_49) (R_aload_n mc_29 dX2_init_9 rfl) ?_
  refine Eq.trans (b := Run sc 29 11 [some (Rf 20), some (Rf 2), some (Rf 6), some (I 3)] [(Rf 6), (Rf 20)] hk_49) (R_aload_n mc_29 dX2_init_10 rfl) ?_
  refine Eq.trans (b := Run sc 29 14 [some (Rf 20), some (Rf 2), some (Rf 6), some (I 3)] [] hk_50) (R_putR mc_29 dX2_init_11 mo_29 ft_2_15 (by decide +kernel) (n := 9) rfl rfl (by decide)) ?_
  refine Eq.trans (b := Run sc 29 15 [some (Rf 20), some (Rf 2), some (Rf 6), some (I 3)] [(Rf 20)] hk_50) (R_aload_n mc_29 dX2_init_14 rfl) ?_
  refine Eq.trans (b := Run sc 29 16 [some (Rf 20), some (Rf 2), some (Rf 6), some (I 3)] [(I 3), (Rf 20)] hk_50) (R_iload_n mc_29 dX2_init_15 rfl) ?_
  rfl
theorem KS_24 {sc : Nat × (Nat → Int)} : Run sc 29 16 [some (Rf 20), some (Rf 2), some (Rf 6), some (I 3)] [(I 3), (Rf 20)] hk_50 = Run sc 29 38 [some (Rf 20), some (Rf 2), some (Rf 6), some (I 3)] [(Rf 20)] hk_55 := by
  refine Eq.trans (b := Run sc 29 19 [some (Rf 20), some (Rf 2), some (Rf 6), some (I 3)] [] hk_51) ((R_putI mc_29 dX2_init_16 mo_29 ft_2_19 (by decide +kernel) (n := 9) rfl rfl (lo := (-2147483648)) (hi := 2147483647) rfl rfl).trans (bck_pos (by decide))) ?_
  refine Eq.trans (b := Run sc 29 20 [some (Rf 20), some (Rf 2), some (Rf 6), some (I 3)] [(Rf 20)] hk_51) (R_aload_n mc_29 dX2_init_19 rfl) ?_
  refine Eq.trans (b := Run sc 29 23 [some (Rf 20), some (Rf 2), some (Rf 6), some (I 3)] [(I 288), (Rf 20)] hk_51) (R_sipush mc_29 dX2_init_20 ⟨by decide, by decide⟩) ?_
  refine Eq.trans (b := Run sc 29 25 [some (Rf 20), some (Rf 2), some (Rf 6), some (I 3)] [(Rf 21), (Rf 20)] hk_52) (R_newa_int mc_29 dX2_init_23 (by decide)) ?_
  refine Eq.trans (b := Run sc 29 28 [some (Rf 20), some (Rf 2), some (Rf 6), some (I 3)] [] hk_53) (R_putR mc_29 dX2_init_25 mo_29 ft_2_23 (by decide +kernel) (n := 9) rfl rfl (by decide)) ?_
  refine Eq.trans (b := Run sc 29 29 [some (Rf 20), some (Rf 2), some (Rf 6), some (I 3)] [(Rf 20)] hk_53) (R_aload_n mc_29 dX2_init_28 rfl) ?_
  refine Eq.trans (b := Run sc 29 32 [some (Rf 20), some (Rf 2), some (Rf 6), some (I 3)] [(I 288), (Rf 20)] hk_53) (R_sipush mc_29 dX2_init_29 ⟨by decide, by decide⟩) ?_
  refine Eq.trans (b := Run sc 29 34 [some (Rf 20), some (Rf 2), some (Rf 6), some (I 3)] [(Rf 22), (Rf 20)] hk_54) (R_newa_int mc_29 dX2_init_32 (by decide)) ?_
  refine Eq.trans (b := Run sc 29 37 [some (Rf 20), some (Rf 2), some (Rf 6), some (I 3)] [] hk_55) (R_putR mc_29 dX2_init_34 mo_29 ft_2_27 (by decide +kernel) (n := 9) rfl rfl (by decide)) ?_
  refine Eq.trans (b := Run sc 29 38 [some (Rf 20), some (Rf 2), some (Rf 6), some (I 3)] [(Rf 20)] hk_55) (R_aload_n mc_29 dX2_init_37 rfl) ?_
  rfl
theorem KS_25 {sc : Nat × (Nat → Int)} : Run sc 29 38 [some (Rf 20), some (Rf 2), some (Rf 6), some (I 3)] [(Rf 20)] hk_55 = Run sc 29 61 [some (Rf 20), some (Rf 2), some (Rf 6), some (I 3)] [(Rf 25), (Rf 20)] hk_60 := by
  refine Eq.trans (b := Run sc 29 41 [some (Rf 20), some (Rf 2), some (Rf 6), some (I 3)] [(I 288), (Rf 20)] hk_55) (R_sipush mc_29 dX2_init_38 ⟨by decide, by decide⟩) ?_
  refine Eq.trans (b := Run sc 29 43 [some (Rf 20), some (Rf 2), some (Rf 6), some (I 3)] [(Rf 23), (Rf 20)] hk_56) (R_newa_int mc_29 dX2_init_41 (by decide)) ?_
  refine Eq.trans (b := Run sc 29 46 [some (Rf 20), some (Rf 2), some (Rf 6), some (I 3)] [] hk_57) (R_putR mc_29 dX2_init_43 mo_29 ft_2_30 (by decide +kernel) (n := 9) rfl rfl (by decide)) ?_
  refine Eq.trans (b := Run sc 29 47 [some (Rf 20), some (Rf 2), some (Rf 6), some (I 3)] [(Rf 20)] hk_57) (R_aload_n mc_29 dX2_init_46 rfl) ?_
  refine Eq.trans (b := Run sc 29 50 [some (Rf 20), some (Rf 2), some (Rf 6), some (I 3)] [(I 288), (Rf 20)] hk_57) (R_sipush mc_29 dX2_init_47 ⟨by decide, by decide⟩) ?_
  refine Eq.trans (b := Run sc 29 52 [some (Rf 20), some (Rf 2), some (Rf 6), some (I 3)] [(Rf 24), (Rf 20)] hk_58) (R_newa_int mc_29 dX2_init_50 (by decide)) ?_
  refine Eq.trans (b := Run sc 29 55 [some (Rf 20), some (Rf 2), some (Rf 6), some (I 3)] [] hk_59) (R_putR mc_29 dX2_init_52 mo_29 ft_2_33 (by decide +kernel) (n := 9) rfl rfl (by decide)) ?_
  refine Eq.trans (b := Run sc 29 56 [some (Rf 20), some (Rf 2), some (Rf 6), some (I 3)] [(Rf 20)] hk_59) (R_aload_n mc_29 dX2_init_55 rfl) ?_
  refine Eq.trans (b := Run sc 29 59 [some (Rf 20), some (Rf 2), some (Rf 6), some (I 3)] [(I 288), (Rf 20)] hk_59) (R_sipush mc_29 dX2_init_56 ⟨by decide, by decide⟩) ?_
  refine Eq.trans (b := Run sc 29 61 [some (Rf 20), some (Rf 2), some (Rf 6), some (I 3)] [(Rf 25), (Rf 20)] hk_60) (R_newa_int mc_29 dX2_init_59 (by decide)) ?_
  rfl
theorem KS_26 {sc : Nat × (Nat → Int)} : Run sc 29 61 [some (Rf 20), some (Rf 2), some (Rf 6), some (I 3)] [(Rf 25), (Rf 20)] hk_60 = Run sc 29 64 [some (Rf 20), some (Rf 2), some (Rf 6), some (I 3)] [] hk_61 := by
  refine Eq.trans (b := Run sc 29 64 [some (Rf 20), some (Rf 2), some (Rf 6), some (I 3)] [] hk_61) (R_putR mc_29 dX2_init_61 mo_29 ft_2_36 (by decide +kernel) (n := 9) rfl rfl (by decide)) ?_
  rfl
theorem KT_27 {sc : Nat × (Nat → Int)} : Run sc 29 0 [some (Rf 20), some (Rf 2), some (Rf 6), some (I 3)] [] hk_48 = some (none, hk_61) := by
  rw [KS_23, KS_24, KS_25, KS_26]
  exact R_return mc_29 dX2_init_64 rfl
theorem KS_28 {sc : Nat × (Nat → Int)} : Run sc 76 62 [some (Rf 1), some (I 2)] [(I 1), (I 2), (Rf 6), (Rf 2), (Rf 20), (Rf 20), (I 2), (Rf 7)] hk_48 = Run sc 76 47 [some (Rf 1), some (I 3)] [(Rf 7)] hk_62 := by
  refine Eq.trans (b := Run sc 76 63 [some (Rf 1), some (I 2)] [(I 3), (Rf 6), (Rf 2), (Rf 20), (Rf 20), (I 2), (Rf 7)] hk_48) ((R_iadd mc_76 dX6_init_62).trans (chk_pos (by decide))) ?_
  refine Eq.trans (b := Run sc 76 66 [some (Rf 1), some (I 2)] [(Rf 20), (I 2), (Rf 7)] hk_61) ((R_invI mc_76 dX6_init_63 mo_76 ct_6_29 (Or.inl rfl) (by decide) (b := 20) (rest := [(Rf 20), (I 2), (Rf 7)]) (lv2 := [some (Rf 20), some (Rf 2), some (Rf 6), some (I 3)]) rfl (by decide) rfl ⟨Nat.le_of_ble_eq_true rfl, Nat.le_of_ble_eq_true rfl⟩).trans (by rw [KT_27, aBind_some, pushR_none])) ?_
  refine Eq.trans (b := Run sc 76 67 [some (Rf 1), some (I 2)] [] hk_62) ((R_aastore mc_76 dX6_init_66 (m := 9) rfl (n := 6) rfl).trans (bck_pos (by decide))) ?_
  refine Eq.trans (b := Run sc 76 70 [some (Rf 1), some (I 3)] [] hk_62) ((R_iinc mc_76 dX6_init_67 rfl).trans (chk_pos (by decide))) ?_
  refine Eq.trans (b := Run sc 76 37 [some (Rf 1), some (I 3)] [] hk_62) (R_goto mc_76 dX6_init_70 (t := 37) rfl) ?_
  refine Eq.trans (b := Run sc 76 38 [some (Rf 1), some (I 3)] [(I 3)] hk_62) (R_iload_n mc_76 dX6_init_37 rfl) ?_
  refine Eq.trans (b := Run sc 76 40 [some (Rf 1), some (I 3)] [(I 6), (I 3)] hk_62) (R_bipush mc_76 dX6_init_38 ⟨by decide, by decide⟩) ?_
  refine Eq.trans (b := Run sc 76 43 [some (Rf 1), some (I 3)] [] hk_62) ((R_icmp_ge mc_76 dX6_init_40 (t := 73) rfl).trans (if_pos (by decide))) ?_
  refine Eq.trans (b := Run sc 76 44 [some (Rf 1), some (I 3)] [(Rf 1)] hk_62) (R_aload_n mc_76 dX6_init_43 rfl) ?_
  refine Eq.trans (b := Run sc 76 47 [some (Rf 1), some (I 3)] [(Rf 7)] hk_62) (R_getR mc_76 dX6_init_44 mo_76 ft_6_25 (n := 6) rfl rfl (r := 7) rfl (by decide)) ?_
  rfl
theorem KS_29 {sc : Nat × (Nat → Int)} : Run sc 76 47 [some (Rf 1), some (I 3)] [(Rf 7)] hk_62 = Run sc 76 63 [some (Rf 1), some (I 3)] [(I 4), (Rf 6), (Rf 2), (Rf 26), (Rf 26), (I 3), (Rf 7)] hk_63 := by
  refine Eq.trans (b := Run sc 76 48 [some (Rf 1), some (I 3)] [(I 3), (Rf 7)] hk_62) (R_iload_n mc_76 dX6_init_47 rfl) ?_
  refine Eq.trans (b := Run sc 76 51 [some (Rf 1), some (I 3)] [(Rf 26), (I 3), (Rf 7)] hk_63) (R_new mc_76 dX6_init_48 mo_76 (o := 2) rfl) ?_
  refine Eq.trans (b := Run sc 76 52 [some (Rf 1), some (I 3)] [(Rf 26), (Rf 26), (I 3), (Rf 7)] hk_63) (R_dup mc_76 dX6_init_51) ?_
  refine Eq.trans (b := Run sc 76 53 [some (Rf 1), some (I 3)] [(Rf 1), (Rf 26), (Rf 26), (I 3), (Rf 7)] hk_63) (R_aload_n mc_76 dX6_init_52 rfl) ?_
  refine Eq.trans (b := Run sc 76 56 [some (Rf 1), some (I 3)] [(Rf 2), (Rf 26), (Rf 26), (I 3), (Rf 7)] hk_63) (R_getR mc_76 dX6_init_53 mo_76 ft_6_10 (n := 6) rfl rfl (r := 2) rfl (by decide)) ?_
  refine Eq.trans (b := Run sc 76 57 [some (Rf 1), some (I 3)] [(Rf 1), (Rf 2), (Rf 26), (Rf 26), (I 3), (Rf 7)] hk_63) (R_aload_n mc_76 dX6_init_56 rfl) ?_
  refine Eq.trans (b := Run sc 76 60 [some (Rf 1), some (I 3)] [(Rf 6), (Rf 2), (Rf 26), (Rf 26), (I 3), (Rf 7)] hk_63) (R_getR mc_76 dX6_init_57 mo_76 ft_6_19 (n := 6) rfl rfl (r := 6) rfl (by decide)) ?_
  refine Eq.trans (b := Run sc 76 61 [some (Rf 1), some (I 3)] [(I 3), (Rf 6), (Rf 2), (Rf 26), (Rf 26), (I 3), (Rf 7)] hk_63) (R_iload_n mc_76 dX6_init_60 rfl) ?_
  refine Eq.trans (b := Run sc 76 62 [some (Rf 1), some (I 3)] [(I 1), (I 3), (Rf 6), (Rf 2), (Rf 26), (Rf 26), (I 3), (Rf 7)] hk_63) (R_iconst mc_76 dX6_init_61 ⟨by decide, by decide⟩) ?_
  refine Eq.trans (b := Run sc 76 63 [some (Rf 1), some (I 3)] [(I 4), (Rf 6), (Rf 2), (Rf 26), (Rf 26), (I 3), (Rf 7)] hk_63) ((R_iadd mc_76 dX6_init_62).trans (chk_pos (by decide))) ?_
  rfl
theorem KS_30 {sc : Nat × (Nat → Int)} : Run sc 29 0 [some (Rf 26), some (Rf 2), some (Rf 6), some (I 4)] [] hk_63 = Run sc 29 16 [some (Rf 26), some (Rf 2), some (Rf 6), some (I 4)] [(I 4), (Rf 26)] hk_65 := by
  refine Eq.trans (b := Run sc 29 1 [some (Rf 26), some (Rf 2), some (Rf 6), some (I 4)] [(Rf 26)] hk_63) (R_aload_n mc_29 dX2_init_0 rfl) ?_
  refine Eq.trans (b := Run sc 29 4 [some (Rf 26), some (Rf 2), some (Rf 6), some (I 4)] [] hk_63) (R_objI mc_29 dX2_init_1 mo_29 ct_2_3 (by decide)) ?_
  refine Eq.trans (b := Run sc 29 5 [some (Rf 26), some (Rf 2), some (Rf 6), some (I 4)] [(Rf 26)] hk_63) (R_aload_n mc_29 dX2_init_4 rfl) ?_
  refine Eq.trans (b := Run sc 29 6 [some (Rf 26), some (Rf 2), some (Rf 6), some (I 4)] [(Rf 2), (Rf 26)] hk_63) (R_aload_n mc_29 dX2_init_5 rfl) ?_
  refine Eq.trans (b := Run sc 29 9 [some (Rf 26), some (Rf 2), some (Rf 6), some (I 4)] [] hk_64) (R_putR mc_29 dX2_init_6 mo_29 ft_2_9 (by decide +kernel) (n := 9) rfl rfl (by decide)) ?_
  refine Eq.trans (b := Run sc 29 10 [some (Rf 26), some (Rf 2), some (Rf 6), some (I 4)] [(Rf 26)] hk_64) (R_aload_n mc_29 dX2_init_9 rfl) ?_
  refine Eq.trans (b := Run sc 29 11 [some (Rf 26), some (Rf 2), some (Rf 6), some (I 4)] [(Rf 6), (Rf 26)] hk_64) (R_aload_n mc_29 dX2_init_10 rfl) ?_
  refine Eq.trans (b := Run sc 29 14 [some (Rf 26), some (Rf 2), some (Rf 6), some (I 4)] [] hk_65) (R_putR mc_29 dX2_init_11 mo_29 ft_2_15 (by decide +kernel) (n := 9) rfl rfl (by decide)) ?_
  refine Eq.trans (b := Run sc 29 15 [some (Rf 26), some (Rf 2), some (Rf 6), some (I 4)] [(Rf 26)] hk_65) (R_aload_n mc_29 dX2_init_14 rfl) ?_
  refine Eq.trans (b := Run sc 29 16 [some (Rf 26), some (Rf 2), some (Rf 6), some (I 4)] [(I 4), (Rf 26)] hk_65) (R_iload_n mc_29 dX2_init_15 rfl) ?_
  rfl
theorem KS_31 {sc : Nat × (Nat → Int)} : Run sc 29 16 [some (Rf 26), some (Rf 2), some (Rf 6), some (I 4)] [(I 4), (Rf 26)] hk_65 = Run sc 29 38 [some (Rf 26), some (Rf 2), some (Rf 6), some (I 4)] [(Rf 26)] hk_70 := by
  refine Eq.trans (b := Run sc 29 19 [some (Rf 26), some (Rf 2), some (Rf 6), some (I 4)] [] hk_66) ((R_putI mc_29 dX2_init_16 mo_29 ft_2_19 (by decide +kernel) (n := 9) rfl rfl (lo := (-2147483648)) (hi := 2147483647) rfl rfl).trans (bck_pos (by decide))) ?_
  refine Eq.trans (b := Run sc 29 20 [some (Rf 26), some (Rf 2), some (Rf 6), some (I 4)] [(Rf 26)] hk_66) (R_aload_n mc_29 dX2_init_19 rfl) ?_
  refine Eq.trans (b := Run sc 29 23 [some (Rf 26), some (Rf 2), some (Rf 6), some (I 4)] [(I 288), (Rf 26)] hk_66) (R_sipush mc_29 dX2_init_20 ⟨by decide, by decide⟩) ?_
  refine Eq.trans (b := Run sc 29 25 [some (Rf 26), some (Rf 2), some (Rf 6), some (I 4)] [(Rf 27), (Rf 26)] hk_67) (R_newa_int mc_29 dX2_init_23 (by decide)) ?_
  refine Eq.trans (b := Run sc 29 28 [some (Rf 26), some (Rf 2), some (Rf 6), some (I 4)] [] hk_68) (R_putR mc_29 dX2_init_25 mo_29 ft_2_23 (by decide +kernel) (n := 9) rfl rfl (by decide)) ?_
  refine Eq.trans (b := Run sc 29 29 [some (Rf 26), some (Rf 2), some (Rf 6), some (I 4)] [(Rf 26)] hk_68) (R_aload_n mc_29 dX2_init_28 rfl) ?_
  refine Eq.trans (b := Run sc 29 32 [some (Rf 26), some (Rf 2), some (Rf 6), some (I 4)] [(I 288), (Rf 26)] hk_68) (R_sipush mc_29 dX2_init_29 ⟨by decide, by decide⟩) ?_
  refine Eq.trans (b := Run sc 29 34 [some (Rf 26), some (Rf 2), some (Rf 6), some (I 4)] [(Rf 28), (Rf 26)] hk_69) (R_newa_int mc_29 dX2_init_32 (by decide)) ?_
  refine Eq.trans (b := Run sc 29 37 [some (Rf 26), some (Rf 2), some (Rf 6), some (I 4)] [] hk_70) (R_putR mc_29 dX2_init_34 mo_29 ft_2_27 (by decide +kernel) (n := 9) rfl rfl (by decide)) ?_
  refine Eq.trans (b := Run sc 29 38 [some (Rf 26), some (Rf 2), some (Rf 6), some (I 4)] [(Rf 26)] hk_70) (R_aload_n mc_29 dX2_init_37 rfl) ?_
  rfl
theorem KS_32 {sc : Nat × (Nat → Int)} : Run sc 29 38 [some (Rf 26), some (Rf 2), some (Rf 6), some (I 4)] [(Rf 26)] hk_70 = Run sc 29 61 [some (Rf 26), some (Rf 2), some (Rf 6), some (I 4)] [(Rf 31), (Rf 26)] hk_75 := by
  refine Eq.trans (b := Run sc 29 41 [some (Rf 26), some (Rf 2), some (Rf 6), some (I 4)] [(I 288), (Rf 26)] hk_70) (R_sipush mc_29 dX2_init_38 ⟨by decide, by decide⟩) ?_
  refine Eq.trans (b := Run sc 29 43 [some (Rf 26), some (Rf 2), some (Rf 6), some (I 4)] [(Rf 29), (Rf 26)] hk_71) (R_newa_int mc_29 dX2_init_41 (by decide)) ?_
  refine Eq.trans (b := Run sc 29 46 [some (Rf 26), some (Rf 2), some (Rf 6), some (I 4)] [] hk_72) (R_putR mc_29 dX2_init_43 mo_29 ft_2_30 (by decide +kernel) (n := 9) rfl rfl (by decide)) ?_
  refine Eq.trans (b := Run sc 29 47 [some (Rf 26), some (Rf 2), some (Rf 6), some (I 4)] [(Rf 26)] hk_72) (R_aload_n mc_29 dX2_init_46 rfl) ?_
  refine Eq.trans (b := Run sc 29 50 [some (Rf 26), some (Rf 2), some (Rf 6), some (I 4)] [(I 288), (Rf 26)] hk_72) (R_sipush mc_29 dX2_init_47 ⟨by decide, by decide⟩) ?_
  refine Eq.trans (b := Run sc 29 52 [some (Rf 26), some (Rf 2), some (Rf 6), some (I 4)] [(Rf 30), (Rf 26)] hk_73) (R_newa_int mc_29 dX2_init_50 (by decide)) ?_
  refine Eq.trans (b := Run sc 29 55 [some (Rf 26), some (Rf 2), some (Rf 6), some (I 4)] [] hk_74) (R_putR mc_29 dX2_init_52 mo_29 ft_2_33 (by decide +kernel) (n := 9) rfl rfl (by decide)) ?_
  refine Eq.trans (b := Run sc 29 56 [some (Rf 26), some (Rf 2), some (Rf 6), some (I 4)] [(Rf 26)] hk_74) (R_aload_n mc_29 dX2_init_55 rfl) ?_
  refine Eq.trans (b := Run sc 29 59 [some (Rf 26), some (Rf 2), some (Rf 6), some (I 4)] [(I 288), (Rf 26)] hk_74) (R_sipush mc_29 dX2_init_56 ⟨by decide, by decide⟩) ?_
  refine Eq.trans (b := Run sc 29 61 [some (Rf 26), some (Rf 2), some (Rf 6), some (I 4)] [(Rf 31), (Rf 26)] hk_75) (R_newa_int mc_29 dX2_init_59 (by decide)) ?_
  rfl
theorem KS_33 {sc : Nat × (Nat → Int)} : Run sc 29 61 [some (Rf 26), some (Rf 2), some (Rf 6), some (I 4)] [(Rf 31), (Rf 26)] hk_75 = Run sc 29 64 [some (Rf 26), some (Rf 2), some (Rf 6), some (I 4)] [] hk_76 := by
  refine Eq.trans (b := Run sc 29 64 [some (Rf 26), some (Rf 2), some (Rf 6), some (I 4)] [] hk_76) (R_putR mc_29 dX2_init_61 mo_29 ft_2_36 (by decide +kernel) (n := 9) rfl rfl (by decide)) ?_
  rfl
theorem KT_34 {sc : Nat × (Nat → Int)} : Run sc 29 0 [some (Rf 26), some (Rf 2), some (Rf 6), some (I 4)] [] hk_63 = some (none, hk_76) := by
  rw [KS_30, KS_31, KS_32, KS_33]
  exact R_return mc_29 dX2_init_64 rfl
theorem KS_35 {sc : Nat × (Nat → Int)} : Run sc 76 63 [some (Rf 1), some (I 3)] [(I 4), (Rf 6), (Rf 2), (Rf 26), (Rf 26), (I 3), (Rf 7)] hk_63 = Run sc 76 48 [some (Rf 1), some (I 4)] [(I 4), (Rf 7)] hk_77 := by
  refine Eq.trans (b := Run sc 76 66 [some (Rf 1), some (I 3)] [(Rf 26), (I 3), (Rf 7)] hk_76) ((R_invI mc_76 dX6_init_63 mo_76 ct_6_29 (Or.inl rfl) (by decide) (b := 26) (rest := [(Rf 26), (I 3), (Rf 7)]) (lv2 := [some (Rf 26), some (Rf 2), some (Rf 6), some (I 4)]) rfl (by decide) rfl ⟨Nat.le_of_ble_eq_true rfl, Nat.le_of_ble_eq_true rfl⟩).trans (by rw [KT_34, aBind_some, pushR_none])) ?_
  refine Eq.trans (b := Run sc 76 67 [some (Rf 1), some (I 3)] [] hk_77) ((R_aastore mc_76 dX6_init_66 (m := 9) rfl (n := 6) rfl).trans (bck_pos (by decide))) ?_
  refine Eq.trans (b := Run sc 76 70 [some (Rf 1), some (I 4)] [] hk_77) ((R_iinc mc_76 dX6_init_67 rfl).trans (chk_pos (by decide))) ?_
  refine Eq.trans (b := Run sc 76 37 [some (Rf 1), some (I 4)] [] hk_77) (R_goto mc_76 dX6_init_70 (t := 37) rfl) ?_
  refine Eq.trans (b := Run sc 76 38 [some (Rf 1), some (I 4)] [(I 4)] hk_77) (R_iload_n mc_76 dX6_init_37 rfl) ?_
  refine Eq.trans (b := Run sc 76 40 [some (Rf 1), some (I 4)] [(I 6), (I 4)] hk_77) (R_bipush mc_76 dX6_init_38 ⟨by decide, by decide⟩) ?_
  refine Eq.trans (b := Run sc 76 43 [some (Rf 1), some (I 4)] [] hk_77) ((R_icmp_ge mc_76 dX6_init_40 (t := 73) rfl).trans (if_pos (by decide))) ?_
  refine Eq.trans (b := Run sc 76 44 [some (Rf 1), some (I 4)] [(Rf 1)] hk_77) (R_aload_n mc_76 dX6_init_43 rfl) ?_
  refine Eq.trans (b := Run sc 76 47 [some (Rf 1), some (I 4)] [(Rf 7)] hk_77) (R_getR mc_76 dX6_init_44 mo_76 ft_6_25 (n := 6) rfl rfl (r := 7) rfl (by decide)) ?_
  refine Eq.trans (b := Run sc 76 48 [some (Rf 1), some (I 4)] [(I 4), (Rf 7)] hk_77) (R_iload_n mc_76 dX6_init_47 rfl) ?_
  rfl
theorem KS_36 {sc : Nat × (Nat → Int)} : Run sc 29 0 [some (Rf 32), some (Rf 2), some (Rf 6), some (I 5)] [] hk_78 = Run sc 29 16 [some (Rf 32), some (Rf 2), some (Rf 6), some (I 5)] [(I 5), (Rf 32)] hk_80 := by
  refine Eq.trans (b := Run sc 29 1 [some (Rf 32), some (Rf 2), some (Rf 6), some (I 5)] [(Rf 32)] hk_78) (R_aload_n mc_29 dX2_init_0 rfl) ?_
  refine Eq.trans (b := Run sc 29 4 [some (Rf 32), some (Rf 2), some (Rf 6), some (I 5)] [] hk_78) (R_objI mc_29 dX2_init_1 mo_29 ct_2_3 (by decide)) ?_
  refine Eq.trans (b := Run sc 29 5 [some (Rf 32), some (Rf 2), some (Rf 6), some (I 5)] [(Rf 32)] hk_78) (R_aload_n mc_29 dX2_init_4 rfl) ?_
  refine Eq.trans (b := Run sc 29 6 [some (Rf 32), some (Rf 2), some (Rf 6), some (I 5)] [(Rf 2), (Rf 32)] hk_78) (R_aload_n mc_29 dX2_init_5 rfl) ?_
  refine Eq.trans (b := Run sc 29 9 [some (Rf 32), some (Rf 2), some (Rf 6), some (I 5)] [] hk_79) (R_putR mc_29 dX2_init_6 mo_29 ft_2_9 (by decide +kernel) (n := 9) rfl rfl (by decide)) ?_
  refine Eq.trans (b := Run sc 29 10 [some (Rf 32), some (Rf 2), some (Rf 6), some (I 5)] [(Rf 32)] hk_79) (R_aload_n mc_29 dX2_init_9 rfl) ?_
  refine Eq.trans (b := Run sc 29 11 [some (Rf 32), some (Rf 2), some (Rf 6), some (I 5)] [(Rf 6), (Rf 32)] hk_79) (R_aload_n mc_29 dX2_init_10 rfl) ?_
  refine Eq.trans (b := Run sc 29 14 [some (Rf 32), some (Rf 2), some (Rf 6), some (I 5)] [] hk_80) (R_putR mc_29 dX2_init_11 mo_29 ft_2_15 (by decide +kernel) (n := 9) rfl rfl (by decide)) ?_
  refine Eq.trans (b := Run sc 29 15 [some (Rf 32), some (Rf 2), some (Rf 6), some (I 5)] [(Rf 32)] hk_80) (R_aload_n mc_29 dX2_init_14 rfl) ?_
  refine Eq.trans (b := Run sc 29 16 [some (Rf 32), some (Rf 2), some (Rf 6), some (I 5)] [(I 5), (Rf 32)] hk_80) (R_iload_n mc_29 dX2_init_15 rfl) ?_
  rfl
theorem KS_37 {sc : Nat × (Nat → Int)} : Run sc 29 16 [some (Rf 32), some (Rf 2), some (Rf 6), some (I 5)] [(I 5), (Rf 32)] hk_80 = Run sc 29 38 [some (Rf 32), some (Rf 2), some (Rf 6), some (I 5)] [(Rf 32)] hk_85 := by
  refine Eq.trans (b := Run sc 29 19 [some (Rf 32), some (Rf 2), some (Rf 6), some (I 5)] [] hk_81) ((R_putI mc_29 dX2_init_16 mo_29 ft_2_19 (by decide +kernel) (n := 9) rfl rfl (lo := (-2147483648)) (hi := 2147483647) rfl rfl).trans (bck_pos (by decide))) ?_
  refine Eq.trans (b := Run sc 29 20 [some (Rf 32), some (Rf 2), some (Rf 6), some (I 5)] [(Rf 32)] hk_81) (R_aload_n mc_29 dX2_init_19 rfl) ?_
  refine Eq.trans (b := Run sc 29 23 [some (Rf 32), some (Rf 2), some (Rf 6), some (I 5)] [(I 288), (Rf 32)] hk_81) (R_sipush mc_29 dX2_init_20 ⟨by decide, by decide⟩) ?_
  refine Eq.trans (b := Run sc 29 25 [some (Rf 32), some (Rf 2), some (Rf 6), some (I 5)] [(Rf 33), (Rf 32)] hk_82) (R_newa_int mc_29 dX2_init_23 (by decide)) ?_
  refine Eq.trans (b := Run sc 29 28 [some (Rf 32), some (Rf 2), some (Rf 6), some (I 5)] [] hk_83) (R_putR mc_29 dX2_init_25 mo_29 ft_2_23 (by decide +kernel) (n := 9) rfl rfl (by decide)) ?_
  refine Eq.trans (b := Run sc 29 29 [some (Rf 32), some (Rf 2), some (Rf 6), some (I 5)] [(Rf 32)] hk_83) (R_aload_n mc_29 dX2_init_28 rfl) ?_
  refine Eq.trans (b := Run sc 29 32 [some (Rf 32), some (Rf 2), some (Rf 6), some (I 5)] [(I 288), (Rf 32)] hk_83) (R_sipush mc_29 dX2_init_29 ⟨by decide, by decide⟩) ?_
  refine Eq.trans (b := Run sc 29 34 [some (Rf 32), some (Rf 2), some (Rf 6), some (I 5)] [(Rf 34), (Rf 32)] hk_84) (R_newa_int mc_29 dX2_init_32 (by decide)) ?_
  refine Eq.trans (b := Run sc 29 37 [some (Rf 32), some (Rf 2), some (Rf 6), some (I 5)] [] hk_85) (R_putR mc_29 dX2_init_34 mo_29 ft_2_27 (by decide +kernel) (n := 9) rfl rfl (by decide)) ?_
  refine Eq.trans (b := Run sc 29 38 [some (Rf 32), some (Rf 2), some (Rf 6), some (I 5)] [(Rf 32)] hk_85) (R_aload_n mc_29 dX2_init_37 rfl) ?_
  rfl
theorem KS_38 {sc : Nat × (Nat → Int)} : Run sc 29 38 [some (Rf 32), some (Rf 2), some (Rf 6), some (I 5)] [(Rf 32)] hk_85 = Run sc 29 61 [some (Rf 32), some (Rf 2), some (Rf 6), some (I 5)] [(Rf 37), (Rf 32)] hk_90 := by
  refine Eq.trans (b := Run sc 29 41 [some (Rf 32), some (Rf 2), some (Rf 6), some (I 5)] [(I 288), (Rf 32)] hk_85) (R_sipush mc_29 dX2_init_38 ⟨by decide, by decide⟩) ?_
  refine Eq.trans (b := Run sc 29 43 [some (Rf 32), some (Rf 2), some (Rf 6), some (I 5)] [(Rf 35), (Rf 32)] hk_86) (R_newa_int mc_29 dX2_init_41 (by decide)) ?_
  refine Eq.trans (b := Run sc 29 46 [some (Rf 32), some (Rf 2), some (Rf 6), some (I 5)] [] hk_87) (R_putR mc_29 dX2_init_43 mo_29 ft_2_30 (by decide +kernel) (n := 9) rfl rfl (by decide)) ?_
  refine Eq.trans (b := Run sc 29 47 [some (Rf 32), some (Rf 2), some (Rf 6), some (I 5)] [(Rf 32)] hk_87) (R_aload_n mc_29 dX2_init_46 rfl) ?_
  refine Eq.trans (b := Run sc 29 50 [some (Rf 32), some (Rf 2), some (Rf 6), some (I 5)] [(I 288), (Rf 32)] hk_87) (R_sipush mc_29 dX2_init_47 ⟨by decide, by decide⟩) ?_
  refine Eq.trans (b := Run sc 29 52 [some (Rf 32), some (Rf 2), some (Rf 6), some (I 5)] [(Rf 36), (Rf 32)] hk_88) (R_newa_int mc_29 dX2_init_50 (by decide)) ?_
  refine Eq.trans (b := Run sc 29 55 [some (Rf 32), some (Rf 2), some (Rf 6), some (I 5)] [] hk_89) (R_putR mc_29 dX2_init_52 mo_29 ft_2_33 (by decide +kernel) (n := 9) rfl rfl (by decide)) ?_
  refine Eq.trans (b := Run sc 29 56 [some (Rf 32), some (Rf 2), some (Rf 6), some (I 5)] [(Rf 32)] hk_89) (R_aload_n mc_29 dX2_init_55 rfl) ?_
  refine Eq.trans (b := Run sc 29 59 [some (Rf 32), some (Rf 2), some (Rf 6), some (I 5)] [(I 288), (Rf 32)] hk_89) (R_sipush mc_29 dX2_init_56 ⟨by decide, by decide⟩) ?_
  refine Eq.trans (b := Run sc 29 61 [some (Rf 32), some (Rf 2), some (Rf 6), some (I 5)] [(Rf 37), (Rf 32)] hk_90) (R_newa_int mc_29 dX2_init_59 (by decide)) ?_
  rfl
theorem KS_39 {sc : Nat × (Nat → Int)} : Run sc 29 61 [some (Rf 32), some (Rf 2), some (Rf 6), some (I 5)] [(Rf 37), (Rf 32)] hk_90 = Run sc 29 64 [some (Rf 32), some (Rf 2), some (Rf 6), some (I 5)] [] hk_91 := by
  refine Eq.trans (b := Run sc 29 64 [some (Rf 32), some (Rf 2), some (Rf 6), some (I 5)] [] hk_91) (R_putR mc_29 dX2_init_61 mo_29 ft_2_36 (by decide +kernel) (n := 9) rfl rfl (by decide)) ?_
  rfl
theorem KT_40 {sc : Nat × (Nat → Int)} : Run sc 29 0 [some (Rf 32), some (Rf 2), some (Rf 6), some (I 5)] [] hk_78 = some (none, hk_91) := by
  rw [KS_36, KS_37, KS_38, KS_39]
  exact R_return mc_29 dX2_init_64 rfl
theorem KS_41 {sc : Nat × (Nat → Int)} : Run sc 76 48 [some (Rf 1), some (I 4)] [(I 4), (Rf 7)] hk_77 = Run sc 76 66 [some (Rf 1), some (I 4)] [(Rf 32), (I 4), (Rf 7)] hk_91 := by
  refine Eq.trans (b := Run sc 76 51 [some (Rf 1), some (I 4)] [(Rf 32), (I 4), (Rf 7)] hk_78) (R_new mc_76 dX6_init_48 mo_76 (o := 2) rfl) ?_
  refine Eq.trans (b := Run sc 76 52 [some (Rf 1), some (I 4)] [(Rf 32), (Rf 32), (I 4), (Rf 7)] hk_78) (R_dup mc_76 dX6_init_51) ?_
  refine Eq.trans (b := Run sc 76 53 [some (Rf 1), some (I 4)] [(Rf 1), (Rf 32), (Rf 32), (I 4), (Rf 7)] hk_78) (R_aload_n mc_76 dX6_init_52 rfl) ?_
  refine Eq.trans (b := Run sc 76 56 [some (Rf 1), some (I 4)] [(Rf 2), (Rf 32), (Rf 32), (I 4), (Rf 7)] hk_78) (R_getR mc_76 dX6_init_53 mo_76 ft_6_10 (n := 6) rfl rfl (r := 2) rfl (by decide)) ?_
  refine Eq.trans (b := Run sc 76 57 [some (Rf 1), some (I 4)] [(Rf 1), (Rf 2), (Rf 32), (Rf 32), (I 4), (Rf 7)] hk_78) (R_aload_n mc_76 dX6_init_56 rfl) ?_
  refine Eq.trans (b := Run sc 76 60 [some (Rf 1), some (I 4)] [(Rf 6), (Rf 2), (Rf 32), (Rf 32), (I 4), (Rf 7)] hk_78) (R_getR mc_76 dX6_init_57 mo_76 ft_6_19 (n := 6) rfl rfl (r := 6) rfl (by decide)) ?_
  refine Eq.trans (b := Run sc 76 61 [some (Rf 1), some (I 4)] [(I 4), (Rf 6), (Rf 2), (Rf 32), (Rf 32), (I 4), (Rf 7)] hk_78) (R_iload_n mc_76 dX6_init_60 rfl) ?_
  refine Eq.trans (b := Run sc 76 62 [some (Rf 1), some (I 4)] [(I 1), (I 4), (Rf 6), (Rf 2), (Rf 32), (Rf 32), (I 4), (Rf 7)] hk_78) (R_iconst mc_76 dX6_init_61 ⟨by decide, by decide⟩) ?_
  refine Eq.trans (b := Run sc 76 63 [some (Rf 1), some (I 4)] [(I 5), (Rf 6), (Rf 2), (Rf 32), (Rf 32), (I 4), (Rf 7)] hk_78) ((R_iadd mc_76 dX6_init_62).trans (chk_pos (by decide))) ?_
  refine Eq.trans (b := Run sc 76 66 [some (Rf 1), some (I 4)] [(Rf 32), (I 4), (Rf 7)] hk_91) ((R_invI mc_76 dX6_init_63 mo_76 ct_6_29 (Or.inl rfl) (by decide) (b := 32) (rest := [(Rf 32), (I 4), (Rf 7)]) (lv2 := [some (Rf 32), some (Rf 2), some (Rf 6), some (I 5)]) rfl (by decide) rfl ⟨Nat.le_of_ble_eq_true rfl, Nat.le_of_ble_eq_true rfl⟩).trans (by rw [KT_40, aBind_some, pushR_none])) ?_
  rfl
theorem KS_42 {sc : Nat × (Nat → Int)} : Run sc 76 66 [some (Rf 1), some (I 4)] [(Rf 32), (I 4), (Rf 7)] hk_91 = Run sc 76 51 [some (Rf 1), some (I 5)] [(Rf 38), (I 5), (Rf 7)] hk_93 := by
  refine Eq.trans (b := Run sc 76 67 [some (Rf 1), some (I 4)] [] hk_92) ((R_aastore mc_76 dX6_init_66 (m := 9) rfl (n := 6) rfl).trans (bck_pos (by decide))) ?_
  refine Eq.trans (b := Run sc 76 70 [some (Rf 1), some (I 5)] [] hk_92) ((R_iinc mc_76 dX6_init_67 rfl).trans (chk_pos (by decide))) ?_
  refine Eq.trans (b := Run sc 76 37 [some (Rf 1), some (I 5)] [] hk_92) (R_goto mc_76 dX6_init_70 (t := 37) rfl) ?_
  refine Eq.trans (b := Run sc 76 38 [some (Rf 1), some (I 5)] [(I 5)] hk_92) (R_iload_n mc_76 dX6_init_37 rfl) ?_
  refine Eq.trans (b := Run sc 76 40 [some (Rf 1), some (I 5)] [(I 6), (I 5)] hk_92) (R_bipush mc_76 dX6_init_38 ⟨by decide, by decide⟩) ?_
  refine Eq.trans (b := Run sc 76 43 [some (Rf 1), some (I 5)] [] hk_92) ((R_icmp_ge mc_76 dX6_init_40 (t := 73) rfl).trans (if_pos (by decide))) ?_
  refine Eq.trans (b := Run sc 76 44 [some (Rf 1), some (I 5)] [(Rf 1)] hk_92) (R_aload_n mc_76 dX6_init_43 rfl) ?_
  refine Eq.trans (b := Run sc 76 47 [some (Rf 1), some (I 5)] [(Rf 7)] hk_92) (R_getR mc_76 dX6_init_44 mo_76 ft_6_25 (n := 6) rfl rfl (r := 7) rfl (by decide)) ?_
  refine Eq.trans (b := Run sc 76 48 [some (Rf 1), some (I 5)] [(I 5), (Rf 7)] hk_92) (R_iload_n mc_76 dX6_init_47 rfl) ?_
  refine Eq.trans (b := Run sc 76 51 [some (Rf 1), some (I 5)] [(Rf 38), (I 5), (Rf 7)] hk_93) (R_new mc_76 dX6_init_48 mo_76 (o := 2) rfl) ?_
  rfl
theorem KS_43 {sc : Nat × (Nat → Int)} : Run sc 29 0 [some (Rf 38), some (Rf 2), some (Rf 6), some (I 6)] [] hk_93 = Run sc 29 16 [some (Rf 38), some (Rf 2), some (Rf 6), some (I 6)] [(I 6), (Rf 38)] hk_95 := by
  refine Eq.trans (b := Run sc 29 1 [some (Rf 38), some (Rf 2), some (Rf 6), some (I 6)] [(Rf 38)] hk_93) (R_aload_n mc_29 dX2_init_0 rfl) ?_
  refine Eq.trans (b := Run sc 29 4 [some (Rf 38), some (Rf 2), some (Rf 6), some (I 6)] [] hk_93) (R_objI mc_29 dX2_init_1 mo_29 ct_2_3 (by decide)) ?_
  refine Eq.trans (b := Run sc 29 5 [some (Rf 38), some (Rf 2), some (Rf 6), some (I 6)] [(Rf 38)] hk_93) (R_aload_n mc_29 dX2_init_4 rfl) ?_
  refine Eq.trans (b := Run sc 29 6 [some (Rf 38), some (Rf 2), some (Rf 6), some (I 6)] [(Rf 2), (Rf 38)] hk_93) (R_aload_n mc_29 dX2_init_5 rfl) ?_
  refine Eq.trans (b := Run sc 29 9 [some (Rf 38), some (Rf 2), some (Rf 6), some (I 6)] [] hk_94) (R_putR mc_29 dX2_init_6 mo_29 ft_2_9 (by decide +kernel) (n := 9) rfl rfl (by decide)) ?_
  refine Eq.trans (b := Run sc 29 10 [some (Rf 38), some (Rf 2), some (Rf 6), some (I 6)] [(Rf 38)] hk_94) (R_aload_n mc_29 dX2_init_9 rfl) ?_
  refine Eq.trans (b := Run sc 29 11 [some (Rf 38), some (Rf 2), some (Rf 6), some (I 6)] [(Rf 6), (Rf 38)] hk_94) (R_aload_n mc_29 dX2_init_10 rfl) ?_
  refine Eq.trans (b := Run sc 29 14 [some (Rf 38), some (Rf 2), some (Rf 6), some (I 6)] [] hk_95) (R_putR mc_29 dX2_init_11 mo_29 ft_2_15 (by decide +kernel) (n := 9) rfl rfl (by decide)) ?_
  refine Eq.trans (b := Run sc 29 15 [some (Rf 38), some (Rf 2), some (Rf 6), some (I 6)] [(Rf 38)] hk_95) (R_aload_n mc_29 dX2_init_14 rfl) ?_
  refine Eq.trans (b := Run sc 29 16 [some (Rf 38), some (Rf 2), some (Rf 6), some (I 6)] [(I 6), (Rf 38)] hk_95) (R_iload_n mc_29 dX2_init_15 rfl) ?_
  rfl
theorem KS_44 {sc : Nat × (Nat → Int)} : Run sc 29 16 [some (Rf 38), some (Rf 2), some (Rf 6), some (I 6)] [(I 6), (Rf 38)] hk_95 = Run sc 29 38 [some (Rf 38), some (Rf 2), some (Rf 6), some (I 6)] [(Rf 38)] hk_100 := by
  refine Eq.trans (b := Run sc 29 19 [some (Rf 38), some (Rf 2), some (Rf 6), some (I 6)] [] hk_96) ((R_putI mc_29 dX2_init_16 mo_29 ft_2_19 (by decide +kernel) (n := 9) rfl rfl (lo := (-2147483648)) (hi := 2147483647) rfl rfl).trans (bck_pos (by decide))) ?_
  refine Eq.trans (b := Run sc 29 20 [some (Rf 38), some (Rf 2), some (Rf 6), some (I 6)] [(Rf 38)] hk_96) (R_aload_n mc_29 dX2_init_19 rfl) ?_
  refine Eq.trans (b := Run sc 29 23 [some (Rf 38), some (Rf 2), some (Rf 6), some (I 6)] [(I 288), (Rf 38)] hk_96) (R_sipush mc_29 dX2_init_20 ⟨by decide, by decide⟩) ?_
  refine Eq.trans (b := Run sc 29 25 [some (Rf 38), some (Rf 2), some (Rf 6), some (I 6)] [(Rf 39), (Rf 38)] hk_97) (R_newa_int mc_29 dX2_init_23 (by decide)) ?_
  refine Eq.trans (b := Run sc 29 28 [some (Rf 38), some (Rf 2), some (Rf 6), some (I 6)] [] hk_98) (R_putR mc_29 dX2_init_25 mo_29 ft_2_23 (by decide +kernel) (n := 9) rfl rfl (by decide)) ?_
  refine Eq.trans (b := Run sc 29 29 [some (Rf 38), some (Rf 2), some (Rf 6), some (I 6)] [(Rf 38)] hk_98) (R_aload_n mc_29 dX2_init_28 rfl) ?_
  refine Eq.trans (b := Run sc 29 32 [some (Rf 38), some (Rf 2), some (Rf 6), some (I 6)] [(I 288), (Rf 38)] hk_98) (R_sipush mc_29 dX2_init_29 ⟨by decide, by decide⟩) ?_
  refine Eq.trans (b := Run sc 29 34 [some (Rf 38), some (Rf 2), some (Rf 6), some (I 6)] [(Rf 40), (Rf 38)] hk_99) (R_newa_int mc_29 dX2_init_32 (by decide)) ?_
  refine Eq.trans (b := Run sc 29 37 [some (Rf 38), some (Rf 2), some (Rf 6), some (I 6)] [] hk_100) (R_putR mc_29 dX2_init_34 mo_29 ft_2_27 (by decide +kernel) (n := 9) rfl rfl (by decide)) ?_
  refine Eq.trans (b := Run sc 29 38 [some (Rf 38), some (Rf 2), some (Rf 6), some (I 6)] [(Rf 38)] hk_100) (R_aload_n mc_29 dX2_init_37 rfl) ?_
  rfl
theorem KS_45 {sc : Nat × (Nat → Int)} : Run sc 29 38 [some (Rf 38), some (Rf 2), some (Rf 6), some (I 6)] [(Rf 38)] hk_100 = Run sc 29 61 [some (Rf 38), some (Rf 2), some (Rf 6), some (I 6)] [(Rf 43), (Rf 38)] hk_105 := by
  refine Eq.trans (b := Run sc 29 41 [some (Rf 38), some (Rf 2), some (Rf 6), some (I 6)] [(I 288), (Rf 38)] hk_100) (R_sipush mc_29 dX2_init_38 ⟨by decide, by decide⟩) ?_
  refine Eq.trans (b := Run sc 29 43 [some (Rf 38), some (Rf 2), some (Rf 6), some (I 6)] [(Rf 41), (Rf 38)] hk_101) (R_newa_int mc_29 dX2_init_41 (by decide)) ?_
  refine Eq.trans (b := Run sc 29 46 [some (Rf 38), some (Rf 2), some (Rf 6), some (I 6)] [] hk_102) (R_putR mc_29 dX2_init_43 mo_29 ft_2_30 (by decide +kernel) (n := 9) rfl rfl (by decide)) ?_
  refine Eq.trans (b := Run sc 29 47 [some (Rf 38), some (Rf 2), some (Rf 6), some (I 6)] [(Rf 38)] hk_102) (R_aload_n mc_29 dX2_init_46 rfl) ?_
  refine Eq.trans (b := Run sc 29 50 [some (Rf 38), some (Rf 2), some (Rf 6), some (I 6)] [(I 288), (Rf 38)] hk_102) (R_sipush mc_29 dX2_init_47 ⟨by decide, by decide⟩) ?_
  refine Eq.trans (b := Run sc 29 52 [some (Rf 38), some (Rf 2), some (Rf 6), some (I 6)] [(Rf 42), (Rf 38)] hk_103) (R_newa_int mc_29 dX2_init_50 (by decide)) ?_
  refine Eq.trans (b := Run sc 29 55 [some (Rf 38), some (Rf 2), some (Rf 6), some (I 6)] [] hk_104) (R_putR mc_29 dX2_init_52 mo_29 ft_2_33 (by decide +kernel) (n := 9) rfl rfl (by decide)) ?_
  refine Eq.trans (b := Run sc 29 56 [some (Rf 38), some (Rf 2), some (Rf 6), some (I 6)] [(Rf 38)] hk_104) (R_aload_n mc_29 dX2_init_55 rfl) ?_
  refine Eq.trans (b := Run sc 29 59 [some (Rf 38), some (Rf 2), some (Rf 6), some (I 6)] [(I 288), (Rf 38)] hk_104) (R_sipush mc_29 dX2_init_56 ⟨by decide, by decide⟩) ?_
  refine Eq.trans (b := Run sc 29 61 [some (Rf 38), some (Rf 2), some (Rf 6), some (I 6)] [(Rf 43), (Rf 38)] hk_105) (R_newa_int mc_29 dX2_init_59 (by decide)) ?_
  rfl
theorem KS_46 {sc : Nat × (Nat → Int)} : Run sc 29 61 [some (Rf 38), some (Rf 2), some (Rf 6), some (I 6)] [(Rf 43), (Rf 38)] hk_105 = Run sc 29 64 [some (Rf 38), some (Rf 2), some (Rf 6), some (I 6)] [] hk_106 := by
  refine Eq.trans (b := Run sc 29 64 [some (Rf 38), some (Rf 2), some (Rf 6), some (I 6)] [] hk_106) (R_putR mc_29 dX2_init_61 mo_29 ft_2_36 (by decide +kernel) (n := 9) rfl rfl (by decide)) ?_
  rfl
theorem KT_47 {sc : Nat × (Nat → Int)} : Run sc 29 0 [some (Rf 38), some (Rf 2), some (Rf 6), some (I 6)] [] hk_93 = some (none, hk_106) := by
  rw [KS_43, KS_44, KS_45, KS_46]
  exact R_return mc_29 dX2_init_64 rfl
theorem KS_48 {sc : Nat × (Nat → Int)} : Run sc 76 51 [some (Rf 1), some (I 5)] [(Rf 38), (I 5), (Rf 7)] hk_93 = Run sc 76 67 [some (Rf 1), some (I 5)] [] hk_107 := by
  refine Eq.trans (b := Run sc 76 52 [some (Rf 1), some (I 5)] [(Rf 38), (Rf 38), (I 5), (Rf 7)] hk_93) (R_dup mc_76 dX6_init_51) ?_
  refine Eq.trans (b := Run sc 76 53 [some (Rf 1), some (I 5)] [(Rf 1), (Rf 38), (Rf 38), (I 5), (Rf 7)] hk_93) (R_aload_n mc_76 dX6_init_52 rfl) ?_
  refine Eq.trans (b := Run sc 76 56 [some (Rf 1), some (I 5)] [(Rf 2), (Rf 38), (Rf 38), (I 5), (Rf 7)] hk_93) (R_getR mc_76 dX6_init_53 mo_76 ft_6_10 (n := 6) rfl rfl (r := 2) rfl (by decide)) ?_
  refine Eq.trans (b := Run sc 76 57 [some (Rf 1), some (I 5)] [(Rf 1), (Rf 2), (Rf 38), (Rf 38), (I 5), (Rf 7)] hk_93) (R_aload_n mc_76 dX6_init_56 rfl) ?_
  refine Eq.trans (b := Run sc 76 60 [some (Rf 1), some (I 5)] [(Rf 6), (Rf 2), (Rf 38), (Rf 38), (I 5), (Rf 7)] hk_93) (R_getR mc_76 dX6_init_57 mo_76 ft_6_19 (n := 6) rfl rfl (r := 6) rfl (by decide)) ?_
  refine Eq.trans (b := Run sc 76 61 [some (Rf 1), some (I 5)] [(I 5), (Rf 6), (Rf 2), (Rf 38), (Rf 38), (I 5), (Rf 7)] hk_93) (R_iload_n mc_76 dX6_init_60 rfl) ?_
  refine Eq.trans (b := Run sc 76 62 [some (Rf 1), some (I 5)] [(I 1), (I 5), (Rf 6), (Rf 2), (Rf 38), (Rf 38), (I 5), (Rf 7)] hk_93) (R_iconst mc_76 dX6_init_61 ⟨by decide, by decide⟩) ?_
  refine Eq.trans (b := Run sc 76 63 [some (Rf 1), some (I 5)] [(I 6), (Rf 6), (Rf 2), (Rf 38), (Rf 38), (I 5), (Rf 7)] hk_93) ((R_iadd mc_76 dX6_init_62).trans (chk_pos (by decide))) ?_
  refine Eq.trans (b := Run sc 76 66 [some (Rf 1), some (I 5)] [(Rf 38), (I 5), (Rf 7)] hk_106) ((R_invI mc_76 dX6_init_63 mo_76 ct_6_29 (Or.inl rfl) (by decide) (b := 38) (rest := [(Rf 38), (I 5), (Rf 7)]) (lv2 := [some (Rf 38), some (Rf 2), some (Rf 6), some (I 6)]) rfl (by decide) rfl ⟨Nat.le_of_ble_eq_true rfl, Nat.le_of_ble_eq_true rfl⟩).trans (by rw [KT_47, aBind_some, pushR_none])) ?_
  refine Eq.trans (b := Run sc 76 67 [some (Rf 1), some (I 5)] [] hk_107) ((R_aastore mc_76 dX6_init_66 (m := 9) rfl (n := 6) rfl).trans (bck_pos (by decide))) ?_
  rfl
theorem KS_49 {sc : Nat × (Nat → Int)} : Run sc 76 67 [some (Rf 1), some (I 5)] [] hk_107 = Run sc 76 82 [some (Rf 1), some (I 6)] [(Rf 2), (Rf 44), (Rf 44), (Rf 1)] hk_108 := by
  refine Eq.trans (b := Run sc 76 70 [some (Rf 1), some (I 6)] [] hk_107) ((R_iinc mc_76 dX6_init_67 rfl).trans (chk_pos (by decide))) ?_
  refine Eq.trans (b := Run sc 76 37 [some (Rf 1), some (I 6)] [] hk_107) (R_goto mc_76 dX6_init_70 (t := 37) rfl) ?_
  refine Eq.trans (b := Run sc 76 38 [some (Rf 1), some (I 6)] [(I 6)] hk_107) (R_iload_n mc_76 dX6_init_37 rfl) ?_
  refine Eq.trans (b := Run sc 76 40 [some (Rf 1), some (I 6)] [(I 6), (I 6)] hk_107) (R_bipush mc_76 dX6_init_38 ⟨by decide, by decide⟩) ?_
  refine Eq.trans (b := Run sc 76 73 [some (Rf 1), some (I 6)] [] hk_107) ((R_icmp_ge mc_76 dX6_init_40 (t := 73) rfl).trans (if_neg (by decide))) ?_
  refine Eq.trans (b := Run sc 76 74 [some (Rf 1), some (I 6)] [(Rf 1)] hk_107) (R_aload_n mc_76 dX6_init_73 rfl) ?_
  refine Eq.trans (b := Run sc 76 77 [some (Rf 1), some (I 6)] [(Rf 44), (Rf 1)] hk_108) (R_new mc_76 dX6_init_74 mo_76 (o := 0) rfl) ?_
  refine Eq.trans (b := Run sc 76 78 [some (Rf 1), some (I 6)] [(Rf 44), (Rf 44), (Rf 1)] hk_108) (R_dup mc_76 dX6_init_77) ?_
  refine Eq.trans (b := Run sc 76 79 [some (Rf 1), some (I 6)] [(Rf 1), (Rf 44), (Rf 44), (Rf 1)] hk_108) (R_aload_n mc_76 dX6_init_78 rfl) ?_
  refine Eq.trans (b := Run sc 76 82 [some (Rf 1), some (I 6)] [(Rf 2), (Rf 44), (Rf 44), (Rf 1)] hk_108) (R_getR mc_76 dX6_init_79 mo_76 ft_6_10 (n := 6) rfl rfl (r := 2) rfl (by decide)) ?_
  rfl
theorem KS_50 {sc : Nat × (Nat → Int)} : Run sc 1 0 [some (Rf 44), some (Rf 2)] [] hk_108 = Run sc 1 19 [some (Rf 44), some (Rf 2)] [(Rf 44)] hk_111 := by
  refine Eq.trans (b := Run sc 1 1 [some (Rf 44), some (Rf 2)] [(Rf 44)] hk_108) (R_aload_n mc_1 dX0_init_0 rfl) ?_
  refine Eq.trans (b := Run sc 1 4 [some (Rf 44), some (Rf 2)] [] hk_108) (R_objI mc_1 dX0_init_1 mo_1 ct_0_5 (by decide)) ?_
  refine Eq.trans (b := Run sc 1 5 [some (Rf 44), some (Rf 2)] [(Rf 44)] hk_108) (R_aload_n mc_1 dX0_init_4 rfl) ?_
  refine Eq.trans (b := Run sc 1 6 [some (Rf 44), some (Rf 2)] [(Rf 2), (Rf 44)] hk_108) (R_aload_n mc_1 dX0_init_5 rfl) ?_
  refine Eq.trans (b := Run sc 1 9 [some (Rf 44), some (Rf 2)] [] hk_109) (R_putR mc_1 dX0_init_6 mo_1 ft_0_11 (by decide +kernel) (n := 6) rfl rfl (by decide)) ?_
  refine Eq.trans (b := Run sc 1 10 [some (Rf 44), some (Rf 2)] [(Rf 44)] hk_109) (R_aload_n mc_1 dX0_init_9 rfl) ?_
  refine Eq.trans (b := Run sc 1 13 [some (Rf 44), some (Rf 2)] [(I 625), (Rf 44)] hk_109) (R_sipush mc_1 dX0_init_10 ⟨by decide, by decide⟩) ?_
  refine Eq.trans (b := Run sc 1 15 [some (Rf 44), some (Rf 2)] [(Rf 45), (Rf 44)] hk_110) (R_newa_boolean mc_1 dX0_init_13 (by decide)) ?_
  refine Eq.trans (b := Run sc 1 18 [some (Rf 44), some (Rf 2)] [] hk_111) (R_putR mc_1 dX0_init_15 mo_1 ft_0_15 (by decide +kernel) (n := 6) rfl rfl (by decide)) ?_
  refine Eq.trans (b := Run sc 1 19 [some (Rf 44), some (Rf 2)] [(Rf 44)] hk_111) (R_aload_n mc_1 dX0_init_18 rfl) ?_
  rfl
theorem KS_51 {sc : Nat × (Nat → Int)} : Run sc 1 19 [some (Rf 44), some (Rf 2)] [(Rf 44)] hk_111 = Run sc 1 42 [some (Rf 44), some (Rf 2)] [(Rf 48), (Rf 44)] hk_116 := by
  refine Eq.trans (b := Run sc 1 22 [some (Rf 44), some (Rf 2)] [(I 625), (Rf 44)] hk_111) (R_sipush mc_1 dX0_init_19 ⟨by decide, by decide⟩) ?_
  refine Eq.trans (b := Run sc 1 24 [some (Rf 44), some (Rf 2)] [(Rf 46), (Rf 44)] hk_112) (R_newa_boolean mc_1 dX0_init_22 (by decide)) ?_
  refine Eq.trans (b := Run sc 1 27 [some (Rf 44), some (Rf 2)] [] hk_113) (R_putR mc_1 dX0_init_24 mo_1 ft_0_19 (by decide +kernel) (n := 6) rfl rfl (by decide)) ?_
  refine Eq.trans (b := Run sc 1 28 [some (Rf 44), some (Rf 2)] [(Rf 44)] hk_113) (R_aload_n mc_1 dX0_init_27 rfl) ?_
  refine Eq.trans (b := Run sc 1 31 [some (Rf 44), some (Rf 2)] [(I 625), (Rf 44)] hk_113) (R_sipush mc_1 dX0_init_28 ⟨by decide, by decide⟩) ?_
  refine Eq.trans (b := Run sc 1 33 [some (Rf 44), some (Rf 2)] [(Rf 47), (Rf 44)] hk_114) (R_newa_boolean mc_1 dX0_init_31 (by decide)) ?_
  refine Eq.trans (b := Run sc 1 36 [some (Rf 44), some (Rf 2)] [] hk_115) (R_putR mc_1 dX0_init_33 mo_1 ft_0_22 (by decide +kernel) (n := 6) rfl rfl (by decide)) ?_
  refine Eq.trans (b := Run sc 1 37 [some (Rf 44), some (Rf 2)] [(Rf 44)] hk_115) (R_aload_n mc_1 dX0_init_36 rfl) ?_
  refine Eq.trans (b := Run sc 1 40 [some (Rf 44), some (Rf 2)] [(I 625), (Rf 44)] hk_115) (R_sipush mc_1 dX0_init_37 ⟨by decide, by decide⟩) ?_
  refine Eq.trans (b := Run sc 1 42 [some (Rf 44), some (Rf 2)] [(Rf 48), (Rf 44)] hk_116) (R_newa_int mc_1 dX0_init_40 (by decide)) ?_
  rfl
theorem KS_52 {sc : Nat × (Nat → Int)} : Run sc 1 42 [some (Rf 44), some (Rf 2)] [(Rf 48), (Rf 44)] hk_116 = Run sc 1 45 [some (Rf 44), some (Rf 2)] [] hk_117 := by
  refine Eq.trans (b := Run sc 1 45 [some (Rf 44), some (Rf 2)] [] hk_117) (R_putR mc_1 dX0_init_42 mo_1 ft_0_25 (by decide +kernel) (n := 6) rfl rfl (by decide)) ?_
  rfl
theorem KT_53 {sc : Nat × (Nat → Int)} : Run sc 1 0 [some (Rf 44), some (Rf 2)] [] hk_108 = some (none, hk_117) := by
  rw [KS_50, KS_51, KS_52]
  exact R_return mc_1 dX0_init_45 rfl
theorem KS_54 {sc : Nat × (Nat → Int)} : Run sc 60 0 [some (Rf 49), some (Rf 2)] [] hk_119 = Run sc 60 18 [some (Rf 49), some (Rf 2)] [(I 1), (Rf 49)] hk_121 := by
  refine Eq.trans (b := Run sc 60 1 [some (Rf 49), some (Rf 2)] [(Rf 49)] hk_119) (R_aload_n mc_60 dX4_init_0 rfl) ?_
  refine Eq.trans (b := Run sc 60 4 [some (Rf 49), some (Rf 2)] [] hk_119) (R_objI mc_60 dX4_init_1 mo_60 ct_4_1 (by decide)) ?_
  refine Eq.trans (b := Run sc 60 5 [some (Rf 49), some (Rf 2)] [(Rf 49)] hk_119) (R_aload_n mc_60 dX4_init_4 rfl) ?_
  refine Eq.trans (b := Run sc 60 7 [some (Rf 49), some (Rf 2)] [(I 8), (Rf 49)] hk_119) (R_bipush mc_60 dX4_init_5 ⟨by decide, by decide⟩) ?_
  refine Eq.trans (b := Run sc 60 10 [some (Rf 49), some (Rf 2)] [] hk_120) ((R_putI mc_60 dX4_init_7 mo_60 ft_4_7 (by decide +kernel) (n := 4) rfl rfl (lo := (-2147483648)) (hi := 2147483647) rfl rfl).trans (bck_pos (by decide))) ?_
  refine Eq.trans (b := Run sc 60 11 [some (Rf 49), some (Rf 2)] [(Rf 49)] hk_120) (R_aload_n mc_60 dX4_init_10 rfl) ?_
  refine Eq.trans (b := Run sc 60 13 [some (Rf 49), some (Rf 2)] [(I 6), (Rf 49)] hk_120) (R_bipush mc_60 dX4_init_11 ⟨by decide, by decide⟩) ?_
  refine Eq.trans (b := Run sc 60 16 [some (Rf 49), some (Rf 2)] [] hk_121) ((R_putI mc_60 dX4_init_13 mo_60 ft_4_13 (by decide +kernel) (n := 4) rfl rfl (lo := (-2147483648)) (hi := 2147483647) rfl rfl).trans (bck_pos (by decide))) ?_
  refine Eq.trans (b := Run sc 60 17 [some (Rf 49), some (Rf 2)] [(Rf 49)] hk_121) (R_aload_n mc_60 dX4_init_16 rfl) ?_
  refine Eq.trans (b := Run sc 60 18 [some (Rf 49), some (Rf 2)] [(I 1), (Rf 49)] hk_121) (R_iconst mc_60 dX4_init_17 ⟨by decide, by decide⟩) ?_
  rfl
theorem KS_55 {sc : Nat × (Nat → Int)} : Run sc 60 18 [some (Rf 49), some (Rf 2)] [(I 1), (Rf 49)] hk_121 = Run sc 60 26 [some (Rf 49), some (Rf 2)] [] hk_123 := by
  refine Eq.trans (b := Run sc 60 21 [some (Rf 49), some (Rf 2)] [] hk_122) ((R_putI mc_60 dX4_init_18 mo_60 ft_4_16 (by decide +kernel) (n := 4) rfl rfl (lo := (-2147483648)) (hi := 2147483647) rfl rfl).trans (bck_pos (by decide))) ?_
  refine Eq.trans (b := Run sc 60 22 [some (Rf 49), some (Rf 2)] [(Rf 49)] hk_122) (R_aload_n mc_60 dX4_init_21 rfl) ?_
  refine Eq.trans (b := Run sc 60 23 [some (Rf 49), some (Rf 2)] [(Rf 2), (Rf 49)] hk_122) (R_aload_n mc_60 dX4_init_22 rfl) ?_
  refine Eq.trans (b := Run sc 60 26 [some (Rf 49), some (Rf 2)] [] hk_123) (R_putR mc_60 dX4_init_23 mo_60 ft_4_19 (by decide +kernel) (n := 4) rfl rfl (by decide)) ?_
  rfl
theorem KT_56 {sc : Nat × (Nat → Int)} : Run sc 60 0 [some (Rf 49), some (Rf 2)] [] hk_119 = some (none, hk_123) := by
  rw [KS_54, KS_55]
  exact R_return mc_60 dX4_init_26 rfl
theorem KS_57 {sc : Nat × (Nat → Int)} : Run sc 76 82 [some (Rf 1), some (I 6)] [(Rf 2), (Rf 44), (Rf 44), (Rf 1)] hk_108 = Run sc 76 104 [some (Rf 1), some (I 6)] [(Rf 1)] hk_124 := by
  refine Eq.trans (b := Run sc 76 85 [some (Rf 1), some (I 6)] [(Rf 44), (Rf 1)] hk_117) ((R_invI mc_76 dX6_init_82 mo_76 ct_6_34 (Or.inl rfl) (by decide) (b := 44) (rest := [(Rf 44), (Rf 1)]) (lv2 := [some (Rf 44), some (Rf 2)]) rfl (by decide) rfl ⟨Nat.le_of_ble_eq_true rfl, Nat.le_of_ble_eq_true rfl⟩).trans (by rw [KT_53, aBind_some, pushR_none])) ?_
  refine Eq.trans (b := Run sc 76 88 [some (Rf 1), some (I 6)] [] hk_118) (R_putR mc_76 dX6_init_85 mo_76 ft_6_37 (by decide +kernel) (n := 6) rfl rfl (by decide)) ?_
  refine Eq.trans (b := Run sc 76 89 [some (Rf 1), some (I 6)] [(Rf 1)] hk_118) (R_aload_n mc_76 dX6_init_88 rfl) ?_
  refine Eq.trans (b := Run sc 76 92 [some (Rf 1), some (I 6)] [(Rf 49), (Rf 1)] hk_119) (R_new mc_76 dX6_init_89 mo_76 (o := 4) rfl) ?_
  refine Eq.trans (b := Run sc 76 93 [some (Rf 1), some (I 6)] [(Rf 49), (Rf 49), (Rf 1)] hk_119) (R_dup mc_76 dX6_init_92) ?_
  refine Eq.trans (b := Run sc 76 94 [some (Rf 1), some (I 6)] [(Rf 1), (Rf 49), (Rf 49), (Rf 1)] hk_119) (R_aload_n mc_76 dX6_init_93 rfl) ?_
  refine Eq.trans (b := Run sc 76 97 [some (Rf 1), some (I 6)] [(Rf 2), (Rf 49), (Rf 49), (Rf 1)] hk_119) (R_getR mc_76 dX6_init_94 mo_76 ft_6_10 (n := 6) rfl rfl (r := 2) rfl (by decide)) ?_
  refine Eq.trans (b := Run sc 76 100 [some (Rf 1), some (I 6)] [(Rf 49), (Rf 1)] hk_123) ((R_invI mc_76 dX6_init_97 mo_76 ct_6_43 (Or.inl rfl) (by decide) (b := 49) (rest := [(Rf 49), (Rf 1)]) (lv2 := [some (Rf 49), some (Rf 2)]) rfl (by decide) rfl ⟨Nat.le_of_ble_eq_true rfl, Nat.le_of_ble_eq_true rfl⟩).trans (by rw [KT_56, aBind_some, pushR_none])) ?_
  refine Eq.trans (b := Run sc 76 103 [some (Rf 1), some (I 6)] [] hk_124) (R_putR mc_76 dX6_init_100 mo_76 ft_6_44 (by decide +kernel) (n := 6) rfl rfl (by decide)) ?_
  refine Eq.trans (b := Run sc 76 104 [some (Rf 1), some (I 6)] [(Rf 1)] hk_124) (R_aload_n mc_76 dX6_init_103 rfl) ?_
  rfl
theorem KS_58 {sc : Nat × (Nat → Int)} : Run sc 16 0 [some (Rf 50)] [] hk_125 = Run sc 16 12 [some (Rf 50)] [] hk_127 := by
  refine Eq.trans (b := Run sc 16 1 [some (Rf 50)] [(Rf 50)] hk_125) (R_aload_n mc_16 dX1_init_0 rfl) ?_
  refine Eq.trans (b := Run sc 16 4 [some (Rf 50)] [] hk_125) (R_objI mc_16 dX1_init_1 mo_16 ct_1_1 (by decide)) ?_
  refine Eq.trans (b := Run sc 16 5 [some (Rf 50)] [(Rf 50)] hk_125) (R_aload_n mc_16 dX1_init_4 rfl) ?_
  refine Eq.trans (b := Run sc 16 7 [some (Rf 50)] [(I 120), (Rf 50)] hk_125) (R_bipush mc_16 dX1_init_5 ⟨by decide, by decide⟩) ?_
  refine Eq.trans (b := Run sc 16 9 [some (Rf 50)] [(Rf 51), (Rf 50)] hk_126) (R_newa_char mc_16 dX1_init_7 (by decide)) ?_
  refine Eq.trans (b := Run sc 16 12 [some (Rf 50)] [] hk_127) (R_putR mc_16 dX1_init_9 mo_16 ft_1_9 (by decide +kernel) (n := 4) rfl rfl (by decide)) ?_
  rfl
theorem KT_59 {sc : Nat × (Nat → Int)} : Run sc 16 0 [some (Rf 50)] [] hk_125 = some (none, hk_127) := by
  rw [KS_58]
  exact R_return mc_16 dX1_init_12 rfl
theorem KS_60 {sc : Nat × (Nat → Int)} : Run sc 76 104 [some (Rf 1), some (I 6)] [(Rf 1)] hk_124 = Run sc 76 114 [some (Rf 1), some (I 6)] [] hk_128 := by
  refine Eq.trans (b := Run sc 76 107 [some (Rf 1), some (I 6)] [(Rf 50), (Rf 1)] hk_125) (R_new mc_76 dX6_init_104 mo_76 (o := 1) rfl) ?_
  refine Eq.trans (b := Run sc 76 108 [some (Rf 1), some (I 6)] [(Rf 50), (Rf 50), (Rf 1)] hk_125) (R_dup mc_76 dX6_init_107) ?_
  refine Eq.trans (b := Run sc 76 111 [some (Rf 1), some (I 6)] [(Rf 50), (Rf 1)] hk_127) ((R_invI mc_76 dX6_init_108 mo_76 ct_6_50 (Or.inl rfl) (by decide) (b := 50) (rest := [(Rf 50), (Rf 1)]) (lv2 := [some (Rf 50)]) rfl (by decide) rfl ⟨Nat.le_of_ble_eq_true rfl, Nat.le_of_ble_eq_true rfl⟩).trans (by rw [KT_59, aBind_some, pushR_none])) ?_
  refine Eq.trans (b := Run sc 76 114 [some (Rf 1), some (I 6)] [] hk_128) (R_putR mc_76 dX6_init_111 mo_76 ft_6_51 (by decide +kernel) (n := 6) rfl rfl (by decide)) ?_
  rfl
theorem KT_61 {sc : Nat × (Nat → Int)} : Run sc 76 0 [some (Rf 1), none] [] hk_1 = some (none, hk_128) := by
  rw [KS_4, KS_7, KS_8, KS_14, KS_15, KS_21, KS_22, KS_28, KS_29, KS_35, KS_41, KS_42, KS_48, KS_49, KS_57, KS_60]
  exact R_return mc_76 dX6_init_114 rfl
theorem KS_62 {sc : Nat × (Nat → Int)} : Run sc 0 0 [some (Rf 0), none, none, none, none, none, none, none, none, none, none, none, none, none, none, none, none, none] [] hk_0 = Run sc 0 8 [some (Rf 0), some (Rf 1), none, none, none, none, none, none, none, none, none, none, none, none, none, none, none, none] [] hk_128 := by
  refine Eq.trans (b := Run sc 0 3 [some (Rf 0), none, none, none, none, none, none, none, none, none, none, none, none, none, none, none, none, none] [(Rf 1)] hk_1) (R_new mc_0 dL_law_0 mo_0 (o := 6) rfl) ?_
  refine Eq.trans (b := Run sc 0 4 [some (Rf 0), none, none, none, none, none, none, none, none, none, none, none, none, none, none, none, none, none] [(Rf 1), (Rf 1)] hk_1) (R_dup mc_0 dL_law_3) ?_
  refine Eq.trans (b := Run sc 0 7 [some (Rf 0), none, none, none, none, none, none, none, none, none, none, none, none, none, none, none, none, none] [(Rf 1)] hk_128) ((R_invI mc_0 dL_law_4 mo_0 ct_7_116 (Or.inl rfl) (by decide) (b := 1) (rest := [(Rf 1)]) (lv2 := [some (Rf 1), none]) rfl (by decide) rfl ⟨Nat.le_of_ble_eq_true rfl, Nat.le_of_ble_eq_true rfl⟩).trans (by rw [KT_61, aBind_some, pushR_none])) ?_
  refine Eq.trans (b := Run sc 0 8 [some (Rf 0), some (Rf 1), none, none, none, none, none, none, none, none, none, none, none, none, none, none, none, none] [] hk_128) (R_astore_n mc_0 dL_law_7 (Nat.le_of_ble_eq_true rfl)) ?_
  rfl
theorem KT_63 {sc : Nat × (Nat → Int)} : Run sc 0 0 [some (Rf 0), none, none, none, none, none, none, none, none, none, none, none, none, none, none, none, none, none] [] hk_0 = Run sc 0 8 [some (Rf 0), some (Rf 1), none, none, none, none, none, none, none, none, none, none, none, none, none, none, none, none] [] hk_128 := by
  rw [KS_62]
theorem ctor_kk : kk_51 = CSL := rfl
def rO (f : Nat → Nat → Nat) : Prop := ∀ a j, (52 ≤ a ∨ 9 ≤ j) → f a j = 0
theorem rO_set {f : Nat → Nat → Nat} {a k v : Nat} (h : rO f) (ha : a < 52) (hk : k < 9) : rO (setR f a k v) := fun b j hb => by
  unfold setR
  rw [if_neg (by omega)]
  exact h b j hb
theorem rO_0 : rO rr_0 := fun _ _ _ => rfl
theorem rO_1 : rO rr_1 := rO_set rO_0 (by decide) (by decide)
theorem rO_2 : rO rr_2 := rO_set rO_1 (by decide) (by decide)
theorem rO_3 : rO rr_3 := rO_set rO_2 (by decide) (by decide)
theorem rO_4 : rO rr_4 := rO_set rO_3 (by decide) (by decide)
theorem rO_5 : rO rr_5 := rO_set rO_4 (by decide) (by decide)
theorem rO_6 : rO rr_6 := rO_set rO_5 (by decide) (by decide)
theorem rO_7 : rO rr_7 := rO_set rO_6 (by decide) (by decide)
theorem rO_8 : rO rr_8 := rO_set rO_7 (by decide) (by decide)
theorem rO_9 : rO rr_9 := rO_set rO_8 (by decide) (by decide)
theorem rO_10 : rO rr_10 := rO_set rO_9 (by decide) (by decide)
theorem rO_11 : rO rr_11 := rO_set rO_10 (by decide) (by decide)
theorem rO_12 : rO rr_12 := rO_set rO_11 (by decide) (by decide)
theorem rO_13 : rO rr_13 := rO_set rO_12 (by decide) (by decide)
theorem rO_14 : rO rr_14 := rO_set rO_13 (by decide) (by decide)
theorem rO_15 : rO rr_15 := rO_set rO_14 (by decide) (by decide)
theorem rO_16 : rO rr_16 := rO_set rO_15 (by decide) (by decide)
theorem rO_17 : rO rr_17 := rO_set rO_16 (by decide) (by decide)
theorem rO_18 : rO rr_18 := rO_set rO_17 (by decide) (by decide)
theorem rO_19 : rO rr_19 := rO_set rO_18 (by decide) (by decide)
theorem rO_20 : rO rr_20 := rO_set rO_19 (by decide) (by decide)
theorem rO_21 : rO rr_21 := rO_set rO_20 (by decide) (by decide)
theorem rO_22 : rO rr_22 := rO_set rO_21 (by decide) (by decide)
theorem rO_23 : rO rr_23 := rO_set rO_22 (by decide) (by decide)
theorem rO_24 : rO rr_24 := rO_set rO_23 (by decide) (by decide)
theorem rO_25 : rO rr_25 := rO_set rO_24 (by decide) (by decide)
theorem rO_26 : rO rr_26 := rO_set rO_25 (by decide) (by decide)
theorem rO_27 : rO rr_27 := rO_set rO_26 (by decide) (by decide)
theorem rO_28 : rO rr_28 := rO_set rO_27 (by decide) (by decide)
theorem rO_29 : rO rr_29 := rO_set rO_28 (by decide) (by decide)
theorem rO_30 : rO rr_30 := rO_set rO_29 (by decide) (by decide)
theorem rO_31 : rO rr_31 := rO_set rO_30 (by decide) (by decide)
theorem rO_32 : rO rr_32 := rO_set rO_31 (by decide) (by decide)
theorem rO_33 : rO rr_33 := rO_set rO_32 (by decide) (by decide)
theorem rO_34 : rO rr_34 := rO_set rO_33 (by decide) (by decide)
theorem rO_35 : rO rr_35 := rO_set rO_34 (by decide) (by decide)
theorem rO_36 : rO rr_36 := rO_set rO_35 (by decide) (by decide)
theorem rO_37 : rO rr_37 := rO_set rO_36 (by decide) (by decide)
theorem rO_38 : rO rr_38 := rO_set rO_37 (by decide) (by decide)
theorem rO_39 : rO rr_39 := rO_set rO_38 (by decide) (by decide)
theorem rO_40 : rO rr_40 := rO_set rO_39 (by decide) (by decide)
theorem rO_41 : rO rr_41 := rO_set rO_40 (by decide) (by decide)
theorem rO_42 : rO rr_42 := rO_set rO_41 (by decide) (by decide)
theorem rO_43 : rO rr_43 := rO_set rO_42 (by decide) (by decide)
theorem rO_44 : rO rr_44 := rO_set rO_43 (by decide) (by decide)
theorem rO_45 : rO rr_45 := rO_set rO_44 (by decide) (by decide)
theorem rO_46 : rO rr_46 := rO_set rO_45 (by decide) (by decide)
theorem rO_47 : rO rr_47 := rO_set rO_46 (by decide) (by decide)
theorem rO_48 : rO rr_48 := rO_set rO_47 (by decide) (by decide)
theorem rO_49 : rO rr_49 := rO_set rO_48 (by decide) (by decide)
theorem rO_50 : rO rr_50 := rO_set rO_49 (by decide) (by decide)
theorem rO_51 : rO rr_51 := rO_set rO_50 (by decide) (by decide)
theorem rO_52 : rO rr_52 := rO_set rO_51 (by decide) (by decide)
theorem rO_53 : rO rr_53 := rO_set rO_52 (by decide) (by decide)
theorem rO_54 : rO rr_54 := rO_set rO_53 (by decide) (by decide)
theorem rO_55 : rO rr_55 := rO_set rO_54 (by decide) (by decide)
theorem rO_56 : rO rr_56 := rO_set rO_55 (by decide) (by decide)
theorem rO_57 : rO rr_57 := rO_set rO_56 (by decide) (by decide)
theorem rO_58 : rO rr_58 := rO_set rO_57 (by decide) (by decide)
theorem rO_59 : rO rr_59 := rO_set rO_58 (by decide) (by decide)
theorem rO_60 : rO rr_60 := rO_set rO_59 (by decide) (by decide)
theorem rO_61 : rO rr_61 := rO_set rO_60 (by decide) (by decide)
theorem rO_62 : rO rr_62 := rO_set rO_61 (by decide) (by decide)
theorem rO_63 : rO rr_63 := rO_set rO_62 (by decide) (by decide)
theorem rO_64 : rO rr_64 := rO_set rO_63 (by decide) (by decide)
theorem RFT_out : rO RFT := fun a j hj => by
  unfold RFT
  by_cases h : a < 52
  · have key : ∀ a, a < 52 → (RFL.getD a []).length ≤ 9 := by decide +kernel
    have := key a h
    rw [List.getD_eq_getElem?_getD, List.getElem?_eq_none (by omega)]; rfl
  · have e : RFL.getD a [] = [] := by
      rw [List.getD_eq_getElem?_getD, List.getElem?_eq_none (by have : RFL.length = 52 := rfl; omega)]; rfl
    rw [e]; rfl
theorem ctor_rr : rr_64 = RFT := by
  funext a j
  by_cases h : a < 52 ∧ j < 9
  · have key : ∀ a, a < 52 → ∀ j, j < 9 → rr_64 a j = RFT a j := by decide +kernel
    exact key a h.1 j h.2
  · rw [rO_64 a j (by omega), RFT_out a j (by omega)]
theorem ctor_hk : hk_128 = hp ii_13 := by
  show (kk_51, rr_64, ii_13) = (CSL, RFT, ii_13)
  rw [ctor_kk, ctor_rr]
end CTOR
