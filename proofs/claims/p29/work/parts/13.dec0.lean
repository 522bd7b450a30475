theorem dX0_init_0 : decode cX0_init 0 = .ok (.aload_n 0, 1) := by decide +kernel
theorem dX0_init_1 : decode cX0_init 1 = .ok (.invokespecial 5, 3) := by decide +kernel
theorem dX0_init_4 : decode cX0_init 4 = .ok (.aload_n 0, 1) := by decide +kernel
theorem dX0_init_5 : decode cX0_init 5 = .ok (.aload_n 1, 1) := by decide +kernel
theorem dX0_init_6 : decode cX0_init 6 = .ok (.putfield 11, 3) := by decide +kernel
theorem dX0_init_9 : decode cX0_init 9 = .ok (.aload_n 0, 1) := by decide +kernel
theorem dX0_init_10 : decode cX0_init 10 = .ok (.sipush 625, 3) := by decide +kernel
theorem dX0_init_13 : decode cX0_init 13 = .ok (.newarray .boolean, 2) := by decide +kernel
theorem dX0_init_15 : decode cX0_init 15 = .ok (.putfield 15, 3) := by decide +kernel
theorem dX0_init_18 : decode cX0_init 18 = .ok (.aload_n 0, 1) := by decide +kernel
theorem dX0_init_19 : decode cX0_init 19 = .ok (.sipush 625, 3) := by decide +kernel
theorem dX0_init_22 : decode cX0_init 22 = .ok (.newarray .boolean, 2) := by decide +kernel
theorem dX0_init_24 : decode cX0_init 24 = .ok (.putfield 19, 3) := by decide +kernel
theorem dX0_init_27 : decode cX0_init 27 = .ok (.aload_n 0, 1) := by decide +kernel
theorem dX0_init_28 : decode cX0_init 28 = .ok (.sipush 625, 3) := by decide +kernel
theorem dX0_init_31 : decode cX0_init 31 = .ok (.newarray .boolean, 2) := by decide +kernel
theorem dX0_init_33 : decode cX0_init 33 = .ok (.putfield 22, 3) := by decide +kernel
theorem dX0_init_36 : decode cX0_init 36 = .ok (.aload_n 0, 1) := by decide +kernel
theorem dX0_init_37 : decode cX0_init 37 = .ok (.sipush 625, 3) := by decide +kernel
theorem dX0_init_40 : decode cX0_init 40 = .ok (.newarray .int, 2) := by decide +kernel
theorem dX0_init_42 : decode cX0_init 42 = .ok (.putfield 25, 3) := by decide +kernel
theorem dX0_init_45 : decode cX0_init 45 = .ok (.return_, 1) := by decide +kernel
theorem dX0_removeAll_0 : decode cX0_removeAll 0 = .ok (.iconst 0, 1) := by decide +kernel
theorem dX0_removeAll_1 : decode cX0_removeAll 1 = .ok (.istore_n 1, 1) := by decide +kernel
theorem dX0_removeAll_2 : decode cX0_removeAll 2 = .ok (.iload_n 1, 1) := by decide +kernel
theorem dX0_removeAll_3 : decode cX0_removeAll 3 = .ok (.sipush 625, 3) := by decide +kernel
theorem dX0_removeAll_6 : decode cX0_removeAll 6 = .ok (.if_icmp .ge 23, 3) := by decide +kernel
theorem dX0_removeAll_9 : decode cX0_removeAll 9 = .ok (.aload_n 0, 1) := by decide +kernel
theorem dX0_removeAll_10 : decode cX0_removeAll 10 = .ok (.getfield 15, 3) := by decide +kernel
theorem dX0_removeAll_13 : decode cX0_removeAll 13 = .ok (.iload_n 1, 1) := by decide +kernel
theorem dX0_removeAll_14 : decode cX0_removeAll 14 = .ok (.iconst 0, 1) := by decide +kernel
theorem dX0_removeAll_15 : decode cX0_removeAll 15 = .ok (.bastore, 1) := by decide +kernel
theorem dX0_removeAll_16 : decode cX0_removeAll 16 = .ok (.aload_n 0, 1) := by decide +kernel
theorem dX0_removeAll_17 : decode cX0_removeAll 17 = .ok (.getfield 19, 3) := by decide +kernel
theorem dX0_removeAll_20 : decode cX0_removeAll 20 = .ok (.iload_n 1, 1) := by decide +kernel
theorem dX0_removeAll_21 : decode cX0_removeAll 21 = .ok (.iconst 0, 1) := by decide +kernel
theorem dX0_removeAll_22 : decode cX0_removeAll 22 = .ok (.bastore, 1) := by decide +kernel
theorem dX0_removeAll_23 : decode cX0_removeAll 23 = .ok (.iinc 1 1, 3) := by decide +kernel
theorem dX0_removeAll_26 : decode cX0_removeAll 26 = .ok (.goto (-24), 3) := by decide +kernel
theorem dX0_removeAll_29 : decode cX0_removeAll 29 = .ok (.return_, 1) := by decide +kernel
theorem dX0_hasEdge_0 : decode cX0_hasEdge 0 = .ok (.iload_n 3, 1) := by decide +kernel
theorem dX0_hasEdge_1 : decode cX0_hasEdge 1 = .ok (.ifCond .eq 13, 3) := by decide +kernel
theorem dX0_hasEdge_4 : decode cX0_hasEdge 4 = .ok (.aload_n 0, 1) := by decide +kernel
theorem dX0_hasEdge_5 : decode cX0_hasEdge 5 = .ok (.getfield 11, 3) := by decide +kernel
theorem dX0_hasEdge_8 : decode cX0_hasEdge 8 = .ok (.getfield 29, 3) := by decide +kernel
theorem dX0_hasEdge_11 : decode cX0_hasEdge 11 = .ok (.goto 12, 3) := by decide +kernel
theorem dX0_hasEdge_14 : decode cX0_hasEdge 14 = .ok (.aload_n 0, 1) := by decide +kernel
theorem dX0_hasEdge_15 : decode cX0_hasEdge 15 = .ok (.getfield 11, 3) := by decide +kernel
theorem dX0_hasEdge_18 : decode cX0_hasEdge 18 = .ok (.getfield 29, 3) := by decide +kernel
theorem dX0_hasEdge_21 : decode cX0_hasEdge 21 = .ok (.iconst 1, 1) := by decide +kernel
theorem dX0_hasEdge_22 : decode cX0_hasEdge 22 = .ok (.isub, 1) := by decide +kernel
theorem dX0_hasEdge_23 : decode cX0_hasEdge 23 = .ok (.istore 4, 2) := by decide +kernel
theorem dX0_hasEdge_25 : decode cX0_hasEdge 25 = .ok (.iload_n 3, 1) := by decide +kernel
theorem dX0_hasEdge_26 : decode cX0_hasEdge 26 = .ok (.ifCond .eq 15, 3) := by decide +kernel
theorem dX0_hasEdge_29 : decode cX0_hasEdge 29 = .ok (.aload_n 0, 1) := by decide +kernel
theorem dX0_hasEdge_30 : decode cX0_hasEdge 30 = .ok (.getfield 11, 3) := by decide +kernel
theorem dX0_hasEdge_33 : decode cX0_hasEdge 33 = .ok (.getfield 35, 3) := by decide +kernel
theorem dX0_hasEdge_36 : decode cX0_hasEdge 36 = .ok (.iconst 1, 1) := by decide +kernel
theorem dX0_hasEdge_37 : decode cX0_hasEdge 37 = .ok (.isub, 1) := by decide +kernel
theorem dX0_hasEdge_38 : decode cX0_hasEdge 38 = .ok (.goto 10, 3) := by decide +kernel
theorem dX0_hasEdge_41 : decode cX0_hasEdge 41 = .ok (.aload_n 0, 1) := by decide +kernel
theorem dX0_hasEdge_42 : decode cX0_hasEdge 42 = .ok (.getfield 11, 3) := by decide +kernel
theorem dX0_hasEdge_45 : decode cX0_hasEdge 45 = .ok (.getfield 35, 3) := by decide +kernel
theorem dX0_hasEdge_48 : decode cX0_hasEdge 48 = .ok (.istore 5, 2) := by decide +kernel
theorem dX0_hasEdge_50 : decode cX0_hasEdge 50 = .ok (.iload_n 1, 1) := by decide +kernel
theorem dX0_hasEdge_51 : decode cX0_hasEdge 51 = .ok (.ifCond .lt 23, 3) := by decide +kernel
theorem dX0_hasEdge_54 : decode cX0_hasEdge 54 = .ok (.iload_n 1, 1) := by decide +kernel
theorem dX0_hasEdge_55 : decode cX0_hasEdge 55 = .ok (.iload 4, 2) := by decide +kernel
theorem dX0_hasEdge_57 : decode cX0_hasEdge 57 = .ok (.if_icmp .gt 17, 3) := by decide +kernel
theorem dX0_hasEdge_60 : decode cX0_hasEdge 60 = .ok (.iload_n 2, 1) := by decide +kernel
theorem dX0_hasEdge_61 : decode cX0_hasEdge 61 = .ok (.ifCond .lt 13, 3) := by decide +kernel
theorem dX0_hasEdge_64 : decode cX0_hasEdge 64 = .ok (.iload_n 2, 1) := by decide +kernel
theorem dX0_hasEdge_65 : decode cX0_hasEdge 65 = .ok (.iload 5, 2) := by decide +kernel
theorem dX0_hasEdge_67 : decode cX0_hasEdge 67 = .ok (.if_icmp .gt 7, 3) := by decide +kernel
theorem dX0_hasEdge_70 : decode cX0_hasEdge 70 = .ok (.iconst 1, 1) := by decide +kernel
theorem dX0_hasEdge_71 : decode cX0_hasEdge 71 = .ok (.goto 4, 3) := by decide +kernel
theorem dX0_hasEdge_74 : decode cX0_hasEdge 74 = .ok (.iconst 0, 1) := by decide +kernel
theorem dX0_hasEdge_75 : decode cX0_hasEdge 75 = .ok (.ireturn, 1) := by decide +kernel
theorem dX0_stitchesAt_0 : decode cX0_stitchesAt 0 = .ok (.aload_n 0, 1) := by decide +kernel
theorem dX0_stitchesAt_1 : decode cX0_stitchesAt 1 = .ok (.iload_n 1, 1) := by decide +kernel
theorem dX0_stitchesAt_2 : decode cX0_stitchesAt 2 = .ok (.iload_n 2, 1) := by decide +kernel
theorem dX0_stitchesAt_3 : decode cX0_stitchesAt 3 = .ok (.iload_n 3, 1) := by decide +kernel
theorem dX0_stitchesAt_4 : decode cX0_stitchesAt 4 = .ok (.invokevirtual 38, 3) := by decide +kernel
theorem dX0_stitchesAt_7 : decode cX0_stitchesAt 7 = .ok (.ifCond .ne 5, 3) := by decide +kernel
theorem dX0_stitchesAt_10 : decode cX0_stitchesAt 10 = .ok (.iconst 0, 1) := by decide +kernel
theorem dX0_stitchesAt_11 : decode cX0_stitchesAt 11 = .ok (.ireturn, 1) := by decide +kernel
theorem dX0_stitchesAt_12 : decode cX0_stitchesAt 12 = .ok (.iload_n 2, 1) := by decide +kernel
theorem dX0_stitchesAt_13 : decode cX0_stitchesAt 13 = .ok (.bipush 25, 2) := by decide +kernel
theorem dX0_stitchesAt_15 : decode cX0_stitchesAt 15 = .ok (.imul, 1) := by decide +kernel
theorem dX0_stitchesAt_16 : decode cX0_stitchesAt 16 = .ok (.iload_n 1, 1) := by decide +kernel
theorem dX0_stitchesAt_17 : decode cX0_stitchesAt 17 = .ok (.iadd, 1) := by decide +kernel
theorem dX0_stitchesAt_18 : decode cX0_stitchesAt 18 = .ok (.istore 4, 2) := by decide +kernel
theorem dX0_stitchesAt_20 : decode cX0_stitchesAt 20 = .ok (.iload_n 3, 1) := by decide +kernel
theorem dX0_stitchesAt_21 : decode cX0_stitchesAt 21 = .ok (.ifCond .eq 16, 3) := by decide +kernel
theorem dX0_stitchesAt_24 : decode cX0_stitchesAt 24 = .ok (.aload_n 0, 1) := by decide +kernel
theorem dX0_stitchesAt_25 : decode cX0_stitchesAt 25 = .ok (.getfield 15, 3) := by decide +kernel
theorem dX0_stitchesAt_28 : decode cX0_stitchesAt 28 = .ok (.iload 4, 2) := by decide +kernel
theorem dX0_stitchesAt_30 : decode cX0_stitchesAt 30 = .ok (.baload, 1) := by decide +kernel
theorem dX0_stitchesAt_31 : decode cX0_stitchesAt 31 = .ok (.ifCond .eq 20, 3) := by decide +kernel
theorem dX0_stitchesAt_34 : decode cX0_stitchesAt 34 = .ok (.goto 13, 3) := by decide +kernel
theorem dX0_stitchesAt_37 : decode cX0_stitchesAt 37 = .ok (.aload_n 0, 1) := by decide +kernel
theorem dX0_stitchesAt_38 : decode cX0_stitchesAt 38 = .ok (.getfield 19, 3) := by decide +kernel
theorem dX0_stitchesAt_41 : decode cX0_stitchesAt 41 = .ok (.iload 4, 2) := by decide +kernel
theorem dX0_stitchesAt_43 : decode cX0_stitchesAt 43 = .ok (.baload, 1) := by decide +kernel
theorem dX0_stitchesAt_44 : decode cX0_stitchesAt 44 = .ok (.ifCond .eq 7, 3) := by decide +kernel
theorem dX0_stitchesAt_47 : decode cX0_stitchesAt 47 = .ok (.iconst 1, 1) := by decide +kernel
theorem dX0_stitchesAt_48 : decode cX0_stitchesAt 48 = .ok (.goto 4, 3) := by decide +kernel
theorem dX0_stitchesAt_51 : decode cX0_stitchesAt 51 = .ok (.iconst 0, 1) := by decide +kernel
theorem dX0_stitchesAt_52 : decode cX0_stitchesAt 52 = .ok (.ireturn, 1) := by decide +kernel
theorem dX0_put_0 : decode cX0_put 0 = .ok (.aload_n 0, 1) := by decide +kernel
theorem dX0_put_1 : decode cX0_put 1 = .ok (.iload_n 1, 1) := by decide +kernel
theorem dX0_put_2 : decode cX0_put 2 = .ok (.iload_n 2, 1) := by decide +kernel
theorem dX0_put_3 : decode cX0_put 3 = .ok (.iload_n 3, 1) := by decide +kernel
theorem dX0_put_4 : decode cX0_put 4 = .ok (.invokevirtual 42, 3) := by decide +kernel
theorem dX0_put_7 : decode cX0_put 7 = .ok (.iconst 1, 1) := by decide +kernel
theorem dX0_put_8 : decode cX0_put 8 = .ok (.if_icmp .ne 7, 3) := by decide +kernel
theorem dX0_put_11 : decode cX0_put 11 = .ok (.iconst 1, 1) := by decide +kernel
theorem dX0_put_12 : decode cX0_put 12 = .ok (.goto 4, 3) := by decide +kernel
theorem dX0_put_15 : decode cX0_put 15 = .ok (.iconst 0, 1) := by decide +kernel
theorem dX0_put_16 : decode cX0_put 16 = .ok (.istore 5, 2) := by decide +kernel
theorem dX0_put_18 : decode cX0_put 18 = .ok (.aload_n 0, 1) := by decide +kernel
theorem dX0_put_19 : decode cX0_put 19 = .ok (.iload_n 1, 1) := by decide +kernel
theorem dX0_put_20 : decode cX0_put 20 = .ok (.iload_n 2, 1) := by decide +kernel
theorem dX0_put_21 : decode cX0_put 21 = .ok (.iload_n 3, 1) := by decide +kernel
theorem dX0_put_22 : decode cX0_put 22 = .ok (.invokevirtual 38, 3) := by decide +kernel
theorem dX0_put_25 : decode cX0_put 25 = .ok (.ifCond .eq 10, 3) := by decide +kernel
theorem dX0_put_28 : decode cX0_put 28 = .ok (.iload 5, 2) := by decide +kernel
theorem dX0_put_30 : decode cX0_put 30 = .ok (.iload 4, 2) := by decide +kernel
theorem dX0_put_32 : decode cX0_put 32 = .ok (.if_icmp .ne 5, 3) := by decide +kernel
theorem dX0_put_35 : decode cX0_put 35 = .ok (.iconst 0, 1) := by decide +kernel
theorem dX0_put_36 : decode cX0_put 36 = .ok (.ireturn, 1) := by decide +kernel
theorem dX0_put_37 : decode cX0_put 37 = .ok (.iload_n 2, 1) := by decide +kernel
theorem dX0_put_38 : decode cX0_put 38 = .ok (.bipush 25, 2) := by decide +kernel
theorem dX0_put_40 : decode cX0_put 40 = .ok (.imul, 1) := by decide +kernel
theorem dX0_put_41 : decode cX0_put 41 = .ok (.iload_n 1, 1) := by decide +kernel
theorem dX0_put_42 : decode cX0_put 42 = .ok (.iadd, 1) := by decide +kernel
theorem dX0_put_43 : decode cX0_put 43 = .ok (.istore 6, 2) := by decide +kernel
theorem dX0_put_45 : decode cX0_put 45 = .ok (.iload_n 3, 1) := by decide +kernel
theorem dX0_put_46 : decode cX0_put 46 = .ok (.ifCond .eq 15, 3) := by decide +kernel
theorem dX0_put_49 : decode cX0_put 49 = .ok (.aload_n 0, 1) := by decide +kernel
theorem dX0_put_50 : decode cX0_put 50 = .ok (.getfield 15, 3) := by decide +kernel
theorem dX0_put_53 : decode cX0_put 53 = .ok (.iload 6, 2) := by decide +kernel
theorem dX0_put_55 : decode cX0_put 55 = .ok (.iload 4, 2) := by decide +kernel
theorem dX0_put_57 : decode cX0_put 57 = .ok (.bastore, 1) := by decide +kernel
theorem dX0_put_58 : decode cX0_put 58 = .ok (.goto 12, 3) := by decide +kernel
theorem dX0_put_61 : decode cX0_put 61 = .ok (.aload_n 0, 1) := by decide +kernel
theorem dX0_put_62 : decode cX0_put 62 = .ok (.getfield 19, 3) := by decide +kernel
theorem dX0_put_65 : decode cX0_put 65 = .ok (.iload 6, 2) := by decide +kernel
theorem dX0_put_67 : decode cX0_put 67 = .ok (.iload 4, 2) := by decide +kernel
theorem dX0_put_69 : decode cX0_put 69 = .ok (.bastore, 1) := by decide +kernel
theorem dX0_put_70 : decode cX0_put 70 = .ok (.iconst 1, 1) := by decide +kernel
theorem dX0_put_71 : decode cX0_put 71 = .ok (.ireturn, 1) := by decide +kernel
theorem dX0_addOutline_0 : decode cX0_addOutline 0 = .ok (.iconst 0, 1) := by decide +kernel
theorem dX0_addOutline_1 : decode cX0_addOutline 1 = .ok (.istore_n 2, 1) := by decide +kernel
theorem dX0_addOutline_2 : decode cX0_addOutline 2 = .ok (.iconst 0, 1) := by decide +kernel
theorem dX0_addOutline_3 : decode cX0_addOutline 3 = .ok (.istore_n 3, 1) := by decide +kernel
theorem dX0_addOutline_4 : decode cX0_addOutline 4 = .ok (.iload_n 3, 1) := by decide +kernel
theorem dX0_addOutline_5 : decode cX0_addOutline 5 = .ok (.aload_n 0, 1) := by decide +kernel
theorem dX0_addOutline_6 : decode cX0_addOutline 6 = .ok (.getfield 11, 3) := by decide +kernel
theorem dX0_addOutline_9 : decode cX0_addOutline 9 = .ok (.getfield 35, 3) := by decide +kernel
theorem dX0_addOutline_12 : decode cX0_addOutline 12 = .ok (.if_icmp .gt 127, 3) := by decide +kernel
theorem dX0_addOutline_15 : decode cX0_addOutline 15 = .ok (.iconst 0, 1) := by decide +kernel
theorem dX0_addOutline_16 : decode cX0_addOutline 16 = .ok (.istore 4, 2) := by decide +kernel
theorem dX0_addOutline_18 : decode cX0_addOutline 18 = .ok (.iload 4, 2) := by decide +kernel
theorem dX0_addOutline_20 : decode cX0_addOutline 20 = .ok (.aload_n 0, 1) := by decide +kernel
theorem dX0_addOutline_21 : decode cX0_addOutline 21 = .ok (.getfield 11, 3) := by decide +kernel
theorem dX0_addOutline_24 : decode cX0_addOutline 24 = .ok (.getfield 29, 3) := by decide +kernel
theorem dX0_addOutline_27 : decode cX0_addOutline 27 = .ok (.if_icmp .gt 106, 3) := by decide +kernel
theorem dX0_addOutline_30 : decode cX0_addOutline 30 = .ok (.aload_n 0, 1) := by decide +kernel
theorem dX0_addOutline_31 : decode cX0_addOutline 31 = .ok (.getfield 11, 3) := by decide +kernel
theorem dX0_addOutline_34 : decode cX0_addOutline 34 = .ok (.iload 4, 2) := by decide +kernel
theorem dX0_addOutline_36 : decode cX0_addOutline 36 = .ok (.iload_n 3, 1) := by decide +kernel
theorem dX0_addOutline_37 : decode cX0_addOutline 37 = .ok (.invokevirtual 46, 3) := by decide +kernel
theorem dX0_addOutline_40 : decode cX0_addOutline 40 = .ok (.iload_n 1, 1) := by decide +kernel
theorem dX0_addOutline_41 : decode cX0_addOutline 41 = .ok (.if_icmp .ne 7, 3) := by decide +kernel
theorem dX0_addOutline_44 : decode cX0_addOutline 44 = .ok (.iconst 1, 1) := by decide +kernel
theorem dX0_addOutline_45 : decode cX0_addOutline 45 = .ok (.goto 4, 3) := by decide +kernel
theorem dX0_addOutline_48 : decode cX0_addOutline 48 = .ok (.iconst 0, 1) := by decide +kernel
theorem dX0_addOutline_49 : decode cX0_addOutline 49 = .ok (.istore 5, 2) := by decide +kernel
theorem dX0_addOutline_51 : decode cX0_addOutline 51 = .ok (.iload 5, 2) := by decide +kernel
theorem dX0_addOutline_53 : decode cX0_addOutline 53 = .ok (.aload_n 0, 1) := by decide +kernel
theorem dX0_addOutline_54 : decode cX0_addOutline 54 = .ok (.getfield 11, 3) := by decide +kernel
theorem dX0_addOutline_57 : decode cX0_addOutline 57 = .ok (.iload 4, 2) := by decide +kernel
theorem dX0_addOutline_59 : decode cX0_addOutline 59 = .ok (.iconst 1, 1) := by decide +kernel
theorem dX0_addOutline_60 : decode cX0_addOutline 60 = .ok (.isub, 1) := by decide +kernel
theorem dX0_addOutline_61 : decode cX0_addOutline 61 = .ok (.iload_n 3, 1) := by decide +kernel
theorem dX0_addOutline_62 : decode cX0_addOutline 62 = .ok (.invokevirtual 46, 3) := by decide +kernel
theorem dX0_addOutline_65 : decode cX0_addOutline 65 = .ok (.iload_n 1, 1) := by decide +kernel
theorem dX0_addOutline_66 : decode cX0_addOutline 66 = .ok (.if_icmp .ne 7, 3) := by decide +kernel
theorem dX0_addOutline_69 : decode cX0_addOutline 69 = .ok (.iconst 1, 1) := by decide +kernel
theorem dX0_addOutline_70 : decode cX0_addOutline 70 = .ok (.goto 4, 3) := by decide +kernel
theorem dX0_addOutline_73 : decode cX0_addOutline 73 = .ok (.iconst 0, 1) := by decide +kernel
theorem dX0_addOutline_74 : decode cX0_addOutline 74 = .ok (.if_icmp .eq 15, 3) := by decide +kernel
theorem dX0_addOutline_77 : decode cX0_addOutline 77 = .ok (.iload_n 2, 1) := by decide +kernel
theorem dX0_addOutline_78 : decode cX0_addOutline 78 = .ok (.aload_n 0, 1) := by decide +kernel
theorem dX0_addOutline_79 : decode cX0_addOutline 79 = .ok (.iload 4, 2) := by decide +kernel
theorem dX0_addOutline_81 : decode cX0_addOutline 81 = .ok (.iload_n 3, 1) := by decide +kernel
theorem dX0_addOutline_82 : decode cX0_addOutline 82 = .ok (.iconst 1, 1) := by decide +kernel
theorem dX0_addOutline_83 : decode cX0_addOutline 83 = .ok (.iconst 1, 1) := by decide +kernel
theorem dX0_addOutline_84 : decode cX0_addOutline 84 = .ok (.invokevirtual 50, 3) := by decide +kernel
theorem dX0_addOutline_87 : decode cX0_addOutline 87 = .ok (.iadd, 1) := by decide +kernel
theorem dX0_addOutline_88 : decode cX0_addOutline 88 = .ok (.istore_n 2, 1) := by decide +kernel
theorem dX0_addOutline_89 : decode cX0_addOutline 89 = .ok (.iload 5, 2) := by decide +kernel
theorem dX0_addOutline_91 : decode cX0_addOutline 91 = .ok (.aload_n 0, 1) := by decide +kernel
theorem dX0_addOutline_92 : decode cX0_addOutline 92 = .ok (.getfield 11, 3) := by decide +kernel
theorem dX0_addOutline_95 : decode cX0_addOutline 95 = .ok (.iload 4, 2) := by decide +kernel
theorem dX0_addOutline_97 : decode cX0_addOutline 97 = .ok (.iload_n 3, 1) := by decide +kernel
theorem dX0_addOutline_98 : decode cX0_addOutline 98 = .ok (.iconst 1, 1) := by decide +kernel
theorem dX0_addOutline_99 : decode cX0_addOutline 99 = .ok (.isub, 1) := by decide +kernel
theorem dX0_addOutline_100 : decode cX0_addOutline 100 = .ok (.invokevirtual 46, 3) := by decide +kernel
theorem dX0_addOutline_103 : decode cX0_addOutline 103 = .ok (.iload_n 1, 1) := by decide +kernel
theorem dX0_addOutline_104 : decode cX0_addOutline 104 = .ok (.if_icmp .ne 7, 3) := by decide +kernel
theorem dX0_addOutline_107 : decode cX0_addOutline 107 = .ok (.iconst 1, 1) := by decide +kernel
theorem dX0_addOutline_108 : decode cX0_addOutline 108 = .ok (.goto 4, 3) := by decide +kernel
theorem dX0_addOutline_111 : decode cX0_addOutline 111 = .ok (.iconst 0, 1) := by decide +kernel
theorem dX0_addOutline_112 : decode cX0_addOutline 112 = .ok (.if_icmp .eq 15, 3) := by decide +kernel
theorem dX0_addOutline_115 : decode cX0_addOutline 115 = .ok (.iload_n 2, 1) := by decide +kernel
theorem dX0_addOutline_116 : decode cX0_addOutline 116 = .ok (.aload_n 0, 1) := by decide +kernel
theorem dX0_addOutline_117 : decode cX0_addOutline 117 = .ok (.iload 4, 2) := by decide +kernel
theorem dX0_addOutline_119 : decode cX0_addOutline 119 = .ok (.iload_n 3, 1) := by decide +kernel
theorem dX0_addOutline_120 : decode cX0_addOutline 120 = .ok (.iconst 0, 1) := by decide +kernel
theorem dX0_addOutline_121 : decode cX0_addOutline 121 = .ok (.iconst 1, 1) := by decide +kernel
theorem dX0_addOutline_122 : decode cX0_addOutline 122 = .ok (.invokevirtual 50, 3) := by decide +kernel
theorem dX0_addOutline_125 : decode cX0_addOutline 125 = .ok (.iadd, 1) := by decide +kernel
theorem dX0_addOutline_126 : decode cX0_addOutline 126 = .ok (.istore_n 2, 1) := by decide +kernel
theorem dX0_addOutline_127 : decode cX0_addOutline 127 = .ok (.iinc 4 1, 3) := by decide +kernel
theorem dX0_addOutline_130 : decode cX0_addOutline 130 = .ok (.goto (-112), 3) := by decide +kernel
theorem dX0_addOutline_133 : decode cX0_addOutline 133 = .ok (.iinc 3 1, 3) := by decide +kernel
theorem dX0_addOutline_136 : decode cX0_addOutline 136 = .ok (.goto (-132), 3) := by decide +kernel
theorem dX0_addOutline_139 : decode cX0_addOutline 139 = .ok (.iload_n 2, 1) := by decide +kernel
theorem dX0_addOutline_140 : decode cX0_addOutline 140 = .ok (.ireturn, 1) := by decide +kernel
theorem dX0_edges_0 : decode cX0_edges 0 = .ok (.iconst 0, 1) := by decide +kernel
theorem dX0_edges_1 : decode cX0_edges 1 = .ok (.istore_n 1, 1) := by decide +kernel
theorem dX0_edges_2 : decode cX0_edges 2 = .ok (.iconst 0, 1) := by decide +kernel
theorem dX0_edges_3 : decode cX0_edges 3 = .ok (.istore_n 2, 1) := by decide +kernel
theorem dX0_edges_4 : decode cX0_edges 4 = .ok (.iload_n 2, 1) := by decide +kernel
theorem dX0_edges_5 : decode cX0_edges 5 = .ok (.aload_n 0, 1) := by decide +kernel
theorem dX0_edges_6 : decode cX0_edges 6 = .ok (.getfield 11, 3) := by decide +kernel
theorem dX0_edges_9 : decode cX0_edges 9 = .ok (.getfield 35, 3) := by decide +kernel
theorem dX0_edges_12 : decode cX0_edges 12 = .ok (.if_icmp .gt 46, 3) := by decide +kernel
theorem dX0_edges_15 : decode cX0_edges 15 = .ok (.iconst 0, 1) := by decide +kernel
theorem dX0_edges_16 : decode cX0_edges 16 = .ok (.istore_n 3, 1) := by decide +kernel
theorem dX0_edges_17 : decode cX0_edges 17 = .ok (.iload_n 3, 1) := by decide +kernel
theorem dX0_edges_18 : decode cX0_edges 18 = .ok (.aload_n 0, 1) := by decide +kernel
theorem dX0_edges_19 : decode cX0_edges 19 = .ok (.getfield 11, 3) := by decide +kernel
theorem dX0_edges_22 : decode cX0_edges 22 = .ok (.getfield 29, 3) := by decide +kernel
theorem dX0_edges_25 : decode cX0_edges 25 = .ok (.if_icmp .gt 27, 3) := by decide +kernel
theorem dX0_edges_28 : decode cX0_edges 28 = .ok (.iload_n 1, 1) := by decide +kernel
theorem dX0_edges_29 : decode cX0_edges 29 = .ok (.aload_n 0, 1) := by decide +kernel
theorem dX0_edges_30 : decode cX0_edges 30 = .ok (.iload_n 3, 1) := by decide +kernel
theorem dX0_edges_31 : decode cX0_edges 31 = .ok (.iload_n 2, 1) := by decide +kernel
theorem dX0_edges_32 : decode cX0_edges 32 = .ok (.iconst 1, 1) := by decide +kernel
theorem dX0_edges_33 : decode cX0_edges 33 = .ok (.invokevirtual 42, 3) := by decide +kernel
theorem dX0_edges_36 : decode cX0_edges 36 = .ok (.aload_n 0, 1) := by decide +kernel
theorem dX0_edges_37 : decode cX0_edges 37 = .ok (.iload_n 3, 1) := by decide +kernel
theorem dX0_edges_38 : decode cX0_edges 38 = .ok (.iload_n 2, 1) := by decide +kernel
theorem dX0_edges_39 : decode cX0_edges 39 = .ok (.iconst 0, 1) := by decide +kernel
theorem dX0_edges_40 : decode cX0_edges 40 = .ok (.invokevirtual 42, 3) := by decide +kernel
theorem dX0_edges_43 : decode cX0_edges 43 = .ok (.iadd, 1) := by decide +kernel
theorem dX0_edges_44 : decode cX0_edges 44 = .ok (.iadd, 1) := by decide +kernel
theorem dX0_edges_45 : decode cX0_edges 45 = .ok (.istore_n 1, 1) := by decide +kernel
theorem dX0_edges_46 : decode cX0_edges 46 = .ok (.iinc 3 1, 3) := by decide +kernel
theorem dX0_edges_49 : decode cX0_edges 49 = .ok (.goto (-32), 3) := by decide +kernel
theorem dX0_edges_52 : decode cX0_edges 52 = .ok (.iinc 2 1, 3) := by decide +kernel
theorem dX0_edges_55 : decode cX0_edges 55 = .ok (.goto (-51), 3) := by decide +kernel
theorem dX0_edges_58 : decode cX0_edges 58 = .ok (.iload_n 1, 1) := by decide +kernel
theorem dX0_edges_59 : decode cX0_edges 59 = .ok (.ireturn, 1) := by decide +kernel
theorem dX0_stitchesAtPoint_0 : decode cX0_stitchesAtPoint 0 = .ok (.aload_n 0, 1) := by decide +kernel
theorem dX0_stitchesAtPoint_1 : decode cX0_stitchesAtPoint 1 = .ok (.iload_n 1, 1) := by decide +kernel
theorem dX0_stitchesAtPoint_2 : decode cX0_stitchesAtPoint 2 = .ok (.iload_n 2, 1) := by decide +kernel
theorem dX0_stitchesAtPoint_3 : decode cX0_stitchesAtPoint 3 = .ok (.iconst 1, 1) := by decide +kernel
theorem dX0_stitchesAtPoint_4 : decode cX0_stitchesAtPoint 4 = .ok (.invokevirtual 42, 3) := by decide +kernel
theorem dX0_stitchesAtPoint_7 : decode cX0_stitchesAtPoint 7 = .ok (.aload_n 0, 1) := by decide +kernel
theorem dX0_stitchesAtPoint_8 : decode cX0_stitchesAtPoint 8 = .ok (.iload_n 1, 1) := by decide +kernel
theorem dX0_stitchesAtPoint_9 : decode cX0_stitchesAtPoint 9 = .ok (.iload_n 2, 1) := by decide +kernel
theorem dX0_stitchesAtPoint_10 : decode cX0_stitchesAtPoint 10 = .ok (.iconst 1, 1) := by decide +kernel
theorem dX0_stitchesAtPoint_11 : decode cX0_stitchesAtPoint 11 = .ok (.isub, 1) := by decide +kernel
theorem dX0_stitchesAtPoint_12 : decode cX0_stitchesAtPoint 12 = .ok (.iconst 1, 1) := by decide +kernel
theorem dX0_stitchesAtPoint_13 : decode cX0_stitchesAtPoint 13 = .ok (.invokevirtual 42, 3) := by decide +kernel
theorem dX0_stitchesAtPoint_16 : decode cX0_stitchesAtPoint 16 = .ok (.iadd, 1) := by decide +kernel
theorem dX0_stitchesAtPoint_17 : decode cX0_stitchesAtPoint 17 = .ok (.aload_n 0, 1) := by decide +kernel
theorem dX0_stitchesAtPoint_18 : decode cX0_stitchesAtPoint 18 = .ok (.iload_n 1, 1) := by decide +kernel
theorem dX0_stitchesAtPoint_19 : decode cX0_stitchesAtPoint 19 = .ok (.iload_n 2, 1) := by decide +kernel
theorem dX0_stitchesAtPoint_20 : decode cX0_stitchesAtPoint 20 = .ok (.iconst 0, 1) := by decide +kernel
theorem dX0_stitchesAtPoint_21 : decode cX0_stitchesAtPoint 21 = .ok (.invokevirtual 42, 3) := by decide +kernel
theorem dX0_stitchesAtPoint_24 : decode cX0_stitchesAtPoint 24 = .ok (.iadd, 1) := by decide +kernel
theorem dX0_stitchesAtPoint_25 : decode cX0_stitchesAtPoint 25 = .ok (.aload_n 0, 1) := by decide +kernel
theorem dX0_stitchesAtPoint_26 : decode cX0_stitchesAtPoint 26 = .ok (.iload_n 1, 1) := by decide +kernel
theorem dX0_stitchesAtPoint_27 : decode cX0_stitchesAtPoint 27 = .ok (.iconst 1, 1) := by decide +kernel
theorem dX0_stitchesAtPoint_28 : decode cX0_stitchesAtPoint 28 = .ok (.isub, 1) := by decide +kernel
theorem dX0_stitchesAtPoint_29 : decode cX0_stitchesAtPoint 29 = .ok (.iload_n 2, 1) := by decide +kernel
theorem dX0_stitchesAtPoint_30 : decode cX0_stitchesAtPoint 30 = .ok (.iconst 0, 1) := by decide +kernel
theorem dX0_stitchesAtPoint_31 : decode cX0_stitchesAtPoint 31 = .ok (.invokevirtual 42, 3) := by decide +kernel
theorem dX0_stitchesAtPoint_34 : decode cX0_stitchesAtPoint 34 = .ok (.iadd, 1) := by decide +kernel
theorem dX0_stitchesAtPoint_35 : decode cX0_stitchesAtPoint 35 = .ok (.ireturn, 1) := by decide +kernel
theorem dX0_oddPoints_0 : decode cX0_oddPoints 0 = .ok (.iconst 0, 1) := by decide +kernel
theorem dX0_oddPoints_1 : decode cX0_oddPoints 1 = .ok (.istore_n 1, 1) := by decide +kernel
theorem dX0_oddPoints_2 : decode cX0_oddPoints 2 = .ok (.iconst 0, 1) := by decide +kernel
theorem dX0_oddPoints_3 : decode cX0_oddPoints 3 = .ok (.istore_n 2, 1) := by decide +kernel
theorem dX0_oddPoints_4 : decode cX0_oddPoints 4 = .ok (.iload_n 2, 1) := by decide +kernel
theorem dX0_oddPoints_5 : decode cX0_oddPoints 5 = .ok (.aload_n 0, 1) := by decide +kernel
theorem dX0_oddPoints_6 : decode cX0_oddPoints 6 = .ok (.getfield 11, 3) := by decide +kernel
theorem dX0_oddPoints_9 : decode cX0_oddPoints 9 = .ok (.getfield 35, 3) := by decide +kernel
theorem dX0_oddPoints_12 : decode cX0_oddPoints 12 = .ok (.if_icmp .gt 39, 3) := by decide +kernel
theorem dX0_oddPoints_15 : decode cX0_oddPoints 15 = .ok (.iconst 0, 1) := by decide +kernel
theorem dX0_oddPoints_16 : decode cX0_oddPoints 16 = .ok (.istore_n 3, 1) := by decide +kernel
theorem dX0_oddPoints_17 : decode cX0_oddPoints 17 = .ok (.iload_n 3, 1) := by decide +kernel
theorem dX0_oddPoints_18 : decode cX0_oddPoints 18 = .ok (.aload_n 0, 1) := by decide +kernel
theorem dX0_oddPoints_19 : decode cX0_oddPoints 19 = .ok (.getfield 11, 3) := by decide +kernel
theorem dX0_oddPoints_22 : decode cX0_oddPoints 22 = .ok (.getfield 29, 3) := by decide +kernel
theorem dX0_oddPoints_25 : decode cX0_oddPoints 25 = .ok (.if_icmp .gt 20, 3) := by decide +kernel
theorem dX0_oddPoints_28 : decode cX0_oddPoints 28 = .ok (.iload_n 1, 1) := by decide +kernel
theorem dX0_oddPoints_29 : decode cX0_oddPoints 29 = .ok (.aload_n 0, 1) := by decide +kernel
theorem dX0_oddPoints_30 : decode cX0_oddPoints 30 = .ok (.iload_n 3, 1) := by decide +kernel
theorem dX0_oddPoints_31 : decode cX0_oddPoints 31 = .ok (.iload_n 2, 1) := by decide +kernel
theorem dX0_oddPoints_32 : decode cX0_oddPoints 32 = .ok (.invokevirtual 54, 3) := by decide +kernel
theorem dX0_oddPoints_35 : decode cX0_oddPoints 35 = .ok (.iconst 1, 1) := by decide +kernel
theorem dX0_oddPoints_36 : decode cX0_oddPoints 36 = .ok (.iand, 1) := by decide +kernel
theorem dX0_oddPoints_37 : decode cX0_oddPoints 37 = .ok (.iadd, 1) := by decide +kernel
theorem dX0_oddPoints_38 : decode cX0_oddPoints 38 = .ok (.istore_n 1, 1) := by decide +kernel
theorem dX0_oddPoints_39 : decode cX0_oddPoints 39 = .ok (.iinc 3 1, 3) := by decide +kernel
theorem dX0_oddPoints_42 : decode cX0_oddPoints 42 = .ok (.goto (-25), 3) := by decide +kernel
theorem dX0_oddPoints_45 : decode cX0_oddPoints 45 = .ok (.iinc 2 1, 3) := by decide +kernel
theorem dX0_oddPoints_48 : decode cX0_oddPoints 48 = .ok (.goto (-44), 3) := by decide +kernel
theorem dX0_oddPoints_51 : decode cX0_oddPoints 51 = .ok (.iload_n 1, 1) := by decide +kernel
theorem dX0_oddPoints_52 : decode cX0_oddPoints 52 = .ok (.ireturn, 1) := by decide +kernel
theorem dX0_groups_0 : decode cX0_groups 0 = .ok (.aload_n 0, 1) := by decide +kernel
theorem dX0_groups_1 : decode cX0_groups 1 = .ok (.iconst 0, 1) := by decide +kernel
theorem dX0_groups_2 : decode cX0_groups 2 = .ok (.invokevirtual 57, 3) := by decide +kernel
theorem dX0_groups_5 : decode cX0_groups 5 = .ok (.ireturn, 1) := by decide +kernel
theorem dX0_strands_0 : decode cX0_strands 0 = .ok (.aload_n 0, 1) := by decide +kernel
theorem dX0_strands_1 : decode cX0_strands 1 = .ok (.iconst 1, 1) := by decide +kernel
theorem dX0_strands_2 : decode cX0_strands 2 = .ok (.invokevirtual 57, 3) := by decide +kernel
theorem dX0_strands_5 : decode cX0_strands 5 = .ok (.ireturn, 1) := by decide +kernel
theorem dX0_sumOverGroups_0 : decode cX0_sumOverGroups 0 = .ok (.iconst 0, 1) := by decide +kernel
theorem dX0_sumOverGroups_1 : decode cX0_sumOverGroups 1 = .ok (.istore_n 2, 1) := by decide +kernel
theorem dX0_sumOverGroups_2 : decode cX0_sumOverGroups 2 = .ok (.iload_n 2, 1) := by decide +kernel
theorem dX0_sumOverGroups_3 : decode cX0_sumOverGroups 3 = .ok (.sipush 625, 3) := by decide +kernel
theorem dX0_sumOverGroups_6 : decode cX0_sumOverGroups 6 = .ok (.if_icmp .ge 16, 3) := by decide +kernel
theorem dX0_sumOverGroups_9 : decode cX0_sumOverGroups 9 = .ok (.aload_n 0, 1) := by decide +kernel
theorem dX0_sumOverGroups_10 : decode cX0_sumOverGroups 10 = .ok (.getfield 22, 3) := by decide +kernel
theorem dX0_sumOverGroups_13 : decode cX0_sumOverGroups 13 = .ok (.iload_n 2, 1) := by decide +kernel
theorem dX0_sumOverGroups_14 : decode cX0_sumOverGroups 14 = .ok (.iconst 0, 1) := by decide +kernel
theorem dX0_sumOverGroups_15 : decode cX0_sumOverGroups 15 = .ok (.bastore, 1) := by decide +kernel
theorem dX0_sumOverGroups_16 : decode cX0_sumOverGroups 16 = .ok (.iinc 2 1, 3) := by decide +kernel
theorem dX0_sumOverGroups_19 : decode cX0_sumOverGroups 19 = .ok (.goto (-17), 3) := by decide +kernel
theorem dX0_sumOverGroups_22 : decode cX0_sumOverGroups 22 = .ok (.iconst 0, 1) := by decide +kernel
theorem dX0_sumOverGroups_23 : decode cX0_sumOverGroups 23 = .ok (.istore_n 2, 1) := by decide +kernel
theorem dX0_sumOverGroups_24 : decode cX0_sumOverGroups 24 = .ok (.iconst 0, 1) := by decide +kernel
theorem dX0_sumOverGroups_25 : decode cX0_sumOverGroups 25 = .ok (.istore_n 3, 1) := by decide +kernel
theorem dX0_sumOverGroups_26 : decode cX0_sumOverGroups 26 = .ok (.iload_n 3, 1) := by decide +kernel
theorem dX0_sumOverGroups_27 : decode cX0_sumOverGroups 27 = .ok (.aload_n 0, 1) := by decide +kernel
theorem dX0_sumOverGroups_28 : decode cX0_sumOverGroups 28 = .ok (.getfield 11, 3) := by decide +kernel
theorem dX0_sumOverGroups_31 : decode cX0_sumOverGroups 31 = .ok (.getfield 35, 3) := by decide +kernel
theorem dX0_sumOverGroups_34 : decode cX0_sumOverGroups 34 = .ok (.if_icmp .gt 76, 3) := by decide +kernel
theorem dX0_sumOverGroups_37 : decode cX0_sumOverGroups 37 = .ok (.iconst 0, 1) := by decide +kernel
theorem dX0_sumOverGroups_38 : decode cX0_sumOverGroups 38 = .ok (.istore 4, 2) := by decide +kernel
theorem dX0_sumOverGroups_40 : decode cX0_sumOverGroups 40 = .ok (.iload 4, 2) := by decide +kernel
theorem dX0_sumOverGroups_42 : decode cX0_sumOverGroups 42 = .ok (.aload_n 0, 1) := by decide +kernel
theorem dX0_sumOverGroups_43 : decode cX0_sumOverGroups 43 = .ok (.getfield 11, 3) := by decide +kernel
theorem dX0_sumOverGroups_46 : decode cX0_sumOverGroups 46 = .ok (.getfield 29, 3) := by decide +kernel
theorem dX0_sumOverGroups_49 : decode cX0_sumOverGroups 49 = .ok (.if_icmp .gt 55, 3) := by decide +kernel
theorem dX0_sumOverGroups_52 : decode cX0_sumOverGroups 52 = .ok (.aload_n 0, 1) := by decide +kernel
theorem dX0_sumOverGroups_53 : decode cX0_sumOverGroups 53 = .ok (.iload 4, 2) := by decide +kernel
theorem dX0_sumOverGroups_55 : decode cX0_sumOverGroups 55 = .ok (.iload_n 3, 1) := by decide +kernel
theorem dX0_sumOverGroups_56 : decode cX0_sumOverGroups 56 = .ok (.invokevirtual 54, 3) := by decide +kernel
theorem dX0_sumOverGroups_59 : decode cX0_sumOverGroups 59 = .ok (.ifCond .le 39, 3) := by decide +kernel
theorem dX0_sumOverGroups_62 : decode cX0_sumOverGroups 62 = .ok (.aload_n 0, 1) := by decide +kernel
theorem dX0_sumOverGroups_63 : decode cX0_sumOverGroups 63 = .ok (.iload 4, 2) := by decide +kernel
theorem dX0_sumOverGroups_65 : decode cX0_sumOverGroups 65 = .ok (.iload_n 3, 1) := by decide +kernel
theorem dX0_sumOverGroups_66 : decode cX0_sumOverGroups 66 = .ok (.iconst 1, 1) := by decide +kernel
theorem dX0_sumOverGroups_67 : decode cX0_sumOverGroups 67 = .ok (.invokevirtual 61, 3) := by decide +kernel
theorem dX0_sumOverGroups_70 : decode cX0_sumOverGroups 70 = .ok (.ifCond .eq 28, 3) := by decide +kernel
theorem dX0_sumOverGroups_73 : decode cX0_sumOverGroups 73 = .ok (.aload_n 0, 1) := by decide +kernel
theorem dX0_sumOverGroups_74 : decode cX0_sumOverGroups 74 = .ok (.invokevirtual 64, 3) := by decide +kernel
theorem dX0_sumOverGroups_77 : decode cX0_sumOverGroups 77 = .ok (.istore 5, 2) := by decide +kernel
theorem dX0_sumOverGroups_79 : decode cX0_sumOverGroups 79 = .ok (.iload_n 2, 1) := by decide +kernel
theorem dX0_sumOverGroups_80 : decode cX0_sumOverGroups 80 = .ok (.iload_n 1, 1) := by decide +kernel
theorem dX0_sumOverGroups_81 : decode cX0_sumOverGroups 81 = .ok (.ifCond .eq 14, 3) := by decide +kernel
theorem dX0_sumOverGroups_84 : decode cX0_sumOverGroups 84 = .ok (.iconst 1, 1) := by decide +kernel
theorem dX0_sumOverGroups_85 : decode cX0_sumOverGroups 85 = .ok (.iload 5, 2) := by decide +kernel
theorem dX0_sumOverGroups_87 : decode cX0_sumOverGroups 87 = .ok (.iconst 2, 1) := by decide +kernel
theorem dX0_sumOverGroups_88 : decode cX0_sumOverGroups 88 = .ok (.idiv, 1) := by decide +kernel
theorem dX0_sumOverGroups_89 : decode cX0_sumOverGroups 89 = .ok (.invokestatic 68, 3) := by decide +kernel
theorem dX0_sumOverGroups_92 : decode cX0_sumOverGroups 92 = .ok (.goto 4, 3) := by decide +kernel
theorem dX0_sumOverGroups_95 : decode cX0_sumOverGroups 95 = .ok (.iconst 1, 1) := by decide +kernel
theorem dX0_sumOverGroups_96 : decode cX0_sumOverGroups 96 = .ok (.iadd, 1) := by decide +kernel
theorem dX0_sumOverGroups_97 : decode cX0_sumOverGroups 97 = .ok (.istore_n 2, 1) := by decide +kernel
theorem dX0_sumOverGroups_98 : decode cX0_sumOverGroups 98 = .ok (.iinc 4 1, 3) := by decide +kernel
theorem dX0_sumOverGroups_101 : decode cX0_sumOverGroups 101 = .ok (.goto (-61), 3) := by decide +kernel
theorem dX0_sumOverGroups_104 : decode cX0_sumOverGroups 104 = .ok (.iinc 3 1, 3) := by decide +kernel
theorem dX0_sumOverGroups_107 : decode cX0_sumOverGroups 107 = .ok (.goto (-81), 3) := by decide +kernel
theorem dX0_sumOverGroups_110 : decode cX0_sumOverGroups 110 = .ok (.iload_n 2, 1) := by decide +kernel
theorem dX0_sumOverGroups_111 : decode cX0_sumOverGroups 111 = .ok (.ireturn, 1) := by decide +kernel
theorem dX0_reach_0 : decode cX0_reach 0 = .ok (.iload_n 1, 1) := by decide +kernel
theorem dX0_reach_1 : decode cX0_reach 1 = .ok (.iconst 0, 1) := by decide +kernel
theorem dX0_reach_2 : decode cX0_reach 2 = .ok (.bipush 24, 2) := by decide +kernel
theorem dX0_reach_4 : decode cX0_reach 4 = .ok (.invokestatic 73, 3) := by decide +kernel
theorem dX0_reach_7 : decode cX0_reach 7 = .ok (.ifCond .eq 13, 3) := by decide +kernel
theorem dX0_reach_10 : decode cX0_reach 10 = .ok (.iload_n 2, 1) := by decide +kernel
theorem dX0_reach_11 : decode cX0_reach 11 = .ok (.iconst 0, 1) := by decide +kernel
theorem dX0_reach_12 : decode cX0_reach 12 = .ok (.bipush 24, 2) := by decide +kernel
theorem dX0_reach_14 : decode cX0_reach 14 = .ok (.invokestatic 73, 3) := by decide +kernel
theorem dX0_reach_17 : decode cX0_reach 17 = .ok (.ifCond .ne 5, 3) := by decide +kernel
theorem dX0_reach_20 : decode cX0_reach 20 = .ok (.iconst 0, 1) := by decide +kernel
theorem dX0_reach_21 : decode cX0_reach 21 = .ok (.ireturn, 1) := by decide +kernel
theorem dX0_reach_22 : decode cX0_reach 22 = .ok (.iload_n 2, 1) := by decide +kernel
theorem dX0_reach_23 : decode cX0_reach 23 = .ok (.bipush 25, 2) := by decide +kernel
theorem dX0_reach_25 : decode cX0_reach 25 = .ok (.imul, 1) := by decide +kernel
theorem dX0_reach_26 : decode cX0_reach 26 = .ok (.iload_n 1, 1) := by decide +kernel
theorem dX0_reach_27 : decode cX0_reach 27 = .ok (.iadd, 1) := by decide +kernel
theorem dX0_reach_28 : decode cX0_reach 28 = .ok (.istore 4, 2) := by decide +kernel
theorem dX0_reach_30 : decode cX0_reach 30 = .ok (.iload_n 3, 1) := by decide +kernel
theorem dX0_reach_31 : decode cX0_reach 31 = .ok (.ifCond .eq 7, 3) := by decide +kernel
theorem dX0_reach_34 : decode cX0_reach 34 = .ok (.iconst 0, 1) := by decide +kernel
theorem dX0_reach_35 : decode cX0_reach 35 = .ok (.goto 7, 3) := by decide +kernel
theorem dX0_reach_38 : decode cX0_reach 38 = .ok (.aload_n 0, 1) := by decide +kernel
theorem dX0_reach_39 : decode cX0_reach 39 = .ok (.getfield 77, 3) := by decide +kernel
theorem dX0_reach_42 : decode cX0_reach 42 = .ok (.istore 5, 2) := by decide +kernel
theorem dX0_reach_44 : decode cX0_reach 44 = .ok (.aload_n 0, 1) := by decide +kernel
theorem dX0_reach_45 : decode cX0_reach 45 = .ok (.getfield 22, 3) := by decide +kernel
theorem dX0_reach_48 : decode cX0_reach 48 = .ok (.iload 4, 2) := by decide +kernel
theorem dX0_reach_50 : decode cX0_reach 50 = .ok (.baload, 1) := by decide +kernel
theorem dX0_reach_51 : decode cX0_reach 51 = .ok (.ifCond .ne 15, 3) := by decide +kernel
theorem dX0_reach_54 : decode cX0_reach 54 = .ok (.iload 5, 2) := by decide +kernel
theorem dX0_reach_56 : decode cX0_reach 56 = .ok (.iconst 0, 1) := by decide +kernel
theorem dX0_reach_57 : decode cX0_reach 57 = .ok (.sipush 624, 3) := by decide +kernel
theorem dX0_reach_60 : decode cX0_reach 60 = .ok (.invokestatic 73, 3) := by decide +kernel
theorem dX0_reach_63 : decode cX0_reach 63 = .ok (.ifCond .ne 5, 3) := by decide +kernel
theorem dX0_reach_66 : decode cX0_reach 66 = .ok (.iconst 0, 1) := by decide +kernel
theorem dX0_reach_67 : decode cX0_reach 67 = .ok (.ireturn, 1) := by decide +kernel
theorem dX0_reach_68 : decode cX0_reach 68 = .ok (.aload_n 0, 1) := by decide +kernel
theorem dX0_reach_69 : decode cX0_reach 69 = .ok (.getfield 22, 3) := by decide +kernel
theorem dX0_reach_72 : decode cX0_reach 72 = .ok (.iload 4, 2) := by decide +kernel
theorem dX0_reach_74 : decode cX0_reach 74 = .ok (.iconst 1, 1) := by decide +kernel
theorem dX0_reach_75 : decode cX0_reach 75 = .ok (.bastore, 1) := by decide +kernel
theorem dX0_reach_76 : decode cX0_reach 76 = .ok (.aload_n 0, 1) := by decide +kernel
theorem dX0_reach_77 : decode cX0_reach 77 = .ok (.getfield 25, 3) := by decide +kernel
theorem dX0_reach_80 : decode cX0_reach 80 = .ok (.iload 5, 2) := by decide +kernel
theorem dX0_reach_82 : decode cX0_reach 82 = .ok (.iload 4, 2) := by decide +kernel
theorem dX0_reach_84 : decode cX0_reach 84 = .ok (.iastore, 1) := by decide +kernel
theorem dX0_reach_85 : decode cX0_reach 85 = .ok (.aload_n 0, 1) := by decide +kernel
theorem dX0_reach_86 : decode cX0_reach 86 = .ok (.iload 5, 2) := by decide +kernel
theorem dX0_reach_88 : decode cX0_reach 88 = .ok (.iconst 1, 1) := by decide +kernel
theorem dX0_reach_89 : decode cX0_reach 89 = .ok (.iadd, 1) := by decide +kernel
theorem dX0_reach_90 : decode cX0_reach 90 = .ok (.putfield 77, 3) := by decide +kernel
theorem dX0_reach_93 : decode cX0_reach 93 = .ok (.iconst 1, 1) := by decide +kernel
theorem dX0_reach_94 : decode cX0_reach 94 = .ok (.ireturn, 1) := by decide +kernel
theorem dX0_oddPointsOfGroup_0 : decode cX0_oddPointsOfGroup 0 = .ok (.iconst 0, 1) := by decide +kernel
theorem dX0_oddPointsOfGroup_1 : decode cX0_oddPointsOfGroup 1 = .ok (.istore_n 1, 1) := by decide +kernel
theorem dX0_oddPointsOfGroup_2 : decode cX0_oddPointsOfGroup 2 = .ok (.iconst 0, 1) := by decide +kernel
theorem dX0_oddPointsOfGroup_3 : decode cX0_oddPointsOfGroup 3 = .ok (.istore_n 2, 1) := by decide +kernel
theorem dX0_oddPointsOfGroup_4 : decode cX0_oddPointsOfGroup 4 = .ok (.iload_n 2, 1) := by decide +kernel
theorem dX0_oddPointsOfGroup_5 : decode cX0_oddPointsOfGroup 5 = .ok (.aload_n 0, 1) := by decide +kernel
theorem dX0_oddPointsOfGroup_6 : decode cX0_oddPointsOfGroup 6 = .ok (.getfield 77, 3) := by decide +kernel
theorem dX0_oddPointsOfGroup_9 : decode cX0_oddPointsOfGroup 9 = .ok (.if_icmp .ge 56, 3) := by decide +kernel
theorem dX0_oddPointsOfGroup_12 : decode cX0_oddPointsOfGroup 12 = .ok (.iload_n 2, 1) := by decide +kernel
theorem dX0_oddPointsOfGroup_13 : decode cX0_oddPointsOfGroup 13 = .ok (.sipush 625, 3) := by decide +kernel
theorem dX0_oddPointsOfGroup_16 : decode cX0_oddPointsOfGroup 16 = .ok (.if_icmp .ge 49, 3) := by decide +kernel
theorem dX0_oddPointsOfGroup_19 : decode cX0_oddPointsOfGroup 19 = .ok (.aload_n 0, 1) := by decide +kernel
theorem dX0_oddPointsOfGroup_20 : decode cX0_oddPointsOfGroup 20 = .ok (.getfield 25, 3) := by decide +kernel
theorem dX0_oddPointsOfGroup_23 : decode cX0_oddPointsOfGroup 23 = .ok (.iload_n 2, 1) := by decide +kernel
theorem dX0_oddPointsOfGroup_24 : decode cX0_oddPointsOfGroup 24 = .ok (.iaload, 1) := by decide +kernel
theorem dX0_oddPointsOfGroup_25 : decode cX0_oddPointsOfGroup 25 = .ok (.bipush 25, 2) := by decide +kernel
theorem dX0_oddPointsOfGroup_27 : decode cX0_oddPointsOfGroup 27 = .ok (.irem, 1) := by decide +kernel
theorem dX0_oddPointsOfGroup_28 : decode cX0_oddPointsOfGroup 28 = .ok (.istore_n 3, 1) := by decide +kernel
theorem dX0_oddPointsOfGroup_29 : decode cX0_oddPointsOfGroup 29 = .ok (.aload_n 0, 1) := by decide +kernel
theorem dX0_oddPointsOfGroup_30 : decode cX0_oddPointsOfGroup 30 = .ok (.getfield 25, 3) := by decide +kernel
theorem dX0_oddPointsOfGroup_33 : decode cX0_oddPointsOfGroup 33 = .ok (.iload_n 2, 1) := by decide +kernel
theorem dX0_oddPointsOfGroup_34 : decode cX0_oddPointsOfGroup 34 = .ok (.iaload, 1) := by decide +kernel
theorem dX0_oddPointsOfGroup_35 : decode cX0_oddPointsOfGroup 35 = .ok (.bipush 25, 2) := by decide +kernel
theorem dX0_oddPointsOfGroup_37 : decode cX0_oddPointsOfGroup 37 = .ok (.idiv, 1) := by decide +kernel
theorem dX0_oddPointsOfGroup_38 : decode cX0_oddPointsOfGroup 38 = .ok (.istore 4, 2) := by decide +kernel
theorem dX0_oddPointsOfGroup_40 : decode cX0_oddPointsOfGroup 40 = .ok (.iload_n 1, 1) := by decide +kernel
theorem dX0_oddPointsOfGroup_41 : decode cX0_oddPointsOfGroup 41 = .ok (.aload_n 0, 1) := by decide +kernel
theorem dX0_oddPointsOfGroup_42 : decode cX0_oddPointsOfGroup 42 = .ok (.iload_n 3, 1) := by decide +kernel
theorem dX0_oddPointsOfGroup_43 : decode cX0_oddPointsOfGroup 43 = .ok (.iload 4, 2) := by decide +kernel
theorem dX0_oddPointsOfGroup_45 : decode cX0_oddPointsOfGroup 45 = .ok (.invokevirtual 54, 3) := by decide +kernel
theorem dX0_oddPointsOfGroup_48 : decode cX0_oddPointsOfGroup 48 = .ok (.iconst 1, 1) := by decide +kernel
theorem dX0_oddPointsOfGroup_49 : decode cX0_oddPointsOfGroup 49 = .ok (.iand, 1) := by decide +kernel
theorem dX0_oddPointsOfGroup_50 : decode cX0_oddPointsOfGroup 50 = .ok (.iadd, 1) := by decide +kernel
theorem dX0_oddPointsOfGroup_51 : decode cX0_oddPointsOfGroup 51 = .ok (.istore_n 1, 1) := by decide +kernel
theorem dX0_oddPointsOfGroup_52 : decode cX0_oddPointsOfGroup 52 = .ok (.aload_n 0, 1) := by decide +kernel
theorem dX0_oddPointsOfGroup_53 : decode cX0_oddPointsOfGroup 53 = .ok (.iload_n 3, 1) := by decide +kernel
theorem dX0_oddPointsOfGroup_54 : decode cX0_oddPointsOfGroup 54 = .ok (.iload 4, 2) := by decide +kernel
theorem dX0_oddPointsOfGroup_56 : decode cX0_oddPointsOfGroup 56 = .ok (.invokevirtual 80, 3) := by decide +kernel
theorem dX0_oddPointsOfGroup_59 : decode cX0_oddPointsOfGroup 59 = .ok (.iinc 2 1, 3) := by decide +kernel
theorem dX0_oddPointsOfGroup_62 : decode cX0_oddPointsOfGroup 62 = .ok (.goto (-58), 3) := by decide +kernel
theorem dX0_oddPointsOfGroup_65 : decode cX0_oddPointsOfGroup 65 = .ok (.iload_n 1, 1) := by decide +kernel
theorem dX0_oddPointsOfGroup_66 : decode cX0_oddPointsOfGroup 66 = .ok (.ireturn, 1) := by decide +kernel
theorem dX0_reachNextPoints_0 : decode cX0_reachNextPoints 0 = .ok (.aload_n 0, 1) := by decide +kernel
theorem dX0_reachNextPoints_1 : decode cX0_reachNextPoints 1 = .ok (.iload_n 1, 1) := by decide +kernel
theorem dX0_reachNextPoints_2 : decode cX0_reachNextPoints 2 = .ok (.iload_n 2, 1) := by decide +kernel
theorem dX0_reachNextPoints_3 : decode cX0_reachNextPoints 3 = .ok (.iconst 1, 1) := by decide +kernel
theorem dX0_reachNextPoints_4 : decode cX0_reachNextPoints 4 = .ok (.invokevirtual 42, 3) := by decide +kernel
theorem dX0_reachNextPoints_7 : decode cX0_reachNextPoints 7 = .ok (.iconst 1, 1) := by decide +kernel
theorem dX0_reachNextPoints_8 : decode cX0_reachNextPoints 8 = .ok (.if_icmp .ne 13, 3) := by decide +kernel
theorem dX0_reachNextPoints_11 : decode cX0_reachNextPoints 11 = .ok (.aload_n 0, 1) := by decide +kernel
theorem dX0_reachNextPoints_12 : decode cX0_reachNextPoints 12 = .ok (.iload_n 1, 1) := by decide +kernel
theorem dX0_reachNextPoints_13 : decode cX0_reachNextPoints 13 = .ok (.iload_n 2, 1) := by decide +kernel
theorem dX0_reachNextPoints_14 : decode cX0_reachNextPoints 14 = .ok (.iconst 1, 1) := by decide +kernel
theorem dX0_reachNextPoints_15 : decode cX0_reachNextPoints 15 = .ok (.iadd, 1) := by decide +kernel
theorem dX0_reachNextPoints_16 : decode cX0_reachNextPoints 16 = .ok (.iconst 0, 1) := by decide +kernel
theorem dX0_reachNextPoints_17 : decode cX0_reachNextPoints 17 = .ok (.invokevirtual 61, 3) := by decide +kernel
theorem dX0_reachNextPoints_20 : decode cX0_reachNextPoints 20 = .ok (.pop, 1) := by decide +kernel
theorem dX0_reachNextPoints_21 : decode cX0_reachNextPoints 21 = .ok (.aload_n 0, 1) := by decide +kernel
theorem dX0_reachNextPoints_22 : decode cX0_reachNextPoints 22 = .ok (.iload_n 1, 1) := by decide +kernel
theorem dX0_reachNextPoints_23 : decode cX0_reachNextPoints 23 = .ok (.iload_n 2, 1) := by decide +kernel
theorem dX0_reachNextPoints_24 : decode cX0_reachNextPoints 24 = .ok (.iconst 1, 1) := by decide +kernel
theorem dX0_reachNextPoints_25 : decode cX0_reachNextPoints 25 = .ok (.isub, 1) := by decide +kernel
theorem dX0_reachNextPoints_26 : decode cX0_reachNextPoints 26 = .ok (.iconst 1, 1) := by decide +kernel
theorem dX0_reachNextPoints_27 : decode cX0_reachNextPoints 27 = .ok (.invokevirtual 42, 3) := by decide +kernel
theorem dX0_reachNextPoints_30 : decode cX0_reachNextPoints 30 = .ok (.iconst 1, 1) := by decide +kernel
theorem dX0_reachNextPoints_31 : decode cX0_reachNextPoints 31 = .ok (.if_icmp .ne 13, 3) := by decide +kernel
theorem dX0_reachNextPoints_34 : decode cX0_reachNextPoints 34 = .ok (.aload_n 0, 1) := by decide +kernel
theorem dX0_reachNextPoints_35 : decode cX0_reachNextPoints 35 = .ok (.iload_n 1, 1) := by decide +kernel
theorem dX0_reachNextPoints_36 : decode cX0_reachNextPoints 36 = .ok (.iload_n 2, 1) := by decide +kernel
theorem dX0_reachNextPoints_37 : decode cX0_reachNextPoints 37 = .ok (.iconst 1, 1) := by decide +kernel
theorem dX0_reachNextPoints_38 : decode cX0_reachNextPoints 38 = .ok (.isub, 1) := by decide +kernel
theorem dX0_reachNextPoints_39 : decode cX0_reachNextPoints 39 = .ok (.iconst 0, 1) := by decide +kernel
theorem dX0_reachNextPoints_40 : decode cX0_reachNextPoints 40 = .ok (.invokevirtual 61, 3) := by decide +kernel
theorem dX0_reachNextPoints_43 : decode cX0_reachNextPoints 43 = .ok (.pop, 1) := by decide +kernel
theorem dX0_reachNextPoints_44 : decode cX0_reachNextPoints 44 = .ok (.aload_n 0, 1) := by decide +kernel
theorem dX0_reachNextPoints_45 : decode cX0_reachNextPoints 45 = .ok (.iload_n 1, 1) := by decide +kernel
theorem dX0_reachNextPoints_46 : decode cX0_reachNextPoints 46 = .ok (.iload_n 2, 1) := by decide +kernel
theorem dX0_reachNextPoints_47 : decode cX0_reachNextPoints 47 = .ok (.iconst 0, 1) := by decide +kernel
theorem dX0_reachNextPoints_48 : decode cX0_reachNextPoints 48 = .ok (.invokevirtual 42, 3) := by decide +kernel
theorem dX0_reachNextPoints_51 : decode cX0_reachNextPoints 51 = .ok (.iconst 1, 1) := by decide +kernel
theorem dX0_reachNextPoints_52 : decode cX0_reachNextPoints 52 = .ok (.if_icmp .ne 13, 3) := by decide +kernel
theorem dX0_reachNextPoints_55 : decode cX0_reachNextPoints 55 = .ok (.aload_n 0, 1) := by decide +kernel
theorem dX0_reachNextPoints_56 : decode cX0_reachNextPoints 56 = .ok (.iload_n 1, 1) := by decide +kernel
theorem dX0_reachNextPoints_57 : decode cX0_reachNextPoints 57 = .ok (.iconst 1, 1) := by decide +kernel
theorem dX0_reachNextPoints_58 : decode cX0_reachNextPoints 58 = .ok (.iadd, 1) := by decide +kernel
theorem dX0_reachNextPoints_59 : decode cX0_reachNextPoints 59 = .ok (.iload_n 2, 1) := by decide +kernel
theorem dX0_reachNextPoints_60 : decode cX0_reachNextPoints 60 = .ok (.iconst 0, 1) := by decide +kernel
theorem dX0_reachNextPoints_61 : decode cX0_reachNextPoints 61 = .ok (.invokevirtual 61, 3) := by decide +kernel
theorem dX0_reachNextPoints_64 : decode cX0_reachNextPoints 64 = .ok (.pop, 1) := by decide +kernel
theorem dX0_reachNextPoints_65 : decode cX0_reachNextPoints 65 = .ok (.aload_n 0, 1) := by decide +kernel
theorem dX0_reachNextPoints_66 : decode cX0_reachNextPoints 66 = .ok (.iload_n 1, 1) := by decide +kernel
theorem dX0_reachNextPoints_67 : decode cX0_reachNextPoints 67 = .ok (.iconst 1, 1) := by decide +kernel
theorem dX0_reachNextPoints_68 : decode cX0_reachNextPoints 68 = .ok (.isub, 1) := by decide +kernel
theorem dX0_reachNextPoints_69 : decode cX0_reachNextPoints 69 = .ok (.iload_n 2, 1) := by decide +kernel
theorem dX0_reachNextPoints_70 : decode cX0_reachNextPoints 70 = .ok (.iconst 0, 1) := by decide +kernel
theorem dX0_reachNextPoints_71 : decode cX0_reachNextPoints 71 = .ok (.invokevirtual 42, 3) := by decide +kernel
theorem dX0_reachNextPoints_74 : decode cX0_reachNextPoints 74 = .ok (.iconst 1, 1) := by decide +kernel
theorem dX0_reachNextPoints_75 : decode cX0_reachNextPoints 75 = .ok (.if_icmp .ne 13, 3) := by decide +kernel
theorem dX0_reachNextPoints_78 : decode cX0_reachNextPoints 78 = .ok (.aload_n 0, 1) := by decide +kernel
theorem dX0_reachNextPoints_79 : decode cX0_reachNextPoints 79 = .ok (.iload_n 1, 1) := by decide +kernel
theorem dX0_reachNextPoints_80 : decode cX0_reachNextPoints 80 = .ok (.iconst 1, 1) := by decide +kernel
theorem dX0_reachNextPoints_81 : decode cX0_reachNextPoints 81 = .ok (.isub, 1) := by decide +kernel
theorem dX0_reachNextPoints_82 : decode cX0_reachNextPoints 82 = .ok (.iload_n 2, 1) := by decide +kernel
theorem dX0_reachNextPoints_83 : decode cX0_reachNextPoints 83 = .ok (.iconst 0, 1) := by decide +kernel
theorem dX0_reachNextPoints_84 : decode cX0_reachNextPoints 84 = .ok (.invokevirtual 61, 3) := by decide +kernel
theorem dX0_reachNextPoints_87 : decode cX0_reachNextPoints 87 = .ok (.pop, 1) := by decide +kernel
theorem dX0_reachNextPoints_88 : decode cX0_reachNextPoints 88 = .ok (.return_, 1) := by decide +kernel
theorem dX1_init_0 : decode cX1_init 0 = .ok (.aload_n 0, 1) := by decide +kernel
theorem dX1_init_1 : decode cX1_init 1 = .ok (.invokespecial 1, 3) := by decide +kernel
theorem dX1_init_4 : decode cX1_init 4 = .ok (.aload_n 0, 1) := by decide +kernel
theorem dX1_init_5 : decode cX1_init 5 = .ok (.bipush 120, 2) := by decide +kernel
theorem dX1_init_7 : decode cX1_init 7 = .ok (.newarray .char, 2) := by decide +kernel
theorem dX1_init_9 : decode cX1_init 9 = .ok (.putfield 9, 3) := by decide +kernel
theorem dX1_init_12 : decode cX1_init 12 = .ok (.return_, 1) := by decide +kernel
theorem dX1_append_0 : decode cX1_append 0 = .ok (.aload_n 0, 1) := by decide +kernel
theorem dX1_append_1 : decode cX1_append 1 = .ok (.getfield 13, 3) := by decide +kernel
theorem dX1_append_4 : decode cX1_append 4 = .ok (.ifCond .lt 12, 3) := by decide +kernel
theorem dX1_append_7 : decode cX1_append 7 = .ok (.aload_n 0, 1) := by decide +kernel
theorem dX1_append_8 : decode cX1_append 8 = .ok (.getfield 13, 3) := by decide +kernel
theorem dX1_append_11 : decode cX1_append 11 = .ok (.bipush 120, 2) := by decide +kernel
theorem dX1_append_13 : decode cX1_append 13 = .ok (.if_icmp .lt 5, 3) := by decide +kernel
theorem dX1_append_16 : decode cX1_append 16 = .ok (.iconst 0, 1) := by decide +kernel
theorem dX1_append_17 : decode cX1_append 17 = .ok (.ireturn, 1) := by decide +kernel
theorem dX1_append_18 : decode cX1_append 18 = .ok (.aload_n 0, 1) := by decide +kernel
theorem dX1_append_19 : decode cX1_append 19 = .ok (.getfield 9, 3) := by decide +kernel
theorem dX1_append_22 : decode cX1_append 22 = .ok (.aload_n 0, 1) := by decide +kernel
theorem dX1_append_23 : decode cX1_append 23 = .ok (.getfield 13, 3) := by decide +kernel
theorem dX1_append_26 : decode cX1_append 26 = .ok (.iload_n 1, 1) := by decide +kernel
theorem dX1_append_27 : decode cX1_append 27 = .ok (.castore, 1) := by decide +kernel
theorem dX1_append_28 : decode cX1_append 28 = .ok (.aload_n 0, 1) := by decide +kernel
theorem dX1_append_29 : decode cX1_append 29 = .ok (.dup, 1) := by decide +kernel
theorem dX1_append_30 : decode cX1_append 30 = .ok (.getfield 13, 3) := by decide +kernel
theorem dX1_append_33 : decode cX1_append 33 = .ok (.iconst 1, 1) := by decide +kernel
theorem dX1_append_34 : decode cX1_append 34 = .ok (.iadd, 1) := by decide +kernel
theorem dX1_append_35 : decode cX1_append 35 = .ok (.putfield 13, 3) := by decide +kernel
theorem dX1_append_38 : decode cX1_append 38 = .ok (.iconst 1, 1) := by decide +kernel
theorem dX1_append_39 : decode cX1_append 39 = .ok (.ireturn, 1) := by decide +kernel
theorem dX1_characterAt_0 : decode cX1_characterAt 0 = .ok (.iload_n 1, 1) := by decide +kernel
theorem dX1_characterAt_1 : decode cX1_characterAt 1 = .ok (.iconst 0, 1) := by decide +kernel
theorem dX1_characterAt_2 : decode cX1_characterAt 2 = .ok (.bipush 119, 2) := by decide +kernel
theorem dX1_characterAt_4 : decode cX1_characterAt 4 = .ok (.invokestatic 17, 3) := by decide +kernel
theorem dX1_characterAt_7 : decode cX1_characterAt 7 = .ok (.ifCond .eq 12, 3) := by decide +kernel
theorem dX1_characterAt_10 : decode cX1_characterAt 10 = .ok (.aload_n 0, 1) := by decide +kernel
theorem dX1_characterAt_11 : decode cX1_characterAt 11 = .ok (.getfield 9, 3) := by decide +kernel
theorem dX1_characterAt_14 : decode cX1_characterAt 14 = .ok (.iload_n 1, 1) := by decide +kernel
theorem dX1_characterAt_15 : decode cX1_characterAt 15 = .ok (.caload, 1) := by decide +kernel
theorem dX1_characterAt_16 : decode cX1_characterAt 16 = .ok (.goto 5, 3) := by decide +kernel
theorem dX1_characterAt_19 : decode cX1_characterAt 19 = .ok (.bipush 47, 2) := by decide +kernel
theorem dX1_characterAt_21 : decode cX1_characterAt 21 = .ok (.ireturn, 1) := by decide +kernel
theorem dX1_isDigit_0 : decode cX1_isDigit 0 = .ok (.iload_n 0, 1) := by decide +kernel
theorem dX1_isDigit_1 : decode cX1_isDigit 1 = .ok (.bipush 48, 2) := by decide +kernel
theorem dX1_isDigit_3 : decode cX1_isDigit 3 = .ok (.if_icmp .lt 13, 3) := by decide +kernel
theorem dX1_isDigit_6 : decode cX1_isDigit 6 = .ok (.iload_n 0, 1) := by decide +kernel
theorem dX1_isDigit_7 : decode cX1_isDigit 7 = .ok (.bipush 57, 2) := by decide +kernel
theorem dX1_isDigit_9 : decode cX1_isDigit 9 = .ok (.if_icmp .gt 7, 3) := by decide +kernel
theorem dX1_isDigit_12 : decode cX1_isDigit 12 = .ok (.iconst 1, 1) := by decide +kernel
theorem dX1_isDigit_13 : decode cX1_isDigit 13 = .ok (.goto 4, 3) := by decide +kernel
theorem dX1_isDigit_16 : decode cX1_isDigit 16 = .ok (.iconst 0, 1) := by decide +kernel
theorem dX1_isDigit_17 : decode cX1_isDigit 17 = .ok (.ireturn, 1) := by decide +kernel
theorem dX1_isEntry_0 : decode cX1_isEntry 0 = .ok (.iload_n 0, 1) := by decide +kernel
theorem dX1_isEntry_1 : decode cX1_isEntry 1 = .ok (.bipush 46, 2) := by decide +kernel
theorem dX1_isEntry_3 : decode cX1_isEntry 3 = .ok (.if_icmp .eq 15, 3) := by decide +kernel
theorem dX1_isEntry_6 : decode cX1_isEntry 6 = .ok (.iload_n 0, 1) := by decide +kernel
theorem dX1_isEntry_7 : decode cX1_isEntry 7 = .ok (.bipush 97, 2) := by decide +kernel
theorem dX1_isEntry_9 : decode cX1_isEntry 9 = .ok (.if_icmp .lt 13, 3) := by decide +kernel
theorem dX1_isEntry_12 : decode cX1_isEntry 12 = .ok (.iload_n 0, 1) := by decide +kernel
theorem dX1_isEntry_13 : decode cX1_isEntry 13 = .ok (.bipush 102, 2) := by decide +kernel
theorem dX1_isEntry_15 : decode cX1_isEntry 15 = .ok (.if_icmp .gt 7, 3) := by decide +kernel
theorem dX1_isEntry_18 : decode cX1_isEntry 18 = .ok (.iconst 1, 1) := by decide +kernel
theorem dX1_isEntry_19 : decode cX1_isEntry 19 = .ok (.goto 4, 3) := by decide +kernel
theorem dX1_isEntry_22 : decode cX1_isEntry 22 = .ok (.iconst 0, 1) := by decide +kernel
theorem dX1_isEntry_23 : decode cX1_isEntry 23 = .ok (.ireturn, 1) := by decide +kernel
theorem dX1_colorOf_0 : decode cX1_colorOf 0 = .ok (.iload_n 0, 1) := by decide +kernel
theorem dX1_colorOf_1 : decode cX1_colorOf 1 = .ok (.bipush 46, 2) := by decide +kernel
theorem dX1_colorOf_3 : decode cX1_colorOf 3 = .ok (.if_icmp .ne 7, 3) := by decide +kernel
theorem dX1_colorOf_6 : decode cX1_colorOf 6 = .ok (.iconst 0, 1) := by decide +kernel
theorem dX1_colorOf_7 : decode cX1_colorOf 7 = .ok (.goto 9, 3) := by decide +kernel
theorem dX1_colorOf_10 : decode cX1_colorOf 10 = .ok (.iload_n 0, 1) := by decide +kernel
theorem dX1_colorOf_11 : decode cX1_colorOf 11 = .ok (.bipush 97, 2) := by decide +kernel
theorem dX1_colorOf_13 : decode cX1_colorOf 13 = .ok (.isub, 1) := by decide +kernel
theorem dX1_colorOf_14 : decode cX1_colorOf 14 = .ok (.iconst 1, 1) := by decide +kernel
theorem dX1_colorOf_15 : decode cX1_colorOf 15 = .ok (.iadd, 1) := by decide +kernel
theorem dX1_colorOf_16 : decode cX1_colorOf 16 = .ok (.ireturn, 1) := by decide +kernel
theorem dX1_startNumber_0 : decode cX1_startNumber 0 = .ok (.aload_n 0, 1) := by decide +kernel
theorem dX1_startNumber_1 : decode cX1_startNumber 1 = .ok (.iconst 0, 1) := by decide +kernel
theorem dX1_startNumber_2 : decode cX1_startNumber 2 = .ok (.putfield 23, 3) := by decide +kernel
theorem dX1_startNumber_5 : decode cX1_startNumber 5 = .ok (.aload_n 0, 1) := by decide +kernel
theorem dX1_startNumber_6 : decode cX1_startNumber 6 = .ok (.iconst 0, 1) := by decide +kernel
theorem dX1_startNumber_7 : decode cX1_startNumber 7 = .ok (.putfield 26, 3) := by decide +kernel
theorem dX1_startNumber_10 : decode cX1_startNumber 10 = .ok (.return_, 1) := by decide +kernel
theorem dX1_addDigit_0 : decode cX1_addDigit 0 = .ok (.aload_n 0, 1) := by decide +kernel
theorem dX1_addDigit_1 : decode cX1_addDigit 1 = .ok (.bipush 10, 2) := by decide +kernel
theorem dX1_addDigit_3 : decode cX1_addDigit 3 = .ok (.aload_n 0, 1) := by decide +kernel
theorem dX1_addDigit_4 : decode cX1_addDigit 4 = .ok (.getfield 23, 3) := by decide +kernel
theorem dX1_addDigit_7 : decode cX1_addDigit 7 = .ok (.imul, 1) := by decide +kernel
theorem dX1_addDigit_8 : decode cX1_addDigit 8 = .ok (.iload_n 1, 1) := by decide +kernel
theorem dX1_addDigit_9 : decode cX1_addDigit 9 = .ok (.bipush 48, 2) := by decide +kernel
theorem dX1_addDigit_11 : decode cX1_addDigit 11 = .ok (.isub, 1) := by decide +kernel
theorem dX1_addDigit_12 : decode cX1_addDigit 12 = .ok (.iadd, 1) := by decide +kernel
theorem dX1_addDigit_13 : decode cX1_addDigit 13 = .ok (.putfield 23, 3) := by decide +kernel
theorem dX1_addDigit_16 : decode cX1_addDigit 16 = .ok (.aload_n 0, 1) := by decide +kernel
theorem dX1_addDigit_17 : decode cX1_addDigit 17 = .ok (.dup, 1) := by decide +kernel
theorem dX1_addDigit_18 : decode cX1_addDigit 18 = .ok (.getfield 26, 3) := by decide +kernel
theorem dX1_addDigit_21 : decode cX1_addDigit 21 = .ok (.iconst 1, 1) := by decide +kernel
theorem dX1_addDigit_22 : decode cX1_addDigit 22 = .ok (.iadd, 1) := by decide +kernel
theorem dX1_addDigit_23 : decode cX1_addDigit 23 = .ok (.putfield 26, 3) := by decide +kernel
theorem dX1_addDigit_26 : decode cX1_addDigit 26 = .ok (.return_, 1) := by decide +kernel
theorem dX1_numberOfCells_0 : decode cX1_numberOfCells 0 = .ok (.aload_n 0, 1) := by decide +kernel
theorem dX1_numberOfCells_1 : decode cX1_numberOfCells 1 = .ok (.getfield 26, 3) := by decide +kernel
theorem dX1_numberOfCells_4 : decode cX1_numberOfCells 4 = .ok (.ifCond .ne 7, 3) := by decide +kernel
theorem dX1_numberOfCells_7 : decode cX1_numberOfCells 7 = .ok (.iconst 1, 1) := by decide +kernel
theorem dX1_numberOfCells_8 : decode cX1_numberOfCells 8 = .ok (.goto 7, 3) := by decide +kernel
theorem dX1_numberOfCells_11 : decode cX1_numberOfCells 11 = .ok (.aload_n 0, 1) := by decide +kernel
theorem dX1_numberOfCells_12 : decode cX1_numberOfCells 12 = .ok (.getfield 23, 3) := by decide +kernel
theorem dX1_numberOfCells_15 : decode cX1_numberOfCells 15 = .ok (.ireturn, 1) := by decide +kernel
theorem dX1_findFault_0 : decode cX1_findFault 0 = .ok (.aload_n 0, 1) := by decide +kernel
theorem dX1_findFault_1 : decode cX1_findFault 1 = .ok (.invokevirtual 29, 3) := by decide +kernel
theorem dX1_findFault_4 : decode cX1_findFault 4 = .ok (.istore_n 3, 1) := by decide +kernel
theorem dX1_findFault_5 : decode cX1_findFault 5 = .ok (.iload_n 3, 1) := by decide +kernel
theorem dX1_findFault_6 : decode cX1_findFault 6 = .ok (.iconst (-1), 1) := by decide +kernel
theorem dX1_findFault_7 : decode cX1_findFault 7 = .ok (.if_icmp .eq 5, 3) := by decide +kernel
theorem dX1_findFault_10 : decode cX1_findFault 10 = .ok (.iload_n 3, 1) := by decide +kernel
theorem dX1_findFault_11 : decode cX1_findFault 11 = .ok (.ireturn, 1) := by decide +kernel
theorem dX1_findFault_12 : decode cX1_findFault 12 = .ok (.aload_n 0, 1) := by decide +kernel
theorem dX1_findFault_13 : decode cX1_findFault 13 = .ok (.iload_n 1, 1) := by decide +kernel
theorem dX1_findFault_14 : decode cX1_findFault 14 = .ok (.iload_n 2, 1) := by decide +kernel
theorem dX1_findFault_15 : decode cX1_findFault 15 = .ok (.invokevirtual 33, 3) := by decide +kernel
theorem dX1_findFault_18 : decode cX1_findFault 18 = .ok (.ifCond .eq 7, 3) := by decide +kernel
theorem dX1_findFault_21 : decode cX1_findFault 21 = .ok (.iconst (-1), 1) := by decide +kernel
theorem dX1_findFault_22 : decode cX1_findFault 22 = .ok (.goto 5, 3) := by decide +kernel
theorem dX1_findFault_25 : decode cX1_findFault 25 = .ok (.bipush 120, 2) := by decide +kernel
theorem dX1_findFault_27 : decode cX1_findFault 27 = .ok (.ireturn, 1) := by decide +kernel
theorem dX1_findMisplaced_0 : decode cX1_findMisplaced 0 = .ok (.aload_n 0, 1) := by decide +kernel
theorem dX1_findMisplaced_1 : decode cX1_findMisplaced 1 = .ok (.invokevirtual 37, 3) := by decide +kernel
theorem dX1_findMisplaced_4 : decode cX1_findMisplaced 4 = .ok (.iconst 0, 1) := by decide +kernel
theorem dX1_findMisplaced_5 : decode cX1_findMisplaced 5 = .ok (.istore_n 1, 1) := by decide +kernel
theorem dX1_findMisplaced_6 : decode cX1_findMisplaced 6 = .ok (.iload_n 1, 1) := by decide +kernel
theorem dX1_findMisplaced_7 : decode cX1_findMisplaced 7 = .ok (.aload_n 0, 1) := by decide +kernel
theorem dX1_findMisplaced_8 : decode cX1_findMisplaced 8 = .ok (.getfield 13, 3) := by decide +kernel
theorem dX1_findMisplaced_11 : decode cX1_findMisplaced 11 = .ok (.if_icmp .ge 96, 3) := by decide +kernel
theorem dX1_findMisplaced_14 : decode cX1_findMisplaced 14 = .ok (.aload_n 0, 1) := by decide +kernel
theorem dX1_findMisplaced_15 : decode cX1_findMisplaced 15 = .ok (.iload_n 1, 1) := by decide +kernel
theorem dX1_findMisplaced_16 : decode cX1_findMisplaced 16 = .ok (.invokevirtual 40, 3) := by decide +kernel
theorem dX1_findMisplaced_19 : decode cX1_findMisplaced 19 = .ok (.istore_n 2, 1) := by decide +kernel
theorem dX1_findMisplaced_20 : decode cX1_findMisplaced 20 = .ok (.iload_n 2, 1) := by decide +kernel
theorem dX1_findMisplaced_21 : decode cX1_findMisplaced 21 = .ok (.invokestatic 44, 3) := by decide +kernel
theorem dX1_findMisplaced_24 : decode cX1_findMisplaced 24 = .ok (.ifCond .eq 21, 3) := by decide +kernel
theorem dX1_findMisplaced_27 : decode cX1_findMisplaced 27 = .ok (.aload_n 0, 1) := by decide +kernel
theorem dX1_findMisplaced_28 : decode cX1_findMisplaced 28 = .ok (.getfield 26, 3) := by decide +kernel
theorem dX1_findMisplaced_31 : decode cX1_findMisplaced 31 = .ok (.iconst 2, 1) := by decide +kernel
theorem dX1_findMisplaced_32 : decode cX1_findMisplaced 32 = .ok (.if_icmp .ne 5, 3) := by decide +kernel
theorem dX1_findMisplaced_35 : decode cX1_findMisplaced 35 = .ok (.iload_n 1, 1) := by decide +kernel
theorem dX1_findMisplaced_36 : decode cX1_findMisplaced 36 = .ok (.ireturn, 1) := by decide +kernel
theorem dX1_findMisplaced_37 : decode cX1_findMisplaced 37 = .ok (.aload_n 0, 1) := by decide +kernel
theorem dX1_findMisplaced_38 : decode cX1_findMisplaced 38 = .ok (.iload_n 2, 1) := by decide +kernel
theorem dX1_findMisplaced_39 : decode cX1_findMisplaced 39 = .ok (.invokevirtual 48, 3) := by decide +kernel
theorem dX1_findMisplaced_42 : decode cX1_findMisplaced 42 = .ok (.goto 59, 3) := by decide +kernel
theorem dX1_findMisplaced_45 : decode cX1_findMisplaced 45 = .ok (.aload_n 0, 1) := by decide +kernel
theorem dX1_findMisplaced_46 : decode cX1_findMisplaced 46 = .ok (.invokevirtual 52, 3) := by decide +kernel
theorem dX1_findMisplaced_49 : decode cX1_findMisplaced 49 = .ok (.iconst 1, 1) := by decide +kernel
theorem dX1_findMisplaced_50 : decode cX1_findMisplaced 50 = .ok (.bipush 24, 2) := by decide +kernel
theorem dX1_findMisplaced_52 : decode cX1_findMisplaced 52 = .ok (.invokestatic 17, 3) := by decide +kernel
theorem dX1_findMisplaced_55 : decode cX1_findMisplaced 55 = .ok (.ifCond .ne 10, 3) := by decide +kernel
theorem dX1_findMisplaced_58 : decode cX1_findMisplaced 58 = .ok (.iload_n 1, 1) := by decide +kernel
theorem dX1_findMisplaced_59 : decode cX1_findMisplaced 59 = .ok (.aload_n 0, 1) := by decide +kernel
theorem dX1_findMisplaced_60 : decode cX1_findMisplaced 60 = .ok (.getfield 26, 3) := by decide +kernel
theorem dX1_findMisplaced_63 : decode cX1_findMisplaced 63 = .ok (.isub, 1) := by decide +kernel
theorem dX1_findMisplaced_64 : decode cX1_findMisplaced 64 = .ok (.ireturn, 1) := by decide +kernel
theorem dX1_findMisplaced_65 : decode cX1_findMisplaced 65 = .ok (.iload_n 2, 1) := by decide +kernel
theorem dX1_findMisplaced_66 : decode cX1_findMisplaced 66 = .ok (.bipush 47, 2) := by decide +kernel
theorem dX1_findMisplaced_68 : decode cX1_findMisplaced 68 = .ok (.if_icmp .ne 14, 3) := by decide +kernel
theorem dX1_findMisplaced_71 : decode cX1_findMisplaced 71 = .ok (.aload_n 0, 1) := by decide +kernel
theorem dX1_findMisplaced_72 : decode cX1_findMisplaced 72 = .ok (.getfield 26, 3) := by decide +kernel
theorem dX1_findMisplaced_75 : decode cX1_findMisplaced 75 = .ok (.ifCond .ne 7, 3) := by decide +kernel
theorem dX1_findMisplaced_78 : decode cX1_findMisplaced 78 = .ok (.iconst 1, 1) := by decide +kernel
theorem dX1_findMisplaced_79 : decode cX1_findMisplaced 79 = .ok (.goto 4, 3) := by decide +kernel
theorem dX1_findMisplaced_82 : decode cX1_findMisplaced 82 = .ok (.iconst 0, 1) := by decide +kernel
theorem dX1_findMisplaced_83 : decode cX1_findMisplaced 83 = .ok (.istore_n 3, 1) := by decide +kernel
theorem dX1_findMisplaced_84 : decode cX1_findMisplaced 84 = .ok (.iload_n 3, 1) := by decide +kernel
theorem dX1_findMisplaced_85 : decode cX1_findMisplaced 85 = .ok (.ifCond .ne 12, 3) := by decide +kernel
theorem dX1_findMisplaced_88 : decode cX1_findMisplaced 88 = .ok (.iload_n 2, 1) := by decide +kernel
theorem dX1_findMisplaced_89 : decode cX1_findMisplaced 89 = .ok (.invokestatic 55, 3) := by decide +kernel
theorem dX1_findMisplaced_92 : decode cX1_findMisplaced 92 = .ok (.ifCond .ne 5, 3) := by decide +kernel
theorem dX1_findMisplaced_95 : decode cX1_findMisplaced 95 = .ok (.iload_n 1, 1) := by decide +kernel
theorem dX1_findMisplaced_96 : decode cX1_findMisplaced 96 = .ok (.ireturn, 1) := by decide +kernel
theorem dX1_findMisplaced_97 : decode cX1_findMisplaced 97 = .ok (.aload_n 0, 1) := by decide +kernel
theorem dX1_findMisplaced_98 : decode cX1_findMisplaced 98 = .ok (.invokevirtual 37, 3) := by decide +kernel
theorem dX1_findMisplaced_101 : decode cX1_findMisplaced 101 = .ok (.iinc 1 1, 3) := by decide +kernel
theorem dX1_findMisplaced_104 : decode cX1_findMisplaced 104 = .ok (.goto (-98), 3) := by decide +kernel
theorem dX1_findMisplaced_107 : decode cX1_findMisplaced 107 = .ok (.aload_n 0, 1) := by decide +kernel
theorem dX1_findMisplaced_108 : decode cX1_findMisplaced 108 = .ok (.invokevirtual 52, 3) := by decide +kernel
theorem dX1_findMisplaced_111 : decode cX1_findMisplaced 111 = .ok (.iconst 1, 1) := by decide +kernel
theorem dX1_findMisplaced_112 : decode cX1_findMisplaced 112 = .ok (.bipush 24, 2) := by decide +kernel
theorem dX1_findMisplaced_114 : decode cX1_findMisplaced 114 = .ok (.invokestatic 17, 3) := by decide +kernel
theorem dX1_findMisplaced_117 : decode cX1_findMisplaced 117 = .ok (.ifCond .ne 13, 3) := by decide +kernel
theorem dX1_findMisplaced_120 : decode cX1_findMisplaced 120 = .ok (.aload_n 0, 1) := by decide +kernel
theorem dX1_findMisplaced_121 : decode cX1_findMisplaced 121 = .ok (.getfield 13, 3) := by decide +kernel
theorem dX1_findMisplaced_124 : decode cX1_findMisplaced 124 = .ok (.aload_n 0, 1) := by decide +kernel
theorem dX1_findMisplaced_125 : decode cX1_findMisplaced 125 = .ok (.getfield 26, 3) := by decide +kernel
theorem dX1_findMisplaced_128 : decode cX1_findMisplaced 128 = .ok (.isub, 1) := by decide +kernel
theorem dX1_findMisplaced_129 : decode cX1_findMisplaced 129 = .ok (.ireturn, 1) := by decide +kernel
theorem dX1_findMisplaced_130 : decode cX1_findMisplaced 130 = .ok (.aload_n 0, 1) := by decide +kernel
theorem dX1_findMisplaced_131 : decode cX1_findMisplaced 131 = .ok (.getfield 26, 3) := by decide +kernel
theorem dX1_findMisplaced_134 : decode cX1_findMisplaced 134 = .ok (.ifCond .ne 7, 3) := by decide +kernel
theorem dX1_findMisplaced_137 : decode cX1_findMisplaced 137 = .ok (.iconst (-1), 1) := by decide +kernel
theorem dX1_findMisplaced_138 : decode cX1_findMisplaced 138 = .ok (.goto 7, 3) := by decide +kernel
theorem dX1_findMisplaced_141 : decode cX1_findMisplaced 141 = .ok (.aload_n 0, 1) := by decide +kernel
theorem dX1_findMisplaced_142 : decode cX1_findMisplaced 142 = .ok (.getfield 13, 3) := by decide +kernel
theorem dX1_findMisplaced_145 : decode cX1_findMisplaced 145 = .ok (.ireturn, 1) := by decide +kernel
theorem dX1_fits_0 : decode cX1_fits 0 = .ok (.aload_n 0, 1) := by decide +kernel
theorem dX1_fits_1 : decode cX1_fits 1 = .ok (.invokevirtual 37, 3) := by decide +kernel
theorem dX1_fits_4 : decode cX1_fits 4 = .ok (.iconst 0, 1) := by decide +kernel
theorem dX1_fits_5 : decode cX1_fits 5 = .ok (.istore_n 3, 1) := by decide +kernel
theorem dX1_fits_6 : decode cX1_fits 6 = .ok (.iconst 0, 1) := by decide +kernel
theorem dX1_fits_7 : decode cX1_fits 7 = .ok (.istore 4, 2) := by decide +kernel
theorem dX1_fits_9 : decode cX1_fits 9 = .ok (.iconst 0, 1) := by decide +kernel
theorem dX1_fits_10 : decode cX1_fits 10 = .ok (.istore 5, 2) := by decide +kernel
theorem dX1_fits_12 : decode cX1_fits 12 = .ok (.iload 5, 2) := by decide +kernel
theorem dX1_fits_14 : decode cX1_fits 14 = .ok (.aload_n 0, 1) := by decide +kernel
theorem dX1_fits_15 : decode cX1_fits 15 = .ok (.getfield 13, 3) := by decide +kernel
theorem dX1_fits_18 : decode cX1_fits 18 = .ok (.if_icmp .ge 73, 3) := by decide +kernel
theorem dX1_fits_21 : decode cX1_fits 21 = .ok (.aload_n 0, 1) := by decide +kernel
theorem dX1_fits_22 : decode cX1_fits 22 = .ok (.iload 5, 2) := by decide +kernel
theorem dX1_fits_24 : decode cX1_fits 24 = .ok (.invokevirtual 40, 3) := by decide +kernel
theorem dX1_fits_27 : decode cX1_fits 27 = .ok (.istore 6, 2) := by decide +kernel
theorem dX1_fits_29 : decode cX1_fits 29 = .ok (.iload 6, 2) := by decide +kernel
theorem dX1_fits_31 : decode cX1_fits 31 = .ok (.invokestatic 44, 3) := by decide +kernel
theorem dX1_fits_34 : decode cX1_fits 34 = .ok (.ifCond .eq 12, 3) := by decide +kernel
theorem dX1_fits_37 : decode cX1_fits 37 = .ok (.aload_n 0, 1) := by decide +kernel
theorem dX1_fits_38 : decode cX1_fits 38 = .ok (.iload 6, 2) := by decide +kernel
theorem dX1_fits_40 : decode cX1_fits 40 = .ok (.invokevirtual 48, 3) := by decide +kernel
theorem dX1_fits_43 : decode cX1_fits 43 = .ok (.goto 29, 3) := by decide +kernel
theorem dX1_fits_46 : decode cX1_fits 46 = .ok (.iload 6, 2) := by decide +kernel
theorem dX1_fits_48 : decode cX1_fits 48 = .ok (.bipush 47, 2) := by decide +kernel
theorem dX1_fits_50 : decode cX1_fits 50 = .ok (.if_icmp .ne 11, 3) := by decide +kernel
theorem dX1_fits_53 : decode cX1_fits 53 = .ok (.iconst 0, 1) := by decide +kernel
theorem dX1_fits_54 : decode cX1_fits 54 = .ok (.istore_n 3, 1) := by decide +kernel
theorem dX1_fits_55 : decode cX1_fits 55 = .ok (.iinc 4 1, 3) := by decide +kernel
theorem dX1_fits_58 : decode cX1_fits 58 = .ok (.goto 14, 3) := by decide +kernel
theorem dX1_fits_61 : decode cX1_fits 61 = .ok (.iload_n 3, 1) := by decide +kernel
theorem dX1_fits_62 : decode cX1_fits 62 = .ok (.aload_n 0, 1) := by decide +kernel
theorem dX1_fits_63 : decode cX1_fits 63 = .ok (.invokevirtual 52, 3) := by decide +kernel
theorem dX1_fits_66 : decode cX1_fits 66 = .ok (.iadd, 1) := by decide +kernel
theorem dX1_fits_67 : decode cX1_fits 67 = .ok (.istore_n 3, 1) := by decide +kernel
theorem dX1_fits_68 : decode cX1_fits 68 = .ok (.aload_n 0, 1) := by decide +kernel
theorem dX1_fits_69 : decode cX1_fits 69 = .ok (.invokevirtual 37, 3) := by decide +kernel
theorem dX1_fits_72 : decode cX1_fits 72 = .ok (.iload_n 3, 1) := by decide +kernel
theorem dX1_fits_73 : decode cX1_fits 73 = .ok (.iload_n 1, 1) := by decide +kernel
theorem dX1_fits_74 : decode cX1_fits 74 = .ok (.if_icmp .gt 9, 3) := by decide +kernel
theorem dX1_fits_77 : decode cX1_fits 77 = .ok (.iload 4, 2) := by decide +kernel
theorem dX1_fits_79 : decode cX1_fits 79 = .ok (.iload_n 2, 1) := by decide +kernel
theorem dX1_fits_80 : decode cX1_fits 80 = .ok (.if_icmp .lt 5, 3) := by decide +kernel
theorem dX1_fits_83 : decode cX1_fits 83 = .ok (.iconst 0, 1) := by decide +kernel
theorem dX1_fits_84 : decode cX1_fits 84 = .ok (.ireturn, 1) := by decide +kernel
theorem dX1_fits_85 : decode cX1_fits 85 = .ok (.iinc 5 1, 3) := by decide +kernel
theorem dX1_fits_88 : decode cX1_fits 88 = .ok (.goto (-76), 3) := by decide +kernel
theorem dX1_fits_91 : decode cX1_fits 91 = .ok (.iconst 1, 1) := by decide +kernel
theorem dX1_fits_92 : decode cX1_fits 92 = .ok (.ireturn, 1) := by decide +kernel
theorem dX1_drawOn_0 : decode cX1_drawOn 0 = .ok (.aload_n 0, 1) := by decide +kernel
theorem dX1_drawOn_1 : decode cX1_drawOn 1 = .ok (.invokevirtual 37, 3) := by decide +kernel
theorem dX1_drawOn_4 : decode cX1_drawOn 4 = .ok (.iconst 0, 1) := by decide +kernel
theorem dX1_drawOn_5 : decode cX1_drawOn 5 = .ok (.istore_n 2, 1) := by decide +kernel
theorem dX1_drawOn_6 : decode cX1_drawOn 6 = .ok (.iconst 0, 1) := by decide +kernel
theorem dX1_drawOn_7 : decode cX1_drawOn 7 = .ok (.istore_n 3, 1) := by decide +kernel
theorem dX1_drawOn_8 : decode cX1_drawOn 8 = .ok (.iconst 0, 1) := by decide +kernel
theorem dX1_drawOn_9 : decode cX1_drawOn 9 = .ok (.istore 4, 2) := by decide +kernel
theorem dX1_drawOn_11 : decode cX1_drawOn 11 = .ok (.iconst 0, 1) := by decide +kernel
theorem dX1_drawOn_12 : decode cX1_drawOn 12 = .ok (.istore 5, 2) := by decide +kernel
theorem dX1_drawOn_14 : decode cX1_drawOn 14 = .ok (.iload 5, 2) := by decide +kernel
theorem dX1_drawOn_16 : decode cX1_drawOn 16 = .ok (.aload_n 0, 1) := by decide +kernel
theorem dX1_drawOn_17 : decode cX1_drawOn 17 = .ok (.getfield 13, 3) := by decide +kernel
theorem dX1_drawOn_20 : decode cX1_drawOn 20 = .ok (.if_icmp .ge 79, 3) := by decide +kernel
theorem dX1_drawOn_23 : decode cX1_drawOn 23 = .ok (.aload_n 0, 1) := by decide +kernel
theorem dX1_drawOn_24 : decode cX1_drawOn 24 = .ok (.iload 5, 2) := by decide +kernel
theorem dX1_drawOn_26 : decode cX1_drawOn 26 = .ok (.invokevirtual 40, 3) := by decide +kernel
theorem dX1_drawOn_29 : decode cX1_drawOn 29 = .ok (.istore 6, 2) := by decide +kernel
theorem dX1_drawOn_31 : decode cX1_drawOn 31 = .ok (.iload 6, 2) := by decide +kernel
theorem dX1_drawOn_33 : decode cX1_drawOn 33 = .ok (.invokestatic 44, 3) := by decide +kernel
theorem dX1_drawOn_36 : decode cX1_drawOn 36 = .ok (.ifCond .eq 12, 3) := by decide +kernel
theorem dX1_drawOn_39 : decode cX1_drawOn 39 = .ok (.aload_n 0, 1) := by decide +kernel
theorem dX1_drawOn_40 : decode cX1_drawOn 40 = .ok (.iload 6, 2) := by decide +kernel
theorem dX1_drawOn_42 : decode cX1_drawOn 42 = .ok (.invokevirtual 48, 3) := by decide +kernel
theorem dX1_drawOn_45 : decode cX1_drawOn 45 = .ok (.goto 48, 3) := by decide +kernel
theorem dX1_drawOn_48 : decode cX1_drawOn 48 = .ok (.iload 6, 2) := by decide +kernel
theorem dX1_drawOn_50 : decode cX1_drawOn 50 = .ok (.bipush 47, 2) := by decide +kernel
theorem dX1_drawOn_52 : decode cX1_drawOn 52 = .ok (.if_icmp .ne 11, 3) := by decide +kernel
theorem dX1_drawOn_55 : decode cX1_drawOn 55 = .ok (.iconst 0, 1) := by decide +kernel
theorem dX1_drawOn_56 : decode cX1_drawOn 56 = .ok (.istore_n 3, 1) := by decide +kernel
theorem dX1_drawOn_57 : decode cX1_drawOn 57 = .ok (.iinc 4 1, 3) := by decide +kernel
theorem dX1_drawOn_60 : decode cX1_drawOn 60 = .ok (.goto 33, 3) := by decide +kernel
theorem dX1_drawOn_63 : decode cX1_drawOn 63 = .ok (.iload_n 2, 1) := by decide +kernel
theorem dX1_drawOn_64 : decode cX1_drawOn 64 = .ok (.aload_n 1, 1) := by decide +kernel
theorem dX1_drawOn_65 : decode cX1_drawOn 65 = .ok (.iload_n 3, 1) := by decide +kernel
theorem dX1_drawOn_66 : decode cX1_drawOn 66 = .ok (.iload 4, 2) := by decide +kernel
theorem dX1_drawOn_68 : decode cX1_drawOn 68 = .ok (.aload_n 0, 1) := by decide +kernel
theorem dX1_drawOn_69 : decode cX1_drawOn 69 = .ok (.invokevirtual 52, 3) := by decide +kernel
theorem dX1_drawOn_72 : decode cX1_drawOn 72 = .ok (.iload 6, 2) := by decide +kernel
theorem dX1_drawOn_74 : decode cX1_drawOn 74 = .ok (.invokestatic 58, 3) := by decide +kernel
theorem dX1_drawOn_77 : decode cX1_drawOn 77 = .ok (.invokevirtual 62, 3) := by decide +kernel
theorem dX1_drawOn_80 : decode cX1_drawOn 80 = .ok (.iadd, 1) := by decide +kernel
theorem dX1_drawOn_81 : decode cX1_drawOn 81 = .ok (.istore_n 2, 1) := by decide +kernel
theorem dX1_drawOn_82 : decode cX1_drawOn 82 = .ok (.iload_n 3, 1) := by decide +kernel
theorem dX1_drawOn_83 : decode cX1_drawOn 83 = .ok (.aload_n 0, 1) := by decide +kernel
theorem dX1_drawOn_84 : decode cX1_drawOn 84 = .ok (.invokevirtual 52, 3) := by decide +kernel
theorem dX1_drawOn_87 : decode cX1_drawOn 87 = .ok (.iadd, 1) := by decide +kernel
theorem dX1_drawOn_88 : decode cX1_drawOn 88 = .ok (.istore_n 3, 1) := by decide +kernel
theorem dX1_drawOn_89 : decode cX1_drawOn 89 = .ok (.aload_n 0, 1) := by decide +kernel
theorem dX1_drawOn_90 : decode cX1_drawOn 90 = .ok (.invokevirtual 37, 3) := by decide +kernel
theorem dX1_drawOn_93 : decode cX1_drawOn 93 = .ok (.iinc 5 1, 3) := by decide +kernel
theorem dX1_drawOn_96 : decode cX1_drawOn 96 = .ok (.goto (-82), 3) := by decide +kernel
theorem dX1_drawOn_99 : decode cX1_drawOn 99 = .ok (.iload_n 2, 1) := by decide +kernel
theorem dX1_drawOn_100 : decode cX1_drawOn 100 = .ok (.ireturn, 1) := by decide +kernel
theorem dX2_init_0 : decode cX2_init 0 = .ok (.aload_n 0, 1) := by decide +kernel
theorem dX2_init_1 : decode cX2_init 1 = .ok (.invokespecial 3, 3) := by decide +kernel
theorem dX2_init_4 : decode cX2_init 4 = .ok (.aload_n 0, 1) := by decide +kernel
theorem dX2_init_5 : decode cX2_init 5 = .ok (.aload_n 1, 1) := by decide +kernel
theorem dX2_init_6 : decode cX2_init 6 = .ok (.putfield 9, 3) := by decide +kernel
theorem dX2_init_9 : decode cX2_init 9 = .ok (.aload_n 0, 1) := by decide +kernel
theorem dX2_init_10 : decode cX2_init 10 = .ok (.aload_n 2, 1) := by decide +kernel
theorem dX2_init_11 : decode cX2_init 11 = .ok (.putfield 15, 3) := by decide +kernel
theorem dX2_init_14 : decode cX2_init 14 = .ok (.aload_n 0, 1) := by decide +kernel
theorem dX2_init_15 : decode cX2_init 15 = .ok (.iload_n 3, 1) := by decide +kernel
theorem dX2_init_16 : decode cX2_init 16 = .ok (.putfield 19, 3) := by decide +kernel
theorem dX2_init_19 : decode cX2_init 19 = .ok (.aload_n 0, 1) := by decide +kernel
theorem dX2_init_20 : decode cX2_init 20 = .ok (.sipush 288, 3) := by decide +kernel
theorem dX2_init_23 : decode cX2_init 23 = .ok (.newarray .int, 2) := by decide +kernel
theorem dX2_init_25 : decode cX2_init 25 = .ok (.putfield 23, 3) := by decide +kernel
theorem dX2_init_28 : decode cX2_init 28 = .ok (.aload_n 0, 1) := by decide +kernel
theorem dX2_init_29 : decode cX2_init 29 = .ok (.sipush 288, 3) := by decide +kernel
theorem dX2_init_32 : decode cX2_init 32 = .ok (.newarray .int, 2) := by decide +kernel
theorem dX2_init_34 : decode cX2_init 34 = .ok (.putfield 27, 3) := by decide +kernel
theorem dX2_init_37 : decode cX2_init 37 = .ok (.aload_n 0, 1) := by decide +kernel
theorem dX2_init_38 : decode cX2_init 38 = .ok (.sipush 288, 3) := by decide +kernel
theorem dX2_init_41 : decode cX2_init 41 = .ok (.newarray .int, 2) := by decide +kernel
theorem dX2_init_43 : decode cX2_init 43 = .ok (.putfield 30, 3) := by decide +kernel
theorem dX2_init_46 : decode cX2_init 46 = .ok (.aload_n 0, 1) := by decide +kernel
theorem dX2_init_47 : decode cX2_init 47 = .ok (.sipush 288, 3) := by decide +kernel
theorem dX2_init_50 : decode cX2_init 50 = .ok (.newarray .int, 2) := by decide +kernel
theorem dX2_init_52 : decode cX2_init 52 = .ok (.putfield 33, 3) := by decide +kernel
theorem dX2_init_55 : decode cX2_init 55 = .ok (.aload_n 0, 1) := by decide +kernel
theorem dX2_init_56 : decode cX2_init 56 = .ok (.sipush 288, 3) := by decide +kernel
theorem dX2_init_59 : decode cX2_init 59 = .ok (.newarray .int, 2) := by decide +kernel
theorem dX2_init_61 : decode cX2_init 61 = .ok (.putfield 36, 3) := by decide +kernel
theorem dX2_init_64 : decode cX2_init 64 = .ok (.return_, 1) := by decide +kernel
theorem dX2_has_0 : decode cX2_has 0 = .ok (.iload_n 1, 1) := by decide +kernel
theorem dX2_has_1 : decode cX2_has 1 = .ok (.ifCond .lt 15, 3) := by decide +kernel
theorem dX2_has_4 : decode cX2_has 4 = .ok (.iload_n 1, 1) := by decide +kernel
theorem dX2_has_5 : decode cX2_has 5 = .ok (.aload_n 0, 1) := by decide +kernel
theorem dX2_has_6 : decode cX2_has 6 = .ok (.getfield 39, 3) := by decide +kernel
theorem dX2_has_9 : decode cX2_has 9 = .ok (.if_icmp .ge 7, 3) := by decide +kernel
theorem dX2_has_12 : decode cX2_has 12 = .ok (.iconst 1, 1) := by decide +kernel
theorem dX2_has_13 : decode cX2_has 13 = .ok (.goto 4, 3) := by decide +kernel
theorem dX2_has_16 : decode cX2_has 16 = .ok (.iconst 0, 1) := by decide +kernel
theorem dX2_has_17 : decode cX2_has 17 = .ok (.ireturn, 1) := by decide +kernel
theorem dX2_findRuns_0 : decode cX2_findRuns 0 = .ok (.aload_n 0, 1) := by decide +kernel
theorem dX2_findRuns_1 : decode cX2_findRuns 1 = .ok (.iconst 0, 1) := by decide +kernel
theorem dX2_findRuns_2 : decode cX2_findRuns 2 = .ok (.putfield 39, 3) := by decide +kernel
theorem dX2_findRuns_5 : decode cX2_findRuns 5 = .ok (.iconst 0, 1) := by decide +kernel
theorem dX2_findRuns_6 : decode cX2_findRuns 6 = .ok (.istore_n 1, 1) := by decide +kernel
theorem dX2_findRuns_7 : decode cX2_findRuns 7 = .ok (.iload_n 1, 1) := by decide +kernel
theorem dX2_findRuns_8 : decode cX2_findRuns 8 = .ok (.aload_n 0, 1) := by decide +kernel
theorem dX2_findRuns_9 : decode cX2_findRuns 9 = .ok (.getfield 9, 3) := by decide +kernel
theorem dX2_findRuns_12 : decode cX2_findRuns 12 = .ok (.getfield 42, 3) := by decide +kernel
theorem dX2_findRuns_15 : decode cX2_findRuns 15 = .ok (.if_icmp .ge 68, 3) := by decide +kernel
theorem dX2_findRuns_18 : decode cX2_findRuns 18 = .ok (.iconst 0, 1) := by decide +kernel
theorem dX2_findRuns_19 : decode cX2_findRuns 19 = .ok (.istore_n 2, 1) := by decide +kernel
theorem dX2_findRuns_20 : decode cX2_findRuns 20 = .ok (.iload_n 2, 1) := by decide +kernel
theorem dX2_findRuns_21 : decode cX2_findRuns 21 = .ok (.aload_n 0, 1) := by decide +kernel
theorem dX2_findRuns_22 : decode cX2_findRuns 22 = .ok (.getfield 9, 3) := by decide +kernel
theorem dX2_findRuns_25 : decode cX2_findRuns 25 = .ok (.getfield 47, 3) := by decide +kernel
theorem dX2_findRuns_28 : decode cX2_findRuns 28 = .ok (.if_icmp .ge 49, 3) := by decide +kernel
theorem dX2_findRuns_31 : decode cX2_findRuns 31 = .ok (.aload_n 0, 1) := by decide +kernel
theorem dX2_findRuns_32 : decode cX2_findRuns 32 = .ok (.getfield 9, 3) := by decide +kernel
theorem dX2_findRuns_35 : decode cX2_findRuns 35 = .ok (.iload_n 2, 1) := by decide +kernel
theorem dX2_findRuns_36 : decode cX2_findRuns 36 = .ok (.iload_n 1, 1) := by decide +kernel
theorem dX2_findRuns_37 : decode cX2_findRuns 37 = .ok (.invokevirtual 50, 3) := by decide +kernel
theorem dX2_findRuns_40 : decode cX2_findRuns 40 = .ok (.aload_n 0, 1) := by decide +kernel
theorem dX2_findRuns_41 : decode cX2_findRuns 41 = .ok (.getfield 19, 3) := by decide +kernel
theorem dX2_findRuns_44 : decode cX2_findRuns 44 = .ok (.if_icmp .ne 27, 3) := by decide +kernel
theorem dX2_findRuns_47 : decode cX2_findRuns 47 = .ok (.aload_n 0, 1) := by decide +kernel
theorem dX2_findRuns_48 : decode cX2_findRuns 48 = .ok (.getfield 9, 3) := by decide +kernel
theorem dX2_findRuns_51 : decode cX2_findRuns 51 = .ok (.iload_n 2, 1) := by decide +kernel
theorem dX2_findRuns_52 : decode cX2_findRuns 52 = .ok (.iconst 1, 1) := by decide +kernel
theorem dX2_findRuns_53 : decode cX2_findRuns 53 = .ok (.isub, 1) := by decide +kernel
theorem dX2_findRuns_54 : decode cX2_findRuns 54 = .ok (.iload_n 1, 1) := by decide +kernel
theorem dX2_findRuns_55 : decode cX2_findRuns 55 = .ok (.invokevirtual 50, 3) := by decide +kernel
theorem dX2_findRuns_58 : decode cX2_findRuns 58 = .ok (.aload_n 0, 1) := by decide +kernel
theorem dX2_findRuns_59 : decode cX2_findRuns 59 = .ok (.getfield 19, 3) := by decide +kernel
theorem dX2_findRuns_62 : decode cX2_findRuns 62 = .ok (.if_icmp .eq 9, 3) := by decide +kernel
theorem dX2_findRuns_65 : decode cX2_findRuns 65 = .ok (.aload_n 0, 1) := by decide +kernel
theorem dX2_findRuns_66 : decode cX2_findRuns 66 = .ok (.iload_n 2, 1) := by decide +kernel
theorem dX2_findRuns_67 : decode cX2_findRuns 67 = .ok (.iload_n 1, 1) := by decide +kernel
theorem dX2_findRuns_68 : decode cX2_findRuns 68 = .ok (.invokevirtual 54, 3) := by decide +kernel
theorem dX2_findRuns_71 : decode cX2_findRuns 71 = .ok (.iinc 2 1, 3) := by decide +kernel
theorem dX2_findRuns_74 : decode cX2_findRuns 74 = .ok (.goto (-54), 3) := by decide +kernel
theorem dX2_findRuns_77 : decode cX2_findRuns 77 = .ok (.iinc 1 1, 3) := by decide +kernel
theorem dX2_findRuns_80 : decode cX2_findRuns 80 = .ok (.goto (-73), 3) := by decide +kernel
theorem dX2_findRuns_83 : decode cX2_findRuns 83 = .ok (.return_, 1) := by decide +kernel
theorem dX2_addRun_0 : decode cX2_addRun 0 = .ok (.aload_n 0, 1) := by decide +kernel
theorem dX2_addRun_1 : decode cX2_addRun 1 = .ok (.getfield 39, 3) := by decide +kernel
theorem dX2_addRun_4 : decode cX2_addRun 4 = .ok (.ifCond .lt 13, 3) := by decide +kernel
theorem dX2_addRun_7 : decode cX2_addRun 7 = .ok (.aload_n 0, 1) := by decide +kernel
theorem dX2_addRun_8 : decode cX2_addRun 8 = .ok (.getfield 39, 3) := by decide +kernel
theorem dX2_addRun_11 : decode cX2_addRun 11 = .ok (.sipush 288, 3) := by decide +kernel
theorem dX2_addRun_14 : decode cX2_addRun 14 = .ok (.if_icmp .lt 4, 3) := by decide +kernel
theorem dX2_addRun_17 : decode cX2_addRun 17 = .ok (.return_, 1) := by decide +kernel
theorem dX2_addRun_18 : decode cX2_addRun 18 = .ok (.iconst 1, 1) := by decide +kernel
theorem dX2_addRun_19 : decode cX2_addRun 19 = .ok (.istore_n 3, 1) := by decide +kernel
theorem dX2_addRun_20 : decode cX2_addRun 20 = .ok (.iload_n 3, 1) := by decide +kernel
theorem dX2_addRun_21 : decode cX2_addRun 21 = .ok (.bipush 24, 2) := by decide +kernel
theorem dX2_addRun_23 : decode cX2_addRun 23 = .ok (.if_icmp .ge 27, 3) := by decide +kernel
theorem dX2_addRun_26 : decode cX2_addRun 26 = .ok (.aload_n 0, 1) := by decide +kernel
theorem dX2_addRun_27 : decode cX2_addRun 27 = .ok (.getfield 9, 3) := by decide +kernel
theorem dX2_addRun_30 : decode cX2_addRun 30 = .ok (.iload_n 1, 1) := by decide +kernel
theorem dX2_addRun_31 : decode cX2_addRun 31 = .ok (.iload_n 3, 1) := by decide +kernel
theorem dX2_addRun_32 : decode cX2_addRun 32 = .ok (.iadd, 1) := by decide +kernel
theorem dX2_addRun_33 : decode cX2_addRun 33 = .ok (.iload_n 2, 1) := by decide +kernel
theorem dX2_addRun_34 : decode cX2_addRun 34 = .ok (.invokevirtual 50, 3) := by decide +kernel
theorem dX2_addRun_37 : decode cX2_addRun 37 = .ok (.aload_n 0, 1) := by decide +kernel
theorem dX2_addRun_38 : decode cX2_addRun 38 = .ok (.getfield 19, 3) := by decide +kernel
theorem dX2_addRun_41 : decode cX2_addRun 41 = .ok (.if_icmp .ne 9, 3) := by decide +kernel
theorem dX2_addRun_44 : decode cX2_addRun 44 = .ok (.iinc 3 1, 3) := by decide +kernel
theorem dX2_addRun_47 : decode cX2_addRun 47 = .ok (.goto (-27), 3) := by decide +kernel
theorem dX2_addRun_50 : decode cX2_addRun 50 = .ok (.aload_n 0, 1) := by decide +kernel
theorem dX2_addRun_51 : decode cX2_addRun 51 = .ok (.getfield 23, 3) := by decide +kernel
theorem dX2_addRun_54 : decode cX2_addRun 54 = .ok (.aload_n 0, 1) := by decide +kernel
theorem dX2_addRun_55 : decode cX2_addRun 55 = .ok (.getfield 39, 3) := by decide +kernel
theorem dX2_addRun_58 : decode cX2_addRun 58 = .ok (.iload_n 1, 1) := by decide +kernel
theorem dX2_addRun_59 : decode cX2_addRun 59 = .ok (.iastore, 1) := by decide +kernel
theorem dX2_addRun_60 : decode cX2_addRun 60 = .ok (.aload_n 0, 1) := by decide +kernel
theorem dX2_addRun_61 : decode cX2_addRun 61 = .ok (.getfield 27, 3) := by decide +kernel
theorem dX2_addRun_64 : decode cX2_addRun 64 = .ok (.aload_n 0, 1) := by decide +kernel
theorem dX2_addRun_65 : decode cX2_addRun 65 = .ok (.getfield 39, 3) := by decide +kernel
theorem dX2_addRun_68 : decode cX2_addRun 68 = .ok (.iload_n 2, 1) := by decide +kernel
theorem dX2_addRun_69 : decode cX2_addRun 69 = .ok (.iastore, 1) := by decide +kernel
theorem dX2_addRun_70 : decode cX2_addRun 70 = .ok (.aload_n 0, 1) := by decide +kernel
theorem dX2_addRun_71 : decode cX2_addRun 71 = .ok (.getfield 30, 3) := by decide +kernel
theorem dX2_addRun_74 : decode cX2_addRun 74 = .ok (.aload_n 0, 1) := by decide +kernel
theorem dX2_addRun_75 : decode cX2_addRun 75 = .ok (.getfield 39, 3) := by decide +kernel
theorem dX2_addRun_78 : decode cX2_addRun 78 = .ok (.iload_n 3, 1) := by decide +kernel
theorem dX2_addRun_79 : decode cX2_addRun 79 = .ok (.iastore, 1) := by decide +kernel
theorem dX2_addRun_80 : decode cX2_addRun 80 = .ok (.aload_n 0, 1) := by decide +kernel
theorem dX2_addRun_81 : decode cX2_addRun 81 = .ok (.dup, 1) := by decide +kernel
theorem dX2_addRun_82 : decode cX2_addRun 82 = .ok (.getfield 39, 3) := by decide +kernel
theorem dX2_addRun_85 : decode cX2_addRun 85 = .ok (.iconst 1, 1) := by decide +kernel
theorem dX2_addRun_86 : decode cX2_addRun 86 = .ok (.iadd, 1) := by decide +kernel
theorem dX2_addRun_87 : decode cX2_addRun 87 = .ok (.putfield 39, 3) := by decide +kernel
theorem dX2_addRun_90 : decode cX2_addRun 90 = .ok (.return_, 1) := by decide +kernel
theorem dX2_makeOrderFirst_0 : decode cX2_makeOrderFirst 0 = .ok (.iconst 0, 1) := by decide +kernel
theorem dX2_makeOrderFirst_1 : decode cX2_makeOrderFirst 1 = .ok (.istore_n 1, 1) := by decide +kernel
theorem dX2_makeOrderFirst_2 : decode cX2_makeOrderFirst 2 = .ok (.iload_n 1, 1) := by decide +kernel
theorem dX2_makeOrderFirst_3 : decode cX2_makeOrderFirst 3 = .ok (.aload_n 0, 1) := by decide +kernel
theorem dX2_makeOrderFirst_4 : decode cX2_makeOrderFirst 4 = .ok (.getfield 39, 3) := by decide +kernel
theorem dX2_makeOrderFirst_7 : decode cX2_makeOrderFirst 7 = .ok (.if_icmp .ge 16, 3) := by decide +kernel
theorem dX2_makeOrderFirst_10 : decode cX2_makeOrderFirst 10 = .ok (.aload_n 0, 1) := by decide +kernel
theorem dX2_makeOrderFirst_11 : decode cX2_makeOrderFirst 11 = .ok (.getfield 36, 3) := by decide +kernel
theorem dX2_makeOrderFirst_14 : decode cX2_makeOrderFirst 14 = .ok (.iload_n 1, 1) := by decide +kernel
theorem dX2_makeOrderFirst_15 : decode cX2_makeOrderFirst 15 = .ok (.iconst (-1), 1) := by decide +kernel
theorem dX2_makeOrderFirst_16 : decode cX2_makeOrderFirst 16 = .ok (.iastore, 1) := by decide +kernel
theorem dX2_makeOrderFirst_17 : decode cX2_makeOrderFirst 17 = .ok (.iinc 1 1, 3) := by decide +kernel
theorem dX2_makeOrderFirst_20 : decode cX2_makeOrderFirst 20 = .ok (.goto (-18), 3) := by decide +kernel
theorem dX2_makeOrderFirst_23 : decode cX2_makeOrderFirst 23 = .ok (.iconst 0, 1) := by decide +kernel
theorem dX2_makeOrderFirst_24 : decode cX2_makeOrderFirst 24 = .ok (.istore_n 1, 1) := by decide +kernel
theorem dX2_makeOrderFirst_25 : decode cX2_makeOrderFirst 25 = .ok (.iconst 0, 1) := by decide +kernel
theorem dX2_makeOrderFirst_26 : decode cX2_makeOrderFirst 26 = .ok (.istore_n 2, 1) := by decide +kernel
theorem dX2_makeOrderFirst_27 : decode cX2_makeOrderFirst 27 = .ok (.iload_n 2, 1) := by decide +kernel
theorem dX2_makeOrderFirst_28 : decode cX2_makeOrderFirst 28 = .ok (.aload_n 0, 1) := by decide +kernel
theorem dX2_makeOrderFirst_29 : decode cX2_makeOrderFirst 29 = .ok (.getfield 39, 3) := by decide +kernel
theorem dX2_makeOrderFirst_32 : decode cX2_makeOrderFirst 32 = .ok (.if_icmp .ge 41, 3) := by decide +kernel
theorem dX2_makeOrderFirst_35 : decode cX2_makeOrderFirst 35 = .ok (.iload_n 2, 1) := by decide +kernel
theorem dX2_makeOrderFirst_36 : decode cX2_makeOrderFirst 36 = .ok (.ifCond .le 9, 3) := by decide +kernel
theorem dX2_makeOrderFirst_39 : decode cX2_makeOrderFirst 39 = .ok (.aload_n 0, 1) := by decide +kernel
theorem dX2_makeOrderFirst_40 : decode cX2_makeOrderFirst 40 = .ok (.iload_n 1, 1) := by decide +kernel
theorem dX2_makeOrderFirst_41 : decode cX2_makeOrderFirst 41 = .ok (.invokevirtual 58, 3) := by decide +kernel
theorem dX2_makeOrderFirst_44 : decode cX2_makeOrderFirst 44 = .ok (.istore_n 1, 1) := by decide +kernel
theorem dX2_makeOrderFirst_45 : decode cX2_makeOrderFirst 45 = .ok (.aload_n 0, 1) := by decide +kernel
theorem dX2_makeOrderFirst_46 : decode cX2_makeOrderFirst 46 = .ok (.iload_n 1, 1) := by decide +kernel
theorem dX2_makeOrderFirst_47 : decode cX2_makeOrderFirst 47 = .ok (.invokevirtual 62, 3) := by decide +kernel
theorem dX2_makeOrderFirst_50 : decode cX2_makeOrderFirst 50 = .ok (.ifCond .eq 17, 3) := by decide +kernel
theorem dX2_makeOrderFirst_53 : decode cX2_makeOrderFirst 53 = .ok (.aload_n 0, 1) := by decide +kernel
theorem dX2_makeOrderFirst_54 : decode cX2_makeOrderFirst 54 = .ok (.getfield 33, 3) := by decide +kernel
theorem dX2_makeOrderFirst_57 : decode cX2_makeOrderFirst 57 = .ok (.iload_n 2, 1) := by decide +kernel
theorem dX2_makeOrderFirst_58 : decode cX2_makeOrderFirst 58 = .ok (.iload_n 1, 1) := by decide +kernel
theorem dX2_makeOrderFirst_59 : decode cX2_makeOrderFirst 59 = .ok (.iastore, 1) := by decide +kernel
theorem dX2_makeOrderFirst_60 : decode cX2_makeOrderFirst 60 = .ok (.aload_n 0, 1) := by decide +kernel
theorem dX2_makeOrderFirst_61 : decode cX2_makeOrderFirst 61 = .ok (.getfield 36, 3) := by decide +kernel
theorem dX2_makeOrderFirst_64 : decode cX2_makeOrderFirst 64 = .ok (.iload_n 1, 1) := by decide +kernel
theorem dX2_makeOrderFirst_65 : decode cX2_makeOrderFirst 65 = .ok (.iload_n 2, 1) := by decide +kernel
theorem dX2_makeOrderFirst_66 : decode cX2_makeOrderFirst 66 = .ok (.iastore, 1) := by decide +kernel
theorem dX2_makeOrderFirst_67 : decode cX2_makeOrderFirst 67 = .ok (.iinc 2 1, 3) := by decide +kernel
theorem dX2_makeOrderFirst_70 : decode cX2_makeOrderFirst 70 = .ok (.goto (-43), 3) := by decide +kernel
theorem dX2_makeOrderFirst_73 : decode cX2_makeOrderFirst 73 = .ok (.return_, 1) := by decide +kernel
theorem dX2_nearestWithoutPlace_0 : decode cX2_nearestWithoutPlace 0 = .ok (.iconst (-1), 1) := by decide +kernel
theorem dX2_nearestWithoutPlace_1 : decode cX2_nearestWithoutPlace 1 = .ok (.istore_n 2, 1) := by decide +kernel
theorem dX2_nearestWithoutPlace_2 : decode cX2_nearestWithoutPlace 2 = .ok (.iconst 0, 1) := by decide +kernel
theorem dX2_nearestWithoutPlace_3 : decode cX2_nearestWithoutPlace 3 = .ok (.istore_n 3, 1) := by decide +kernel
theorem dX2_nearestWithoutPlace_4 : decode cX2_nearestWithoutPlace 4 = .ok (.iconst 0, 1) := by decide +kernel
theorem dX2_nearestWithoutPlace_5 : decode cX2_nearestWithoutPlace 5 = .ok (.istore 4, 2) := by decide +kernel
theorem dX2_nearestWithoutPlace_7 : decode cX2_nearestWithoutPlace 7 = .ok (.iload 4, 2) := by decide +kernel
theorem dX2_nearestWithoutPlace_9 : decode cX2_nearestWithoutPlace 9 = .ok (.aload_n 0, 1) := by decide +kernel
theorem dX2_nearestWithoutPlace_10 : decode cX2_nearestWithoutPlace 10 = .ok (.getfield 39, 3) := by decide +kernel
theorem dX2_nearestWithoutPlace_13 : decode cX2_nearestWithoutPlace 13 = .ok (.if_icmp .ge 46, 3) := by decide +kernel
theorem dX2_nearestWithoutPlace_16 : decode cX2_nearestWithoutPlace 16 = .ok (.aload_n 0, 1) := by decide +kernel
theorem dX2_nearestWithoutPlace_17 : decode cX2_nearestWithoutPlace 17 = .ok (.getfield 36, 3) := by decide +kernel
theorem dX2_nearestWithoutPlace_20 : decode cX2_nearestWithoutPlace 20 = .ok (.iload 4, 2) := by decide +kernel
theorem dX2_nearestWithoutPlace_22 : decode cX2_nearestWithoutPlace 22 = .ok (.iaload, 1) := by decide +kernel
theorem dX2_nearestWithoutPlace_23 : decode cX2_nearestWithoutPlace 23 = .ok (.iconst (-1), 1) := by decide +kernel
theorem dX2_nearestWithoutPlace_24 : decode cX2_nearestWithoutPlace 24 = .ok (.if_icmp .ne 29, 3) := by decide +kernel
theorem dX2_nearestWithoutPlace_27 : decode cX2_nearestWithoutPlace 27 = .ok (.aload_n 0, 1) := by decide +kernel
theorem dX2_nearestWithoutPlace_28 : decode cX2_nearestWithoutPlace 28 = .ok (.iload_n 1, 1) := by decide +kernel
theorem dX2_nearestWithoutPlace_29 : decode cX2_nearestWithoutPlace 29 = .ok (.iload 4, 2) := by decide +kernel
theorem dX2_nearestWithoutPlace_31 : decode cX2_nearestWithoutPlace 31 = .ok (.invokevirtual 66, 3) := by decide +kernel
theorem dX2_nearestWithoutPlace_34 : decode cX2_nearestWithoutPlace 34 = .ok (.istore 5, 2) := by decide +kernel
theorem dX2_nearestWithoutPlace_36 : decode cX2_nearestWithoutPlace 36 = .ok (.iload_n 2, 1) := by decide +kernel
theorem dX2_nearestWithoutPlace_37 : decode cX2_nearestWithoutPlace 37 = .ok (.iconst (-1), 1) := by decide +kernel
theorem dX2_nearestWithoutPlace_38 : decode cX2_nearestWithoutPlace 38 = .ok (.if_icmp .eq 9, 3) := by decide +kernel
theorem dX2_nearestWithoutPlace_41 : decode cX2_nearestWithoutPlace 41 = .ok (.iload 5, 2) := by decide +kernel
theorem dX2_nearestWithoutPlace_43 : decode cX2_nearestWithoutPlace 43 = .ok (.iload_n 3, 1) := by decide +kernel
theorem dX2_nearestWithoutPlace_44 : decode cX2_nearestWithoutPlace 44 = .ok (.if_icmp .ge 9, 3) := by decide +kernel
theorem dX2_nearestWithoutPlace_47 : decode cX2_nearestWithoutPlace 47 = .ok (.iload 4, 2) := by decide +kernel
theorem dX2_nearestWithoutPlace_49 : decode cX2_nearestWithoutPlace 49 = .ok (.istore_n 2, 1) := by decide +kernel
theorem dX2_nearestWithoutPlace_50 : decode cX2_nearestWithoutPlace 50 = .ok (.iload 5, 2) := by decide +kernel
theorem dX2_nearestWithoutPlace_52 : decode cX2_nearestWithoutPlace 52 = .ok (.istore_n 3, 1) := by decide +kernel
theorem dX2_nearestWithoutPlace_53 : decode cX2_nearestWithoutPlace 53 = .ok (.iinc 4 1, 3) := by decide +kernel
theorem dX2_nearestWithoutPlace_56 : decode cX2_nearestWithoutPlace 56 = .ok (.goto (-49), 3) := by decide +kernel
theorem dX2_nearestWithoutPlace_59 : decode cX2_nearestWithoutPlace 59 = .ok (.iload_n 2, 1) := by decide +kernel
theorem dX2_nearestWithoutPlace_60 : decode cX2_nearestWithoutPlace 60 = .ok (.ireturn, 1) := by decide +kernel
theorem dX2_wayBetween_0 : decode cX2_wayBetween 0 = .ok (.aload_n 0, 1) := by decide +kernel
theorem dX2_wayBetween_1 : decode cX2_wayBetween 1 = .ok (.iload_n 1, 1) := by decide +kernel
theorem dX2_wayBetween_2 : decode cX2_wayBetween 2 = .ok (.invokevirtual 62, 3) := by decide +kernel
theorem dX2_wayBetween_5 : decode cX2_wayBetween 5 = .ok (.ifCond .eq 11, 3) := by decide +kernel
theorem dX2_wayBetween_8 : decode cX2_wayBetween 8 = .ok (.aload_n 0, 1) := by decide +kernel
theorem dX2_wayBetween_9 : decode cX2_wayBetween 9 = .ok (.iload_n 2, 1) := by decide +kernel
theorem dX2_wayBetween_10 : decode cX2_wayBetween 10 = .ok (.invokevirtual 62, 3) := by decide +kernel
theorem dX2_wayBetween_13 : decode cX2_wayBetween 13 = .ok (.ifCond .ne 5, 3) := by decide +kernel
theorem dX2_wayBetween_16 : decode cX2_wayBetween 16 = .ok (.iconst 0, 1) := by decide +kernel
theorem dX2_wayBetween_17 : decode cX2_wayBetween 17 = .ok (.ireturn, 1) := by decide +kernel
theorem dX2_wayBetween_18 : decode cX2_wayBetween 18 = .ok (.bipush 10, 2) := by decide +kernel
theorem dX2_wayBetween_20 : decode cX2_wayBetween 20 = .ok (.aload_n 0, 1) := by decide +kernel
theorem dX2_wayBetween_21 : decode cX2_wayBetween 21 = .ok (.getfield 23, 3) := by decide +kernel
theorem dX2_wayBetween_24 : decode cX2_wayBetween 24 = .ok (.iload_n 1, 1) := by decide +kernel
theorem dX2_wayBetween_25 : decode cX2_wayBetween 25 = .ok (.iaload, 1) := by decide +kernel
theorem dX2_wayBetween_26 : decode cX2_wayBetween 26 = .ok (.aload_n 0, 1) := by decide +kernel
theorem dX2_wayBetween_27 : decode cX2_wayBetween 27 = .ok (.getfield 23, 3) := by decide +kernel
theorem dX2_wayBetween_30 : decode cX2_wayBetween 30 = .ok (.iload_n 2, 1) := by decide +kernel
theorem dX2_wayBetween_31 : decode cX2_wayBetween 31 = .ok (.iaload, 1) := by decide +kernel
theorem dX2_wayBetween_32 : decode cX2_wayBetween 32 = .ok (.isub, 1) := by decide +kernel
theorem dX2_wayBetween_33 : decode cX2_wayBetween 33 = .ok (.invokestatic 69, 3) := by decide +kernel
theorem dX2_wayBetween_36 : decode cX2_wayBetween 36 = .ok (.aload_n 0, 1) := by decide +kernel
theorem dX2_wayBetween_37 : decode cX2_wayBetween 37 = .ok (.getfield 27, 3) := by decide +kernel
theorem dX2_wayBetween_40 : decode cX2_wayBetween 40 = .ok (.iload_n 1, 1) := by decide +kernel
theorem dX2_wayBetween_41 : decode cX2_wayBetween 41 = .ok (.iaload, 1) := by decide +kernel
theorem dX2_wayBetween_42 : decode cX2_wayBetween 42 = .ok (.aload_n 0, 1) := by decide +kernel
theorem dX2_wayBetween_43 : decode cX2_wayBetween 43 = .ok (.getfield 27, 3) := by decide +kernel
theorem dX2_wayBetween_46 : decode cX2_wayBetween 46 = .ok (.iload_n 2, 1) := by decide +kernel
theorem dX2_wayBetween_47 : decode cX2_wayBetween 47 = .ok (.iaload, 1) := by decide +kernel
theorem dX2_wayBetween_48 : decode cX2_wayBetween 48 = .ok (.isub, 1) := by decide +kernel
theorem dX2_wayBetween_49 : decode cX2_wayBetween 49 = .ok (.invokestatic 69, 3) := by decide +kernel
theorem dX2_wayBetween_52 : decode cX2_wayBetween 52 = .ok (.iadd, 1) := by decide +kernel
theorem dX2_wayBetween_53 : decode cX2_wayBetween 53 = .ok (.imul, 1) := by decide +kernel
theorem dX2_wayBetween_54 : decode cX2_wayBetween 54 = .ok (.ireturn, 1) := by decide +kernel
theorem dX2_runAtPlace_0 : decode cX2_runAtPlace 0 = .ok (.aload_n 0, 1) := by decide +kernel
theorem dX2_runAtPlace_1 : decode cX2_runAtPlace 1 = .ok (.iload_n 1, 1) := by decide +kernel
theorem dX2_runAtPlace_2 : decode cX2_runAtPlace 2 = .ok (.invokevirtual 62, 3) := by decide +kernel
theorem dX2_runAtPlace_5 : decode cX2_runAtPlace 5 = .ok (.ifCond .eq 12, 3) := by decide +kernel
theorem dX2_runAtPlace_8 : decode cX2_runAtPlace 8 = .ok (.aload_n 0, 1) := by decide +kernel
theorem dX2_runAtPlace_9 : decode cX2_runAtPlace 9 = .ok (.getfield 33, 3) := by decide +kernel
theorem dX2_runAtPlace_12 : decode cX2_runAtPlace 12 = .ok (.iload_n 1, 1) := by decide +kernel
theorem dX2_runAtPlace_13 : decode cX2_runAtPlace 13 = .ok (.iaload, 1) := by decide +kernel
theorem dX2_runAtPlace_14 : decode cX2_runAtPlace 14 = .ok (.goto 4, 3) := by decide +kernel
theorem dX2_runAtPlace_17 : decode cX2_runAtPlace 17 = .ok (.iconst (-1), 1) := by decide +kernel
theorem dX2_runAtPlace_18 : decode cX2_runAtPlace 18 = .ok (.ireturn, 1) := by decide +kernel
theorem dX2_costBetween_0 : decode cX2_costBetween 0 = .ok (.aload_n 0, 1) := by decide +kernel
theorem dX2_costBetween_1 : decode cX2_costBetween 1 = .ok (.iload_n 1, 1) := by decide +kernel
theorem dX2_costBetween_2 : decode cX2_costBetween 2 = .ok (.invokevirtual 62, 3) := by decide +kernel
theorem dX2_costBetween_5 : decode cX2_costBetween 5 = .ok (.ifCond .eq 27, 3) := by decide +kernel
theorem dX2_costBetween_8 : decode cX2_costBetween 8 = .ok (.aload_n 0, 1) := by decide +kernel
theorem dX2_costBetween_9 : decode cX2_costBetween 9 = .ok (.iload_n 2, 1) := by decide +kernel
theorem dX2_costBetween_10 : decode cX2_costBetween 10 = .ok (.invokevirtual 62, 3) := by decide +kernel
theorem dX2_costBetween_13 : decode cX2_costBetween 13 = .ok (.ifCond .eq 19, 3) := by decide +kernel
theorem dX2_costBetween_16 : decode cX2_costBetween 16 = .ok (.aload_n 0, 1) := by decide +kernel
theorem dX2_costBetween_17 : decode cX2_costBetween 17 = .ok (.getfield 15, 3) := by decide +kernel
theorem dX2_costBetween_20 : decode cX2_costBetween 20 = .ok (.aload_n 0, 1) := by decide +kernel
theorem dX2_costBetween_21 : decode cX2_costBetween 21 = .ok (.iload_n 1, 1) := by decide +kernel
theorem dX2_costBetween_22 : decode cX2_costBetween 22 = .ok (.iload_n 2, 1) := by decide +kernel
theorem dX2_costBetween_23 : decode cX2_costBetween 23 = .ok (.invokevirtual 66, 3) := by decide +kernel
theorem dX2_costBetween_26 : decode cX2_costBetween 26 = .ok (.invokevirtual 74, 3) := by decide +kernel
theorem dX2_costBetween_29 : decode cX2_costBetween 29 = .ok (.goto 4, 3) := by decide +kernel
theorem dX2_costBetween_32 : decode cX2_costBetween 32 = .ok (.iconst 0, 1) := by decide +kernel
theorem dX2_costBetween_33 : decode cX2_costBetween 33 = .ok (.ireturn, 1) := by decide +kernel
theorem dX2_stitches_0 : decode cX2_stitches 0 = .ok (.iconst 0, 1) := by decide +kernel
theorem dX2_stitches_1 : decode cX2_stitches 1 = .ok (.istore_n 1, 1) := by decide +kernel
theorem dX2_stitches_2 : decode cX2_stitches 2 = .ok (.iconst 0, 1) := by decide +kernel
theorem dX2_stitches_3 : decode cX2_stitches 3 = .ok (.istore_n 2, 1) := by decide +kernel
theorem dX2_stitches_4 : decode cX2_stitches 4 = .ok (.iload_n 2, 1) := by decide +kernel
theorem dX2_stitches_5 : decode cX2_stitches 5 = .ok (.aload_n 0, 1) := by decide +kernel
theorem dX2_stitches_6 : decode cX2_stitches 6 = .ok (.getfield 39, 3) := by decide +kernel
theorem dX2_stitches_9 : decode cX2_stitches 9 = .ok (.if_icmp .ge 18, 3) := by decide +kernel
theorem dX2_stitches_12 : decode cX2_stitches 12 = .ok (.iload_n 1, 1) := by decide +kernel
theorem dX2_stitches_13 : decode cX2_stitches 13 = .ok (.aload_n 0, 1) := by decide +kernel
theorem dX2_stitches_14 : decode cX2_stitches 14 = .ok (.getfield 30, 3) := by decide +kernel
theorem dX2_stitches_17 : decode cX2_stitches 17 = .ok (.iload_n 2, 1) := by decide +kernel
theorem dX2_stitches_18 : decode cX2_stitches 18 = .ok (.iaload, 1) := by decide +kernel
theorem dX2_stitches_19 : decode cX2_stitches 19 = .ok (.iadd, 1) := by decide +kernel
theorem dX2_stitches_20 : decode cX2_stitches 20 = .ok (.istore_n 1, 1) := by decide +kernel
theorem dX2_stitches_21 : decode cX2_stitches 21 = .ok (.iinc 2 1, 3) := by decide +kernel
theorem dX2_stitches_24 : decode cX2_stitches 24 = .ok (.goto (-20), 3) := by decide +kernel
theorem dX2_stitches_27 : decode cX2_stitches 27 = .ok (.iload_n 1, 1) := by decide +kernel
theorem dX2_stitches_28 : decode cX2_stitches 28 = .ok (.ireturn, 1) := by decide +kernel
theorem dX2_threadLength_0 : decode cX2_threadLength 0 = .ok (.aload_n 0, 1) := by decide +kernel
theorem dX2_threadLength_1 : decode cX2_threadLength 1 = .ok (.getfield 39, 3) := by decide +kernel
theorem dX2_threadLength_4 : decode cX2_threadLength 4 = .ok (.ifCond .ne 5, 3) := by decide +kernel
theorem dX2_threadLength_7 : decode cX2_threadLength 7 = .ok (.iconst 0, 1) := by decide +kernel
theorem dX2_threadLength_8 : decode cX2_threadLength 8 = .ok (.ireturn, 1) := by decide +kernel
theorem dX2_threadLength_9 : decode cX2_threadLength 9 = .ok (.iconst 2, 1) := by decide +kernel
theorem dX2_threadLength_10 : decode cX2_threadLength 10 = .ok (.aload_n 0, 1) := by decide +kernel
theorem dX2_threadLength_11 : decode cX2_threadLength 11 = .ok (.getfield 15, 3) := by decide +kernel
theorem dX2_threadLength_14 : decode cX2_threadLength 14 = .ok (.getfield 79, 3) := by decide +kernel
theorem dX2_threadLength_17 : decode cX2_threadLength 17 = .ok (.imul, 1) := by decide +kernel
theorem dX2_threadLength_18 : decode cX2_threadLength 18 = .ok (.bipush 48, 2) := by decide +kernel
theorem dX2_threadLength_20 : decode cX2_threadLength 20 = .ok (.aload_n 0, 1) := by decide +kernel
theorem dX2_threadLength_21 : decode cX2_threadLength 21 = .ok (.invokevirtual 82, 3) := by decide +kernel
theorem dX2_threadLength_24 : decode cX2_threadLength 24 = .ok (.imul, 1) := by decide +kernel
theorem dX2_threadLength_25 : decode cX2_threadLength 25 = .ok (.iadd, 1) := by decide +kernel
theorem dX2_threadLength_26 : decode cX2_threadLength 26 = .ok (.istore_n 1, 1) := by decide +kernel
theorem dX2_threadLength_27 : decode cX2_threadLength 27 = .ok (.iconst 1, 1) := by decide +kernel
theorem dX2_threadLength_28 : decode cX2_threadLength 28 = .ok (.istore_n 2, 1) := by decide +kernel
theorem dX2_threadLength_29 : decode cX2_threadLength 29 = .ok (.iload_n 2, 1) := by decide +kernel
theorem dX2_threadLength_30 : decode cX2_threadLength 30 = .ok (.aload_n 0, 1) := by decide +kernel
theorem dX2_threadLength_31 : decode cX2_threadLength 31 = .ok (.getfield 39, 3) := by decide +kernel
theorem dX2_threadLength_34 : decode cX2_threadLength 34 = .ok (.if_icmp .ge 28, 3) := by decide +kernel
theorem dX2_threadLength_37 : decode cX2_threadLength 37 = .ok (.iload_n 1, 1) := by decide +kernel
theorem dX2_threadLength_38 : decode cX2_threadLength 38 = .ok (.aload_n 0, 1) := by decide +kernel
theorem dX2_threadLength_39 : decode cX2_threadLength 39 = .ok (.aload_n 0, 1) := by decide +kernel
theorem dX2_threadLength_40 : decode cX2_threadLength 40 = .ok (.iload_n 2, 1) := by decide +kernel
theorem dX2_threadLength_41 : decode cX2_threadLength 41 = .ok (.iconst 1, 1) := by decide +kernel
theorem dX2_threadLength_42 : decode cX2_threadLength 42 = .ok (.isub, 1) := by decide +kernel
theorem dX2_threadLength_43 : decode cX2_threadLength 43 = .ok (.invokevirtual 86, 3) := by decide +kernel
theorem dX2_threadLength_46 : decode cX2_threadLength 46 = .ok (.aload_n 0, 1) := by decide +kernel
theorem dX2_threadLength_47 : decode cX2_threadLength 47 = .ok (.iload_n 2, 1) := by decide +kernel
theorem dX2_threadLength_48 : decode cX2_threadLength 48 = .ok (.invokevirtual 86, 3) := by decide +kernel
theorem dX2_threadLength_51 : decode cX2_threadLength 51 = .ok (.invokevirtual 89, 3) := by decide +kernel
theorem dX2_threadLength_54 : decode cX2_threadLength 54 = .ok (.iadd, 1) := by decide +kernel
theorem dX2_threadLength_55 : decode cX2_threadLength 55 = .ok (.istore_n 1, 1) := by decide +kernel
theorem dX2_threadLength_56 : decode cX2_threadLength 56 = .ok (.iinc 2 1, 3) := by decide +kernel
theorem dX2_threadLength_59 : decode cX2_threadLength 59 = .ok (.goto (-30), 3) := by decide +kernel
theorem dX2_threadLength_62 : decode cX2_threadLength 62 = .ok (.iload_n 1, 1) := by decide +kernel
theorem dX2_threadLength_63 : decode cX2_threadLength 63 = .ok (.ireturn, 1) := by decide +kernel
theorem dX2_starts_0 : decode cX2_starts 0 = .ok (.aload_n 0, 1) := by decide +kernel
theorem dX2_starts_1 : decode cX2_starts 1 = .ok (.getfield 39, 3) := by decide +kernel
theorem dX2_starts_4 : decode cX2_starts 4 = .ok (.ifCond .ne 5, 3) := by decide +kernel
theorem dX2_starts_7 : decode cX2_starts 7 = .ok (.iconst 0, 1) := by decide +kernel
theorem dX2_starts_8 : decode cX2_starts 8 = .ok (.ireturn, 1) := by decide +kernel
theorem dX2_starts_9 : decode cX2_starts 9 = .ok (.iconst 1, 1) := by decide +kernel
theorem dX2_starts_10 : decode cX2_starts 10 = .ok (.istore_n 1, 1) := by decide +kernel
theorem dX2_starts_11 : decode cX2_starts 11 = .ok (.iconst 1, 1) := by decide +kernel
theorem dX2_starts_12 : decode cX2_starts 12 = .ok (.istore_n 2, 1) := by decide +kernel
theorem dX2_starts_13 : decode cX2_starts 13 = .ok (.iload_n 2, 1) := by decide +kernel
theorem dX2_starts_14 : decode cX2_starts 14 = .ok (.aload_n 0, 1) := by decide +kernel
theorem dX2_starts_15 : decode cX2_starts 15 = .ok (.getfield 39, 3) := by decide +kernel
theorem dX2_starts_18 : decode cX2_starts 18 = .ok (.if_icmp .ge 38, 3) := by decide +kernel
theorem dX2_starts_21 : decode cX2_starts 21 = .ok (.aload_n 0, 1) := by decide +kernel
theorem dX2_starts_22 : decode cX2_starts 22 = .ok (.getfield 15, 3) := by decide +kernel
theorem dX2_starts_25 : decode cX2_starts 25 = .ok (.aload_n 0, 1) := by decide +kernel
theorem dX2_starts_26 : decode cX2_starts 26 = .ok (.aload_n 0, 1) := by decide +kernel
theorem dX2_starts_27 : decode cX2_starts 27 = .ok (.iload_n 2, 1) := by decide +kernel
theorem dX2_starts_28 : decode cX2_starts 28 = .ok (.iconst 1, 1) := by decide +kernel
theorem dX2_starts_29 : decode cX2_starts 29 = .ok (.isub, 1) := by decide +kernel
theorem dX2_starts_30 : decode cX2_starts 30 = .ok (.invokevirtual 86, 3) := by decide +kernel
theorem dX2_starts_33 : decode cX2_starts 33 = .ok (.aload_n 0, 1) := by decide +kernel
theorem dX2_starts_34 : decode cX2_starts 34 = .ok (.iload_n 2, 1) := by decide +kernel
theorem dX2_starts_35 : decode cX2_starts 35 = .ok (.invokevirtual 86, 3) := by decide +kernel
theorem dX2_starts_38 : decode cX2_starts 38 = .ok (.invokevirtual 66, 3) := by decide +kernel
theorem dX2_starts_41 : decode cX2_starts 41 = .ok (.invokevirtual 92, 3) := by decide +kernel
theorem dX2_starts_44 : decode cX2_starts 44 = .ok (.ifCond .ne 6, 3) := by decide +kernel
theorem dX2_starts_47 : decode cX2_starts 47 = .ok (.iinc 1 1, 3) := by decide +kernel
theorem dX2_starts_50 : decode cX2_starts 50 = .ok (.iinc 2 1, 3) := by decide +kernel
theorem dX2_starts_53 : decode cX2_starts 53 = .ok (.goto (-40), 3) := by decide +kernel
theorem dX2_starts_56 : decode cX2_starts 56 = .ok (.iload_n 1, 1) := by decide +kernel
theorem dX2_starts_57 : decode cX2_starts 57 = .ok (.ireturn, 1) := by decide +kernel
theorem dX2_relocate_0 : decode cX2_relocate 0 = .ok (.aload_n 0, 1) := by decide +kernel
theorem dX2_relocate_1 : decode cX2_relocate 1 = .ok (.iload_n 1, 1) := by decide +kernel
theorem dX2_relocate_2 : decode cX2_relocate 2 = .ok (.invokevirtual 62, 3) := by decide +kernel
theorem dX2_relocate_5 : decode cX2_relocate 5 = .ok (.ifCond .eq 11, 3) := by decide +kernel
theorem dX2_relocate_8 : decode cX2_relocate 8 = .ok (.aload_n 0, 1) := by decide +kernel
theorem dX2_relocate_9 : decode cX2_relocate 9 = .ok (.iload_n 2, 1) := by decide +kernel
theorem dX2_relocate_10 : decode cX2_relocate 10 = .ok (.invokevirtual 62, 3) := by decide +kernel
theorem dX2_relocate_13 : decode cX2_relocate 13 = .ok (.ifCond .ne 4, 3) := by decide +kernel
theorem dX2_relocate_16 : decode cX2_relocate 16 = .ok (.return_, 1) := by decide +kernel
theorem dX2_relocate_17 : decode cX2_relocate 17 = .ok (.aload_n 0, 1) := by decide +kernel
theorem dX2_relocate_18 : decode cX2_relocate 18 = .ok (.getfield 33, 3) := by decide +kernel
theorem dX2_relocate_21 : decode cX2_relocate 21 = .ok (.iload_n 1, 1) := by decide +kernel
theorem dX2_relocate_22 : decode cX2_relocate 22 = .ok (.iaload, 1) := by decide +kernel
theorem dX2_relocate_23 : decode cX2_relocate 23 = .ok (.istore_n 3, 1) := by decide +kernel
theorem dX2_relocate_24 : decode cX2_relocate 24 = .ok (.iload_n 1, 1) := by decide +kernel
theorem dX2_relocate_25 : decode cX2_relocate 25 = .ok (.istore 4, 2) := by decide +kernel
theorem dX2_relocate_27 : decode cX2_relocate 27 = .ok (.iload 4, 2) := by decide +kernel
theorem dX2_relocate_29 : decode cX2_relocate 29 = .ok (.iload_n 2, 1) := by decide +kernel
theorem dX2_relocate_30 : decode cX2_relocate 30 = .ok (.if_icmp .ge 23, 3) := by decide +kernel
theorem dX2_relocate_33 : decode cX2_relocate 33 = .ok (.aload_n 0, 1) := by decide +kernel
theorem dX2_relocate_34 : decode cX2_relocate 34 = .ok (.aload_n 0, 1) := by decide +kernel
theorem dX2_relocate_35 : decode cX2_relocate 35 = .ok (.iload 4, 2) := by decide +kernel
theorem dX2_relocate_37 : decode cX2_relocate 37 = .ok (.iconst 1, 1) := by decide +kernel
theorem dX2_relocate_38 : decode cX2_relocate 38 = .ok (.iadd, 1) := by decide +kernel
theorem dX2_relocate_39 : decode cX2_relocate 39 = .ok (.invokevirtual 86, 3) := by decide +kernel
theorem dX2_relocate_42 : decode cX2_relocate 42 = .ok (.iload 4, 2) := by decide +kernel
theorem dX2_relocate_44 : decode cX2_relocate 44 = .ok (.invokevirtual 95, 3) := by decide +kernel
theorem dX2_relocate_47 : decode cX2_relocate 47 = .ok (.iinc 4 1, 3) := by decide +kernel
theorem dX2_relocate_50 : decode cX2_relocate 50 = .ok (.goto (-23), 3) := by decide +kernel
theorem dX2_relocate_53 : decode cX2_relocate 53 = .ok (.iload_n 1, 1) := by decide +kernel
theorem dX2_relocate_54 : decode cX2_relocate 54 = .ok (.istore 4, 2) := by decide +kernel
theorem dX2_relocate_56 : decode cX2_relocate 56 = .ok (.iload 4, 2) := by decide +kernel
theorem dX2_relocate_58 : decode cX2_relocate 58 = .ok (.iload_n 2, 1) := by decide +kernel
theorem dX2_relocate_59 : decode cX2_relocate 59 = .ok (.if_icmp .le 23, 3) := by decide +kernel
theorem dX2_relocate_62 : decode cX2_relocate 62 = .ok (.aload_n 0, 1) := by decide +kernel
theorem dX2_relocate_63 : decode cX2_relocate 63 = .ok (.aload_n 0, 1) := by decide +kernel
theorem dX2_relocate_64 : decode cX2_relocate 64 = .ok (.iload 4, 2) := by decide +kernel
theorem dX2_relocate_66 : decode cX2_relocate 66 = .ok (.iconst 1, 1) := by decide +kernel
theorem dX2_relocate_67 : decode cX2_relocate 67 = .ok (.isub, 1) := by decide +kernel
theorem dX2_relocate_68 : decode cX2_relocate 68 = .ok (.invokevirtual 86, 3) := by decide +kernel
theorem dX2_relocate_71 : decode cX2_relocate 71 = .ok (.iload 4, 2) := by decide +kernel
theorem dX2_relocate_73 : decode cX2_relocate 73 = .ok (.invokevirtual 95, 3) := by decide +kernel
theorem dX2_relocate_76 : decode cX2_relocate 76 = .ok (.iinc 4 (-1), 3) := by decide +kernel
theorem dX2_relocate_79 : decode cX2_relocate 79 = .ok (.goto (-23), 3) := by decide +kernel
