theorem dX7_outline_38 : decode cX7_outline 38 = .ok (.invokevirtual 89, 3) := by decide +kernel
theorem dX7_outline_41 : decode cX7_outline 41 = .ok (.iload_n 1, 1) := by decide +kernel
theorem dX7_outline_42 : decode cX7_outline 42 = .ok (.if_icmp .ne 7, 3) := by decide +kernel
theorem dX7_outline_45 : decode cX7_outline 45 = .ok (.iconst 1, 1) := by decide +kernel
theorem dX7_outline_46 : decode cX7_outline 46 = .ok (.goto 4, 3) := by decide +kernel
theorem dX7_outline_49 : decode cX7_outline 49 = .ok (.iconst 0, 1) := by decide +kernel
theorem dX7_outline_50 : decode cX7_outline 50 = .ok (.istore 5, 2) := by decide +kernel
theorem dX7_outline_52 : decode cX7_outline 52 = .ok (.iload 4, 2) := by decide +kernel
theorem dX7_outline_54 : decode cX7_outline 54 = .ok (.aload_n 0, 1) := by decide +kernel
theorem dX7_outline_55 : decode cX7_outline 55 = .ok (.getfield 74, 3) := by decide +kernel
theorem dX7_outline_58 : decode cX7_outline 58 = .ok (.if_icmp .ge 38, 3) := by decide +kernel
theorem dX7_outline_61 : decode cX7_outline 61 = .ok (.iload 5, 2) := by decide +kernel
theorem dX7_outline_63 : decode cX7_outline 63 = .ok (.aload_n 0, 1) := by decide +kernel
theorem dX7_outline_64 : decode cX7_outline 64 = .ok (.iload_n 3, 1) := by decide +kernel
theorem dX7_outline_65 : decode cX7_outline 65 = .ok (.iconst 1, 1) := by decide +kernel
theorem dX7_outline_66 : decode cX7_outline 66 = .ok (.isub, 1) := by decide +kernel
theorem dX7_outline_67 : decode cX7_outline 67 = .ok (.iload 4, 2) := by decide +kernel
theorem dX7_outline_69 : decode cX7_outline 69 = .ok (.invokevirtual 89, 3) := by decide +kernel
theorem dX7_outline_72 : decode cX7_outline 72 = .ok (.iload_n 1, 1) := by decide +kernel
theorem dX7_outline_73 : decode cX7_outline 73 = .ok (.if_icmp .ne 7, 3) := by decide +kernel
theorem dX7_outline_76 : decode cX7_outline 76 = .ok (.iconst 1, 1) := by decide +kernel
theorem dX7_outline_77 : decode cX7_outline 77 = .ok (.goto 4, 3) := by decide +kernel
theorem dX7_outline_80 : decode cX7_outline 80 = .ok (.iconst 0, 1) := by decide +kernel
theorem dX7_outline_81 : decode cX7_outline 81 = .ok (.if_icmp .eq 15, 3) := by decide +kernel
theorem dX7_outline_84 : decode cX7_outline 84 = .ok (.iload_n 2, 1) := by decide +kernel
theorem dX7_outline_85 : decode cX7_outline 85 = .ok (.aload_n 0, 1) := by decide +kernel
theorem dX7_outline_86 : decode cX7_outline 86 = .ok (.iload_n 3, 1) := by decide +kernel
theorem dX7_outline_87 : decode cX7_outline 87 = .ok (.iload 4, 2) := by decide +kernel
theorem dX7_outline_89 : decode cX7_outline 89 = .ok (.iconst 1, 1) := by decide +kernel
theorem dX7_outline_90 : decode cX7_outline 90 = .ok (.iconst 1, 1) := by decide +kernel
theorem dX7_outline_91 : decode cX7_outline 91 = .ok (.invokevirtual 195, 3) := by decide +kernel
theorem dX7_outline_94 : decode cX7_outline 94 = .ok (.iadd, 1) := by decide +kernel
theorem dX7_outline_95 : decode cX7_outline 95 = .ok (.istore_n 2, 1) := by decide +kernel
theorem dX7_outline_96 : decode cX7_outline 96 = .ok (.iload_n 3, 1) := by decide +kernel
theorem dX7_outline_97 : decode cX7_outline 97 = .ok (.aload_n 0, 1) := by decide +kernel
theorem dX7_outline_98 : decode cX7_outline 98 = .ok (.getfield 71, 3) := by decide +kernel
theorem dX7_outline_101 : decode cX7_outline 101 = .ok (.if_icmp .ge 38, 3) := by decide +kernel
theorem dX7_outline_104 : decode cX7_outline 104 = .ok (.iload 5, 2) := by decide +kernel
theorem dX7_outline_106 : decode cX7_outline 106 = .ok (.aload_n 0, 1) := by decide +kernel
theorem dX7_outline_107 : decode cX7_outline 107 = .ok (.iload_n 3, 1) := by decide +kernel
theorem dX7_outline_108 : decode cX7_outline 108 = .ok (.iload 4, 2) := by decide +kernel
theorem dX7_outline_110 : decode cX7_outline 110 = .ok (.iconst 1, 1) := by decide +kernel
theorem dX7_outline_111 : decode cX7_outline 111 = .ok (.isub, 1) := by decide +kernel
theorem dX7_outline_112 : decode cX7_outline 112 = .ok (.invokevirtual 89, 3) := by decide +kernel
theorem dX7_outline_115 : decode cX7_outline 115 = .ok (.iload_n 1, 1) := by decide +kernel
theorem dX7_outline_116 : decode cX7_outline 116 = .ok (.if_icmp .ne 7, 3) := by decide +kernel
theorem dX7_outline_119 : decode cX7_outline 119 = .ok (.iconst 1, 1) := by decide +kernel
theorem dX7_outline_120 : decode cX7_outline 120 = .ok (.goto 4, 3) := by decide +kernel
theorem dX7_outline_123 : decode cX7_outline 123 = .ok (.iconst 0, 1) := by decide +kernel
theorem dX7_outline_124 : decode cX7_outline 124 = .ok (.if_icmp .eq 15, 3) := by decide +kernel
theorem dX7_outline_127 : decode cX7_outline 127 = .ok (.iload_n 2, 1) := by decide +kernel
theorem dX7_outline_128 : decode cX7_outline 128 = .ok (.aload_n 0, 1) := by decide +kernel
theorem dX7_outline_129 : decode cX7_outline 129 = .ok (.iload_n 3, 1) := by decide +kernel
theorem dX7_outline_130 : decode cX7_outline 130 = .ok (.iload 4, 2) := by decide +kernel
theorem dX7_outline_132 : decode cX7_outline 132 = .ok (.iconst 0, 1) := by decide +kernel
theorem dX7_outline_133 : decode cX7_outline 133 = .ok (.iconst 1, 1) := by decide +kernel
theorem dX7_outline_134 : decode cX7_outline 134 = .ok (.invokevirtual 195, 3) := by decide +kernel
theorem dX7_outline_137 : decode cX7_outline 137 = .ok (.iadd, 1) := by decide +kernel
theorem dX7_outline_138 : decode cX7_outline 138 = .ok (.istore_n 2, 1) := by decide +kernel
theorem dX7_outline_139 : decode cX7_outline 139 = .ok (.iinc 4 1, 3) := by decide +kernel
theorem dX7_outline_142 : decode cX7_outline 142 = .ok (.goto (-117), 3) := by decide +kernel
theorem dX7_outline_145 : decode cX7_outline 145 = .ok (.iinc 3 1, 3) := by decide +kernel
theorem dX7_outline_148 : decode cX7_outline 148 = .ok (.goto (-134), 3) := by decide +kernel
theorem dX7_outline_151 : decode cX7_outline 151 = .ok (.iload_n 2, 1) := by decide +kernel
theorem dX7_outline_152 : decode cX7_outline 152 = .ok (.ireturn, 1) := by decide +kernel
theorem dX7_allBacks_0 : decode cX7_allBacks 0 = .ok (.iconst 0, 1) := by decide +kernel
theorem dX7_allBacks_1 : decode cX7_allBacks 1 = .ok (.istore_n 1, 1) := by decide +kernel
theorem dX7_allBacks_2 : decode cX7_allBacks 2 = .ok (.iconst 0, 1) := by decide +kernel
theorem dX7_allBacks_3 : decode cX7_allBacks 3 = .ok (.istore_n 2, 1) := by decide +kernel
theorem dX7_allBacks_4 : decode cX7_allBacks 4 = .ok (.iload_n 2, 1) := by decide +kernel
theorem dX7_allBacks_5 : decode cX7_allBacks 5 = .ok (.sipush 625, 3) := by decide +kernel
theorem dX7_allBacks_8 : decode cX7_allBacks 8 = .ok (.if_icmp .ge 41, 3) := by decide +kernel
theorem dX7_allBacks_11 : decode cX7_allBacks 11 = .ok (.iload_n 1, 1) := by decide +kernel
theorem dX7_allBacks_12 : decode cX7_allBacks 12 = .ok (.aload_n 0, 1) := by decide +kernel
theorem dX7_allBacks_13 : decode cX7_allBacks 13 = .ok (.getfield 32, 3) := by decide +kernel
theorem dX7_allBacks_16 : decode cX7_allBacks 16 = .ok (.iload_n 2, 1) := by decide +kernel
theorem dX7_allBacks_17 : decode cX7_allBacks 17 = .ok (.baload, 1) := by decide +kernel
theorem dX7_allBacks_18 : decode cX7_allBacks 18 = .ok (.ifCond .eq 7, 3) := by decide +kernel
theorem dX7_allBacks_21 : decode cX7_allBacks 21 = .ok (.iconst 1, 1) := by decide +kernel
theorem dX7_allBacks_22 : decode cX7_allBacks 22 = .ok (.goto 4, 3) := by decide +kernel
theorem dX7_allBacks_25 : decode cX7_allBacks 25 = .ok (.iconst 0, 1) := by decide +kernel
theorem dX7_allBacks_26 : decode cX7_allBacks 26 = .ok (.aload_n 0, 1) := by decide +kernel
theorem dX7_allBacks_27 : decode cX7_allBacks 27 = .ok (.getfield 36, 3) := by decide +kernel
theorem dX7_allBacks_30 : decode cX7_allBacks 30 = .ok (.iload_n 2, 1) := by decide +kernel
theorem dX7_allBacks_31 : decode cX7_allBacks 31 = .ok (.baload, 1) := by decide +kernel
theorem dX7_allBacks_32 : decode cX7_allBacks 32 = .ok (.ifCond .eq 7, 3) := by decide +kernel
theorem dX7_allBacks_35 : decode cX7_allBacks 35 = .ok (.iconst 1, 1) := by decide +kernel
theorem dX7_allBacks_36 : decode cX7_allBacks 36 = .ok (.goto 4, 3) := by decide +kernel
theorem dX7_allBacks_39 : decode cX7_allBacks 39 = .ok (.iconst 0, 1) := by decide +kernel
theorem dX7_allBacks_40 : decode cX7_allBacks 40 = .ok (.iadd, 1) := by decide +kernel
theorem dX7_allBacks_41 : decode cX7_allBacks 41 = .ok (.iadd, 1) := by decide +kernel
theorem dX7_allBacks_42 : decode cX7_allBacks 42 = .ok (.istore_n 1, 1) := by decide +kernel
theorem dX7_allBacks_43 : decode cX7_allBacks 43 = .ok (.iinc 2 1, 3) := by decide +kernel
theorem dX7_allBacks_46 : decode cX7_allBacks 46 = .ok (.goto (-42), 3) := by decide +kernel
theorem dX7_allBacks_49 : decode cX7_allBacks 49 = .ok (.iload_n 1, 1) := by decide +kernel
theorem dX7_allBacks_50 : decode cX7_allBacks 50 = .ok (.ireturn, 1) := by decide +kernel
theorem dX7_clearBack_0 : decode cX7_clearBack 0 = .ok (.aload_n 0, 1) := by decide +kernel
theorem dX7_clearBack_1 : decode cX7_clearBack 1 = .ok (.invokevirtual 199, 3) := by decide +kernel
theorem dX7_clearBack_4 : decode cX7_clearBack 4 = .ok (.istore_n 1, 1) := by decide +kernel
theorem dX7_clearBack_5 : decode cX7_clearBack 5 = .ok (.iconst 0, 1) := by decide +kernel
theorem dX7_clearBack_6 : decode cX7_clearBack 6 = .ok (.istore_n 2, 1) := by decide +kernel
theorem dX7_clearBack_7 : decode cX7_clearBack 7 = .ok (.iload_n 2, 1) := by decide +kernel
theorem dX7_clearBack_8 : decode cX7_clearBack 8 = .ok (.sipush 625, 3) := by decide +kernel
theorem dX7_clearBack_11 : decode cX7_clearBack 11 = .ok (.if_icmp .ge 23, 3) := by decide +kernel
theorem dX7_clearBack_14 : decode cX7_clearBack 14 = .ok (.aload_n 0, 1) := by decide +kernel
theorem dX7_clearBack_15 : decode cX7_clearBack 15 = .ok (.getfield 32, 3) := by decide +kernel
theorem dX7_clearBack_18 : decode cX7_clearBack 18 = .ok (.iload_n 2, 1) := by decide +kernel
theorem dX7_clearBack_19 : decode cX7_clearBack 19 = .ok (.iconst 0, 1) := by decide +kernel
theorem dX7_clearBack_20 : decode cX7_clearBack 20 = .ok (.bastore, 1) := by decide +kernel
theorem dX7_clearBack_21 : decode cX7_clearBack 21 = .ok (.aload_n 0, 1) := by decide +kernel
theorem dX7_clearBack_22 : decode cX7_clearBack 22 = .ok (.getfield 36, 3) := by decide +kernel
theorem dX7_clearBack_25 : decode cX7_clearBack 25 = .ok (.iload_n 2, 1) := by decide +kernel
theorem dX7_clearBack_26 : decode cX7_clearBack 26 = .ok (.iconst 0, 1) := by decide +kernel
theorem dX7_clearBack_27 : decode cX7_clearBack 27 = .ok (.bastore, 1) := by decide +kernel
theorem dX7_clearBack_28 : decode cX7_clearBack 28 = .ok (.iinc 2 1, 3) := by decide +kernel
theorem dX7_clearBack_31 : decode cX7_clearBack 31 = .ok (.goto (-24), 3) := by decide +kernel
theorem dX7_clearBack_34 : decode cX7_clearBack 34 = .ok (.iload_n 1, 1) := by decide +kernel
theorem dX7_clearBack_35 : decode cX7_clearBack 35 = .ok (.ireturn, 1) := by decide +kernel
theorem dX7_backsAt_0 : decode cX7_backsAt 0 = .ok (.aload_n 0, 1) := by decide +kernel
theorem dX7_backsAt_1 : decode cX7_backsAt 1 = .ok (.iload_n 1, 1) := by decide +kernel
theorem dX7_backsAt_2 : decode cX7_backsAt 2 = .ok (.iload_n 2, 1) := by decide +kernel
theorem dX7_backsAt_3 : decode cX7_backsAt 3 = .ok (.iconst 1, 1) := by decide +kernel
theorem dX7_backsAt_4 : decode cX7_backsAt 4 = .ok (.invokevirtual 192, 3) := by decide +kernel
theorem dX7_backsAt_7 : decode cX7_backsAt 7 = .ok (.ifCond .eq 7, 3) := by decide +kernel
theorem dX7_backsAt_10 : decode cX7_backsAt 10 = .ok (.iconst 1, 1) := by decide +kernel
theorem dX7_backsAt_11 : decode cX7_backsAt 11 = .ok (.goto 4, 3) := by decide +kernel
theorem dX7_backsAt_14 : decode cX7_backsAt 14 = .ok (.iconst 0, 1) := by decide +kernel
theorem dX7_backsAt_15 : decode cX7_backsAt 15 = .ok (.aload_n 0, 1) := by decide +kernel
theorem dX7_backsAt_16 : decode cX7_backsAt 16 = .ok (.iload_n 1, 1) := by decide +kernel
theorem dX7_backsAt_17 : decode cX7_backsAt 17 = .ok (.iload_n 2, 1) := by decide +kernel
theorem dX7_backsAt_18 : decode cX7_backsAt 18 = .ok (.iconst 0, 1) := by decide +kernel
theorem dX7_backsAt_19 : decode cX7_backsAt 19 = .ok (.invokevirtual 192, 3) := by decide +kernel
theorem dX7_backsAt_22 : decode cX7_backsAt 22 = .ok (.ifCond .eq 7, 3) := by decide +kernel
theorem dX7_backsAt_25 : decode cX7_backsAt 25 = .ok (.iconst 1, 1) := by decide +kernel
theorem dX7_backsAt_26 : decode cX7_backsAt 26 = .ok (.goto 4, 3) := by decide +kernel
theorem dX7_backsAt_29 : decode cX7_backsAt 29 = .ok (.iconst 0, 1) := by decide +kernel
theorem dX7_backsAt_30 : decode cX7_backsAt 30 = .ok (.iadd, 1) := by decide +kernel
theorem dX7_backsAt_31 : decode cX7_backsAt 31 = .ok (.aload_n 0, 1) := by decide +kernel
theorem dX7_backsAt_32 : decode cX7_backsAt 32 = .ok (.iload_n 1, 1) := by decide +kernel
theorem dX7_backsAt_33 : decode cX7_backsAt 33 = .ok (.iload_n 2, 1) := by decide +kernel
theorem dX7_backsAt_34 : decode cX7_backsAt 34 = .ok (.iconst 1, 1) := by decide +kernel
theorem dX7_backsAt_35 : decode cX7_backsAt 35 = .ok (.isub, 1) := by decide +kernel
theorem dX7_backsAt_36 : decode cX7_backsAt 36 = .ok (.iconst 1, 1) := by decide +kernel
theorem dX7_backsAt_37 : decode cX7_backsAt 37 = .ok (.invokevirtual 192, 3) := by decide +kernel
theorem dX7_backsAt_40 : decode cX7_backsAt 40 = .ok (.ifCond .eq 7, 3) := by decide +kernel
theorem dX7_backsAt_43 : decode cX7_backsAt 43 = .ok (.iconst 1, 1) := by decide +kernel
theorem dX7_backsAt_44 : decode cX7_backsAt 44 = .ok (.goto 4, 3) := by decide +kernel
theorem dX7_backsAt_47 : decode cX7_backsAt 47 = .ok (.iconst 0, 1) := by decide +kernel
theorem dX7_backsAt_48 : decode cX7_backsAt 48 = .ok (.iadd, 1) := by decide +kernel
theorem dX7_backsAt_49 : decode cX7_backsAt 49 = .ok (.aload_n 0, 1) := by decide +kernel
theorem dX7_backsAt_50 : decode cX7_backsAt 50 = .ok (.iload_n 1, 1) := by decide +kernel
theorem dX7_backsAt_51 : decode cX7_backsAt 51 = .ok (.iconst 1, 1) := by decide +kernel
theorem dX7_backsAt_52 : decode cX7_backsAt 52 = .ok (.isub, 1) := by decide +kernel
theorem dX7_backsAt_53 : decode cX7_backsAt 53 = .ok (.iload_n 2, 1) := by decide +kernel
theorem dX7_backsAt_54 : decode cX7_backsAt 54 = .ok (.iconst 0, 1) := by decide +kernel
theorem dX7_backsAt_55 : decode cX7_backsAt 55 = .ok (.invokevirtual 192, 3) := by decide +kernel
theorem dX7_backsAt_58 : decode cX7_backsAt 58 = .ok (.ifCond .eq 7, 3) := by decide +kernel
theorem dX7_backsAt_61 : decode cX7_backsAt 61 = .ok (.iconst 1, 1) := by decide +kernel
theorem dX7_backsAt_62 : decode cX7_backsAt 62 = .ok (.goto 4, 3) := by decide +kernel
theorem dX7_backsAt_65 : decode cX7_backsAt 65 = .ok (.iconst 0, 1) := by decide +kernel
theorem dX7_backsAt_66 : decode cX7_backsAt 66 = .ok (.iadd, 1) := by decide +kernel
theorem dX7_backsAt_67 : decode cX7_backsAt 67 = .ok (.ireturn, 1) := by decide +kernel
theorem dX7_reachPoint_0 : decode cX7_reachPoint 0 = .ok (.iload_n 3, 1) := by decide +kernel
theorem dX7_reachPoint_1 : decode cX7_reachPoint 1 = .ok (.ifCond .eq 51, 3) := by decide +kernel
theorem dX7_reachPoint_4 : decode cX7_reachPoint 4 = .ok (.aload_n 0, 1) := by decide +kernel
theorem dX7_reachPoint_5 : decode cX7_reachPoint 5 = .ok (.getfield 61, 3) := by decide +kernel
theorem dX7_reachPoint_8 : decode cX7_reachPoint 8 = .ok (.iload_n 1, 1) := by decide +kernel
theorem dX7_reachPoint_9 : decode cX7_reachPoint 9 = .ok (.iload_n 2, 1) := by decide +kernel
theorem dX7_reachPoint_10 : decode cX7_reachPoint 10 = .ok (.invokestatic 189, 3) := by decide +kernel
theorem dX7_reachPoint_13 : decode cX7_reachPoint 13 = .ok (.baload, 1) := by decide +kernel
theorem dX7_reachPoint_14 : decode cX7_reachPoint 14 = .ok (.ifCond .ne 38, 3) := by decide +kernel
theorem dX7_reachPoint_17 : decode cX7_reachPoint 17 = .ok (.aload_n 0, 1) := by decide +kernel
theorem dX7_reachPoint_18 : decode cX7_reachPoint 18 = .ok (.getfield 61, 3) := by decide +kernel
theorem dX7_reachPoint_21 : decode cX7_reachPoint 21 = .ok (.iload_n 1, 1) := by decide +kernel
theorem dX7_reachPoint_22 : decode cX7_reachPoint 22 = .ok (.iload_n 2, 1) := by decide +kernel
theorem dX7_reachPoint_23 : decode cX7_reachPoint 23 = .ok (.invokestatic 189, 3) := by decide +kernel
theorem dX7_reachPoint_26 : decode cX7_reachPoint 26 = .ok (.iconst 1, 1) := by decide +kernel
theorem dX7_reachPoint_27 : decode cX7_reachPoint 27 = .ok (.bastore, 1) := by decide +kernel
theorem dX7_reachPoint_28 : decode cX7_reachPoint 28 = .ok (.aload_n 0, 1) := by decide +kernel
theorem dX7_reachPoint_29 : decode cX7_reachPoint 29 = .ok (.getfield 64, 3) := by decide +kernel
theorem dX7_reachPoint_32 : decode cX7_reachPoint 32 = .ok (.aload_n 0, 1) := by decide +kernel
theorem dX7_reachPoint_33 : decode cX7_reachPoint 33 = .ok (.getfield 202, 3) := by decide +kernel
theorem dX7_reachPoint_36 : decode cX7_reachPoint 36 = .ok (.iload_n 1, 1) := by decide +kernel
theorem dX7_reachPoint_37 : decode cX7_reachPoint 37 = .ok (.iload_n 2, 1) := by decide +kernel
theorem dX7_reachPoint_38 : decode cX7_reachPoint 38 = .ok (.invokestatic 189, 3) := by decide +kernel
theorem dX7_reachPoint_41 : decode cX7_reachPoint 41 = .ok (.iastore, 1) := by decide +kernel
theorem dX7_reachPoint_42 : decode cX7_reachPoint 42 = .ok (.aload_n 0, 1) := by decide +kernel
theorem dX7_reachPoint_43 : decode cX7_reachPoint 43 = .ok (.dup, 1) := by decide +kernel
theorem dX7_reachPoint_44 : decode cX7_reachPoint 44 = .ok (.getfield 202, 3) := by decide +kernel
theorem dX7_reachPoint_47 : decode cX7_reachPoint 47 = .ok (.iconst 1, 1) := by decide +kernel
theorem dX7_reachPoint_48 : decode cX7_reachPoint 48 = .ok (.iadd, 1) := by decide +kernel
theorem dX7_reachPoint_49 : decode cX7_reachPoint 49 = .ok (.putfield 202, 3) := by decide +kernel
theorem dX7_reachPoint_52 : decode cX7_reachPoint 52 = .ok (.return_, 1) := by decide +kernel
theorem dX7_goThrough_0 : decode cX7_goThrough 0 = .ok (.aload_n 0, 1) := by decide +kernel
theorem dX7_goThrough_1 : decode cX7_goThrough 1 = .ok (.iconst 0, 1) := by decide +kernel
theorem dX7_goThrough_2 : decode cX7_goThrough 2 = .ok (.putfield 202, 3) := by decide +kernel
theorem dX7_goThrough_5 : decode cX7_goThrough 5 = .ok (.aload_n 0, 1) := by decide +kernel
theorem dX7_goThrough_6 : decode cX7_goThrough 6 = .ok (.iload_n 1, 1) := by decide +kernel
theorem dX7_goThrough_7 : decode cX7_goThrough 7 = .ok (.iload_n 2, 1) := by decide +kernel
theorem dX7_goThrough_8 : decode cX7_goThrough 8 = .ok (.iconst 1, 1) := by decide +kernel
theorem dX7_goThrough_9 : decode cX7_goThrough 9 = .ok (.invokevirtual 205, 3) := by decide +kernel
theorem dX7_goThrough_12 : decode cX7_goThrough 12 = .ok (.iconst 0, 1) := by decide +kernel
theorem dX7_goThrough_13 : decode cX7_goThrough 13 = .ok (.istore_n 3, 1) := by decide +kernel
theorem dX7_goThrough_14 : decode cX7_goThrough 14 = .ok (.iconst 0, 1) := by decide +kernel
theorem dX7_goThrough_15 : decode cX7_goThrough 15 = .ok (.istore 4, 2) := by decide +kernel
theorem dX7_goThrough_17 : decode cX7_goThrough 17 = .ok (.iload 4, 2) := by decide +kernel
theorem dX7_goThrough_19 : decode cX7_goThrough 19 = .ok (.aload_n 0, 1) := by decide +kernel
theorem dX7_goThrough_20 : decode cX7_goThrough 20 = .ok (.getfield 202, 3) := by decide +kernel
theorem dX7_goThrough_23 : decode cX7_goThrough 23 = .ok (.if_icmp .ge 126, 3) := by decide +kernel
theorem dX7_goThrough_26 : decode cX7_goThrough 26 = .ok (.aload_n 0, 1) := by decide +kernel
theorem dX7_goThrough_27 : decode cX7_goThrough 27 = .ok (.getfield 64, 3) := by decide +kernel
theorem dX7_goThrough_30 : decode cX7_goThrough 30 = .ok (.iload 4, 2) := by decide +kernel
theorem dX7_goThrough_32 : decode cX7_goThrough 32 = .ok (.iaload, 1) := by decide +kernel
theorem dX7_goThrough_33 : decode cX7_goThrough 33 = .ok (.bipush 25, 2) := by decide +kernel
theorem dX7_goThrough_35 : decode cX7_goThrough 35 = .ok (.irem, 1) := by decide +kernel
theorem dX7_goThrough_36 : decode cX7_goThrough 36 = .ok (.istore 5, 2) := by decide +kernel
theorem dX7_goThrough_38 : decode cX7_goThrough 38 = .ok (.aload_n 0, 1) := by decide +kernel
theorem dX7_goThrough_39 : decode cX7_goThrough 39 = .ok (.getfield 64, 3) := by decide +kernel
theorem dX7_goThrough_42 : decode cX7_goThrough 42 = .ok (.iload 4, 2) := by decide +kernel
theorem dX7_goThrough_44 : decode cX7_goThrough 44 = .ok (.iaload, 1) := by decide +kernel
theorem dX7_goThrough_45 : decode cX7_goThrough 45 = .ok (.bipush 25, 2) := by decide +kernel
theorem dX7_goThrough_47 : decode cX7_goThrough 47 = .ok (.idiv, 1) := by decide +kernel
theorem dX7_goThrough_48 : decode cX7_goThrough 48 = .ok (.istore 6, 2) := by decide +kernel
theorem dX7_goThrough_50 : decode cX7_goThrough 50 = .ok (.iload_n 3, 1) := by decide +kernel
theorem dX7_goThrough_51 : decode cX7_goThrough 51 = .ok (.aload_n 0, 1) := by decide +kernel
theorem dX7_goThrough_52 : decode cX7_goThrough 52 = .ok (.iload 5, 2) := by decide +kernel
theorem dX7_goThrough_54 : decode cX7_goThrough 54 = .ok (.iload 6, 2) := by decide +kernel
theorem dX7_goThrough_56 : decode cX7_goThrough 56 = .ok (.invokevirtual 209, 3) := by decide +kernel
theorem dX7_goThrough_59 : decode cX7_goThrough 59 = .ok (.iconst 2, 1) := by decide +kernel
theorem dX7_goThrough_60 : decode cX7_goThrough 60 = .ok (.irem, 1) := by decide +kernel
theorem dX7_goThrough_61 : decode cX7_goThrough 61 = .ok (.iadd, 1) := by decide +kernel
theorem dX7_goThrough_62 : decode cX7_goThrough 62 = .ok (.istore_n 3, 1) := by decide +kernel
theorem dX7_goThrough_63 : decode cX7_goThrough 63 = .ok (.aload_n 0, 1) := by decide +kernel
theorem dX7_goThrough_64 : decode cX7_goThrough 64 = .ok (.iload 5, 2) := by decide +kernel
theorem dX7_goThrough_66 : decode cX7_goThrough 66 = .ok (.iload 6, 2) := by decide +kernel
theorem dX7_goThrough_68 : decode cX7_goThrough 68 = .ok (.iconst 1, 1) := by decide +kernel
theorem dX7_goThrough_69 : decode cX7_goThrough 69 = .ok (.iadd, 1) := by decide +kernel
theorem dX7_goThrough_70 : decode cX7_goThrough 70 = .ok (.aload_n 0, 1) := by decide +kernel
theorem dX7_goThrough_71 : decode cX7_goThrough 71 = .ok (.iload 5, 2) := by decide +kernel
theorem dX7_goThrough_73 : decode cX7_goThrough 73 = .ok (.iload 6, 2) := by decide +kernel
theorem dX7_goThrough_75 : decode cX7_goThrough 75 = .ok (.iconst 1, 1) := by decide +kernel
theorem dX7_goThrough_76 : decode cX7_goThrough 76 = .ok (.invokevirtual 192, 3) := by decide +kernel
theorem dX7_goThrough_79 : decode cX7_goThrough 79 = .ok (.invokevirtual 205, 3) := by decide +kernel
theorem dX7_goThrough_82 : decode cX7_goThrough 82 = .ok (.aload_n 0, 1) := by decide +kernel
theorem dX7_goThrough_83 : decode cX7_goThrough 83 = .ok (.iload 5, 2) := by decide +kernel
theorem dX7_goThrough_85 : decode cX7_goThrough 85 = .ok (.iconst 1, 1) := by decide +kernel
theorem dX7_goThrough_86 : decode cX7_goThrough 86 = .ok (.iadd, 1) := by decide +kernel
theorem dX7_goThrough_87 : decode cX7_goThrough 87 = .ok (.iload 6, 2) := by decide +kernel
theorem dX7_goThrough_89 : decode cX7_goThrough 89 = .ok (.aload_n 0, 1) := by decide +kernel
theorem dX7_goThrough_90 : decode cX7_goThrough 90 = .ok (.iload 5, 2) := by decide +kernel
theorem dX7_goThrough_92 : decode cX7_goThrough 92 = .ok (.iload 6, 2) := by decide +kernel
theorem dX7_goThrough_94 : decode cX7_goThrough 94 = .ok (.iconst 0, 1) := by decide +kernel
theorem dX7_goThrough_95 : decode cX7_goThrough 95 = .ok (.invokevirtual 192, 3) := by decide +kernel
theorem dX7_goThrough_98 : decode cX7_goThrough 98 = .ok (.invokevirtual 205, 3) := by decide +kernel
theorem dX7_goThrough_101 : decode cX7_goThrough 101 = .ok (.aload_n 0, 1) := by decide +kernel
theorem dX7_goThrough_102 : decode cX7_goThrough 102 = .ok (.iload 5, 2) := by decide +kernel
theorem dX7_goThrough_104 : decode cX7_goThrough 104 = .ok (.iload 6, 2) := by decide +kernel
theorem dX7_goThrough_106 : decode cX7_goThrough 106 = .ok (.iconst 1, 1) := by decide +kernel
theorem dX7_goThrough_107 : decode cX7_goThrough 107 = .ok (.isub, 1) := by decide +kernel
theorem dX7_goThrough_108 : decode cX7_goThrough 108 = .ok (.aload_n 0, 1) := by decide +kernel
theorem dX7_goThrough_109 : decode cX7_goThrough 109 = .ok (.iload 5, 2) := by decide +kernel
theorem dX7_goThrough_111 : decode cX7_goThrough 111 = .ok (.iload 6, 2) := by decide +kernel
theorem dX7_goThrough_113 : decode cX7_goThrough 113 = .ok (.iconst 1, 1) := by decide +kernel
theorem dX7_goThrough_114 : decode cX7_goThrough 114 = .ok (.isub, 1) := by decide +kernel
theorem dX7_goThrough_115 : decode cX7_goThrough 115 = .ok (.iconst 1, 1) := by decide +kernel
theorem dX7_goThrough_116 : decode cX7_goThrough 116 = .ok (.invokevirtual 192, 3) := by decide +kernel
theorem dX7_goThrough_119 : decode cX7_goThrough 119 = .ok (.invokevirtual 205, 3) := by decide +kernel
theorem dX7_goThrough_122 : decode cX7_goThrough 122 = .ok (.aload_n 0, 1) := by decide +kernel
theorem dX7_goThrough_123 : decode cX7_goThrough 123 = .ok (.iload 5, 2) := by decide +kernel
theorem dX7_goThrough_125 : decode cX7_goThrough 125 = .ok (.iconst 1, 1) := by decide +kernel
theorem dX7_goThrough_126 : decode cX7_goThrough 126 = .ok (.isub, 1) := by decide +kernel
theorem dX7_goThrough_127 : decode cX7_goThrough 127 = .ok (.iload 6, 2) := by decide +kernel
theorem dX7_goThrough_129 : decode cX7_goThrough 129 = .ok (.aload_n 0, 1) := by decide +kernel
theorem dX7_goThrough_130 : decode cX7_goThrough 130 = .ok (.iload 5, 2) := by decide +kernel
theorem dX7_goThrough_132 : decode cX7_goThrough 132 = .ok (.iconst 1, 1) := by decide +kernel
theorem dX7_goThrough_133 : decode cX7_goThrough 133 = .ok (.isub, 1) := by decide +kernel
theorem dX7_goThrough_134 : decode cX7_goThrough 134 = .ok (.iload 6, 2) := by decide +kernel
theorem dX7_goThrough_136 : decode cX7_goThrough 136 = .ok (.iconst 0, 1) := by decide +kernel
theorem dX7_goThrough_137 : decode cX7_goThrough 137 = .ok (.invokevirtual 192, 3) := by decide +kernel
theorem dX7_goThrough_140 : decode cX7_goThrough 140 = .ok (.invokevirtual 205, 3) := by decide +kernel
theorem dX7_goThrough_143 : decode cX7_goThrough 143 = .ok (.iinc 4 1, 3) := by decide +kernel
theorem dX7_goThrough_146 : decode cX7_goThrough 146 = .ok (.goto (-129), 3) := by decide +kernel
theorem dX7_goThrough_149 : decode cX7_goThrough 149 = .ok (.iload_n 3, 1) := by decide +kernel
theorem dX7_goThrough_150 : decode cX7_goThrough 150 = .ok (.ireturn, 1) := by decide +kernel
theorem dX7_backs_0 : decode cX7_backs 0 = .ok (.iconst 0, 1) := by decide +kernel
theorem dX7_backs_1 : decode cX7_backs 1 = .ok (.istore_n 2, 1) := by decide +kernel
theorem dX7_backs_2 : decode cX7_backs 2 = .ok (.iload_n 2, 1) := by decide +kernel
theorem dX7_backs_3 : decode cX7_backs 3 = .ok (.sipush 625, 3) := by decide +kernel
theorem dX7_backs_6 : decode cX7_backs 6 = .ok (.if_icmp .ge 16, 3) := by decide +kernel
theorem dX7_backs_9 : decode cX7_backs 9 = .ok (.aload_n 0, 1) := by decide +kernel
theorem dX7_backs_10 : decode cX7_backs 10 = .ok (.getfield 61, 3) := by decide +kernel
theorem dX7_backs_13 : decode cX7_backs 13 = .ok (.iload_n 2, 1) := by decide +kernel
theorem dX7_backs_14 : decode cX7_backs 14 = .ok (.iconst 0, 1) := by decide +kernel
theorem dX7_backs_15 : decode cX7_backs 15 = .ok (.bastore, 1) := by decide +kernel
theorem dX7_backs_16 : decode cX7_backs 16 = .ok (.iinc 2 1, 3) := by decide +kernel
theorem dX7_backs_19 : decode cX7_backs 19 = .ok (.goto (-17), 3) := by decide +kernel
theorem dX7_backs_22 : decode cX7_backs 22 = .ok (.iconst 0, 1) := by decide +kernel
theorem dX7_backs_23 : decode cX7_backs 23 = .ok (.istore_n 2, 1) := by decide +kernel
theorem dX7_backs_24 : decode cX7_backs 24 = .ok (.iconst 0, 1) := by decide +kernel
theorem dX7_backs_25 : decode cX7_backs 25 = .ok (.istore_n 3, 1) := by decide +kernel
theorem dX7_backs_26 : decode cX7_backs 26 = .ok (.iconst 0, 1) := by decide +kernel
theorem dX7_backs_27 : decode cX7_backs 27 = .ok (.istore 4, 2) := by decide +kernel
theorem dX7_backs_29 : decode cX7_backs 29 = .ok (.iconst 0, 1) := by decide +kernel
theorem dX7_backs_30 : decode cX7_backs 30 = .ok (.istore 5, 2) := by decide +kernel
theorem dX7_backs_32 : decode cX7_backs 32 = .ok (.iload 5, 2) := by decide +kernel
theorem dX7_backs_34 : decode cX7_backs 34 = .ok (.aload_n 0, 1) := by decide +kernel
theorem dX7_backs_35 : decode cX7_backs 35 = .ok (.getfield 74, 3) := by decide +kernel
theorem dX7_backs_38 : decode cX7_backs 38 = .ok (.if_icmp .gt 90, 3) := by decide +kernel
theorem dX7_backs_41 : decode cX7_backs 41 = .ok (.iconst 0, 1) := by decide +kernel
theorem dX7_backs_42 : decode cX7_backs 42 = .ok (.istore 6, 2) := by decide +kernel
theorem dX7_backs_44 : decode cX7_backs 44 = .ok (.iload 6, 2) := by decide +kernel
theorem dX7_backs_46 : decode cX7_backs 46 = .ok (.aload_n 0, 1) := by decide +kernel
theorem dX7_backs_47 : decode cX7_backs 47 = .ok (.getfield 71, 3) := by decide +kernel
theorem dX7_backs_50 : decode cX7_backs 50 = .ok (.if_icmp .gt 72, 3) := by decide +kernel
theorem dX7_backs_53 : decode cX7_backs 53 = .ok (.aload_n 0, 1) := by decide +kernel
theorem dX7_backs_54 : decode cX7_backs 54 = .ok (.getfield 61, 3) := by decide +kernel
theorem dX7_backs_57 : decode cX7_backs 57 = .ok (.iload 6, 2) := by decide +kernel
theorem dX7_backs_59 : decode cX7_backs 59 = .ok (.iload 5, 2) := by decide +kernel
theorem dX7_backs_61 : decode cX7_backs 61 = .ok (.invokestatic 189, 3) := by decide +kernel
theorem dX7_backs_64 : decode cX7_backs 64 = .ok (.baload, 1) := by decide +kernel
theorem dX7_backs_65 : decode cX7_backs 65 = .ok (.ifCond .ne 51, 3) := by decide +kernel
theorem dX7_backs_68 : decode cX7_backs 68 = .ok (.aload_n 0, 1) := by decide +kernel
theorem dX7_backs_69 : decode cX7_backs 69 = .ok (.iload 6, 2) := by decide +kernel
theorem dX7_backs_71 : decode cX7_backs 71 = .ok (.iload 5, 2) := by decide +kernel
theorem dX7_backs_73 : decode cX7_backs 73 = .ok (.invokevirtual 209, 3) := by decide +kernel
theorem dX7_backs_76 : decode cX7_backs 76 = .ok (.ifCond .le 40, 3) := by decide +kernel
theorem dX7_backs_79 : decode cX7_backs 79 = .ok (.aload_n 0, 1) := by decide +kernel
theorem dX7_backs_80 : decode cX7_backs 80 = .ok (.iload 6, 2) := by decide +kernel
theorem dX7_backs_82 : decode cX7_backs 82 = .ok (.iload 5, 2) := by decide +kernel
theorem dX7_backs_84 : decode cX7_backs 84 = .ok (.invokevirtual 212, 3) := by decide +kernel
theorem dX7_backs_87 : decode cX7_backs 87 = .ok (.istore 7, 2) := by decide +kernel
theorem dX7_backs_89 : decode cX7_backs 89 = .ok (.iinc 2 1, 3) := by decide +kernel
theorem dX7_backs_92 : decode cX7_backs 92 = .ok (.iload 4, 2) := by decide +kernel
theorem dX7_backs_94 : decode cX7_backs 94 = .ok (.iload 7, 2) := by decide +kernel
theorem dX7_backs_96 : decode cX7_backs 96 = .ok (.iadd, 1) := by decide +kernel
theorem dX7_backs_97 : decode cX7_backs 97 = .ok (.istore 4, 2) := by decide +kernel
theorem dX7_backs_99 : decode cX7_backs 99 = .ok (.iload_n 3, 1) := by decide +kernel
theorem dX7_backs_100 : decode cX7_backs 100 = .ok (.iload 7, 2) := by decide +kernel
theorem dX7_backs_102 : decode cX7_backs 102 = .ok (.iconst 2, 1) := by decide +kernel
theorem dX7_backs_103 : decode cX7_backs 103 = .ok (.if_icmp .le 10, 3) := by decide +kernel
theorem dX7_backs_106 : decode cX7_backs 106 = .ok (.iload 7, 2) := by decide +kernel
theorem dX7_backs_108 : decode cX7_backs 108 = .ok (.iconst 2, 1) := by decide +kernel
theorem dX7_backs_109 : decode cX7_backs 109 = .ok (.idiv, 1) := by decide +kernel
theorem dX7_backs_110 : decode cX7_backs 110 = .ok (.goto 4, 3) := by decide +kernel
theorem dX7_backs_113 : decode cX7_backs 113 = .ok (.iconst 1, 1) := by decide +kernel
theorem dX7_backs_114 : decode cX7_backs 114 = .ok (.iadd, 1) := by decide +kernel
theorem dX7_backs_115 : decode cX7_backs 115 = .ok (.istore_n 3, 1) := by decide +kernel
theorem dX7_backs_116 : decode cX7_backs 116 = .ok (.iinc 6 1, 3) := by decide +kernel
theorem dX7_backs_119 : decode cX7_backs 119 = .ok (.goto (-75), 3) := by decide +kernel
theorem dX7_backs_122 : decode cX7_backs 122 = .ok (.iinc 5 1, 3) := by decide +kernel
theorem dX7_backs_125 : decode cX7_backs 125 = .ok (.goto (-93), 3) := by decide +kernel
theorem dX7_backs_128 : decode cX7_backs 128 = .ok (.iload_n 1, 1) := by decide +kernel
theorem dX7_backs_129 : decode cX7_backs 129 = .ok (.tableswitch 64 0 4 #[35, 40, 42, 44, 61], 35) := by decide +kernel
theorem dX7_backs_164 : decode cX7_backs 164 = .ok (.aload_n 0, 1) := by decide +kernel
theorem dX7_backs_165 : decode cX7_backs 165 = .ok (.invokevirtual 199, 3) := by decide +kernel
theorem dX7_backs_168 : decode cX7_backs 168 = .ok (.ireturn, 1) := by decide +kernel
theorem dX7_backs_169 : decode cX7_backs 169 = .ok (.iload_n 2, 1) := by decide +kernel
theorem dX7_backs_170 : decode cX7_backs 170 = .ok (.ireturn, 1) := by decide +kernel
theorem dX7_backs_171 : decode cX7_backs 171 = .ok (.iload_n 3, 1) := by decide +kernel
theorem dX7_backs_172 : decode cX7_backs 172 = .ok (.ireturn, 1) := by decide +kernel
theorem dX7_backs_173 : decode cX7_backs 173 = .ok (.bipush 20, 2) := by decide +kernel
theorem dX7_backs_175 : decode cX7_backs 175 = .ok (.aload_n 0, 1) := by decide +kernel
theorem dX7_backs_176 : decode cX7_backs 176 = .ok (.invokevirtual 199, 3) := by decide +kernel
theorem dX7_backs_179 : decode cX7_backs 179 = .ok (.imul, 1) := by decide +kernel
theorem dX7_backs_180 : decode cX7_backs 180 = .ok (.iconst 2, 1) := by decide +kernel
theorem dX7_backs_181 : decode cX7_backs 181 = .ok (.aload_n 0, 1) := by decide +kernel
theorem dX7_backs_182 : decode cX7_backs 182 = .ok (.getfield 13, 3) := by decide +kernel
theorem dX7_backs_185 : decode cX7_backs 185 = .ok (.imul, 1) := by decide +kernel
theorem dX7_backs_186 : decode cX7_backs 186 = .ok (.iload_n 3, 1) := by decide +kernel
theorem dX7_backs_187 : decode cX7_backs 187 = .ok (.imul, 1) := by decide +kernel
theorem dX7_backs_188 : decode cX7_backs 188 = .ok (.iadd, 1) := by decide +kernel
theorem dX7_backs_189 : decode cX7_backs 189 = .ok (.ireturn, 1) := by decide +kernel
theorem dX7_backs_190 : decode cX7_backs 190 = .ok (.iload 4, 2) := by decide +kernel
theorem dX7_backs_192 : decode cX7_backs 192 = .ok (.ireturn, 1) := by decide +kernel
theorem dX7_backs_193 : decode cX7_backs 193 = .ok (.bipush (-2), 2) := by decide +kernel
theorem dX7_backs_195 : decode cX7_backs 195 = .ok (.ireturn, 1) := by decide +kernel
theorem dX7_beside_0 : decode cX7_beside 0 = .ok (.iconst 1, 1) := by decide +kernel
theorem dX7_beside_1 : decode cX7_beside 1 = .ok (.istore_n 3, 1) := by decide +kernel
theorem dX7_beside_2 : decode cX7_beside 2 = .ok (.iload_n 3, 1) := by decide +kernel
theorem dX7_beside_3 : decode cX7_beside 3 = .ok (.iconst 1, 1) := by decide +kernel
theorem dX7_beside_4 : decode cX7_beside 4 = .ok (.isub, 1) := by decide +kernel
theorem dX7_beside_5 : decode cX7_beside 5 = .ok (.iload_n 1, 1) := by decide +kernel
theorem dX7_beside_6 : decode cX7_beside 6 = .ok (.aload_n 0, 1) := by decide +kernel
theorem dX7_beside_7 : decode cX7_beside 7 = .ok (.getfield 22, 3) := by decide +kernel
theorem dX7_beside_10 : decode cX7_beside 10 = .ok (.isub, 1) := by decide +kernel
theorem dX7_beside_11 : decode cX7_beside 11 = .ok (.imul, 1) := by decide +kernel
theorem dX7_beside_12 : decode cX7_beside 12 = .ok (.iload_n 1, 1) := by decide +kernel
theorem dX7_beside_13 : decode cX7_beside 13 = .ok (.iadd, 1) := by decide +kernel
theorem dX7_beside_14 : decode cX7_beside 14 = .ok (.iload_n 2, 1) := by decide +kernel
theorem dX7_beside_15 : decode cX7_beside 15 = .ok (.if_icmp .ge 9, 3) := by decide +kernel
theorem dX7_beside_18 : decode cX7_beside 18 = .ok (.iinc 3 1, 3) := by decide +kernel
theorem dX7_beside_21 : decode cX7_beside 21 = .ok (.goto (-19), 3) := by decide +kernel
theorem dX7_beside_24 : decode cX7_beside 24 = .ok (.iload_n 3, 1) := by decide +kernel
theorem dX7_beside_25 : decode cX7_beside 25 = .ok (.ireturn, 1) := by decide +kernel
theorem dX7_first_0 : decode cX7_first 0 = .ok (.iconst 0, 1) := by decide +kernel
theorem dX7_first_1 : decode cX7_first 1 = .ok (.istore_n 3, 1) := by decide +kernel
theorem dX7_first_2 : decode cX7_first 2 = .ok (.iload_n 3, 1) := by decide +kernel
theorem dX7_first_3 : decode cX7_first 3 = .ok (.iload_n 1, 1) := by decide +kernel
theorem dX7_first_4 : decode cX7_first 4 = .ok (.aload_n 0, 1) := by decide +kernel
theorem dX7_first_5 : decode cX7_first 5 = .ok (.getfield 22, 3) := by decide +kernel
theorem dX7_first_8 : decode cX7_first 8 = .ok (.isub, 1) := by decide +kernel
theorem dX7_first_9 : decode cX7_first 9 = .ok (.imul, 1) := by decide +kernel
theorem dX7_first_10 : decode cX7_first 10 = .ok (.iload_n 1, 1) := by decide +kernel
theorem dX7_first_11 : decode cX7_first 11 = .ok (.iadd, 1) := by decide +kernel
theorem dX7_first_12 : decode cX7_first 12 = .ok (.iload_n 2, 1) := by decide +kernel
theorem dX7_first_13 : decode cX7_first 13 = .ok (.if_icmp .gt 9, 3) := by decide +kernel
theorem dX7_first_16 : decode cX7_first 16 = .ok (.iinc 3 1, 3) := by decide +kernel
theorem dX7_first_19 : decode cX7_first 19 = .ok (.goto (-17), 3) := by decide +kernel
theorem dX7_first_22 : decode cX7_first 22 = .ok (.iload_n 3, 1) := by decide +kernel
theorem dX7_first_23 : decode cX7_first 23 = .ok (.ireturn, 1) := by decide +kernel
theorem dX7_owner_0 : decode cX7_owner 0 = .ok (.aload_n 0, 1) := by decide +kernel
theorem dX7_owner_1 : decode cX7_owner 1 = .ok (.aload_n 0, 1) := by decide +kernel
theorem dX7_owner_2 : decode cX7_owner 2 = .ok (.getfield 19, 3) := by decide +kernel
theorem dX7_owner_5 : decode cX7_owner 5 = .ok (.iload_n 2, 1) := by decide +kernel
theorem dX7_owner_6 : decode cX7_owner 6 = .ok (.invokevirtual 215, 3) := by decide +kernel
theorem dX7_owner_9 : decode cX7_owner 9 = .ok (.aload_n 0, 1) := by decide +kernel
theorem dX7_owner_10 : decode cX7_owner 10 = .ok (.aload_n 0, 1) := by decide +kernel
theorem dX7_owner_11 : decode cX7_owner 11 = .ok (.getfield 16, 3) := by decide +kernel
theorem dX7_owner_14 : decode cX7_owner 14 = .ok (.aload_n 0, 1) := by decide +kernel
theorem dX7_owner_15 : decode cX7_owner 15 = .ok (.getfield 71, 3) := by decide +kernel
theorem dX7_owner_18 : decode cX7_owner 18 = .ok (.invokevirtual 218, 3) := by decide +kernel
theorem dX7_owner_21 : decode cX7_owner 21 = .ok (.imul, 1) := by decide +kernel
theorem dX7_owner_22 : decode cX7_owner 22 = .ok (.aload_n 0, 1) := by decide +kernel
theorem dX7_owner_23 : decode cX7_owner 23 = .ok (.aload_n 0, 1) := by decide +kernel
theorem dX7_owner_24 : decode cX7_owner 24 = .ok (.getfield 16, 3) := by decide +kernel
theorem dX7_owner_27 : decode cX7_owner 27 = .ok (.iload_n 1, 1) := by decide +kernel
theorem dX7_owner_28 : decode cX7_owner 28 = .ok (.invokevirtual 215, 3) := by decide +kernel
theorem dX7_owner_31 : decode cX7_owner 31 = .ok (.iadd, 1) := by decide +kernel
theorem dX7_owner_32 : decode cX7_owner 32 = .ok (.ireturn, 1) := by decide +kernel
theorem dX7_pages_0 : decode cX7_pages 0 = .ok (.aload_n 0, 1) := by decide +kernel
theorem dX7_pages_1 : decode cX7_pages 1 = .ok (.aload_n 0, 1) := by decide +kernel
theorem dX7_pages_2 : decode cX7_pages 2 = .ok (.getfield 16, 3) := by decide +kernel
theorem dX7_pages_5 : decode cX7_pages 5 = .ok (.aload_n 0, 1) := by decide +kernel
theorem dX7_pages_6 : decode cX7_pages 6 = .ok (.getfield 71, 3) := by decide +kernel
theorem dX7_pages_9 : decode cX7_pages 9 = .ok (.invokevirtual 218, 3) := by decide +kernel
theorem dX7_pages_12 : decode cX7_pages 12 = .ok (.aload_n 0, 1) := by decide +kernel
theorem dX7_pages_13 : decode cX7_pages 13 = .ok (.aload_n 0, 1) := by decide +kernel
theorem dX7_pages_14 : decode cX7_pages 14 = .ok (.getfield 19, 3) := by decide +kernel
theorem dX7_pages_17 : decode cX7_pages 17 = .ok (.aload_n 0, 1) := by decide +kernel
theorem dX7_pages_18 : decode cX7_pages 18 = .ok (.getfield 74, 3) := by decide +kernel
theorem dX7_pages_21 : decode cX7_pages 21 = .ok (.invokevirtual 218, 3) := by decide +kernel
theorem dX7_pages_24 : decode cX7_pages 24 = .ok (.imul, 1) := by decide +kernel
theorem dX7_pages_25 : decode cX7_pages 25 = .ok (.ireturn, 1) := by decide +kernel
theorem dX7_setPages_0 : decode cX7_setPages 0 = .ok (.iload_n 1, 1) := by decide +kernel
theorem dX7_setPages_1 : decode cX7_setPages 1 = .ok (.iconst 4, 1) := by decide +kernel
theorem dX7_setPages_2 : decode cX7_setPages 2 = .ok (.bipush 24, 2) := by decide +kernel
theorem dX7_setPages_4 : decode cX7_setPages 4 = .ok (.invokestatic 81, 3) := by decide +kernel
theorem dX7_setPages_7 : decode cX7_setPages 7 = .ok (.ifCond .eq 22, 3) := by decide +kernel
theorem dX7_setPages_10 : decode cX7_setPages 10 = .ok (.iload_n 2, 1) := by decide +kernel
theorem dX7_setPages_11 : decode cX7_setPages 11 = .ok (.iconst 4, 1) := by decide +kernel
theorem dX7_setPages_12 : decode cX7_setPages 12 = .ok (.bipush 24, 2) := by decide +kernel
theorem dX7_setPages_14 : decode cX7_setPages 14 = .ok (.invokestatic 81, 3) := by decide +kernel
theorem dX7_setPages_17 : decode cX7_setPages 17 = .ok (.ifCond .eq 12, 3) := by decide +kernel
theorem dX7_setPages_20 : decode cX7_setPages 20 = .ok (.iload_n 3, 1) := by decide +kernel
theorem dX7_setPages_21 : decode cX7_setPages 21 = .ok (.iconst 0, 1) := by decide +kernel
theorem dX7_setPages_22 : decode cX7_setPages 22 = .ok (.iconst 3, 1) := by decide +kernel
theorem dX7_setPages_23 : decode cX7_setPages 23 = .ok (.invokestatic 81, 3) := by decide +kernel
theorem dX7_setPages_26 : decode cX7_setPages 26 = .ok (.ifCond .ne 6, 3) := by decide +kernel
theorem dX7_setPages_29 : decode cX7_setPages 29 = .ok (.bipush (-2), 2) := by decide +kernel
theorem dX7_setPages_31 : decode cX7_setPages 31 = .ok (.ireturn, 1) := by decide +kernel
theorem dX7_setPages_32 : decode cX7_setPages 32 = .ok (.aload_n 0, 1) := by decide +kernel
theorem dX7_setPages_33 : decode cX7_setPages 33 = .ok (.iload_n 1, 1) := by decide +kernel
theorem dX7_setPages_34 : decode cX7_setPages 34 = .ok (.putfield 16, 3) := by decide +kernel
theorem dX7_setPages_37 : decode cX7_setPages 37 = .ok (.aload_n 0, 1) := by decide +kernel
theorem dX7_setPages_38 : decode cX7_setPages 38 = .ok (.iload_n 2, 1) := by decide +kernel
theorem dX7_setPages_39 : decode cX7_setPages 39 = .ok (.putfield 19, 3) := by decide +kernel
theorem dX7_setPages_42 : decode cX7_setPages 42 = .ok (.aload_n 0, 1) := by decide +kernel
theorem dX7_setPages_43 : decode cX7_setPages 43 = .ok (.iload_n 3, 1) := by decide +kernel
theorem dX7_setPages_44 : decode cX7_setPages 44 = .ok (.putfield 22, 3) := by decide +kernel
theorem dX7_setPages_47 : decode cX7_setPages 47 = .ok (.aload_n 0, 1) := by decide +kernel
theorem dX7_setPages_48 : decode cX7_setPages 48 = .ok (.invokevirtual 221, 3) := by decide +kernel
theorem dX7_setPages_51 : decode cX7_setPages 51 = .ok (.ireturn, 1) := by decide +kernel
theorem dX7_page_0 : decode cX7_page 0 = .ok (.iload_n 1, 1) := by decide +kernel
theorem dX7_page_1 : decode cX7_page 1 = .ok (.iconst 0, 1) := by decide +kernel
theorem dX7_page_2 : decode cX7_page 2 = .ok (.aload_n 0, 1) := by decide +kernel
theorem dX7_page_3 : decode cX7_page 3 = .ok (.invokevirtual 221, 3) := by decide +kernel
theorem dX7_page_6 : decode cX7_page 6 = .ok (.iconst 1, 1) := by decide +kernel
theorem dX7_page_7 : decode cX7_page 7 = .ok (.isub, 1) := by decide +kernel
theorem dX7_page_8 : decode cX7_page 8 = .ok (.invokestatic 81, 3) := by decide +kernel
theorem dX7_page_11 : decode cX7_page 11 = .ok (.ifCond .ne 5, 3) := by decide +kernel
theorem dX7_page_14 : decode cX7_page 14 = .ok (.iconst (-1), 1) := by decide +kernel
theorem dX7_page_15 : decode cX7_page 15 = .ok (.ireturn, 1) := by decide +kernel
theorem dX7_page_16 : decode cX7_page 16 = .ok (.iload_n 1, 1) := by decide +kernel
theorem dX7_page_17 : decode cX7_page 17 = .ok (.aload_n 0, 1) := by decide +kernel
theorem dX7_page_18 : decode cX7_page 18 = .ok (.aload_n 0, 1) := by decide +kernel
theorem dX7_page_19 : decode cX7_page 19 = .ok (.getfield 16, 3) := by decide +kernel
theorem dX7_page_22 : decode cX7_page 22 = .ok (.aload_n 0, 1) := by decide +kernel
theorem dX7_page_23 : decode cX7_page 23 = .ok (.getfield 71, 3) := by decide +kernel
theorem dX7_page_26 : decode cX7_page 26 = .ok (.invokevirtual 218, 3) := by decide +kernel
theorem dX7_page_29 : decode cX7_page 29 = .ok (.irem, 1) := by decide +kernel
theorem dX7_page_30 : decode cX7_page 30 = .ok (.aload_n 0, 1) := by decide +kernel
theorem dX7_page_31 : decode cX7_page 31 = .ok (.getfield 16, 3) := by decide +kernel
theorem dX7_page_34 : decode cX7_page 34 = .ok (.aload_n 0, 1) := by decide +kernel
theorem dX7_page_35 : decode cX7_page 35 = .ok (.getfield 22, 3) := by decide +kernel
theorem dX7_page_38 : decode cX7_page 38 = .ok (.isub, 1) := by decide +kernel
theorem dX7_page_39 : decode cX7_page 39 = .ok (.imul, 1) := by decide +kernel
theorem dX7_page_40 : decode cX7_page 40 = .ok (.istore_n 3, 1) := by decide +kernel
theorem dX7_page_41 : decode cX7_page 41 = .ok (.iload_n 1, 1) := by decide +kernel
theorem dX7_page_42 : decode cX7_page 42 = .ok (.aload_n 0, 1) := by decide +kernel
theorem dX7_page_43 : decode cX7_page 43 = .ok (.aload_n 0, 1) := by decide +kernel
theorem dX7_page_44 : decode cX7_page 44 = .ok (.getfield 16, 3) := by decide +kernel
theorem dX7_page_47 : decode cX7_page 47 = .ok (.aload_n 0, 1) := by decide +kernel
theorem dX7_page_48 : decode cX7_page 48 = .ok (.getfield 71, 3) := by decide +kernel
theorem dX7_page_51 : decode cX7_page 51 = .ok (.invokevirtual 218, 3) := by decide +kernel
theorem dX7_page_54 : decode cX7_page 54 = .ok (.idiv, 1) := by decide +kernel
theorem dX7_page_55 : decode cX7_page 55 = .ok (.aload_n 0, 1) := by decide +kernel
theorem dX7_page_56 : decode cX7_page 56 = .ok (.getfield 19, 3) := by decide +kernel
theorem dX7_page_59 : decode cX7_page 59 = .ok (.aload_n 0, 1) := by decide +kernel
theorem dX7_page_60 : decode cX7_page 60 = .ok (.getfield 22, 3) := by decide +kernel
theorem dX7_page_63 : decode cX7_page 63 = .ok (.isub, 1) := by decide +kernel
theorem dX7_page_64 : decode cX7_page 64 = .ok (.imul, 1) := by decide +kernel
theorem dX7_page_65 : decode cX7_page 65 = .ok (.istore 4, 2) := by decide +kernel
theorem dX7_page_67 : decode cX7_page 67 = .ok (.aload_n 0, 1) := by decide +kernel
theorem dX7_page_68 : decode cX7_page 68 = .ok (.getfield 16, 3) := by decide +kernel
theorem dX7_page_71 : decode cX7_page 71 = .ok (.aload_n 0, 1) := by decide +kernel
theorem dX7_page_72 : decode cX7_page 72 = .ok (.getfield 71, 3) := by decide +kernel
theorem dX7_page_75 : decode cX7_page 75 = .ok (.iload_n 3, 1) := by decide +kernel
theorem dX7_page_76 : decode cX7_page 76 = .ok (.isub, 1) := by decide +kernel
theorem dX7_page_77 : decode cX7_page 77 = .ok (.if_icmp .ge 10, 3) := by decide +kernel
theorem dX7_page_80 : decode cX7_page 80 = .ok (.aload_n 0, 1) := by decide +kernel
theorem dX7_page_81 : decode cX7_page 81 = .ok (.getfield 16, 3) := by decide +kernel
theorem dX7_page_84 : decode cX7_page 84 = .ok (.goto 9, 3) := by decide +kernel
theorem dX7_page_87 : decode cX7_page 87 = .ok (.aload_n 0, 1) := by decide +kernel
theorem dX7_page_88 : decode cX7_page 88 = .ok (.getfield 71, 3) := by decide +kernel
theorem dX7_page_91 : decode cX7_page 91 = .ok (.iload_n 3, 1) := by decide +kernel
theorem dX7_page_92 : decode cX7_page 92 = .ok (.isub, 1) := by decide +kernel
theorem dX7_page_93 : decode cX7_page 93 = .ok (.istore 5, 2) := by decide +kernel
theorem dX7_page_95 : decode cX7_page 95 = .ok (.aload_n 0, 1) := by decide +kernel
theorem dX7_page_96 : decode cX7_page 96 = .ok (.getfield 19, 3) := by decide +kernel
theorem dX7_page_99 : decode cX7_page 99 = .ok (.aload_n 0, 1) := by decide +kernel
theorem dX7_page_100 : decode cX7_page 100 = .ok (.getfield 74, 3) := by decide +kernel
theorem dX7_page_103 : decode cX7_page 103 = .ok (.iload 4, 2) := by decide +kernel
theorem dX7_page_105 : decode cX7_page 105 = .ok (.isub, 1) := by decide +kernel
theorem dX7_page_106 : decode cX7_page 106 = .ok (.if_icmp .ge 10, 3) := by decide +kernel
theorem dX7_page_109 : decode cX7_page 109 = .ok (.aload_n 0, 1) := by decide +kernel
theorem dX7_page_110 : decode cX7_page 110 = .ok (.getfield 19, 3) := by decide +kernel
theorem dX7_page_113 : decode cX7_page 113 = .ok (.goto 10, 3) := by decide +kernel
theorem dX7_page_116 : decode cX7_page 116 = .ok (.aload_n 0, 1) := by decide +kernel
theorem dX7_page_117 : decode cX7_page 117 = .ok (.getfield 74, 3) := by decide +kernel
theorem dX7_page_120 : decode cX7_page 120 = .ok (.iload 4, 2) := by decide +kernel
theorem dX7_page_122 : decode cX7_page 122 = .ok (.isub, 1) := by decide +kernel
theorem dX7_page_123 : decode cX7_page 123 = .ok (.istore 6, 2) := by decide +kernel
theorem dX7_page_125 : decode cX7_page 125 = .ok (.iconst 0, 1) := by decide +kernel
theorem dX7_page_126 : decode cX7_page 126 = .ok (.istore 7, 2) := by decide +kernel
theorem dX7_page_128 : decode cX7_page 128 = .ok (.iconst 0, 1) := by decide +kernel
theorem dX7_page_129 : decode cX7_page 129 = .ok (.istore 8, 2) := by decide +kernel
theorem dX7_page_131 : decode cX7_page 131 = .ok (.iload 4, 2) := by decide +kernel
theorem dX7_page_133 : decode cX7_page 133 = .ok (.istore 9, 2) := by decide +kernel
theorem dX7_page_135 : decode cX7_page 135 = .ok (.iload 9, 2) := by decide +kernel
theorem dX7_page_137 : decode cX7_page 137 = .ok (.iload 4, 2) := by decide +kernel
theorem dX7_page_139 : decode cX7_page 139 = .ok (.iload 6, 2) := by decide +kernel
theorem dX7_page_141 : decode cX7_page 141 = .ok (.iadd, 1) := by decide +kernel
theorem dX7_page_142 : decode cX7_page 142 = .ok (.if_icmp .ge 87, 3) := by decide +kernel
theorem dX7_page_145 : decode cX7_page 145 = .ok (.iload_n 3, 1) := by decide +kernel
theorem dX7_page_146 : decode cX7_page 146 = .ok (.istore 10, 2) := by decide +kernel
theorem dX7_page_148 : decode cX7_page 148 = .ok (.iload 10, 2) := by decide +kernel
theorem dX7_page_150 : decode cX7_page 150 = .ok (.iload_n 3, 1) := by decide +kernel
theorem dX7_page_151 : decode cX7_page 151 = .ok (.iload 5, 2) := by decide +kernel
theorem dX7_page_153 : decode cX7_page 153 = .ok (.iadd, 1) := by decide +kernel
theorem dX7_page_154 : decode cX7_page 154 = .ok (.if_icmp .ge 69, 3) := by decide +kernel
theorem dX7_page_157 : decode cX7_page 157 = .ok (.aload_n 0, 1) := by decide +kernel
theorem dX7_page_158 : decode cX7_page 158 = .ok (.iload 10, 2) := by decide +kernel
theorem dX7_page_160 : decode cX7_page 160 = .ok (.iload 9, 2) := by decide +kernel
theorem dX7_page_162 : decode cX7_page 162 = .ok (.invokevirtual 224, 3) := by decide +kernel
theorem dX7_page_165 : decode cX7_page 165 = .ok (.iload_n 1, 1) := by decide +kernel
theorem dX7_page_166 : decode cX7_page 166 = .ok (.if_icmp .ne 7, 3) := by decide +kernel
theorem dX7_page_169 : decode cX7_page 169 = .ok (.iconst 1, 1) := by decide +kernel
theorem dX7_page_170 : decode cX7_page 170 = .ok (.goto 4, 3) := by decide +kernel
theorem dX7_page_173 : decode cX7_page 173 = .ok (.iconst 0, 1) := by decide +kernel
theorem dX7_page_174 : decode cX7_page 174 = .ok (.istore 11, 2) := by decide +kernel
theorem dX7_page_176 : decode cX7_page 176 = .ok (.iload 7, 2) := by decide +kernel
theorem dX7_page_178 : decode cX7_page 178 = .ok (.iload 11, 2) := by decide +kernel
theorem dX7_page_180 : decode cX7_page 180 = .ok (.ifCond .eq 7, 3) := by decide +kernel
theorem dX7_page_183 : decode cX7_page 183 = .ok (.iconst 1, 1) := by decide +kernel
theorem dX7_page_184 : decode cX7_page 184 = .ok (.goto 4, 3) := by decide +kernel
theorem dX7_page_187 : decode cX7_page 187 = .ok (.iconst 0, 1) := by decide +kernel
theorem dX7_page_188 : decode cX7_page 188 = .ok (.iadd, 1) := by decide +kernel
theorem dX7_page_189 : decode cX7_page 189 = .ok (.istore 7, 2) := by decide +kernel
theorem dX7_page_191 : decode cX7_page 191 = .ok (.iload 8, 2) := by decide +kernel
theorem dX7_page_193 : decode cX7_page 193 = .ok (.iload 11, 2) := by decide +kernel
theorem dX7_page_195 : decode cX7_page 195 = .ok (.ifCond .ne 18, 3) := by decide +kernel
theorem dX7_page_198 : decode cX7_page 198 = .ok (.aload_n 0, 1) := by decide +kernel
theorem dX7_page_199 : decode cX7_page 199 = .ok (.iload 10, 2) := by decide +kernel
theorem dX7_page_201 : decode cX7_page 201 = .ok (.iload 9, 2) := by decide +kernel
theorem dX7_page_203 : decode cX7_page 203 = .ok (.invokevirtual 89, 3) := by decide +kernel
theorem dX7_page_206 : decode cX7_page 206 = .ok (.ifCond .le 7, 3) := by decide +kernel
theorem dX7_page_209 : decode cX7_page 209 = .ok (.iconst 1, 1) := by decide +kernel
theorem dX7_page_210 : decode cX7_page 210 = .ok (.goto 4, 3) := by decide +kernel
theorem dX7_page_213 : decode cX7_page 213 = .ok (.iconst 0, 1) := by decide +kernel
theorem dX7_page_214 : decode cX7_page 214 = .ok (.iadd, 1) := by decide +kernel
theorem dX7_page_215 : decode cX7_page 215 = .ok (.istore 8, 2) := by decide +kernel
theorem dX7_page_217 : decode cX7_page 217 = .ok (.iinc 10 1, 3) := by decide +kernel
theorem dX7_page_220 : decode cX7_page 220 = .ok (.goto (-72), 3) := by decide +kernel
theorem dX7_page_223 : decode cX7_page 223 = .ok (.iinc 9 1, 3) := by decide +kernel
theorem dX7_page_226 : decode cX7_page 226 = .ok (.goto (-91), 3) := by decide +kernel
theorem dX7_page_229 : decode cX7_page 229 = .ok (.iload_n 2, 1) := by decide +kernel
theorem dX7_page_230 : decode cX7_page 230 = .ok (.tableswitch 55 0 5 #[38, 40, 43, 46, 49, 52], 38) := by decide +kernel
theorem dX7_page_268 : decode cX7_page 268 = .ok (.iload_n 3, 1) := by decide +kernel
theorem dX7_page_269 : decode cX7_page 269 = .ok (.ireturn, 1) := by decide +kernel
theorem dX7_page_270 : decode cX7_page 270 = .ok (.iload 4, 2) := by decide +kernel
theorem dX7_page_272 : decode cX7_page 272 = .ok (.ireturn, 1) := by decide +kernel
theorem dX7_page_273 : decode cX7_page 273 = .ok (.iload 5, 2) := by decide +kernel
theorem dX7_page_275 : decode cX7_page 275 = .ok (.ireturn, 1) := by decide +kernel
theorem dX7_page_276 : decode cX7_page 276 = .ok (.iload 6, 2) := by decide +kernel
theorem dX7_page_278 : decode cX7_page 278 = .ok (.ireturn, 1) := by decide +kernel
theorem dX7_page_279 : decode cX7_page 279 = .ok (.iload 7, 2) := by decide +kernel
theorem dX7_page_281 : decode cX7_page 281 = .ok (.ireturn, 1) := by decide +kernel
theorem dX7_page_282 : decode cX7_page 282 = .ok (.iload 8, 2) := by decide +kernel
theorem dX7_page_284 : decode cX7_page 284 = .ok (.ireturn, 1) := by decide +kernel
theorem dX7_page_285 : decode cX7_page 285 = .ok (.bipush (-2), 2) := by decide +kernel
theorem dX7_page_287 : decode cX7_page 287 = .ok (.ireturn, 1) := by decide +kernel
theorem dX7_stitchesOn_0 : decode cX7_stitchesOn 0 = .ok (.iconst 0, 1) := by decide +kernel
theorem dX7_stitchesOn_1 : decode cX7_stitchesOn 1 = .ok (.istore_n 3, 1) := by decide +kernel
theorem dX7_stitchesOn_2 : decode cX7_stitchesOn 2 = .ok (.iconst 0, 1) := by decide +kernel
theorem dX7_stitchesOn_3 : decode cX7_stitchesOn 3 = .ok (.istore 4, 2) := by decide +kernel
theorem dX7_stitchesOn_5 : decode cX7_stitchesOn 5 = .ok (.iload 4, 2) := by decide +kernel
theorem dX7_stitchesOn_7 : decode cX7_stitchesOn 7 = .ok (.aload_n 0, 1) := by decide +kernel
theorem dX7_stitchesOn_8 : decode cX7_stitchesOn 8 = .ok (.getfield 71, 3) := by decide +kernel
theorem dX7_stitchesOn_11 : decode cX7_stitchesOn 11 = .ok (.if_icmp .ge 59, 3) := by decide +kernel
theorem dX7_stitchesOn_14 : decode cX7_stitchesOn 14 = .ok (.iconst 0, 1) := by decide +kernel
theorem dX7_stitchesOn_15 : decode cX7_stitchesOn 15 = .ok (.istore 5, 2) := by decide +kernel
theorem dX7_stitchesOn_17 : decode cX7_stitchesOn 17 = .ok (.iload 5, 2) := by decide +kernel
theorem dX7_stitchesOn_19 : decode cX7_stitchesOn 19 = .ok (.aload_n 0, 1) := by decide +kernel
theorem dX7_stitchesOn_20 : decode cX7_stitchesOn 20 = .ok (.getfield 74, 3) := by decide +kernel
theorem dX7_stitchesOn_23 : decode cX7_stitchesOn 23 = .ok (.if_icmp .ge 41, 3) := by decide +kernel
theorem dX7_stitchesOn_26 : decode cX7_stitchesOn 26 = .ok (.iload_n 3, 1) := by decide +kernel
theorem dX7_stitchesOn_27 : decode cX7_stitchesOn 27 = .ok (.aload_n 0, 1) := by decide +kernel
theorem dX7_stitchesOn_28 : decode cX7_stitchesOn 28 = .ok (.iload 4, 2) := by decide +kernel
theorem dX7_stitchesOn_30 : decode cX7_stitchesOn 30 = .ok (.iload 5, 2) := by decide +kernel
theorem dX7_stitchesOn_32 : decode cX7_stitchesOn 32 = .ok (.invokevirtual 89, 3) := by decide +kernel
theorem dX7_stitchesOn_35 : decode cX7_stitchesOn 35 = .ok (.iload_n 2, 1) := by decide +kernel
theorem dX7_stitchesOn_36 : decode cX7_stitchesOn 36 = .ok (.if_icmp .ne 19, 3) := by decide +kernel
theorem dX7_stitchesOn_39 : decode cX7_stitchesOn 39 = .ok (.aload_n 0, 1) := by decide +kernel
theorem dX7_stitchesOn_40 : decode cX7_stitchesOn 40 = .ok (.iload 4, 2) := by decide +kernel
theorem dX7_stitchesOn_42 : decode cX7_stitchesOn 42 = .ok (.iload 5, 2) := by decide +kernel
theorem dX7_stitchesOn_44 : decode cX7_stitchesOn 44 = .ok (.invokevirtual 224, 3) := by decide +kernel
theorem dX7_stitchesOn_47 : decode cX7_stitchesOn 47 = .ok (.iload_n 1, 1) := by decide +kernel
theorem dX7_stitchesOn_48 : decode cX7_stitchesOn 48 = .ok (.if_icmp .ne 7, 3) := by decide +kernel
theorem dX7_stitchesOn_51 : decode cX7_stitchesOn 51 = .ok (.iconst 1, 1) := by decide +kernel
theorem dX7_stitchesOn_52 : decode cX7_stitchesOn 52 = .ok (.goto 4, 3) := by decide +kernel
theorem dX7_stitchesOn_55 : decode cX7_stitchesOn 55 = .ok (.iconst 0, 1) := by decide +kernel
theorem dX7_stitchesOn_56 : decode cX7_stitchesOn 56 = .ok (.iadd, 1) := by decide +kernel
theorem dX7_stitchesOn_57 : decode cX7_stitchesOn 57 = .ok (.istore_n 3, 1) := by decide +kernel
theorem dX7_stitchesOn_58 : decode cX7_stitchesOn 58 = .ok (.iinc 5 1, 3) := by decide +kernel
theorem dX7_stitchesOn_61 : decode cX7_stitchesOn 61 = .ok (.goto (-44), 3) := by decide +kernel
theorem dX7_stitchesOn_64 : decode cX7_stitchesOn 64 = .ok (.iinc 4 1, 3) := by decide +kernel
theorem dX7_stitchesOn_67 : decode cX7_stitchesOn 67 = .ok (.goto (-62), 3) := by decide +kernel
theorem dX7_stitchesOn_70 : decode cX7_stitchesOn 70 = .ok (.iload_n 3, 1) := by decide +kernel
theorem dX7_stitchesOn_71 : decode cX7_stitchesOn 71 = .ok (.ireturn, 1) := by decide +kernel
theorem dX7_begins_0 : decode cX7_begins 0 = .ok (.aload_n 0, 1) := by decide +kernel
theorem dX7_begins_1 : decode cX7_begins 1 = .ok (.aload_n 0, 1) := by decide +kernel
theorem dX7_begins_2 : decode cX7_begins 2 = .ok (.getfield 42, 3) := by decide +kernel
theorem dX7_begins_5 : decode cX7_begins 5 = .ok (.sipush 288, 3) := by decide +kernel
theorem dX7_begins_8 : decode cX7_begins 8 = .ok (.iload_n 2, 1) := by decide +kernel
theorem dX7_begins_9 : decode cX7_begins 9 = .ok (.imul, 1) := by decide +kernel
theorem dX7_begins_10 : decode cX7_begins 10 = .ok (.iload_n 3, 1) := by decide +kernel
theorem dX7_begins_11 : decode cX7_begins 11 = .ok (.iadd, 1) := by decide +kernel
theorem dX7_begins_12 : decode cX7_begins 12 = .ok (.iaload, 1) := by decide +kernel
theorem dX7_begins_13 : decode cX7_begins 13 = .ok (.aload_n 0, 1) := by decide +kernel
theorem dX7_begins_14 : decode cX7_begins 14 = .ok (.getfield 45, 3) := by decide +kernel
theorem dX7_begins_17 : decode cX7_begins 17 = .ok (.sipush 288, 3) := by decide +kernel
theorem dX7_begins_20 : decode cX7_begins 20 = .ok (.iload_n 2, 1) := by decide +kernel
theorem dX7_begins_21 : decode cX7_begins 21 = .ok (.imul, 1) := by decide +kernel
theorem dX7_begins_22 : decode cX7_begins 22 = .ok (.iload_n 3, 1) := by decide +kernel
theorem dX7_begins_23 : decode cX7_begins 23 = .ok (.iadd, 1) := by decide +kernel
theorem dX7_begins_24 : decode cX7_begins 24 = .ok (.iaload, 1) := by decide +kernel
theorem dX7_begins_25 : decode cX7_begins 25 = .ok (.invokevirtual 224, 3) := by decide +kernel
theorem dX7_begins_28 : decode cX7_begins 28 = .ok (.iload_n 1, 1) := by decide +kernel
theorem dX7_begins_29 : decode cX7_begins 29 = .ok (.if_icmp .ne 7, 3) := by decide +kernel
theorem dX7_begins_32 : decode cX7_begins 32 = .ok (.iconst 1, 1) := by decide +kernel
theorem dX7_begins_33 : decode cX7_begins 33 = .ok (.goto 4, 3) := by decide +kernel
theorem dX7_begins_36 : decode cX7_begins 36 = .ok (.iconst 0, 1) := by decide +kernel
theorem dX7_begins_37 : decode cX7_begins 37 = .ok (.ireturn, 1) := by decide +kernel
theorem dX7_runsOn_0 : decode cX7_runsOn 0 = .ok (.iconst 0, 1) := by decide +kernel
theorem dX7_runsOn_1 : decode cX7_runsOn 1 = .ok (.istore_n 3, 1) := by decide +kernel
theorem dX7_runsOn_2 : decode cX7_runsOn 2 = .ok (.iconst 0, 1) := by decide +kernel
theorem dX7_runsOn_3 : decode cX7_runsOn 3 = .ok (.istore 4, 2) := by decide +kernel
theorem dX7_runsOn_5 : decode cX7_runsOn 5 = .ok (.iload 4, 2) := by decide +kernel
theorem dX7_runsOn_7 : decode cX7_runsOn 7 = .ok (.aload_n 0, 1) := by decide +kernel
theorem dX7_runsOn_8 : decode cX7_runsOn 8 = .ok (.getfield 39, 3) := by decide +kernel
theorem dX7_runsOn_11 : decode cX7_runsOn 11 = .ok (.iload_n 2, 1) := by decide +kernel
theorem dX7_runsOn_12 : decode cX7_runsOn 12 = .ok (.iaload, 1) := by decide +kernel
theorem dX7_runsOn_13 : decode cX7_runsOn 13 = .ok (.if_icmp .ge 28, 3) := by decide +kernel
theorem dX7_runsOn_16 : decode cX7_runsOn 16 = .ok (.iload_n 3, 1) := by decide +kernel
theorem dX7_runsOn_17 : decode cX7_runsOn 17 = .ok (.aload_n 0, 1) := by decide +kernel
theorem dX7_runsOn_18 : decode cX7_runsOn 18 = .ok (.iload_n 1, 1) := by decide +kernel
theorem dX7_runsOn_19 : decode cX7_runsOn 19 = .ok (.iload_n 2, 1) := by decide +kernel
theorem dX7_runsOn_20 : decode cX7_runsOn 20 = .ok (.iload 4, 2) := by decide +kernel
theorem dX7_runsOn_22 : decode cX7_runsOn 22 = .ok (.invokevirtual 227, 3) := by decide +kernel
theorem dX7_runsOn_25 : decode cX7_runsOn 25 = .ok (.ifCond .eq 7, 3) := by decide +kernel
theorem dX7_runsOn_28 : decode cX7_runsOn 28 = .ok (.iconst 1, 1) := by decide +kernel
theorem dX7_runsOn_29 : decode cX7_runsOn 29 = .ok (.goto 4, 3) := by decide +kernel
theorem dX7_runsOn_32 : decode cX7_runsOn 32 = .ok (.iconst 0, 1) := by decide +kernel
theorem dX7_runsOn_33 : decode cX7_runsOn 33 = .ok (.iadd, 1) := by decide +kernel
theorem dX7_runsOn_34 : decode cX7_runsOn 34 = .ok (.istore_n 3, 1) := by decide +kernel
theorem dX7_runsOn_35 : decode cX7_runsOn 35 = .ok (.iinc 4 1, 3) := by decide +kernel
theorem dX7_runsOn_38 : decode cX7_runsOn 38 = .ok (.goto (-33), 3) := by decide +kernel
theorem dX7_runsOn_41 : decode cX7_runsOn 41 = .ok (.iload_n 3, 1) := by decide +kernel
theorem dX7_runsOn_42 : decode cX7_runsOn 42 = .ok (.ireturn, 1) := by decide +kernel
theorem dX7_threadOn_0 : decode cX7_threadOn 0 = .ok (.bipush 48, 2) := by decide +kernel
theorem dX7_threadOn_2 : decode cX7_threadOn 2 = .ok (.aload_n 0, 1) := by decide +kernel
theorem dX7_threadOn_3 : decode cX7_threadOn 3 = .ok (.iload_n 1, 1) := by decide +kernel
theorem dX7_threadOn_4 : decode cX7_threadOn 4 = .ok (.iload_n 2, 1) := by decide +kernel
theorem dX7_threadOn_5 : decode cX7_threadOn 5 = .ok (.invokevirtual 230, 3) := by decide +kernel
theorem dX7_threadOn_8 : decode cX7_threadOn 8 = .ok (.imul, 1) := by decide +kernel
theorem dX7_threadOn_9 : decode cX7_threadOn 9 = .ok (.istore_n 3, 1) := by decide +kernel
theorem dX7_threadOn_10 : decode cX7_threadOn 10 = .ok (.iconst 0, 1) := by decide +kernel
theorem dX7_threadOn_11 : decode cX7_threadOn 11 = .ok (.istore 4, 2) := by decide +kernel
theorem dX7_threadOn_13 : decode cX7_threadOn 13 = .ok (.iload 4, 2) := by decide +kernel
theorem dX7_threadOn_15 : decode cX7_threadOn 15 = .ok (.aload_n 0, 1) := by decide +kernel
theorem dX7_threadOn_16 : decode cX7_threadOn 16 = .ok (.getfield 39, 3) := by decide +kernel
theorem dX7_threadOn_19 : decode cX7_threadOn 19 = .ok (.iload_n 2, 1) := by decide +kernel
theorem dX7_threadOn_20 : decode cX7_threadOn 20 = .ok (.iaload, 1) := by decide +kernel
theorem dX7_threadOn_21 : decode cX7_threadOn 21 = .ok (.if_icmp .ge 85, 3) := by decide +kernel
theorem dX7_threadOn_24 : decode cX7_threadOn 24 = .ok (.aload_n 0, 1) := by decide +kernel
theorem dX7_threadOn_25 : decode cX7_threadOn 25 = .ok (.iload_n 1, 1) := by decide +kernel
theorem dX7_threadOn_26 : decode cX7_threadOn 26 = .ok (.iload_n 2, 1) := by decide +kernel
theorem dX7_threadOn_27 : decode cX7_threadOn 27 = .ok (.aload_n 0, 1) := by decide +kernel
theorem dX7_threadOn_28 : decode cX7_threadOn 28 = .ok (.iload_n 2, 1) := by decide +kernel
theorem dX7_threadOn_29 : decode cX7_threadOn 29 = .ok (.iload 4, 2) := by decide +kernel
theorem dX7_threadOn_31 : decode cX7_threadOn 31 = .ok (.invokevirtual 100, 3) := by decide +kernel
theorem dX7_threadOn_34 : decode cX7_threadOn 34 = .ok (.invokevirtual 227, 3) := by decide +kernel
theorem dX7_threadOn_37 : decode cX7_threadOn 37 = .ok (.ifCond .eq 63, 3) := by decide +kernel
theorem dX7_threadOn_40 : decode cX7_threadOn 40 = .ok (.iload_n 3, 1) := by decide +kernel
theorem dX7_threadOn_41 : decode cX7_threadOn 41 = .ok (.iload 4, 2) := by decide +kernel
theorem dX7_threadOn_43 : decode cX7_threadOn 43 = .ok (.ifCond .ne 10, 3) := by decide +kernel
theorem dX7_threadOn_46 : decode cX7_threadOn 46 = .ok (.aload_n 0, 1) := by decide +kernel
theorem dX7_threadOn_47 : decode cX7_threadOn 47 = .ok (.getfield 13, 3) := by decide +kernel
theorem dX7_threadOn_50 : decode cX7_threadOn 50 = .ok (.goto 24, 3) := by decide +kernel
theorem dX7_threadOn_53 : decode cX7_threadOn 53 = .ok (.aload_n 0, 1) := by decide +kernel
theorem dX7_threadOn_54 : decode cX7_threadOn 54 = .ok (.iload_n 2, 1) := by decide +kernel
theorem dX7_threadOn_55 : decode cX7_threadOn 55 = .ok (.aload_n 0, 1) := by decide +kernel
theorem dX7_threadOn_56 : decode cX7_threadOn 56 = .ok (.iload_n 2, 1) := by decide +kernel
theorem dX7_threadOn_57 : decode cX7_threadOn 57 = .ok (.iload 4, 2) := by decide +kernel
theorem dX7_threadOn_59 : decode cX7_threadOn 59 = .ok (.iconst 1, 1) := by decide +kernel
theorem dX7_threadOn_60 : decode cX7_threadOn 60 = .ok (.isub, 1) := by decide +kernel
theorem dX7_threadOn_61 : decode cX7_threadOn 61 = .ok (.invokevirtual 100, 3) := by decide +kernel
theorem dX7_threadOn_64 : decode cX7_threadOn 64 = .ok (.aload_n 0, 1) := by decide +kernel
theorem dX7_threadOn_65 : decode cX7_threadOn 65 = .ok (.iload_n 2, 1) := by decide +kernel
theorem dX7_threadOn_66 : decode cX7_threadOn 66 = .ok (.iload 4, 2) := by decide +kernel
theorem dX7_threadOn_68 : decode cX7_threadOn 68 = .ok (.invokevirtual 100, 3) := by decide +kernel
theorem dX7_threadOn_71 : decode cX7_threadOn 71 = .ok (.invokevirtual 103, 3) := by decide +kernel
theorem dX7_threadOn_74 : decode cX7_threadOn 74 = .ok (.iadd, 1) := by decide +kernel
theorem dX7_threadOn_75 : decode cX7_threadOn 75 = .ok (.istore_n 3, 1) := by decide +kernel
theorem dX7_threadOn_76 : decode cX7_threadOn 76 = .ok (.iload_n 3, 1) := by decide +kernel
theorem dX7_threadOn_77 : decode cX7_threadOn 77 = .ok (.iload 4, 2) := by decide +kernel
theorem dX7_threadOn_79 : decode cX7_threadOn 79 = .ok (.aload_n 0, 1) := by decide +kernel
theorem dX7_threadOn_80 : decode cX7_threadOn 80 = .ok (.getfield 39, 3) := by decide +kernel
theorem dX7_threadOn_83 : decode cX7_threadOn 83 = .ok (.iload_n 2, 1) := by decide +kernel
theorem dX7_threadOn_84 : decode cX7_threadOn 84 = .ok (.iaload, 1) := by decide +kernel
theorem dX7_threadOn_85 : decode cX7_threadOn 85 = .ok (.iconst 1, 1) := by decide +kernel
theorem dX7_threadOn_86 : decode cX7_threadOn 86 = .ok (.isub, 1) := by decide +kernel
theorem dX7_threadOn_87 : decode cX7_threadOn 87 = .ok (.if_icmp .ne 10, 3) := by decide +kernel
theorem dX7_threadOn_90 : decode cX7_threadOn 90 = .ok (.aload_n 0, 1) := by decide +kernel
theorem dX7_threadOn_91 : decode cX7_threadOn 91 = .ok (.getfield 13, 3) := by decide +kernel
theorem dX7_threadOn_94 : decode cX7_threadOn 94 = .ok (.goto 4, 3) := by decide +kernel
theorem dX7_threadOn_97 : decode cX7_threadOn 97 = .ok (.iconst 0, 1) := by decide +kernel
theorem dX7_threadOn_98 : decode cX7_threadOn 98 = .ok (.iadd, 1) := by decide +kernel
theorem dX7_threadOn_99 : decode cX7_threadOn 99 = .ok (.istore_n 3, 1) := by decide +kernel
theorem dX7_threadOn_100 : decode cX7_threadOn 100 = .ok (.iinc 4 1, 3) := by decide +kernel
theorem dX7_threadOn_103 : decode cX7_threadOn 103 = .ok (.goto (-90), 3) := by decide +kernel
theorem dX7_threadOn_106 : decode cX7_threadOn 106 = .ok (.iload_n 3, 1) := by decide +kernel
theorem dX7_threadOn_107 : decode cX7_threadOn 107 = .ok (.ireturn, 1) := by decide +kernel
theorem dX7_onPage_0 : decode cX7_onPage 0 = .ok (.iload_n 1, 1) := by decide +kernel
theorem dX7_onPage_1 : decode cX7_onPage 1 = .ok (.iconst 0, 1) := by decide +kernel
theorem dX7_onPage_2 : decode cX7_onPage 2 = .ok (.aload_n 0, 1) := by decide +kernel
theorem dX7_onPage_3 : decode cX7_onPage 3 = .ok (.invokevirtual 221, 3) := by decide +kernel
theorem dX7_onPage_6 : decode cX7_onPage 6 = .ok (.iconst 1, 1) := by decide +kernel
theorem dX7_onPage_7 : decode cX7_onPage 7 = .ok (.isub, 1) := by decide +kernel
theorem dX7_onPage_8 : decode cX7_onPage 8 = .ok (.invokestatic 81, 3) := by decide +kernel
theorem dX7_onPage_11 : decode cX7_onPage 11 = .ok (.ifCond .ne 5, 3) := by decide +kernel
theorem dX7_onPage_14 : decode cX7_onPage 14 = .ok (.iconst (-1), 1) := by decide +kernel
theorem dX7_onPage_15 : decode cX7_onPage 15 = .ok (.ireturn, 1) := by decide +kernel
theorem dX7_onPage_16 : decode cX7_onPage 16 = .ok (.iload_n 2, 1) := by decide +kernel
theorem dX7_onPage_17 : decode cX7_onPage 17 = .ok (.iconst 0, 1) := by decide +kernel
theorem dX7_onPage_18 : decode cX7_onPage 18 = .ok (.bipush 6, 2) := by decide +kernel
theorem dX7_onPage_20 : decode cX7_onPage 20 = .ok (.invokestatic 81, 3) := by decide +kernel
theorem dX7_onPage_23 : decode cX7_onPage 23 = .ok (.ifCond .eq 12, 3) := by decide +kernel
theorem dX7_onPage_26 : decode cX7_onPage 26 = .ok (.iload_n 3, 1) := by decide +kernel
theorem dX7_onPage_27 : decode cX7_onPage 27 = .ok (.iconst 0, 1) := by decide +kernel
theorem dX7_onPage_28 : decode cX7_onPage 28 = .ok (.iconst 2, 1) := by decide +kernel
theorem dX7_onPage_29 : decode cX7_onPage 29 = .ok (.invokestatic 81, 3) := by decide +kernel
theorem dX7_onPage_32 : decode cX7_onPage 32 = .ok (.ifCond .ne 6, 3) := by decide +kernel
theorem dX7_onPage_35 : decode cX7_onPage 35 = .ok (.bipush (-2), 2) := by decide +kernel
theorem dX7_onPage_37 : decode cX7_onPage 37 = .ok (.ireturn, 1) := by decide +kernel
theorem dX7_onPage_38 : decode cX7_onPage 38 = .ok (.iconst 0, 1) := by decide +kernel
theorem dX7_onPage_39 : decode cX7_onPage 39 = .ok (.istore 4, 2) := by decide +kernel
theorem dX7_onPage_41 : decode cX7_onPage 41 = .ok (.iconst 1, 1) := by decide +kernel
theorem dX7_onPage_42 : decode cX7_onPage 42 = .ok (.istore 5, 2) := by decide +kernel
theorem dX7_onPage_44 : decode cX7_onPage 44 = .ok (.iload 5, 2) := by decide +kernel
theorem dX7_onPage_46 : decode cX7_onPage 46 = .ok (.bipush 6, 2) := by decide +kernel
theorem dX7_onPage_48 : decode cX7_onPage 48 = .ok (.if_icmp .gt 60, 3) := by decide +kernel
theorem dX7_onPage_51 : decode cX7_onPage 51 = .ok (.iload_n 2, 1) := by decide +kernel
theorem dX7_onPage_52 : decode cX7_onPage 52 = .ok (.ifCond .eq 9, 3) := by decide +kernel
theorem dX7_onPage_55 : decode cX7_onPage 55 = .ok (.iload 5, 2) := by decide +kernel
theorem dX7_onPage_57 : decode cX7_onPage 57 = .ok (.iload_n 2, 1) := by decide +kernel
theorem dX7_onPage_58 : decode cX7_onPage 58 = .ok (.if_icmp .ne 44, 3) := by decide +kernel
theorem dX7_onPage_61 : decode cX7_onPage 61 = .ok (.iload 4, 2) := by decide +kernel
theorem dX7_onPage_63 : decode cX7_onPage 63 = .ok (.iload_n 3, 1) := by decide +kernel
theorem dX7_onPage_64 : decode cX7_onPage 64 = .ok (.ifCond .ne 13, 3) := by decide +kernel
theorem dX7_onPage_67 : decode cX7_onPage 67 = .ok (.aload_n 0, 1) := by decide +kernel
theorem dX7_onPage_68 : decode cX7_onPage 68 = .ok (.iload_n 1, 1) := by decide +kernel
theorem dX7_onPage_69 : decode cX7_onPage 69 = .ok (.iload 5, 2) := by decide +kernel
theorem dX7_onPage_71 : decode cX7_onPage 71 = .ok (.invokevirtual 230, 3) := by decide +kernel
theorem dX7_onPage_74 : decode cX7_onPage 74 = .ok (.goto 25, 3) := by decide +kernel
theorem dX7_onPage_77 : decode cX7_onPage 77 = .ok (.iload_n 3, 1) := by decide +kernel
theorem dX7_onPage_78 : decode cX7_onPage 78 = .ok (.iconst 1, 1) := by decide +kernel
theorem dX7_onPage_79 : decode cX7_onPage 79 = .ok (.if_icmp .ne 13, 3) := by decide +kernel
theorem dX7_onPage_82 : decode cX7_onPage 82 = .ok (.aload_n 0, 1) := by decide +kernel
theorem dX7_onPage_83 : decode cX7_onPage 83 = .ok (.iload_n 1, 1) := by decide +kernel
theorem dX7_onPage_84 : decode cX7_onPage 84 = .ok (.iload 5, 2) := by decide +kernel
theorem dX7_onPage_86 : decode cX7_onPage 86 = .ok (.invokevirtual 233, 3) := by decide +kernel
theorem dX7_onPage_89 : decode cX7_onPage 89 = .ok (.goto 10, 3) := by decide +kernel
theorem dX7_onPage_92 : decode cX7_onPage 92 = .ok (.aload_n 0, 1) := by decide +kernel
theorem dX7_onPage_93 : decode cX7_onPage 93 = .ok (.iload_n 1, 1) := by decide +kernel
theorem dX7_onPage_94 : decode cX7_onPage 94 = .ok (.iload 5, 2) := by decide +kernel
theorem dX7_onPage_96 : decode cX7_onPage 96 = .ok (.invokevirtual 236, 3) := by decide +kernel
theorem dX7_onPage_99 : decode cX7_onPage 99 = .ok (.iadd, 1) := by decide +kernel
theorem dX7_onPage_100 : decode cX7_onPage 100 = .ok (.istore 4, 2) := by decide +kernel
theorem dX7_onPage_102 : decode cX7_onPage 102 = .ok (.iinc 5 1, 3) := by decide +kernel
theorem dX7_onPage_105 : decode cX7_onPage 105 = .ok (.goto (-61), 3) := by decide +kernel
theorem dX7_onPage_108 : decode cX7_onPage 108 = .ok (.iload 4, 2) := by decide +kernel
theorem dX7_onPage_110 : decode cX7_onPage 110 = .ok (.ireturn, 1) := by decide +kernel
theorem dX7_pageOf_0 : decode cX7_pageOf 0 = .ok (.aload_n 0, 1) := by decide +kernel
theorem dX7_pageOf_1 : decode cX7_pageOf 1 = .ok (.iload_n 1, 1) := by decide +kernel
theorem dX7_pageOf_2 : decode cX7_pageOf 2 = .ok (.iload_n 2, 1) := by decide +kernel
theorem dX7_pageOf_3 : decode cX7_pageOf 3 = .ok (.invokevirtual 85, 3) := by decide +kernel
theorem dX7_pageOf_6 : decode cX7_pageOf 6 = .ok (.ifCond .eq 12, 3) := by decide +kernel
theorem dX7_pageOf_9 : decode cX7_pageOf 9 = .ok (.aload_n 0, 1) := by decide +kernel
theorem dX7_pageOf_10 : decode cX7_pageOf 10 = .ok (.iload_n 1, 1) := by decide +kernel
theorem dX7_pageOf_11 : decode cX7_pageOf 11 = .ok (.iload_n 2, 1) := by decide +kernel
theorem dX7_pageOf_12 : decode cX7_pageOf 12 = .ok (.invokevirtual 224, 3) := by decide +kernel
theorem dX7_pageOf_15 : decode cX7_pageOf 15 = .ok (.goto 4, 3) := by decide +kernel
theorem dX7_pageOf_18 : decode cX7_pageOf 18 = .ok (.iconst (-1), 1) := by decide +kernel
theorem dX7_pageOf_19 : decode cX7_pageOf 19 = .ok (.ireturn, 1) := by decide +kernel
theorem dJ9_abs_0f7a4_0 : decode cJ9_abs_0f7a4 0 = .ok (.iload_n 0, 1) := by decide +kernel
theorem dJ9_abs_0f7a4_1 : decode cJ9_abs_0f7a4 1 = .ok (.ifCond .ge 8, 3) := by decide +kernel
theorem dJ9_abs_0f7a4_4 : decode cJ9_abs_0f7a4 4 = .ok (.iload_n 0, 1) := by decide +kernel
theorem dJ9_abs_0f7a4_5 : decode cJ9_abs_0f7a4 5 = .ok (.ineg, 1) := by decide +kernel
theorem dJ9_abs_0f7a4_6 : decode cJ9_abs_0f7a4 6 = .ok (.goto 4, 3) := by decide +kernel
theorem dJ9_abs_0f7a4_9 : decode cJ9_abs_0f7a4 9 = .ok (.iload_n 0, 1) := by decide +kernel
theorem dJ9_abs_0f7a4_10 : decode cJ9_abs_0f7a4 10 = .ok (.ireturn, 1) := by decide +kernel
theorem dJ9_max_7cf53_0 : decode cJ9_max_7cf53 0 = .ok (.iload_n 0, 1) := by decide +kernel
theorem dJ9_max_7cf53_1 : decode cJ9_max_7cf53 1 = .ok (.iload_n 1, 1) := by decide +kernel
theorem dJ9_max_7cf53_2 : decode cJ9_max_7cf53 2 = .ok (.if_icmp .lt 7, 3) := by decide +kernel
theorem dJ9_max_7cf53_5 : decode cJ9_max_7cf53 5 = .ok (.iload_n 0, 1) := by decide +kernel
theorem dJ9_max_7cf53_6 : decode cJ9_max_7cf53 6 = .ok (.goto 4, 3) := by decide +kernel
theorem dJ9_max_7cf53_9 : decode cJ9_max_7cf53 9 = .ok (.iload_n 1, 1) := by decide +kernel
theorem dJ9_max_7cf53_10 : decode cJ9_max_7cf53 10 = .ok (.ireturn, 1) := by decide +kernel
theorem dJ9_min_7cf53_0 : decode cJ9_min_7cf53 0 = .ok (.iload_n 0, 1) := by decide +kernel
theorem dJ9_min_7cf53_1 : decode cJ9_min_7cf53 1 = .ok (.iload_n 1, 1) := by decide +kernel
theorem dJ9_min_7cf53_2 : decode cJ9_min_7cf53 2 = .ok (.if_icmp .gt 7, 3) := by decide +kernel
theorem dJ9_min_7cf53_5 : decode cJ9_min_7cf53 5 = .ok (.iload_n 0, 1) := by decide +kernel
theorem dJ9_min_7cf53_6 : decode cJ9_min_7cf53 6 = .ok (.goto 4, 3) := by decide +kernel
theorem dJ9_min_7cf53_9 : decode cJ9_min_7cf53 9 = .ok (.iload_n 1, 1) := by decide +kernel
theorem dJ9_min_7cf53_10 : decode cJ9_min_7cf53 10 = .ok (.ireturn, 1) := by decide +kernel
theorem dL_law_0 : decode cL_law 0 = .ok (.new 7, 3) := by decide +kernel
theorem dL_law_3 : decode cL_law 3 = .ok (.dup, 1) := by decide +kernel
theorem dL_law_4 : decode cL_law 4 = .ok (.invokespecial 9, 3) := by decide +kernel
theorem dL_law_7 : decode cL_law 7 = .ok (.astore_n 1, 1) := by decide +kernel
theorem dL_law_8 : decode cL_law 8 = .ok (.new 10, 3) := by decide +kernel
theorem dL_law_11 : decode cL_law 11 = .ok (.dup, 1) := by decide +kernel
theorem dL_law_12 : decode cL_law 12 = .ok (.invokespecial 12, 3) := by decide +kernel
theorem dL_law_15 : decode cL_law 15 = .ok (.astore_n 2, 1) := by decide +kernel
theorem dL_law_16 : decode cL_law 16 = .ok (.iconst 0, 1) := by decide +kernel
theorem dL_law_17 : decode cL_law 17 = .ok (.istore_n 3, 1) := by decide +kernel
theorem dL_law_18 : decode cL_law 18 = .ok (.iload_n 3, 1) := by decide +kernel
theorem dL_law_19 : decode cL_law 19 = .ok (.aload_n 0, 1) := by decide +kernel
theorem dL_law_20 : decode cL_law 20 = .ok (.arraylength, 1) := by decide +kernel
theorem dL_law_21 : decode cL_law 21 = .ok (.bipush 6, 2) := by decide +kernel
theorem dL_law_23 : decode cL_law 23 = .ok (.isub, 1) := by decide +kernel
theorem dL_law_24 : decode cL_law 24 = .ok (.if_icmp .gt 1012, 3) := by decide +kernel
theorem dL_law_27 : decode cL_law 27 = .ok (.aload_n 0, 1) := by decide +kernel
theorem dL_law_28 : decode cL_law 28 = .ok (.iload_n 3, 1) := by decide +kernel
theorem dL_law_29 : decode cL_law 29 = .ok (.iaload, 1) := by decide +kernel
theorem dL_law_30 : decode cL_law 30 = .ok (.bipush 31, 2) := by decide +kernel
theorem dL_law_32 : decode cL_law 32 = .ok (.iand, 1) := by decide +kernel
theorem dL_law_33 : decode cL_law 33 = .ok (.tableswitch 997 0 25 #[119, 152, 177, 190, 203, 246, 309, 342, 375, 408, 431, 474, 507, 550, 573, 596, 629, 714, 773, 796, 809, 832, 875, 908, 951, 964], 119) := by decide +kernel
theorem dL_law_152 : decode cL_law 152 = .ok (.aload_n 1, 1) := by decide +kernel
theorem dL_law_153 : decode cL_law 153 = .ok (.aload_n 0, 1) := by decide +kernel
theorem dL_law_154 : decode cL_law 154 = .ok (.iload_n 3, 1) := by decide +kernel
theorem dL_law_155 : decode cL_law 155 = .ok (.iconst 1, 1) := by decide +kernel
theorem dL_law_156 : decode cL_law 156 = .ok (.iadd, 1) := by decide +kernel
theorem dL_law_157 : decode cL_law 157 = .ok (.iaload, 1) := by decide +kernel
theorem dL_law_158 : decode cL_law 158 = .ok (.aload_n 0, 1) := by decide +kernel
theorem dL_law_159 : decode cL_law 159 = .ok (.iload_n 3, 1) := by decide +kernel
theorem dL_law_160 : decode cL_law 160 = .ok (.iconst 2, 1) := by decide +kernel
theorem dL_law_161 : decode cL_law 161 = .ok (.iadd, 1) := by decide +kernel
theorem dL_law_162 : decode cL_law 162 = .ok (.iaload, 1) := by decide +kernel
theorem dL_law_163 : decode cL_law 163 = .ok (.invokevirtual 13, 3) := by decide +kernel
theorem dL_law_166 : decode cL_law 166 = .ok (.aload_n 2, 1) := by decide +kernel
theorem dL_law_167 : decode cL_law 167 = .ok (.aload_n 0, 1) := by decide +kernel
theorem dL_law_168 : decode cL_law 168 = .ok (.iload_n 3, 1) := by decide +kernel
theorem dL_law_169 : decode cL_law 169 = .ok (.iconst 1, 1) := by decide +kernel
theorem dL_law_170 : decode cL_law 170 = .ok (.iadd, 1) := by decide +kernel
theorem dL_law_171 : decode cL_law 171 = .ok (.iaload, 1) := by decide +kernel
theorem dL_law_172 : decode cL_law 172 = .ok (.aload_n 0, 1) := by decide +kernel
theorem dL_law_173 : decode cL_law 173 = .ok (.iload_n 3, 1) := by decide +kernel
theorem dL_law_174 : decode cL_law 174 = .ok (.iconst 2, 1) := by decide +kernel
theorem dL_law_175 : decode cL_law 175 = .ok (.iadd, 1) := by decide +kernel
theorem dL_law_176 : decode cL_law 176 = .ok (.iaload, 1) := by decide +kernel
theorem dL_law_177 : decode cL_law 177 = .ok (.invokevirtual 17, 3) := by decide +kernel
theorem dL_law_180 : decode cL_law 180 = .ok (.if_icmp .eq 850, 3) := by decide +kernel
theorem dL_law_183 : decode cL_law 183 = .ok (.iconst 0, 1) := by decide +kernel
theorem dL_law_184 : decode cL_law 184 = .ok (.ireturn, 1) := by decide +kernel
theorem dL_law_185 : decode cL_law 185 = .ok (.aload_n 1, 1) := by decide +kernel
theorem dL_law_186 : decode cL_law 186 = .ok (.aload_n 0, 1) := by decide +kernel
theorem dL_law_187 : decode cL_law 187 = .ok (.iload_n 3, 1) := by decide +kernel
theorem dL_law_188 : decode cL_law 188 = .ok (.iconst 1, 1) := by decide +kernel
theorem dL_law_189 : decode cL_law 189 = .ok (.iadd, 1) := by decide +kernel
theorem dL_law_190 : decode cL_law 190 = .ok (.iaload, 1) := by decide +kernel
theorem dL_law_191 : decode cL_law 191 = .ok (.i2c, 1) := by decide +kernel
theorem dL_law_192 : decode cL_law 192 = .ok (.invokevirtual 18, 3) := by decide +kernel
theorem dL_law_195 : decode cL_law 195 = .ok (.aload_n 2, 1) := by decide +kernel
theorem dL_law_196 : decode cL_law 196 = .ok (.aload_n 0, 1) := by decide +kernel
theorem dL_law_197 : decode cL_law 197 = .ok (.iload_n 3, 1) := by decide +kernel
theorem dL_law_198 : decode cL_law 198 = .ok (.iconst 1, 1) := by decide +kernel
theorem dL_law_199 : decode cL_law 199 = .ok (.iadd, 1) := by decide +kernel
theorem dL_law_200 : decode cL_law 200 = .ok (.iaload, 1) := by decide +kernel
theorem dL_law_201 : decode cL_law 201 = .ok (.i2c, 1) := by decide +kernel
theorem dL_law_202 : decode cL_law 202 = .ok (.invokevirtual 22, 3) := by decide +kernel
theorem dL_law_205 : decode cL_law 205 = .ok (.if_icmp .eq 825, 3) := by decide +kernel
theorem dL_law_208 : decode cL_law 208 = .ok (.iconst 0, 1) := by decide +kernel
theorem dL_law_209 : decode cL_law 209 = .ok (.ireturn, 1) := by decide +kernel
theorem dL_law_210 : decode cL_law 210 = .ok (.aload_n 1, 1) := by decide +kernel
theorem dL_law_211 : decode cL_law 211 = .ok (.invokevirtual 23, 3) := by decide +kernel
theorem dL_law_214 : decode cL_law 214 = .ok (.aload_n 2, 1) := by decide +kernel
theorem dL_law_215 : decode cL_law 215 = .ok (.invokevirtual 27, 3) := by decide +kernel
theorem dL_law_218 : decode cL_law 218 = .ok (.if_icmp .eq 812, 3) := by decide +kernel
theorem dL_law_221 : decode cL_law 221 = .ok (.iconst 0, 1) := by decide +kernel
theorem dL_law_222 : decode cL_law 222 = .ok (.ireturn, 1) := by decide +kernel
theorem dL_law_223 : decode cL_law 223 = .ok (.aload_n 1, 1) := by decide +kernel
theorem dL_law_224 : decode cL_law 224 = .ok (.invokevirtual 28, 3) := by decide +kernel
theorem dL_law_227 : decode cL_law 227 = .ok (.aload_n 2, 1) := by decide +kernel
theorem dL_law_228 : decode cL_law 228 = .ok (.invokevirtual 31, 3) := by decide +kernel
theorem dL_law_231 : decode cL_law 231 = .ok (.if_icmp .eq 799, 3) := by decide +kernel
theorem dL_law_234 : decode cL_law 234 = .ok (.iconst 0, 1) := by decide +kernel
theorem dL_law_235 : decode cL_law 235 = .ok (.ireturn, 1) := by decide +kernel
theorem dL_law_236 : decode cL_law 236 = .ok (.aload_n 1, 1) := by decide +kernel
theorem dL_law_237 : decode cL_law 237 = .ok (.aload_n 0, 1) := by decide +kernel
theorem dL_law_238 : decode cL_law 238 = .ok (.iload_n 3, 1) := by decide +kernel
theorem dL_law_239 : decode cL_law 239 = .ok (.iconst 1, 1) := by decide +kernel
theorem dL_law_240 : decode cL_law 240 = .ok (.iadd, 1) := by decide +kernel
theorem dL_law_241 : decode cL_law 241 = .ok (.iaload, 1) := by decide +kernel
theorem dL_law_242 : decode cL_law 242 = .ok (.aload_n 0, 1) := by decide +kernel
theorem dL_law_243 : decode cL_law 243 = .ok (.iload_n 3, 1) := by decide +kernel
theorem dL_law_244 : decode cL_law 244 = .ok (.iconst 2, 1) := by decide +kernel
theorem dL_law_245 : decode cL_law 245 = .ok (.iadd, 1) := by decide +kernel
theorem dL_law_246 : decode cL_law 246 = .ok (.iaload, 1) := by decide +kernel
theorem dL_law_247 : decode cL_law 247 = .ok (.aload_n 0, 1) := by decide +kernel
theorem dL_law_248 : decode cL_law 248 = .ok (.iload_n 3, 1) := by decide +kernel
theorem dL_law_249 : decode cL_law 249 = .ok (.iconst 3, 1) := by decide +kernel
theorem dL_law_250 : decode cL_law 250 = .ok (.iadd, 1) := by decide +kernel
theorem dL_law_251 : decode cL_law 251 = .ok (.iaload, 1) := by decide +kernel
theorem dL_law_252 : decode cL_law 252 = .ok (.invokevirtual 32, 3) := by decide +kernel
theorem dL_law_255 : decode cL_law 255 = .ok (.aload_n 2, 1) := by decide +kernel
theorem dL_law_256 : decode cL_law 256 = .ok (.aload_n 0, 1) := by decide +kernel
theorem dL_law_257 : decode cL_law 257 = .ok (.iload_n 3, 1) := by decide +kernel
theorem dL_law_258 : decode cL_law 258 = .ok (.iconst 1, 1) := by decide +kernel
theorem dL_law_259 : decode cL_law 259 = .ok (.iadd, 1) := by decide +kernel
theorem dL_law_260 : decode cL_law 260 = .ok (.iaload, 1) := by decide +kernel
theorem dL_law_261 : decode cL_law 261 = .ok (.aload_n 0, 1) := by decide +kernel
theorem dL_law_262 : decode cL_law 262 = .ok (.iload_n 3, 1) := by decide +kernel
theorem dL_law_263 : decode cL_law 263 = .ok (.iconst 2, 1) := by decide +kernel
theorem dL_law_264 : decode cL_law 264 = .ok (.iadd, 1) := by decide +kernel
theorem dL_law_265 : decode cL_law 265 = .ok (.iaload, 1) := by decide +kernel
theorem dL_law_266 : decode cL_law 266 = .ok (.aload_n 0, 1) := by decide +kernel
theorem dL_law_267 : decode cL_law 267 = .ok (.iload_n 3, 1) := by decide +kernel
theorem dL_law_268 : decode cL_law 268 = .ok (.iconst 3, 1) := by decide +kernel
theorem dL_law_269 : decode cL_law 269 = .ok (.iadd, 1) := by decide +kernel
theorem dL_law_270 : decode cL_law 270 = .ok (.iaload, 1) := by decide +kernel
theorem dL_law_271 : decode cL_law 271 = .ok (.invokevirtual 36, 3) := by decide +kernel
theorem dL_law_274 : decode cL_law 274 = .ok (.if_icmp .eq 756, 3) := by decide +kernel
theorem dL_law_277 : decode cL_law 277 = .ok (.iconst 0, 1) := by decide +kernel
theorem dL_law_278 : decode cL_law 278 = .ok (.ireturn, 1) := by decide +kernel
theorem dL_law_279 : decode cL_law 279 = .ok (.aload_n 1, 1) := by decide +kernel
theorem dL_law_280 : decode cL_law 280 = .ok (.aload_n 0, 1) := by decide +kernel
theorem dL_law_281 : decode cL_law 281 = .ok (.iload_n 3, 1) := by decide +kernel
theorem dL_law_282 : decode cL_law 282 = .ok (.iconst 1, 1) := by decide +kernel
theorem dL_law_283 : decode cL_law 283 = .ok (.iadd, 1) := by decide +kernel
theorem dL_law_284 : decode cL_law 284 = .ok (.iaload, 1) := by decide +kernel
theorem dL_law_285 : decode cL_law 285 = .ok (.aload_n 0, 1) := by decide +kernel
theorem dL_law_286 : decode cL_law 286 = .ok (.iload_n 3, 1) := by decide +kernel
theorem dL_law_287 : decode cL_law 287 = .ok (.iconst 2, 1) := by decide +kernel
theorem dL_law_288 : decode cL_law 288 = .ok (.iadd, 1) := by decide +kernel
theorem dL_law_289 : decode cL_law 289 = .ok (.iaload, 1) := by decide +kernel
theorem dL_law_290 : decode cL_law 290 = .ok (.aload_n 0, 1) := by decide +kernel
theorem dL_law_291 : decode cL_law 291 = .ok (.iload_n 3, 1) := by decide +kernel
theorem dL_law_292 : decode cL_law 292 = .ok (.iconst 3, 1) := by decide +kernel
theorem dL_law_293 : decode cL_law 293 = .ok (.iadd, 1) := by decide +kernel
theorem dL_law_294 : decode cL_law 294 = .ok (.iaload, 1) := by decide +kernel
theorem dL_law_295 : decode cL_law 295 = .ok (.aload_n 0, 1) := by decide +kernel
theorem dL_law_296 : decode cL_law 296 = .ok (.iload_n 3, 1) := by decide +kernel
theorem dL_law_297 : decode cL_law 297 = .ok (.iconst 4, 1) := by decide +kernel
theorem dL_law_298 : decode cL_law 298 = .ok (.iadd, 1) := by decide +kernel
theorem dL_law_299 : decode cL_law 299 = .ok (.iaload, 1) := by decide +kernel
theorem dL_law_300 : decode cL_law 300 = .ok (.aload_n 0, 1) := by decide +kernel
theorem dL_law_301 : decode cL_law 301 = .ok (.iload_n 3, 1) := by decide +kernel
theorem dL_law_302 : decode cL_law 302 = .ok (.iconst 5, 1) := by decide +kernel
theorem dL_law_303 : decode cL_law 303 = .ok (.iadd, 1) := by decide +kernel
theorem dL_law_304 : decode cL_law 304 = .ok (.iaload, 1) := by decide +kernel
theorem dL_law_305 : decode cL_law 305 = .ok (.invokevirtual 37, 3) := by decide +kernel
theorem dL_law_308 : decode cL_law 308 = .ok (.aload_n 2, 1) := by decide +kernel
theorem dL_law_309 : decode cL_law 309 = .ok (.aload_n 0, 1) := by decide +kernel
theorem dL_law_310 : decode cL_law 310 = .ok (.iload_n 3, 1) := by decide +kernel
theorem dL_law_311 : decode cL_law 311 = .ok (.iconst 1, 1) := by decide +kernel
theorem dL_law_312 : decode cL_law 312 = .ok (.iadd, 1) := by decide +kernel
theorem dL_law_313 : decode cL_law 313 = .ok (.iaload, 1) := by decide +kernel
theorem dL_law_314 : decode cL_law 314 = .ok (.aload_n 0, 1) := by decide +kernel
theorem dL_law_315 : decode cL_law 315 = .ok (.iload_n 3, 1) := by decide +kernel
theorem dL_law_316 : decode cL_law 316 = .ok (.iconst 2, 1) := by decide +kernel
theorem dL_law_317 : decode cL_law 317 = .ok (.iadd, 1) := by decide +kernel
theorem dL_law_318 : decode cL_law 318 = .ok (.iaload, 1) := by decide +kernel
theorem dL_law_319 : decode cL_law 319 = .ok (.aload_n 0, 1) := by decide +kernel
theorem dL_law_320 : decode cL_law 320 = .ok (.iload_n 3, 1) := by decide +kernel
theorem dL_law_321 : decode cL_law 321 = .ok (.iconst 3, 1) := by decide +kernel
theorem dL_law_322 : decode cL_law 322 = .ok (.iadd, 1) := by decide +kernel
theorem dL_law_323 : decode cL_law 323 = .ok (.iaload, 1) := by decide +kernel
theorem dL_law_324 : decode cL_law 324 = .ok (.aload_n 0, 1) := by decide +kernel
theorem dL_law_325 : decode cL_law 325 = .ok (.iload_n 3, 1) := by decide +kernel
theorem dL_law_326 : decode cL_law 326 = .ok (.iconst 4, 1) := by decide +kernel
theorem dL_law_327 : decode cL_law 327 = .ok (.iadd, 1) := by decide +kernel
theorem dL_law_328 : decode cL_law 328 = .ok (.iaload, 1) := by decide +kernel
theorem dL_law_329 : decode cL_law 329 = .ok (.aload_n 0, 1) := by decide +kernel
theorem dL_law_330 : decode cL_law 330 = .ok (.iload_n 3, 1) := by decide +kernel
theorem dL_law_331 : decode cL_law 331 = .ok (.iconst 5, 1) := by decide +kernel
theorem dL_law_332 : decode cL_law 332 = .ok (.iadd, 1) := by decide +kernel
theorem dL_law_333 : decode cL_law 333 = .ok (.iaload, 1) := by decide +kernel
theorem dL_law_334 : decode cL_law 334 = .ok (.invokevirtual 41, 3) := by decide +kernel
theorem dL_law_337 : decode cL_law 337 = .ok (.if_icmp .eq 693, 3) := by decide +kernel
theorem dL_law_340 : decode cL_law 340 = .ok (.iconst 0, 1) := by decide +kernel
theorem dL_law_341 : decode cL_law 341 = .ok (.ireturn, 1) := by decide +kernel
theorem dL_law_342 : decode cL_law 342 = .ok (.aload_n 1, 1) := by decide +kernel
theorem dL_law_343 : decode cL_law 343 = .ok (.aload_n 0, 1) := by decide +kernel
theorem dL_law_344 : decode cL_law 344 = .ok (.iload_n 3, 1) := by decide +kernel
theorem dL_law_345 : decode cL_law 345 = .ok (.iconst 1, 1) := by decide +kernel
theorem dL_law_346 : decode cL_law 346 = .ok (.iadd, 1) := by decide +kernel
theorem dL_law_347 : decode cL_law 347 = .ok (.iaload, 1) := by decide +kernel
theorem dL_law_348 : decode cL_law 348 = .ok (.aload_n 0, 1) := by decide +kernel
theorem dL_law_349 : decode cL_law 349 = .ok (.iload_n 3, 1) := by decide +kernel
theorem dL_law_350 : decode cL_law 350 = .ok (.iconst 2, 1) := by decide +kernel
theorem dL_law_351 : decode cL_law 351 = .ok (.iadd, 1) := by decide +kernel
theorem dL_law_352 : decode cL_law 352 = .ok (.iaload, 1) := by decide +kernel
theorem dL_law_353 : decode cL_law 353 = .ok (.invokevirtual 42, 3) := by decide +kernel
theorem dL_law_356 : decode cL_law 356 = .ok (.aload_n 2, 1) := by decide +kernel
theorem dL_law_357 : decode cL_law 357 = .ok (.aload_n 0, 1) := by decide +kernel
theorem dL_law_358 : decode cL_law 358 = .ok (.iload_n 3, 1) := by decide +kernel
theorem dL_law_359 : decode cL_law 359 = .ok (.iconst 1, 1) := by decide +kernel
theorem dL_law_360 : decode cL_law 360 = .ok (.iadd, 1) := by decide +kernel
theorem dL_law_361 : decode cL_law 361 = .ok (.iaload, 1) := by decide +kernel
theorem dL_law_362 : decode cL_law 362 = .ok (.aload_n 0, 1) := by decide +kernel
theorem dL_law_363 : decode cL_law 363 = .ok (.iload_n 3, 1) := by decide +kernel
theorem dL_law_364 : decode cL_law 364 = .ok (.iconst 2, 1) := by decide +kernel
theorem dL_law_365 : decode cL_law 365 = .ok (.iadd, 1) := by decide +kernel
theorem dL_law_366 : decode cL_law 366 = .ok (.iaload, 1) := by decide +kernel
theorem dL_law_367 : decode cL_law 367 = .ok (.invokevirtual 45, 3) := by decide +kernel
theorem dL_law_370 : decode cL_law 370 = .ok (.if_icmp .eq 660, 3) := by decide +kernel
theorem dL_law_373 : decode cL_law 373 = .ok (.iconst 0, 1) := by decide +kernel
theorem dL_law_374 : decode cL_law 374 = .ok (.ireturn, 1) := by decide +kernel
theorem dL_law_375 : decode cL_law 375 = .ok (.aload_n 1, 1) := by decide +kernel
theorem dL_law_376 : decode cL_law 376 = .ok (.aload_n 0, 1) := by decide +kernel
theorem dL_law_377 : decode cL_law 377 = .ok (.iload_n 3, 1) := by decide +kernel
theorem dL_law_378 : decode cL_law 378 = .ok (.iconst 1, 1) := by decide +kernel
theorem dL_law_379 : decode cL_law 379 = .ok (.iadd, 1) := by decide +kernel
theorem dL_law_380 : decode cL_law 380 = .ok (.iaload, 1) := by decide +kernel
theorem dL_law_381 : decode cL_law 381 = .ok (.aload_n 0, 1) := by decide +kernel
theorem dL_law_382 : decode cL_law 382 = .ok (.iload_n 3, 1) := by decide +kernel
theorem dL_law_383 : decode cL_law 383 = .ok (.iconst 2, 1) := by decide +kernel
theorem dL_law_384 : decode cL_law 384 = .ok (.iadd, 1) := by decide +kernel
theorem dL_law_385 : decode cL_law 385 = .ok (.iaload, 1) := by decide +kernel
theorem dL_law_386 : decode cL_law 386 = .ok (.invokevirtual 46, 3) := by decide +kernel
theorem dL_law_389 : decode cL_law 389 = .ok (.aload_n 2, 1) := by decide +kernel
theorem dL_law_390 : decode cL_law 390 = .ok (.aload_n 0, 1) := by decide +kernel
theorem dL_law_391 : decode cL_law 391 = .ok (.iload_n 3, 1) := by decide +kernel
theorem dL_law_392 : decode cL_law 392 = .ok (.iconst 1, 1) := by decide +kernel
theorem dL_law_393 : decode cL_law 393 = .ok (.iadd, 1) := by decide +kernel
theorem dL_law_394 : decode cL_law 394 = .ok (.iaload, 1) := by decide +kernel
theorem dL_law_395 : decode cL_law 395 = .ok (.aload_n 0, 1) := by decide +kernel
theorem dL_law_396 : decode cL_law 396 = .ok (.iload_n 3, 1) := by decide +kernel
theorem dL_law_397 : decode cL_law 397 = .ok (.iconst 2, 1) := by decide +kernel
theorem dL_law_398 : decode cL_law 398 = .ok (.iadd, 1) := by decide +kernel
theorem dL_law_399 : decode cL_law 399 = .ok (.iaload, 1) := by decide +kernel
theorem dL_law_400 : decode cL_law 400 = .ok (.invokevirtual 49, 3) := by decide +kernel
theorem dL_law_403 : decode cL_law 403 = .ok (.if_icmp .eq 627, 3) := by decide +kernel
theorem dL_law_406 : decode cL_law 406 = .ok (.iconst 0, 1) := by decide +kernel
theorem dL_law_407 : decode cL_law 407 = .ok (.ireturn, 1) := by decide +kernel
theorem dL_law_408 : decode cL_law 408 = .ok (.aload_n 1, 1) := by decide +kernel
theorem dL_law_409 : decode cL_law 409 = .ok (.aload_n 0, 1) := by decide +kernel
theorem dL_law_410 : decode cL_law 410 = .ok (.iload_n 3, 1) := by decide +kernel
theorem dL_law_411 : decode cL_law 411 = .ok (.iconst 1, 1) := by decide +kernel
theorem dL_law_412 : decode cL_law 412 = .ok (.iadd, 1) := by decide +kernel
theorem dL_law_413 : decode cL_law 413 = .ok (.iaload, 1) := by decide +kernel
theorem dL_law_414 : decode cL_law 414 = .ok (.aload_n 0, 1) := by decide +kernel
theorem dL_law_415 : decode cL_law 415 = .ok (.iload_n 3, 1) := by decide +kernel
theorem dL_law_416 : decode cL_law 416 = .ok (.iconst 2, 1) := by decide +kernel
theorem dL_law_417 : decode cL_law 417 = .ok (.iadd, 1) := by decide +kernel
theorem dL_law_418 : decode cL_law 418 = .ok (.iaload, 1) := by decide +kernel
theorem dL_law_419 : decode cL_law 419 = .ok (.invokevirtual 50, 3) := by decide +kernel
theorem dL_law_422 : decode cL_law 422 = .ok (.aload_n 2, 1) := by decide +kernel
theorem dL_law_423 : decode cL_law 423 = .ok (.aload_n 0, 1) := by decide +kernel
theorem dL_law_424 : decode cL_law 424 = .ok (.iload_n 3, 1) := by decide +kernel
theorem dL_law_425 : decode cL_law 425 = .ok (.iconst 1, 1) := by decide +kernel
theorem dL_law_426 : decode cL_law 426 = .ok (.iadd, 1) := by decide +kernel
theorem dL_law_427 : decode cL_law 427 = .ok (.iaload, 1) := by decide +kernel
theorem dL_law_428 : decode cL_law 428 = .ok (.aload_n 0, 1) := by decide +kernel
theorem dL_law_429 : decode cL_law 429 = .ok (.iload_n 3, 1) := by decide +kernel
theorem dL_law_430 : decode cL_law 430 = .ok (.iconst 2, 1) := by decide +kernel
theorem dL_law_431 : decode cL_law 431 = .ok (.iadd, 1) := by decide +kernel
theorem dL_law_432 : decode cL_law 432 = .ok (.iaload, 1) := by decide +kernel
theorem dL_law_433 : decode cL_law 433 = .ok (.invokevirtual 53, 3) := by decide +kernel
theorem dL_law_436 : decode cL_law 436 = .ok (.if_icmp .eq 594, 3) := by decide +kernel
theorem dL_law_439 : decode cL_law 439 = .ok (.iconst 0, 1) := by decide +kernel
theorem dL_law_440 : decode cL_law 440 = .ok (.ireturn, 1) := by decide +kernel
theorem dL_law_441 : decode cL_law 441 = .ok (.aload_n 1, 1) := by decide +kernel
theorem dL_law_442 : decode cL_law 442 = .ok (.aload_n 0, 1) := by decide +kernel
theorem dL_law_443 : decode cL_law 443 = .ok (.iload_n 3, 1) := by decide +kernel
theorem dL_law_444 : decode cL_law 444 = .ok (.iconst 1, 1) := by decide +kernel
theorem dL_law_445 : decode cL_law 445 = .ok (.iadd, 1) := by decide +kernel
theorem dL_law_446 : decode cL_law 446 = .ok (.iaload, 1) := by decide +kernel
theorem dL_law_447 : decode cL_law 447 = .ok (.invokevirtual 54, 3) := by decide +kernel
theorem dL_law_450 : decode cL_law 450 = .ok (.aload_n 2, 1) := by decide +kernel
theorem dL_law_451 : decode cL_law 451 = .ok (.aload_n 0, 1) := by decide +kernel
theorem dL_law_452 : decode cL_law 452 = .ok (.iload_n 3, 1) := by decide +kernel
theorem dL_law_453 : decode cL_law 453 = .ok (.iconst 1, 1) := by decide +kernel
theorem dL_law_454 : decode cL_law 454 = .ok (.iadd, 1) := by decide +kernel
theorem dL_law_455 : decode cL_law 455 = .ok (.iaload, 1) := by decide +kernel
theorem dL_law_456 : decode cL_law 456 = .ok (.invokevirtual 58, 3) := by decide +kernel
theorem dL_law_459 : decode cL_law 459 = .ok (.if_icmp .eq 571, 3) := by decide +kernel
theorem dL_law_462 : decode cL_law 462 = .ok (.iconst 0, 1) := by decide +kernel
theorem dL_law_463 : decode cL_law 463 = .ok (.ireturn, 1) := by decide +kernel
theorem dL_law_464 : decode cL_law 464 = .ok (.aload_n 1, 1) := by decide +kernel
theorem dL_law_465 : decode cL_law 465 = .ok (.aload_n 0, 1) := by decide +kernel
theorem dL_law_466 : decode cL_law 466 = .ok (.iload_n 3, 1) := by decide +kernel
theorem dL_law_467 : decode cL_law 467 = .ok (.iconst 1, 1) := by decide +kernel
theorem dL_law_468 : decode cL_law 468 = .ok (.iadd, 1) := by decide +kernel
theorem dL_law_469 : decode cL_law 469 = .ok (.iaload, 1) := by decide +kernel
theorem dL_law_470 : decode cL_law 470 = .ok (.aload_n 0, 1) := by decide +kernel
theorem dL_law_471 : decode cL_law 471 = .ok (.iload_n 3, 1) := by decide +kernel
theorem dL_law_472 : decode cL_law 472 = .ok (.iconst 2, 1) := by decide +kernel
theorem dL_law_473 : decode cL_law 473 = .ok (.iadd, 1) := by decide +kernel
theorem dL_law_474 : decode cL_law 474 = .ok (.iaload, 1) := by decide +kernel
theorem dL_law_475 : decode cL_law 475 = .ok (.aload_n 0, 1) := by decide +kernel
theorem dL_law_476 : decode cL_law 476 = .ok (.iload_n 3, 1) := by decide +kernel
theorem dL_law_477 : decode cL_law 477 = .ok (.iconst 3, 1) := by decide +kernel
theorem dL_law_478 : decode cL_law 478 = .ok (.iadd, 1) := by decide +kernel
theorem dL_law_479 : decode cL_law 479 = .ok (.iaload, 1) := by decide +kernel
theorem dL_law_480 : decode cL_law 480 = .ok (.invokevirtual 59, 3) := by decide +kernel
theorem dL_law_483 : decode cL_law 483 = .ok (.aload_n 2, 1) := by decide +kernel
theorem dL_law_484 : decode cL_law 484 = .ok (.aload_n 0, 1) := by decide +kernel
theorem dL_law_485 : decode cL_law 485 = .ok (.iload_n 3, 1) := by decide +kernel
theorem dL_law_486 : decode cL_law 486 = .ok (.iconst 1, 1) := by decide +kernel
theorem dL_law_487 : decode cL_law 487 = .ok (.iadd, 1) := by decide +kernel
theorem dL_law_488 : decode cL_law 488 = .ok (.iaload, 1) := by decide +kernel
theorem dL_law_489 : decode cL_law 489 = .ok (.aload_n 0, 1) := by decide +kernel
theorem dL_law_490 : decode cL_law 490 = .ok (.iload_n 3, 1) := by decide +kernel
theorem dL_law_491 : decode cL_law 491 = .ok (.iconst 2, 1) := by decide +kernel
theorem dL_law_492 : decode cL_law 492 = .ok (.iadd, 1) := by decide +kernel
theorem dL_law_493 : decode cL_law 493 = .ok (.iaload, 1) := by decide +kernel
theorem dL_law_494 : decode cL_law 494 = .ok (.aload_n 0, 1) := by decide +kernel
theorem dL_law_495 : decode cL_law 495 = .ok (.iload_n 3, 1) := by decide +kernel
theorem dL_law_496 : decode cL_law 496 = .ok (.iconst 3, 1) := by decide +kernel
theorem dL_law_497 : decode cL_law 497 = .ok (.iadd, 1) := by decide +kernel
theorem dL_law_498 : decode cL_law 498 = .ok (.iaload, 1) := by decide +kernel
theorem dL_law_499 : decode cL_law 499 = .ok (.invokevirtual 62, 3) := by decide +kernel
theorem dL_law_502 : decode cL_law 502 = .ok (.if_icmp .eq 528, 3) := by decide +kernel
theorem dL_law_505 : decode cL_law 505 = .ok (.iconst 0, 1) := by decide +kernel
theorem dL_law_506 : decode cL_law 506 = .ok (.ireturn, 1) := by decide +kernel
theorem dL_law_507 : decode cL_law 507 = .ok (.aload_n 1, 1) := by decide +kernel
theorem dL_law_508 : decode cL_law 508 = .ok (.aload_n 0, 1) := by decide +kernel
theorem dL_law_509 : decode cL_law 509 = .ok (.iload_n 3, 1) := by decide +kernel
theorem dL_law_510 : decode cL_law 510 = .ok (.iconst 1, 1) := by decide +kernel
theorem dL_law_511 : decode cL_law 511 = .ok (.iadd, 1) := by decide +kernel
theorem dL_law_512 : decode cL_law 512 = .ok (.iaload, 1) := by decide +kernel
theorem dL_law_513 : decode cL_law 513 = .ok (.aload_n 0, 1) := by decide +kernel
theorem dL_law_514 : decode cL_law 514 = .ok (.iload_n 3, 1) := by decide +kernel
theorem dL_law_515 : decode cL_law 515 = .ok (.iconst 2, 1) := by decide +kernel
theorem dL_law_516 : decode cL_law 516 = .ok (.iadd, 1) := by decide +kernel
theorem dL_law_517 : decode cL_law 517 = .ok (.iaload, 1) := by decide +kernel
theorem dL_law_518 : decode cL_law 518 = .ok (.invokevirtual 63, 3) := by decide +kernel
theorem dL_law_521 : decode cL_law 521 = .ok (.aload_n 2, 1) := by decide +kernel
theorem dL_law_522 : decode cL_law 522 = .ok (.aload_n 0, 1) := by decide +kernel
theorem dL_law_523 : decode cL_law 523 = .ok (.iload_n 3, 1) := by decide +kernel
theorem dL_law_524 : decode cL_law 524 = .ok (.iconst 1, 1) := by decide +kernel
theorem dL_law_525 : decode cL_law 525 = .ok (.iadd, 1) := by decide +kernel
theorem dL_law_526 : decode cL_law 526 = .ok (.iaload, 1) := by decide +kernel
theorem dL_law_527 : decode cL_law 527 = .ok (.aload_n 0, 1) := by decide +kernel
theorem dL_law_528 : decode cL_law 528 = .ok (.iload_n 3, 1) := by decide +kernel
theorem dL_law_529 : decode cL_law 529 = .ok (.iconst 2, 1) := by decide +kernel
theorem dL_law_530 : decode cL_law 530 = .ok (.iadd, 1) := by decide +kernel
theorem dL_law_531 : decode cL_law 531 = .ok (.iaload, 1) := by decide +kernel
theorem dL_law_532 : decode cL_law 532 = .ok (.invokevirtual 66, 3) := by decide +kernel
theorem dL_law_535 : decode cL_law 535 = .ok (.if_icmp .eq 495, 3) := by decide +kernel
theorem dL_law_538 : decode cL_law 538 = .ok (.iconst 0, 1) := by decide +kernel
theorem dL_law_539 : decode cL_law 539 = .ok (.ireturn, 1) := by decide +kernel
theorem dL_law_540 : decode cL_law 540 = .ok (.aload_n 1, 1) := by decide +kernel
theorem dL_law_541 : decode cL_law 541 = .ok (.aload_n 0, 1) := by decide +kernel
theorem dL_law_542 : decode cL_law 542 = .ok (.iload_n 3, 1) := by decide +kernel
theorem dL_law_543 : decode cL_law 543 = .ok (.iconst 1, 1) := by decide +kernel
theorem dL_law_544 : decode cL_law 544 = .ok (.iadd, 1) := by decide +kernel
theorem dL_law_545 : decode cL_law 545 = .ok (.iaload, 1) := by decide +kernel
theorem dL_law_546 : decode cL_law 546 = .ok (.aload_n 0, 1) := by decide +kernel
theorem dL_law_547 : decode cL_law 547 = .ok (.iload_n 3, 1) := by decide +kernel
theorem dL_law_548 : decode cL_law 548 = .ok (.iconst 2, 1) := by decide +kernel
theorem dL_law_549 : decode cL_law 549 = .ok (.iadd, 1) := by decide +kernel
theorem dL_law_550 : decode cL_law 550 = .ok (.iaload, 1) := by decide +kernel
theorem dL_law_551 : decode cL_law 551 = .ok (.aload_n 0, 1) := by decide +kernel
theorem dL_law_552 : decode cL_law 552 = .ok (.iload_n 3, 1) := by decide +kernel
theorem dL_law_553 : decode cL_law 553 = .ok (.iconst 3, 1) := by decide +kernel
theorem dL_law_554 : decode cL_law 554 = .ok (.iadd, 1) := by decide +kernel
theorem dL_law_555 : decode cL_law 555 = .ok (.iaload, 1) := by decide +kernel
theorem dL_law_556 : decode cL_law 556 = .ok (.invokevirtual 67, 3) := by decide +kernel
theorem dL_law_559 : decode cL_law 559 = .ok (.aload_n 2, 1) := by decide +kernel
theorem dL_law_560 : decode cL_law 560 = .ok (.aload_n 0, 1) := by decide +kernel
theorem dL_law_561 : decode cL_law 561 = .ok (.iload_n 3, 1) := by decide +kernel
theorem dL_law_562 : decode cL_law 562 = .ok (.iconst 1, 1) := by decide +kernel
theorem dL_law_563 : decode cL_law 563 = .ok (.iadd, 1) := by decide +kernel
theorem dL_law_564 : decode cL_law 564 = .ok (.iaload, 1) := by decide +kernel
theorem dL_law_565 : decode cL_law 565 = .ok (.aload_n 0, 1) := by decide +kernel
theorem dL_law_566 : decode cL_law 566 = .ok (.iload_n 3, 1) := by decide +kernel
theorem dL_law_567 : decode cL_law 567 = .ok (.iconst 2, 1) := by decide +kernel
theorem dL_law_568 : decode cL_law 568 = .ok (.iadd, 1) := by decide +kernel
theorem dL_law_569 : decode cL_law 569 = .ok (.iaload, 1) := by decide +kernel
theorem dL_law_570 : decode cL_law 570 = .ok (.aload_n 0, 1) := by decide +kernel
theorem dL_law_571 : decode cL_law 571 = .ok (.iload_n 3, 1) := by decide +kernel
theorem dL_law_572 : decode cL_law 572 = .ok (.iconst 3, 1) := by decide +kernel
theorem dL_law_573 : decode cL_law 573 = .ok (.iadd, 1) := by decide +kernel
theorem dL_law_574 : decode cL_law 574 = .ok (.iaload, 1) := by decide +kernel
theorem dL_law_575 : decode cL_law 575 = .ok (.invokevirtual 70, 3) := by decide +kernel
theorem dL_law_578 : decode cL_law 578 = .ok (.if_icmp .eq 452, 3) := by decide +kernel
theorem dL_law_581 : decode cL_law 581 = .ok (.iconst 0, 1) := by decide +kernel
theorem dL_law_582 : decode cL_law 582 = .ok (.ireturn, 1) := by decide +kernel
theorem dL_law_583 : decode cL_law 583 = .ok (.aload_n 1, 1) := by decide +kernel
theorem dL_law_584 : decode cL_law 584 = .ok (.aload_n 0, 1) := by decide +kernel
theorem dL_law_585 : decode cL_law 585 = .ok (.iload_n 3, 1) := by decide +kernel
theorem dL_law_586 : decode cL_law 586 = .ok (.iconst 1, 1) := by decide +kernel
theorem dL_law_587 : decode cL_law 587 = .ok (.iadd, 1) := by decide +kernel
theorem dL_law_588 : decode cL_law 588 = .ok (.iaload, 1) := by decide +kernel
theorem dL_law_589 : decode cL_law 589 = .ok (.invokevirtual 71, 3) := by decide +kernel
theorem dL_law_592 : decode cL_law 592 = .ok (.aload_n 2, 1) := by decide +kernel
theorem dL_law_593 : decode cL_law 593 = .ok (.aload_n 0, 1) := by decide +kernel
theorem dL_law_594 : decode cL_law 594 = .ok (.iload_n 3, 1) := by decide +kernel
theorem dL_law_595 : decode cL_law 595 = .ok (.iconst 1, 1) := by decide +kernel
theorem dL_law_596 : decode cL_law 596 = .ok (.iadd, 1) := by decide +kernel
theorem dL_law_597 : decode cL_law 597 = .ok (.iaload, 1) := by decide +kernel
theorem dL_law_598 : decode cL_law 598 = .ok (.invokevirtual 74, 3) := by decide +kernel
theorem dL_law_601 : decode cL_law 601 = .ok (.if_icmp .eq 429, 3) := by decide +kernel
theorem dL_law_604 : decode cL_law 604 = .ok (.iconst 0, 1) := by decide +kernel
theorem dL_law_605 : decode cL_law 605 = .ok (.ireturn, 1) := by decide +kernel
theorem dL_law_606 : decode cL_law 606 = .ok (.aload_n 1, 1) := by decide +kernel
theorem dL_law_607 : decode cL_law 607 = .ok (.aload_n 0, 1) := by decide +kernel
theorem dL_law_608 : decode cL_law 608 = .ok (.iload_n 3, 1) := by decide +kernel
theorem dL_law_609 : decode cL_law 609 = .ok (.iconst 1, 1) := by decide +kernel
theorem dL_law_610 : decode cL_law 610 = .ok (.iadd, 1) := by decide +kernel
theorem dL_law_611 : decode cL_law 611 = .ok (.iaload, 1) := by decide +kernel
theorem dL_law_612 : decode cL_law 612 = .ok (.invokevirtual 75, 3) := by decide +kernel
theorem dL_law_615 : decode cL_law 615 = .ok (.aload_n 2, 1) := by decide +kernel
theorem dL_law_616 : decode cL_law 616 = .ok (.aload_n 0, 1) := by decide +kernel
theorem dL_law_617 : decode cL_law 617 = .ok (.iload_n 3, 1) := by decide +kernel
theorem dL_law_618 : decode cL_law 618 = .ok (.iconst 1, 1) := by decide +kernel
theorem dL_law_619 : decode cL_law 619 = .ok (.iadd, 1) := by decide +kernel
theorem dL_law_620 : decode cL_law 620 = .ok (.iaload, 1) := by decide +kernel
theorem dL_law_621 : decode cL_law 621 = .ok (.invokevirtual 78, 3) := by decide +kernel
theorem dL_law_624 : decode cL_law 624 = .ok (.if_icmp .eq 406, 3) := by decide +kernel
theorem dL_law_627 : decode cL_law 627 = .ok (.iconst 0, 1) := by decide +kernel
theorem dL_law_628 : decode cL_law 628 = .ok (.ireturn, 1) := by decide +kernel
theorem dL_law_629 : decode cL_law 629 = .ok (.aload_n 1, 1) := by decide +kernel
theorem dL_law_630 : decode cL_law 630 = .ok (.aload_n 0, 1) := by decide +kernel
theorem dL_law_631 : decode cL_law 631 = .ok (.iload_n 3, 1) := by decide +kernel
theorem dL_law_632 : decode cL_law 632 = .ok (.iconst 1, 1) := by decide +kernel
theorem dL_law_633 : decode cL_law 633 = .ok (.iadd, 1) := by decide +kernel
theorem dL_law_634 : decode cL_law 634 = .ok (.iaload, 1) := by decide +kernel
theorem dL_law_635 : decode cL_law 635 = .ok (.aload_n 0, 1) := by decide +kernel
theorem dL_law_636 : decode cL_law 636 = .ok (.iload_n 3, 1) := by decide +kernel
theorem dL_law_637 : decode cL_law 637 = .ok (.iconst 2, 1) := by decide +kernel
theorem dL_law_638 : decode cL_law 638 = .ok (.iadd, 1) := by decide +kernel
theorem dL_law_639 : decode cL_law 639 = .ok (.iaload, 1) := by decide +kernel
theorem dL_law_640 : decode cL_law 640 = .ok (.invokevirtual 79, 3) := by decide +kernel
theorem dL_law_643 : decode cL_law 643 = .ok (.aload_n 2, 1) := by decide +kernel
theorem dL_law_644 : decode cL_law 644 = .ok (.aload_n 0, 1) := by decide +kernel
theorem dL_law_645 : decode cL_law 645 = .ok (.iload_n 3, 1) := by decide +kernel
theorem dL_law_646 : decode cL_law 646 = .ok (.iconst 1, 1) := by decide +kernel
theorem dL_law_647 : decode cL_law 647 = .ok (.iadd, 1) := by decide +kernel
theorem dL_law_648 : decode cL_law 648 = .ok (.iaload, 1) := by decide +kernel
theorem dL_law_649 : decode cL_law 649 = .ok (.aload_n 0, 1) := by decide +kernel
theorem dL_law_650 : decode cL_law 650 = .ok (.iload_n 3, 1) := by decide +kernel
theorem dL_law_651 : decode cL_law 651 = .ok (.iconst 2, 1) := by decide +kernel
theorem dL_law_652 : decode cL_law 652 = .ok (.iadd, 1) := by decide +kernel
theorem dL_law_653 : decode cL_law 653 = .ok (.iaload, 1) := by decide +kernel
theorem dL_law_654 : decode cL_law 654 = .ok (.invokevirtual 82, 3) := by decide +kernel
theorem dL_law_657 : decode cL_law 657 = .ok (.if_icmp .eq 373, 3) := by decide +kernel
theorem dL_law_660 : decode cL_law 660 = .ok (.iconst 0, 1) := by decide +kernel
theorem dL_law_661 : decode cL_law 661 = .ok (.ireturn, 1) := by decide +kernel
theorem dL_law_662 : decode cL_law 662 = .ok (.aload_n 1, 1) := by decide +kernel
theorem dL_law_663 : decode cL_law 663 = .ok (.aload_n 0, 1) := by decide +kernel
theorem dL_law_664 : decode cL_law 664 = .ok (.iload_n 3, 1) := by decide +kernel
theorem dL_law_665 : decode cL_law 665 = .ok (.iconst 1, 1) := by decide +kernel
theorem dL_law_666 : decode cL_law 666 = .ok (.iadd, 1) := by decide +kernel
theorem dL_law_667 : decode cL_law 667 = .ok (.iaload, 1) := by decide +kernel
theorem dL_law_668 : decode cL_law 668 = .ok (.aload_n 0, 1) := by decide +kernel
theorem dL_law_669 : decode cL_law 669 = .ok (.iload_n 3, 1) := by decide +kernel
theorem dL_law_670 : decode cL_law 670 = .ok (.iconst 2, 1) := by decide +kernel
theorem dL_law_671 : decode cL_law 671 = .ok (.iadd, 1) := by decide +kernel
theorem dL_law_672 : decode cL_law 672 = .ok (.iaload, 1) := by decide +kernel
theorem dL_law_673 : decode cL_law 673 = .ok (.aload_n 0, 1) := by decide +kernel
theorem dL_law_674 : decode cL_law 674 = .ok (.iload_n 3, 1) := by decide +kernel
theorem dL_law_675 : decode cL_law 675 = .ok (.iconst 3, 1) := by decide +kernel
theorem dL_law_676 : decode cL_law 676 = .ok (.iadd, 1) := by decide +kernel
theorem dL_law_677 : decode cL_law 677 = .ok (.iaload, 1) := by decide +kernel
theorem dL_law_678 : decode cL_law 678 = .ok (.ifCond .eq 7, 3) := by decide +kernel
theorem dL_law_681 : decode cL_law 681 = .ok (.iconst 1, 1) := by decide +kernel
theorem dL_law_682 : decode cL_law 682 = .ok (.goto 4, 3) := by decide +kernel
theorem dL_law_685 : decode cL_law 685 = .ok (.iconst 0, 1) := by decide +kernel
theorem dL_law_686 : decode cL_law 686 = .ok (.aload_n 0, 1) := by decide +kernel
theorem dL_law_687 : decode cL_law 687 = .ok (.iload_n 3, 1) := by decide +kernel
theorem dL_law_688 : decode cL_law 688 = .ok (.iconst 4, 1) := by decide +kernel
theorem dL_law_689 : decode cL_law 689 = .ok (.iadd, 1) := by decide +kernel
theorem dL_law_690 : decode cL_law 690 = .ok (.iaload, 1) := by decide +kernel
theorem dL_law_691 : decode cL_law 691 = .ok (.ifCond .eq 7, 3) := by decide +kernel
theorem dL_law_694 : decode cL_law 694 = .ok (.iconst 1, 1) := by decide +kernel
theorem dL_law_695 : decode cL_law 695 = .ok (.goto 4, 3) := by decide +kernel
theorem dL_law_698 : decode cL_law 698 = .ok (.iconst 0, 1) := by decide +kernel
theorem dL_law_699 : decode cL_law 699 = .ok (.invokevirtual 83, 3) := by decide +kernel
theorem dL_law_702 : decode cL_law 702 = .ok (.aload_n 2, 1) := by decide +kernel
theorem dL_law_703 : decode cL_law 703 = .ok (.aload_n 0, 1) := by decide +kernel
theorem dL_law_704 : decode cL_law 704 = .ok (.iload_n 3, 1) := by decide +kernel
theorem dL_law_705 : decode cL_law 705 = .ok (.iconst 1, 1) := by decide +kernel
theorem dL_law_706 : decode cL_law 706 = .ok (.iadd, 1) := by decide +kernel
theorem dL_law_707 : decode cL_law 707 = .ok (.iaload, 1) := by decide +kernel
theorem dL_law_708 : decode cL_law 708 = .ok (.aload_n 0, 1) := by decide +kernel
theorem dL_law_709 : decode cL_law 709 = .ok (.iload_n 3, 1) := by decide +kernel
theorem dL_law_710 : decode cL_law 710 = .ok (.iconst 2, 1) := by decide +kernel
theorem dL_law_711 : decode cL_law 711 = .ok (.iadd, 1) := by decide +kernel
theorem dL_law_712 : decode cL_law 712 = .ok (.iaload, 1) := by decide +kernel
theorem dL_law_713 : decode cL_law 713 = .ok (.aload_n 0, 1) := by decide +kernel
theorem dL_law_714 : decode cL_law 714 = .ok (.iload_n 3, 1) := by decide +kernel
theorem dL_law_715 : decode cL_law 715 = .ok (.iconst 3, 1) := by decide +kernel
theorem dL_law_716 : decode cL_law 716 = .ok (.iadd, 1) := by decide +kernel
theorem dL_law_717 : decode cL_law 717 = .ok (.iaload, 1) := by decide +kernel
theorem dL_law_718 : decode cL_law 718 = .ok (.ifCond .eq 7, 3) := by decide +kernel
theorem dL_law_721 : decode cL_law 721 = .ok (.iconst 1, 1) := by decide +kernel
theorem dL_law_722 : decode cL_law 722 = .ok (.goto 4, 3) := by decide +kernel
theorem dL_law_725 : decode cL_law 725 = .ok (.iconst 0, 1) := by decide +kernel
theorem dL_law_726 : decode cL_law 726 = .ok (.aload_n 0, 1) := by decide +kernel
theorem dL_law_727 : decode cL_law 727 = .ok (.iload_n 3, 1) := by decide +kernel
theorem dL_law_728 : decode cL_law 728 = .ok (.iconst 4, 1) := by decide +kernel
theorem dL_law_729 : decode cL_law 729 = .ok (.iadd, 1) := by decide +kernel
theorem dL_law_730 : decode cL_law 730 = .ok (.iaload, 1) := by decide +kernel
theorem dL_law_731 : decode cL_law 731 = .ok (.ifCond .eq 7, 3) := by decide +kernel
theorem dL_law_734 : decode cL_law 734 = .ok (.iconst 1, 1) := by decide +kernel
theorem dL_law_735 : decode cL_law 735 = .ok (.goto 4, 3) := by decide +kernel
theorem dL_law_738 : decode cL_law 738 = .ok (.iconst 0, 1) := by decide +kernel
theorem dL_law_739 : decode cL_law 739 = .ok (.invokevirtual 87, 3) := by decide +kernel
theorem dL_law_742 : decode cL_law 742 = .ok (.if_icmp .eq 288, 3) := by decide +kernel
theorem dL_law_745 : decode cL_law 745 = .ok (.iconst 0, 1) := by decide +kernel
theorem dL_law_746 : decode cL_law 746 = .ok (.ireturn, 1) := by decide +kernel
theorem dL_law_747 : decode cL_law 747 = .ok (.aload_n 1, 1) := by decide +kernel
theorem dL_law_748 : decode cL_law 748 = .ok (.aload_n 0, 1) := by decide +kernel
theorem dL_law_749 : decode cL_law 749 = .ok (.iload_n 3, 1) := by decide +kernel
theorem dL_law_750 : decode cL_law 750 = .ok (.iconst 1, 1) := by decide +kernel
theorem dL_law_751 : decode cL_law 751 = .ok (.iadd, 1) := by decide +kernel
theorem dL_law_752 : decode cL_law 752 = .ok (.iaload, 1) := by decide +kernel
theorem dL_law_753 : decode cL_law 753 = .ok (.aload_n 0, 1) := by decide +kernel
theorem dL_law_754 : decode cL_law 754 = .ok (.iload_n 3, 1) := by decide +kernel
theorem dL_law_755 : decode cL_law 755 = .ok (.iconst 2, 1) := by decide +kernel
theorem dL_law_756 : decode cL_law 756 = .ok (.iadd, 1) := by decide +kernel
theorem dL_law_757 : decode cL_law 757 = .ok (.iaload, 1) := by decide +kernel
theorem dL_law_758 : decode cL_law 758 = .ok (.aload_n 0, 1) := by decide +kernel
theorem dL_law_759 : decode cL_law 759 = .ok (.iload_n 3, 1) := by decide +kernel
theorem dL_law_760 : decode cL_law 760 = .ok (.iconst 3, 1) := by decide +kernel
theorem dL_law_761 : decode cL_law 761 = .ok (.iadd, 1) := by decide +kernel
theorem dL_law_762 : decode cL_law 762 = .ok (.iaload, 1) := by decide +kernel
theorem dL_law_763 : decode cL_law 763 = .ok (.ifCond .eq 7, 3) := by decide +kernel
theorem dL_law_766 : decode cL_law 766 = .ok (.iconst 1, 1) := by decide +kernel
theorem dL_law_767 : decode cL_law 767 = .ok (.goto 4, 3) := by decide +kernel
theorem dL_law_770 : decode cL_law 770 = .ok (.iconst 0, 1) := by decide +kernel
theorem dL_law_771 : decode cL_law 771 = .ok (.invokevirtual 88, 3) := by decide +kernel
theorem dL_law_774 : decode cL_law 774 = .ok (.aload_n 2, 1) := by decide +kernel
theorem dL_law_775 : decode cL_law 775 = .ok (.aload_n 0, 1) := by decide +kernel
theorem dL_law_776 : decode cL_law 776 = .ok (.iload_n 3, 1) := by decide +kernel
theorem dL_law_777 : decode cL_law 777 = .ok (.iconst 1, 1) := by decide +kernel
theorem dL_law_778 : decode cL_law 778 = .ok (.iadd, 1) := by decide +kernel
theorem dL_law_779 : decode cL_law 779 = .ok (.iaload, 1) := by decide +kernel
theorem dL_law_780 : decode cL_law 780 = .ok (.aload_n 0, 1) := by decide +kernel
theorem dL_law_781 : decode cL_law 781 = .ok (.iload_n 3, 1) := by decide +kernel
theorem dL_law_782 : decode cL_law 782 = .ok (.iconst 2, 1) := by decide +kernel
theorem dL_law_783 : decode cL_law 783 = .ok (.iadd, 1) := by decide +kernel
theorem dL_law_784 : decode cL_law 784 = .ok (.iaload, 1) := by decide +kernel
theorem dL_law_785 : decode cL_law 785 = .ok (.aload_n 0, 1) := by decide +kernel
theorem dL_law_786 : decode cL_law 786 = .ok (.iload_n 3, 1) := by decide +kernel
theorem dL_law_787 : decode cL_law 787 = .ok (.iconst 3, 1) := by decide +kernel
theorem dL_law_788 : decode cL_law 788 = .ok (.iadd, 1) := by decide +kernel
theorem dL_law_789 : decode cL_law 789 = .ok (.iaload, 1) := by decide +kernel
theorem dL_law_790 : decode cL_law 790 = .ok (.ifCond .eq 7, 3) := by decide +kernel
theorem dL_law_793 : decode cL_law 793 = .ok (.iconst 1, 1) := by decide +kernel
theorem dL_law_794 : decode cL_law 794 = .ok (.goto 4, 3) := by decide +kernel
theorem dL_law_797 : decode cL_law 797 = .ok (.iconst 0, 1) := by decide +kernel
theorem dL_law_798 : decode cL_law 798 = .ok (.invokevirtual 92, 3) := by decide +kernel
theorem dL_law_801 : decode cL_law 801 = .ok (.if_icmp .eq 229, 3) := by decide +kernel
theorem dL_law_804 : decode cL_law 804 = .ok (.iconst 0, 1) := by decide +kernel
theorem dL_law_805 : decode cL_law 805 = .ok (.ireturn, 1) := by decide +kernel
theorem dL_law_806 : decode cL_law 806 = .ok (.aload_n 1, 1) := by decide +kernel
theorem dL_law_807 : decode cL_law 807 = .ok (.aload_n 0, 1) := by decide +kernel
theorem dL_law_808 : decode cL_law 808 = .ok (.iload_n 3, 1) := by decide +kernel
theorem dL_law_809 : decode cL_law 809 = .ok (.iconst 1, 1) := by decide +kernel
theorem dL_law_810 : decode cL_law 810 = .ok (.iadd, 1) := by decide +kernel
theorem dL_law_811 : decode cL_law 811 = .ok (.iaload, 1) := by decide +kernel
theorem dL_law_812 : decode cL_law 812 = .ok (.invokevirtual 93, 3) := by decide +kernel
theorem dL_law_815 : decode cL_law 815 = .ok (.aload_n 2, 1) := by decide +kernel
theorem dL_law_816 : decode cL_law 816 = .ok (.aload_n 0, 1) := by decide +kernel
theorem dL_law_817 : decode cL_law 817 = .ok (.iload_n 3, 1) := by decide +kernel
theorem dL_law_818 : decode cL_law 818 = .ok (.iconst 1, 1) := by decide +kernel
theorem dL_law_819 : decode cL_law 819 = .ok (.iadd, 1) := by decide +kernel
theorem dL_law_820 : decode cL_law 820 = .ok (.iaload, 1) := by decide +kernel
theorem dL_law_821 : decode cL_law 821 = .ok (.invokevirtual 96, 3) := by decide +kernel
theorem dL_law_824 : decode cL_law 824 = .ok (.if_icmp .eq 206, 3) := by decide +kernel
theorem dL_law_827 : decode cL_law 827 = .ok (.iconst 0, 1) := by decide +kernel
theorem dL_law_828 : decode cL_law 828 = .ok (.ireturn, 1) := by decide +kernel
theorem dL_law_829 : decode cL_law 829 = .ok (.aload_n 1, 1) := by decide +kernel
theorem dL_law_830 : decode cL_law 830 = .ok (.invokevirtual 97, 3) := by decide +kernel
theorem dL_law_833 : decode cL_law 833 = .ok (.aload_n 2, 1) := by decide +kernel
theorem dL_law_834 : decode cL_law 834 = .ok (.invokevirtual 100, 3) := by decide +kernel
theorem dL_law_837 : decode cL_law 837 = .ok (.if_icmp .eq 193, 3) := by decide +kernel
theorem dL_law_840 : decode cL_law 840 = .ok (.iconst 0, 1) := by decide +kernel
theorem dL_law_841 : decode cL_law 841 = .ok (.ireturn, 1) := by decide +kernel
theorem dL_law_842 : decode cL_law 842 = .ok (.aload_n 1, 1) := by decide +kernel
theorem dL_law_843 : decode cL_law 843 = .ok (.aload_n 0, 1) := by decide +kernel
theorem dL_law_844 : decode cL_law 844 = .ok (.iload_n 3, 1) := by decide +kernel
theorem dL_law_845 : decode cL_law 845 = .ok (.iconst 1, 1) := by decide +kernel
theorem dL_law_846 : decode cL_law 846 = .ok (.iadd, 1) := by decide +kernel
theorem dL_law_847 : decode cL_law 847 = .ok (.iaload, 1) := by decide +kernel
theorem dL_law_848 : decode cL_law 848 = .ok (.invokevirtual 101, 3) := by decide +kernel
theorem dL_law_851 : decode cL_law 851 = .ok (.aload_n 2, 1) := by decide +kernel
theorem dL_law_852 : decode cL_law 852 = .ok (.aload_n 0, 1) := by decide +kernel
theorem dL_law_853 : decode cL_law 853 = .ok (.iload_n 3, 1) := by decide +kernel
theorem dL_law_854 : decode cL_law 854 = .ok (.iconst 1, 1) := by decide +kernel
theorem dL_law_855 : decode cL_law 855 = .ok (.iadd, 1) := by decide +kernel
theorem dL_law_856 : decode cL_law 856 = .ok (.iaload, 1) := by decide +kernel
theorem dL_law_857 : decode cL_law 857 = .ok (.invokevirtual 104, 3) := by decide +kernel
theorem dL_law_860 : decode cL_law 860 = .ok (.if_icmp .eq 170, 3) := by decide +kernel
theorem dL_law_863 : decode cL_law 863 = .ok (.iconst 0, 1) := by decide +kernel
theorem dL_law_864 : decode cL_law 864 = .ok (.ireturn, 1) := by decide +kernel
theorem dL_law_865 : decode cL_law 865 = .ok (.aload_n 1, 1) := by decide +kernel
theorem dL_law_866 : decode cL_law 866 = .ok (.aload_n 0, 1) := by decide +kernel
theorem dL_law_867 : decode cL_law 867 = .ok (.iload_n 3, 1) := by decide +kernel
theorem dL_law_868 : decode cL_law 868 = .ok (.iconst 1, 1) := by decide +kernel
theorem dL_law_869 : decode cL_law 869 = .ok (.iadd, 1) := by decide +kernel
theorem dL_law_870 : decode cL_law 870 = .ok (.iaload, 1) := by decide +kernel
theorem dL_law_871 : decode cL_law 871 = .ok (.aload_n 0, 1) := by decide +kernel
theorem dL_law_872 : decode cL_law 872 = .ok (.iload_n 3, 1) := by decide +kernel
theorem dL_law_873 : decode cL_law 873 = .ok (.iconst 2, 1) := by decide +kernel
theorem dL_law_874 : decode cL_law 874 = .ok (.iadd, 1) := by decide +kernel
theorem dL_law_875 : decode cL_law 875 = .ok (.iaload, 1) := by decide +kernel
theorem dL_law_876 : decode cL_law 876 = .ok (.aload_n 0, 1) := by decide +kernel
theorem dL_law_877 : decode cL_law 877 = .ok (.iload_n 3, 1) := by decide +kernel
theorem dL_law_878 : decode cL_law 878 = .ok (.iconst 3, 1) := by decide +kernel
theorem dL_law_879 : decode cL_law 879 = .ok (.iadd, 1) := by decide +kernel
theorem dL_law_880 : decode cL_law 880 = .ok (.iaload, 1) := by decide +kernel
theorem dL_law_881 : decode cL_law 881 = .ok (.invokevirtual 105, 3) := by decide +kernel
theorem dL_law_884 : decode cL_law 884 = .ok (.aload_n 2, 1) := by decide +kernel
theorem dL_law_885 : decode cL_law 885 = .ok (.aload_n 0, 1) := by decide +kernel
theorem dL_law_886 : decode cL_law 886 = .ok (.iload_n 3, 1) := by decide +kernel
theorem dL_law_887 : decode cL_law 887 = .ok (.iconst 1, 1) := by decide +kernel
theorem dL_law_888 : decode cL_law 888 = .ok (.iadd, 1) := by decide +kernel
theorem dL_law_889 : decode cL_law 889 = .ok (.iaload, 1) := by decide +kernel
theorem dL_law_890 : decode cL_law 890 = .ok (.aload_n 0, 1) := by decide +kernel
theorem dL_law_891 : decode cL_law 891 = .ok (.iload_n 3, 1) := by decide +kernel
theorem dL_law_892 : decode cL_law 892 = .ok (.iconst 2, 1) := by decide +kernel
theorem dL_law_893 : decode cL_law 893 = .ok (.iadd, 1) := by decide +kernel
theorem dL_law_894 : decode cL_law 894 = .ok (.iaload, 1) := by decide +kernel
theorem dL_law_895 : decode cL_law 895 = .ok (.aload_n 0, 1) := by decide +kernel
theorem dL_law_896 : decode cL_law 896 = .ok (.iload_n 3, 1) := by decide +kernel
theorem dL_law_897 : decode cL_law 897 = .ok (.iconst 3, 1) := by decide +kernel
theorem dL_law_898 : decode cL_law 898 = .ok (.iadd, 1) := by decide +kernel
theorem dL_law_899 : decode cL_law 899 = .ok (.iaload, 1) := by decide +kernel
theorem dL_law_900 : decode cL_law 900 = .ok (.invokevirtual 108, 3) := by decide +kernel
theorem dL_law_903 : decode cL_law 903 = .ok (.if_icmp .eq 127, 3) := by decide +kernel
theorem dL_law_906 : decode cL_law 906 = .ok (.iconst 0, 1) := by decide +kernel
theorem dL_law_907 : decode cL_law 907 = .ok (.ireturn, 1) := by decide +kernel
theorem dL_law_908 : decode cL_law 908 = .ok (.aload_n 1, 1) := by decide +kernel
theorem dL_law_909 : decode cL_law 909 = .ok (.aload_n 0, 1) := by decide +kernel
theorem dL_law_910 : decode cL_law 910 = .ok (.iload_n 3, 1) := by decide +kernel
theorem dL_law_911 : decode cL_law 911 = .ok (.iconst 1, 1) := by decide +kernel
theorem dL_law_912 : decode cL_law 912 = .ok (.iadd, 1) := by decide +kernel
theorem dL_law_913 : decode cL_law 913 = .ok (.iaload, 1) := by decide +kernel
theorem dL_law_914 : decode cL_law 914 = .ok (.aload_n 0, 1) := by decide +kernel
theorem dL_law_915 : decode cL_law 915 = .ok (.iload_n 3, 1) := by decide +kernel
theorem dL_law_916 : decode cL_law 916 = .ok (.iconst 2, 1) := by decide +kernel
theorem dL_law_917 : decode cL_law 917 = .ok (.iadd, 1) := by decide +kernel
theorem dL_law_918 : decode cL_law 918 = .ok (.iaload, 1) := by decide +kernel
theorem dL_law_919 : decode cL_law 919 = .ok (.invokevirtual 109, 3) := by decide +kernel
theorem dL_law_922 : decode cL_law 922 = .ok (.aload_n 2, 1) := by decide +kernel
theorem dL_law_923 : decode cL_law 923 = .ok (.aload_n 0, 1) := by decide +kernel
theorem dL_law_924 : decode cL_law 924 = .ok (.iload_n 3, 1) := by decide +kernel
theorem dL_law_925 : decode cL_law 925 = .ok (.iconst 1, 1) := by decide +kernel
theorem dL_law_926 : decode cL_law 926 = .ok (.iadd, 1) := by decide +kernel
theorem dL_law_927 : decode cL_law 927 = .ok (.iaload, 1) := by decide +kernel
theorem dL_law_928 : decode cL_law 928 = .ok (.aload_n 0, 1) := by decide +kernel
theorem dL_law_929 : decode cL_law 929 = .ok (.iload_n 3, 1) := by decide +kernel
theorem dL_law_930 : decode cL_law 930 = .ok (.iconst 2, 1) := by decide +kernel
theorem dL_law_931 : decode cL_law 931 = .ok (.iadd, 1) := by decide +kernel
theorem dL_law_932 : decode cL_law 932 = .ok (.iaload, 1) := by decide +kernel
theorem dL_law_933 : decode cL_law 933 = .ok (.invokevirtual 112, 3) := by decide +kernel
theorem dL_law_936 : decode cL_law 936 = .ok (.if_icmp .eq 94, 3) := by decide +kernel
theorem dL_law_939 : decode cL_law 939 = .ok (.iconst 0, 1) := by decide +kernel
theorem dL_law_940 : decode cL_law 940 = .ok (.ireturn, 1) := by decide +kernel
theorem dL_law_941 : decode cL_law 941 = .ok (.aload_n 1, 1) := by decide +kernel
theorem dL_law_942 : decode cL_law 942 = .ok (.aload_n 0, 1) := by decide +kernel
theorem dL_law_943 : decode cL_law 943 = .ok (.iload_n 3, 1) := by decide +kernel
theorem dL_law_944 : decode cL_law 944 = .ok (.iconst 1, 1) := by decide +kernel
theorem dL_law_945 : decode cL_law 945 = .ok (.iadd, 1) := by decide +kernel
theorem dL_law_946 : decode cL_law 946 = .ok (.iaload, 1) := by decide +kernel
theorem dL_law_947 : decode cL_law 947 = .ok (.aload_n 0, 1) := by decide +kernel
theorem dL_law_948 : decode cL_law 948 = .ok (.iload_n 3, 1) := by decide +kernel
theorem dL_law_949 : decode cL_law 949 = .ok (.iconst 2, 1) := by decide +kernel
theorem dL_law_950 : decode cL_law 950 = .ok (.iadd, 1) := by decide +kernel
theorem dL_law_951 : decode cL_law 951 = .ok (.iaload, 1) := by decide +kernel
theorem dL_law_952 : decode cL_law 952 = .ok (.aload_n 0, 1) := by decide +kernel
theorem dL_law_953 : decode cL_law 953 = .ok (.iload_n 3, 1) := by decide +kernel
theorem dL_law_954 : decode cL_law 954 = .ok (.iconst 3, 1) := by decide +kernel
theorem dL_law_955 : decode cL_law 955 = .ok (.iadd, 1) := by decide +kernel
theorem dL_law_956 : decode cL_law 956 = .ok (.iaload, 1) := by decide +kernel
theorem dL_law_957 : decode cL_law 957 = .ok (.invokevirtual 113, 3) := by decide +kernel
theorem dL_law_960 : decode cL_law 960 = .ok (.aload_n 2, 1) := by decide +kernel
theorem dL_law_961 : decode cL_law 961 = .ok (.aload_n 0, 1) := by decide +kernel
theorem dL_law_962 : decode cL_law 962 = .ok (.iload_n 3, 1) := by decide +kernel
theorem dL_law_963 : decode cL_law 963 = .ok (.iconst 1, 1) := by decide +kernel
theorem dL_law_964 : decode cL_law 964 = .ok (.iadd, 1) := by decide +kernel
theorem dL_law_965 : decode cL_law 965 = .ok (.iaload, 1) := by decide +kernel
theorem dL_law_966 : decode cL_law 966 = .ok (.aload_n 0, 1) := by decide +kernel
theorem dL_law_967 : decode cL_law 967 = .ok (.iload_n 3, 1) := by decide +kernel
theorem dL_law_968 : decode cL_law 968 = .ok (.iconst 2, 1) := by decide +kernel
theorem dL_law_969 : decode cL_law 969 = .ok (.iadd, 1) := by decide +kernel
theorem dL_law_970 : decode cL_law 970 = .ok (.iaload, 1) := by decide +kernel
theorem dL_law_971 : decode cL_law 971 = .ok (.aload_n 0, 1) := by decide +kernel
theorem dL_law_972 : decode cL_law 972 = .ok (.iload_n 3, 1) := by decide +kernel
theorem dL_law_973 : decode cL_law 973 = .ok (.iconst 3, 1) := by decide +kernel
theorem dL_law_974 : decode cL_law 974 = .ok (.iadd, 1) := by decide +kernel
theorem dL_law_975 : decode cL_law 975 = .ok (.iaload, 1) := by decide +kernel
theorem dL_law_976 : decode cL_law 976 = .ok (.invokevirtual 116, 3) := by decide +kernel
theorem dL_law_979 : decode cL_law 979 = .ok (.if_icmp .eq 51, 3) := by decide +kernel
theorem dL_law_982 : decode cL_law 982 = .ok (.iconst 0, 1) := by decide +kernel
theorem dL_law_983 : decode cL_law 983 = .ok (.ireturn, 1) := by decide +kernel
theorem dL_law_984 : decode cL_law 984 = .ok (.aload_n 1, 1) := by decide +kernel
theorem dL_law_985 : decode cL_law 985 = .ok (.invokevirtual 117, 3) := by decide +kernel
theorem dL_law_988 : decode cL_law 988 = .ok (.aload_n 2, 1) := by decide +kernel
theorem dL_law_989 : decode cL_law 989 = .ok (.invokevirtual 120, 3) := by decide +kernel
theorem dL_law_992 : decode cL_law 992 = .ok (.if_icmp .eq 38, 3) := by decide +kernel
theorem dL_law_995 : decode cL_law 995 = .ok (.iconst 0, 1) := by decide +kernel
theorem dL_law_996 : decode cL_law 996 = .ok (.ireturn, 1) := by decide +kernel
theorem dL_law_997 : decode cL_law 997 = .ok (.aload_n 1, 1) := by decide +kernel
theorem dL_law_998 : decode cL_law 998 = .ok (.aload_n 0, 1) := by decide +kernel
theorem dL_law_999 : decode cL_law 999 = .ok (.iload_n 3, 1) := by decide +kernel
theorem dL_law_1000 : decode cL_law 1000 = .ok (.iconst 1, 1) := by decide +kernel
theorem dL_law_1001 : decode cL_law 1001 = .ok (.iadd, 1) := by decide +kernel
theorem dL_law_1002 : decode cL_law 1002 = .ok (.iaload, 1) := by decide +kernel
theorem dL_law_1003 : decode cL_law 1003 = .ok (.aload_n 0, 1) := by decide +kernel
theorem dL_law_1004 : decode cL_law 1004 = .ok (.iload_n 3, 1) := by decide +kernel
theorem dL_law_1005 : decode cL_law 1005 = .ok (.iconst 2, 1) := by decide +kernel
theorem dL_law_1006 : decode cL_law 1006 = .ok (.iadd, 1) := by decide +kernel
theorem dL_law_1007 : decode cL_law 1007 = .ok (.iaload, 1) := by decide +kernel
theorem dL_law_1008 : decode cL_law 1008 = .ok (.invokevirtual 121, 3) := by decide +kernel
theorem dL_law_1011 : decode cL_law 1011 = .ok (.aload_n 2, 1) := by decide +kernel
theorem dL_law_1012 : decode cL_law 1012 = .ok (.aload_n 0, 1) := by decide +kernel
theorem dL_law_1013 : decode cL_law 1013 = .ok (.iload_n 3, 1) := by decide +kernel
theorem dL_law_1014 : decode cL_law 1014 = .ok (.iconst 1, 1) := by decide +kernel
theorem dL_law_1015 : decode cL_law 1015 = .ok (.iadd, 1) := by decide +kernel
theorem dL_law_1016 : decode cL_law 1016 = .ok (.iaload, 1) := by decide +kernel
theorem dL_law_1017 : decode cL_law 1017 = .ok (.aload_n 0, 1) := by decide +kernel
theorem dL_law_1018 : decode cL_law 1018 = .ok (.iload_n 3, 1) := by decide +kernel
theorem dL_law_1019 : decode cL_law 1019 = .ok (.iconst 2, 1) := by decide +kernel
theorem dL_law_1020 : decode cL_law 1020 = .ok (.iadd, 1) := by decide +kernel
theorem dL_law_1021 : decode cL_law 1021 = .ok (.iaload, 1) := by decide +kernel
theorem dL_law_1022 : decode cL_law 1022 = .ok (.invokevirtual 124, 3) := by decide +kernel
theorem dL_law_1025 : decode cL_law 1025 = .ok (.if_icmp .eq 5, 3) := by decide +kernel
theorem dL_law_1028 : decode cL_law 1028 = .ok (.iconst 0, 1) := by decide +kernel
theorem dL_law_1029 : decode cL_law 1029 = .ok (.ireturn, 1) := by decide +kernel
theorem dL_law_1030 : decode cL_law 1030 = .ok (.iinc 3 6, 3) := by decide +kernel
theorem dL_law_1033 : decode cL_law 1033 = .ok (.goto (-1015), 3) := by decide +kernel
theorem dL_law_1036 : decode cL_law 1036 = .ok (.iconst 1, 1) := by decide +kernel
theorem dL_law_1037 : decode cL_law 1037 = .ok (.ireturn, 1) := by decide +kernel
