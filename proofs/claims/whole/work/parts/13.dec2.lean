theorem dX7_lay_145 : decode cX7_lay 145 = .ok (.iconst 1, 1) := by decide +kernel
theorem dX7_lay_146 : decode cX7_lay 146 = .ok (.iadd, 1) := by decide +kernel
theorem dX7_lay_147 : decode cX7_lay 147 = .ok (.iastore, 1) := by decide +kernel
theorem dX7_lay_148 : decode cX7_lay 148 = .ok (.iinc 3 1, 3) := by decide +kernel
theorem dX7_lay_151 : decode cX7_lay 151 = .ok (.goto (-118), 3) := by decide +kernel
theorem dX7_lay_154 : decode cX7_lay 154 = .ok (.iinc 2 1, 3) := by decide +kernel
theorem dX7_lay_157 : decode cX7_lay 157 = .ok (.goto (-134), 3) := by decide +kernel
theorem dX7_lay_160 : decode cX7_lay 160 = .ok (.iconst 1, 1) := by decide +kernel
theorem dX7_lay_161 : decode cX7_lay 161 = .ok (.istore_n 2, 1) := by decide +kernel
theorem dX7_lay_162 : decode cX7_lay 162 = .ok (.iload_n 2, 1) := by decide +kernel
theorem dX7_lay_163 : decode cX7_lay 163 = .ok (.bipush 6, 2) := by decide +kernel
theorem dX7_lay_165 : decode cX7_lay 165 = .ok (.if_icmp .gt 23, 3) := by decide +kernel
theorem dX7_lay_168 : decode cX7_lay 168 = .ok (.iload_n 1, 1) := by decide +kernel
theorem dX7_lay_169 : decode cX7_lay 169 = .ok (.iload_n 2, 1) := by decide +kernel
theorem dX7_lay_170 : decode cX7_lay 170 = .ok (.ishr, 1) := by decide +kernel
theorem dX7_lay_171 : decode cX7_lay 171 = .ok (.iconst 1, 1) := by decide +kernel
theorem dX7_lay_172 : decode cX7_lay 172 = .ok (.iand, 1) := by decide +kernel
theorem dX7_lay_173 : decode cX7_lay 173 = .ok (.iconst 1, 1) := by decide +kernel
theorem dX7_lay_174 : decode cX7_lay 174 = .ok (.if_icmp .ne 8, 3) := by decide +kernel
theorem dX7_lay_177 : decode cX7_lay 177 = .ok (.aload_n 0, 1) := by decide +kernel
theorem dX7_lay_178 : decode cX7_lay 178 = .ok (.iload_n 2, 1) := by decide +kernel
theorem dX7_lay_179 : decode cX7_lay 179 = .ok (.invokevirtual 93, 3) := by decide +kernel
theorem dX7_lay_182 : decode cX7_lay 182 = .ok (.iinc 2 1, 3) := by decide +kernel
theorem dX7_lay_185 : decode cX7_lay 185 = .ok (.goto (-23), 3) := by decide +kernel
theorem dX7_lay_188 : decode cX7_lay 188 = .ok (.return_, 1) := by decide +kernel
theorem dX7_way_0 : decode cX7_way 0 = .ok (.aload_n 0, 1) := by decide +kernel
theorem dX7_way_1 : decode cX7_way 1 = .ok (.getfield 42, 3) := by decide +kernel
theorem dX7_way_4 : decode cX7_way 4 = .ok (.sipush 288, 3) := by decide +kernel
theorem dX7_way_7 : decode cX7_way 7 = .ok (.iload_n 1, 1) := by decide +kernel
theorem dX7_way_8 : decode cX7_way 8 = .ok (.imul, 1) := by decide +kernel
theorem dX7_way_9 : decode cX7_way 9 = .ok (.iload_n 2, 1) := by decide +kernel
theorem dX7_way_10 : decode cX7_way 10 = .ok (.iadd, 1) := by decide +kernel
theorem dX7_way_11 : decode cX7_way 11 = .ok (.iaload, 1) := by decide +kernel
theorem dX7_way_12 : decode cX7_way 12 = .ok (.aload_n 0, 1) := by decide +kernel
theorem dX7_way_13 : decode cX7_way 13 = .ok (.getfield 42, 3) := by decide +kernel
theorem dX7_way_16 : decode cX7_way 16 = .ok (.sipush 288, 3) := by decide +kernel
theorem dX7_way_19 : decode cX7_way 19 = .ok (.iload_n 1, 1) := by decide +kernel
theorem dX7_way_20 : decode cX7_way 20 = .ok (.imul, 1) := by decide +kernel
theorem dX7_way_21 : decode cX7_way 21 = .ok (.iload_n 3, 1) := by decide +kernel
theorem dX7_way_22 : decode cX7_way 22 = .ok (.iadd, 1) := by decide +kernel
theorem dX7_way_23 : decode cX7_way 23 = .ok (.iaload, 1) := by decide +kernel
theorem dX7_way_24 : decode cX7_way 24 = .ok (.isub, 1) := by decide +kernel
theorem dX7_way_25 : decode cX7_way 25 = .ok (.istore 4, 2) := by decide +kernel
theorem dX7_way_27 : decode cX7_way 27 = .ok (.aload_n 0, 1) := by decide +kernel
theorem dX7_way_28 : decode cX7_way 28 = .ok (.getfield 45, 3) := by decide +kernel
theorem dX7_way_31 : decode cX7_way 31 = .ok (.sipush 288, 3) := by decide +kernel
theorem dX7_way_34 : decode cX7_way 34 = .ok (.iload_n 1, 1) := by decide +kernel
theorem dX7_way_35 : decode cX7_way 35 = .ok (.imul, 1) := by decide +kernel
theorem dX7_way_36 : decode cX7_way 36 = .ok (.iload_n 2, 1) := by decide +kernel
theorem dX7_way_37 : decode cX7_way 37 = .ok (.iadd, 1) := by decide +kernel
theorem dX7_way_38 : decode cX7_way 38 = .ok (.iaload, 1) := by decide +kernel
theorem dX7_way_39 : decode cX7_way 39 = .ok (.aload_n 0, 1) := by decide +kernel
theorem dX7_way_40 : decode cX7_way 40 = .ok (.getfield 45, 3) := by decide +kernel
theorem dX7_way_43 : decode cX7_way 43 = .ok (.sipush 288, 3) := by decide +kernel
theorem dX7_way_46 : decode cX7_way 46 = .ok (.iload_n 1, 1) := by decide +kernel
theorem dX7_way_47 : decode cX7_way 47 = .ok (.imul, 1) := by decide +kernel
theorem dX7_way_48 : decode cX7_way 48 = .ok (.iload_n 3, 1) := by decide +kernel
theorem dX7_way_49 : decode cX7_way 49 = .ok (.iadd, 1) := by decide +kernel
theorem dX7_way_50 : decode cX7_way 50 = .ok (.iaload, 1) := by decide +kernel
theorem dX7_way_51 : decode cX7_way 51 = .ok (.isub, 1) := by decide +kernel
theorem dX7_way_52 : decode cX7_way 52 = .ok (.istore 5, 2) := by decide +kernel
theorem dX7_way_54 : decode cX7_way 54 = .ok (.bipush 10, 2) := by decide +kernel
theorem dX7_way_56 : decode cX7_way 56 = .ok (.iload 4, 2) := by decide +kernel
theorem dX7_way_58 : decode cX7_way 58 = .ok (.ifCond .ge 9, 3) := by decide +kernel
theorem dX7_way_61 : decode cX7_way 61 = .ok (.iload 4, 2) := by decide +kernel
theorem dX7_way_63 : decode cX7_way 63 = .ok (.ineg, 1) := by decide +kernel
theorem dX7_way_64 : decode cX7_way 64 = .ok (.goto 5, 3) := by decide +kernel
theorem dX7_way_67 : decode cX7_way 67 = .ok (.iload 4, 2) := by decide +kernel
theorem dX7_way_69 : decode cX7_way 69 = .ok (.iload 5, 2) := by decide +kernel
theorem dX7_way_71 : decode cX7_way 71 = .ok (.ifCond .ge 9, 3) := by decide +kernel
theorem dX7_way_74 : decode cX7_way 74 = .ok (.iload 5, 2) := by decide +kernel
theorem dX7_way_76 : decode cX7_way 76 = .ok (.ineg, 1) := by decide +kernel
theorem dX7_way_77 : decode cX7_way 77 = .ok (.goto 5, 3) := by decide +kernel
theorem dX7_way_80 : decode cX7_way 80 = .ok (.iload 5, 2) := by decide +kernel
theorem dX7_way_82 : decode cX7_way 82 = .ok (.iadd, 1) := by decide +kernel
theorem dX7_way_83 : decode cX7_way 83 = .ok (.imul, 1) := by decide +kernel
theorem dX7_way_84 : decode cX7_way 84 = .ok (.ireturn, 1) := by decide +kernel
theorem dX7_costs_0 : decode cX7_costs 0 = .ok (.aload_n 0, 1) := by decide +kernel
theorem dX7_costs_1 : decode cX7_costs 1 = .ok (.iload_n 1, 1) := by decide +kernel
theorem dX7_costs_2 : decode cX7_costs 2 = .ok (.iload_n 2, 1) := by decide +kernel
theorem dX7_costs_3 : decode cX7_costs 3 = .ok (.iload_n 3, 1) := by decide +kernel
theorem dX7_costs_4 : decode cX7_costs 4 = .ok (.invokevirtual 96, 3) := by decide +kernel
theorem dX7_costs_7 : decode cX7_costs 7 = .ok (.aload_n 0, 1) := by decide +kernel
theorem dX7_costs_8 : decode cX7_costs 8 = .ok (.getfield 7, 3) := by decide +kernel
theorem dX7_costs_11 : decode cX7_costs 11 = .ok (.if_icmp .gt 13, 3) := by decide +kernel
theorem dX7_costs_14 : decode cX7_costs 14 = .ok (.aload_n 0, 1) := by decide +kernel
theorem dX7_costs_15 : decode cX7_costs 15 = .ok (.iload_n 1, 1) := by decide +kernel
theorem dX7_costs_16 : decode cX7_costs 16 = .ok (.iload_n 2, 1) := by decide +kernel
theorem dX7_costs_17 : decode cX7_costs 17 = .ok (.iload_n 3, 1) := by decide +kernel
theorem dX7_costs_18 : decode cX7_costs 18 = .ok (.invokevirtual 96, 3) := by decide +kernel
theorem dX7_costs_21 : decode cX7_costs 21 = .ok (.goto 9, 3) := by decide +kernel
theorem dX7_costs_24 : decode cX7_costs 24 = .ok (.iconst 2, 1) := by decide +kernel
theorem dX7_costs_25 : decode cX7_costs 25 = .ok (.aload_n 0, 1) := by decide +kernel
theorem dX7_costs_26 : decode cX7_costs 26 = .ok (.getfield 13, 3) := by decide +kernel
theorem dX7_costs_29 : decode cX7_costs 29 = .ok (.imul, 1) := by decide +kernel
theorem dX7_costs_30 : decode cX7_costs 30 = .ok (.ireturn, 1) := by decide +kernel
theorem dX7_layOrder_0 : decode cX7_layOrder 0 = .ok (.iconst 0, 1) := by decide +kernel
theorem dX7_layOrder_1 : decode cX7_layOrder 1 = .ok (.istore_n 2, 1) := by decide +kernel
theorem dX7_layOrder_2 : decode cX7_layOrder 2 = .ok (.iload_n 2, 1) := by decide +kernel
theorem dX7_layOrder_3 : decode cX7_layOrder 3 = .ok (.aload_n 0, 1) := by decide +kernel
theorem dX7_layOrder_4 : decode cX7_layOrder 4 = .ok (.getfield 39, 3) := by decide +kernel
theorem dX7_layOrder_7 : decode cX7_layOrder 7 = .ok (.iload_n 1, 1) := by decide +kernel
theorem dX7_layOrder_8 : decode cX7_layOrder 8 = .ok (.iaload, 1) := by decide +kernel
theorem dX7_layOrder_9 : decode cX7_layOrder 9 = .ok (.if_icmp .ge 16, 3) := by decide +kernel
theorem dX7_layOrder_12 : decode cX7_layOrder 12 = .ok (.aload_n 0, 1) := by decide +kernel
theorem dX7_layOrder_13 : decode cX7_layOrder 13 = .ok (.getfield 54, 3) := by decide +kernel
theorem dX7_layOrder_16 : decode cX7_layOrder 16 = .ok (.iload_n 2, 1) := by decide +kernel
theorem dX7_layOrder_17 : decode cX7_layOrder 17 = .ok (.iconst 0, 1) := by decide +kernel
theorem dX7_layOrder_18 : decode cX7_layOrder 18 = .ok (.bastore, 1) := by decide +kernel
theorem dX7_layOrder_19 : decode cX7_layOrder 19 = .ok (.iinc 2 1, 3) := by decide +kernel
theorem dX7_layOrder_22 : decode cX7_layOrder 22 = .ok (.goto (-20), 3) := by decide +kernel
theorem dX7_layOrder_25 : decode cX7_layOrder 25 = .ok (.iconst 0, 1) := by decide +kernel
theorem dX7_layOrder_26 : decode cX7_layOrder 26 = .ok (.istore_n 2, 1) := by decide +kernel
theorem dX7_layOrder_27 : decode cX7_layOrder 27 = .ok (.iconst 0, 1) := by decide +kernel
theorem dX7_layOrder_28 : decode cX7_layOrder 28 = .ok (.istore_n 3, 1) := by decide +kernel
theorem dX7_layOrder_29 : decode cX7_layOrder 29 = .ok (.iload_n 3, 1) := by decide +kernel
theorem dX7_layOrder_30 : decode cX7_layOrder 30 = .ok (.aload_n 0, 1) := by decide +kernel
theorem dX7_layOrder_31 : decode cX7_layOrder 31 = .ok (.getfield 39, 3) := by decide +kernel
theorem dX7_layOrder_34 : decode cX7_layOrder 34 = .ok (.iload_n 1, 1) := by decide +kernel
theorem dX7_layOrder_35 : decode cX7_layOrder 35 = .ok (.iaload, 1) := by decide +kernel
theorem dX7_layOrder_36 : decode cX7_layOrder 36 = .ok (.if_icmp .ge 102, 3) := by decide +kernel
theorem dX7_layOrder_39 : decode cX7_layOrder 39 = .ok (.bipush (-4), 2) := by decide +kernel
theorem dX7_layOrder_41 : decode cX7_layOrder 41 = .ok (.istore 4, 2) := by decide +kernel
theorem dX7_layOrder_43 : decode cX7_layOrder 43 = .ok (.iconst 0, 1) := by decide +kernel
theorem dX7_layOrder_44 : decode cX7_layOrder 44 = .ok (.istore 5, 2) := by decide +kernel
theorem dX7_layOrder_46 : decode cX7_layOrder 46 = .ok (.iload 5, 2) := by decide +kernel
theorem dX7_layOrder_48 : decode cX7_layOrder 48 = .ok (.aload_n 0, 1) := by decide +kernel
theorem dX7_layOrder_49 : decode cX7_layOrder 49 = .ok (.getfield 39, 3) := by decide +kernel
theorem dX7_layOrder_52 : decode cX7_layOrder 52 = .ok (.iload_n 1, 1) := by decide +kernel
theorem dX7_layOrder_53 : decode cX7_layOrder 53 = .ok (.iaload, 1) := by decide +kernel
theorem dX7_layOrder_54 : decode cX7_layOrder 54 = .ok (.if_icmp .ge 47, 3) := by decide +kernel
theorem dX7_layOrder_57 : decode cX7_layOrder 57 = .ok (.aload_n 0, 1) := by decide +kernel
theorem dX7_layOrder_58 : decode cX7_layOrder 58 = .ok (.getfield 54, 3) := by decide +kernel
theorem dX7_layOrder_61 : decode cX7_layOrder 61 = .ok (.iload 5, 2) := by decide +kernel
theorem dX7_layOrder_63 : decode cX7_layOrder 63 = .ok (.baload, 1) := by decide +kernel
theorem dX7_layOrder_64 : decode cX7_layOrder 64 = .ok (.ifCond .ne 31, 3) := by decide +kernel
theorem dX7_layOrder_67 : decode cX7_layOrder 67 = .ok (.iload 4, 2) := by decide +kernel
theorem dX7_layOrder_69 : decode cX7_layOrder 69 = .ok (.ifCond .lt 22, 3) := by decide +kernel
theorem dX7_layOrder_72 : decode cX7_layOrder 72 = .ok (.aload_n 0, 1) := by decide +kernel
theorem dX7_layOrder_73 : decode cX7_layOrder 73 = .ok (.iload_n 1, 1) := by decide +kernel
theorem dX7_layOrder_74 : decode cX7_layOrder 74 = .ok (.iload_n 2, 1) := by decide +kernel
theorem dX7_layOrder_75 : decode cX7_layOrder 75 = .ok (.iload 5, 2) := by decide +kernel
theorem dX7_layOrder_77 : decode cX7_layOrder 77 = .ok (.invokevirtual 96, 3) := by decide +kernel
theorem dX7_layOrder_80 : decode cX7_layOrder 80 = .ok (.aload_n 0, 1) := by decide +kernel
theorem dX7_layOrder_81 : decode cX7_layOrder 81 = .ok (.iload_n 1, 1) := by decide +kernel
theorem dX7_layOrder_82 : decode cX7_layOrder 82 = .ok (.iload_n 2, 1) := by decide +kernel
theorem dX7_layOrder_83 : decode cX7_layOrder 83 = .ok (.iload 4, 2) := by decide +kernel
theorem dX7_layOrder_85 : decode cX7_layOrder 85 = .ok (.invokevirtual 96, 3) := by decide +kernel
theorem dX7_layOrder_88 : decode cX7_layOrder 88 = .ok (.if_icmp .ge 7, 3) := by decide +kernel
theorem dX7_layOrder_91 : decode cX7_layOrder 91 = .ok (.iload 5, 2) := by decide +kernel
theorem dX7_layOrder_93 : decode cX7_layOrder 93 = .ok (.istore 4, 2) := by decide +kernel
theorem dX7_layOrder_95 : decode cX7_layOrder 95 = .ok (.iinc 5 1, 3) := by decide +kernel
theorem dX7_layOrder_98 : decode cX7_layOrder 98 = .ok (.goto (-52), 3) := by decide +kernel
theorem dX7_layOrder_101 : decode cX7_layOrder 101 = .ok (.iload_n 3, 1) := by decide +kernel
theorem dX7_layOrder_102 : decode cX7_layOrder 102 = .ok (.ifCond .ne 7, 3) := by decide +kernel
theorem dX7_layOrder_105 : decode cX7_layOrder 105 = .ok (.iconst 0, 1) := by decide +kernel
theorem dX7_layOrder_106 : decode cX7_layOrder 106 = .ok (.goto 5, 3) := by decide +kernel
theorem dX7_layOrder_109 : decode cX7_layOrder 109 = .ok (.iload 4, 2) := by decide +kernel
theorem dX7_layOrder_111 : decode cX7_layOrder 111 = .ok (.istore_n 2, 1) := by decide +kernel
theorem dX7_layOrder_112 : decode cX7_layOrder 112 = .ok (.aload_n 0, 1) := by decide +kernel
theorem dX7_layOrder_113 : decode cX7_layOrder 113 = .ok (.getfield 51, 3) := by decide +kernel
theorem dX7_layOrder_116 : decode cX7_layOrder 116 = .ok (.sipush 288, 3) := by decide +kernel
theorem dX7_layOrder_119 : decode cX7_layOrder 119 = .ok (.iload_n 1, 1) := by decide +kernel
theorem dX7_layOrder_120 : decode cX7_layOrder 120 = .ok (.imul, 1) := by decide +kernel
theorem dX7_layOrder_121 : decode cX7_layOrder 121 = .ok (.iload_n 3, 1) := by decide +kernel
theorem dX7_layOrder_122 : decode cX7_layOrder 122 = .ok (.iadd, 1) := by decide +kernel
theorem dX7_layOrder_123 : decode cX7_layOrder 123 = .ok (.iload_n 2, 1) := by decide +kernel
theorem dX7_layOrder_124 : decode cX7_layOrder 124 = .ok (.iastore, 1) := by decide +kernel
theorem dX7_layOrder_125 : decode cX7_layOrder 125 = .ok (.aload_n 0, 1) := by decide +kernel
theorem dX7_layOrder_126 : decode cX7_layOrder 126 = .ok (.getfield 54, 3) := by decide +kernel
theorem dX7_layOrder_129 : decode cX7_layOrder 129 = .ok (.iload_n 2, 1) := by decide +kernel
theorem dX7_layOrder_130 : decode cX7_layOrder 130 = .ok (.iconst 1, 1) := by decide +kernel
theorem dX7_layOrder_131 : decode cX7_layOrder 131 = .ok (.bastore, 1) := by decide +kernel
theorem dX7_layOrder_132 : decode cX7_layOrder 132 = .ok (.iinc 3 1, 3) := by decide +kernel
theorem dX7_layOrder_135 : decode cX7_layOrder 135 = .ok (.goto (-106), 3) := by decide +kernel
theorem dX7_layOrder_138 : decode cX7_layOrder 138 = .ok (.return_, 1) := by decide +kernel
theorem dX7_placed_0 : decode cX7_placed 0 = .ok (.aload_n 0, 1) := by decide +kernel
theorem dX7_placed_1 : decode cX7_placed 1 = .ok (.getfield 51, 3) := by decide +kernel
theorem dX7_placed_4 : decode cX7_placed 4 = .ok (.sipush 288, 3) := by decide +kernel
theorem dX7_placed_7 : decode cX7_placed 7 = .ok (.iload_n 1, 1) := by decide +kernel
theorem dX7_placed_8 : decode cX7_placed 8 = .ok (.imul, 1) := by decide +kernel
theorem dX7_placed_9 : decode cX7_placed 9 = .ok (.iload_n 2, 1) := by decide +kernel
theorem dX7_placed_10 : decode cX7_placed 10 = .ok (.iadd, 1) := by decide +kernel
theorem dX7_placed_11 : decode cX7_placed 11 = .ok (.iaload, 1) := by decide +kernel
theorem dX7_placed_12 : decode cX7_placed 12 = .ok (.ireturn, 1) := by decide +kernel
theorem dX7_threadOf_0 : decode cX7_threadOf 0 = .ok (.aload_n 0, 1) := by decide +kernel
theorem dX7_threadOf_1 : decode cX7_threadOf 1 = .ok (.getfield 39, 3) := by decide +kernel
theorem dX7_threadOf_4 : decode cX7_threadOf 4 = .ok (.iload_n 1, 1) := by decide +kernel
theorem dX7_threadOf_5 : decode cX7_threadOf 5 = .ok (.iaload, 1) := by decide +kernel
theorem dX7_threadOf_6 : decode cX7_threadOf 6 = .ok (.istore_n 2, 1) := by decide +kernel
theorem dX7_threadOf_7 : decode cX7_threadOf 7 = .ok (.iload_n 2, 1) := by decide +kernel
theorem dX7_threadOf_8 : decode cX7_threadOf 8 = .ok (.ifCond .ne 7, 3) := by decide +kernel
theorem dX7_threadOf_11 : decode cX7_threadOf 11 = .ok (.iconst 0, 1) := by decide +kernel
theorem dX7_threadOf_12 : decode cX7_threadOf 12 = .ok (.goto 9, 3) := by decide +kernel
theorem dX7_threadOf_15 : decode cX7_threadOf 15 = .ok (.iconst 2, 1) := by decide +kernel
theorem dX7_threadOf_16 : decode cX7_threadOf 16 = .ok (.aload_n 0, 1) := by decide +kernel
theorem dX7_threadOf_17 : decode cX7_threadOf 17 = .ok (.getfield 13, 3) := by decide +kernel
theorem dX7_threadOf_20 : decode cX7_threadOf 20 = .ok (.imul, 1) := by decide +kernel
theorem dX7_threadOf_21 : decode cX7_threadOf 21 = .ok (.istore_n 3, 1) := by decide +kernel
theorem dX7_threadOf_22 : decode cX7_threadOf 22 = .ok (.iconst 0, 1) := by decide +kernel
theorem dX7_threadOf_23 : decode cX7_threadOf 23 = .ok (.istore 4, 2) := by decide +kernel
theorem dX7_threadOf_25 : decode cX7_threadOf 25 = .ok (.iload 4, 2) := by decide +kernel
theorem dX7_threadOf_27 : decode cX7_threadOf 27 = .ok (.iload_n 2, 1) := by decide +kernel
theorem dX7_threadOf_28 : decode cX7_threadOf 28 = .ok (.if_icmp .ge 59, 3) := by decide +kernel
theorem dX7_threadOf_31 : decode cX7_threadOf 31 = .ok (.iload_n 3, 1) := by decide +kernel
theorem dX7_threadOf_32 : decode cX7_threadOf 32 = .ok (.bipush 48, 2) := by decide +kernel
theorem dX7_threadOf_34 : decode cX7_threadOf 34 = .ok (.aload_n 0, 1) := by decide +kernel
theorem dX7_threadOf_35 : decode cX7_threadOf 35 = .ok (.getfield 48, 3) := by decide +kernel
theorem dX7_threadOf_38 : decode cX7_threadOf 38 = .ok (.sipush 288, 3) := by decide +kernel
theorem dX7_threadOf_41 : decode cX7_threadOf 41 = .ok (.iload_n 1, 1) := by decide +kernel
theorem dX7_threadOf_42 : decode cX7_threadOf 42 = .ok (.imul, 1) := by decide +kernel
theorem dX7_threadOf_43 : decode cX7_threadOf 43 = .ok (.iload 4, 2) := by decide +kernel
theorem dX7_threadOf_45 : decode cX7_threadOf 45 = .ok (.iadd, 1) := by decide +kernel
theorem dX7_threadOf_46 : decode cX7_threadOf 46 = .ok (.iaload, 1) := by decide +kernel
theorem dX7_threadOf_47 : decode cX7_threadOf 47 = .ok (.imul, 1) := by decide +kernel
theorem dX7_threadOf_48 : decode cX7_threadOf 48 = .ok (.iload 4, 2) := by decide +kernel
theorem dX7_threadOf_50 : decode cX7_threadOf 50 = .ok (.ifCond .le 27, 3) := by decide +kernel
theorem dX7_threadOf_53 : decode cX7_threadOf 53 = .ok (.aload_n 0, 1) := by decide +kernel
theorem dX7_threadOf_54 : decode cX7_threadOf 54 = .ok (.iload_n 1, 1) := by decide +kernel
theorem dX7_threadOf_55 : decode cX7_threadOf 55 = .ok (.aload_n 0, 1) := by decide +kernel
theorem dX7_threadOf_56 : decode cX7_threadOf 56 = .ok (.iload_n 1, 1) := by decide +kernel
theorem dX7_threadOf_57 : decode cX7_threadOf 57 = .ok (.iload 4, 2) := by decide +kernel
theorem dX7_threadOf_59 : decode cX7_threadOf 59 = .ok (.iconst 1, 1) := by decide +kernel
theorem dX7_threadOf_60 : decode cX7_threadOf 60 = .ok (.isub, 1) := by decide +kernel
theorem dX7_threadOf_61 : decode cX7_threadOf 61 = .ok (.invokevirtual 100, 3) := by decide +kernel
theorem dX7_threadOf_64 : decode cX7_threadOf 64 = .ok (.aload_n 0, 1) := by decide +kernel
theorem dX7_threadOf_65 : decode cX7_threadOf 65 = .ok (.iload_n 1, 1) := by decide +kernel
theorem dX7_threadOf_66 : decode cX7_threadOf 66 = .ok (.iload 4, 2) := by decide +kernel
theorem dX7_threadOf_68 : decode cX7_threadOf 68 = .ok (.invokevirtual 100, 3) := by decide +kernel
theorem dX7_threadOf_71 : decode cX7_threadOf 71 = .ok (.invokevirtual 103, 3) := by decide +kernel
theorem dX7_threadOf_74 : decode cX7_threadOf 74 = .ok (.goto 4, 3) := by decide +kernel
theorem dX7_threadOf_77 : decode cX7_threadOf 77 = .ok (.iconst 0, 1) := by decide +kernel
theorem dX7_threadOf_78 : decode cX7_threadOf 78 = .ok (.iadd, 1) := by decide +kernel
theorem dX7_threadOf_79 : decode cX7_threadOf 79 = .ok (.iadd, 1) := by decide +kernel
theorem dX7_threadOf_80 : decode cX7_threadOf 80 = .ok (.istore_n 3, 1) := by decide +kernel
theorem dX7_threadOf_81 : decode cX7_threadOf 81 = .ok (.iinc 4 1, 3) := by decide +kernel
theorem dX7_threadOf_84 : decode cX7_threadOf 84 = .ok (.goto (-59), 3) := by decide +kernel
theorem dX7_threadOf_87 : decode cX7_threadOf 87 = .ok (.iload_n 3, 1) := by decide +kernel
theorem dX7_threadOf_88 : decode cX7_threadOf 88 = .ok (.ireturn, 1) := by decide +kernel
theorem dX7_startsOf_0 : decode cX7_startsOf 0 = .ok (.aload_n 0, 1) := by decide +kernel
theorem dX7_startsOf_1 : decode cX7_startsOf 1 = .ok (.getfield 39, 3) := by decide +kernel
theorem dX7_startsOf_4 : decode cX7_startsOf 4 = .ok (.iload_n 1, 1) := by decide +kernel
theorem dX7_startsOf_5 : decode cX7_startsOf 5 = .ok (.iaload, 1) := by decide +kernel
theorem dX7_startsOf_6 : decode cX7_startsOf 6 = .ok (.ifCond .ne 7, 3) := by decide +kernel
theorem dX7_startsOf_9 : decode cX7_startsOf 9 = .ok (.iconst 0, 1) := by decide +kernel
theorem dX7_startsOf_10 : decode cX7_startsOf 10 = .ok (.goto 4, 3) := by decide +kernel
theorem dX7_startsOf_13 : decode cX7_startsOf 13 = .ok (.iconst 1, 1) := by decide +kernel
theorem dX7_startsOf_14 : decode cX7_startsOf 14 = .ok (.istore_n 2, 1) := by decide +kernel
theorem dX7_startsOf_15 : decode cX7_startsOf 15 = .ok (.iconst 1, 1) := by decide +kernel
theorem dX7_startsOf_16 : decode cX7_startsOf 16 = .ok (.istore_n 3, 1) := by decide +kernel
theorem dX7_startsOf_17 : decode cX7_startsOf 17 = .ok (.iload_n 3, 1) := by decide +kernel
theorem dX7_startsOf_18 : decode cX7_startsOf 18 = .ok (.aload_n 0, 1) := by decide +kernel
theorem dX7_startsOf_19 : decode cX7_startsOf 19 = .ok (.getfield 39, 3) := by decide +kernel
theorem dX7_startsOf_22 : decode cX7_startsOf 22 = .ok (.iload_n 1, 1) := by decide +kernel
theorem dX7_startsOf_23 : decode cX7_startsOf 23 = .ok (.iaload, 1) := by decide +kernel
theorem dX7_startsOf_24 : decode cX7_startsOf 24 = .ok (.if_icmp .ge 43, 3) := by decide +kernel
theorem dX7_startsOf_27 : decode cX7_startsOf 27 = .ok (.iload_n 2, 1) := by decide +kernel
theorem dX7_startsOf_28 : decode cX7_startsOf 28 = .ok (.aload_n 0, 1) := by decide +kernel
theorem dX7_startsOf_29 : decode cX7_startsOf 29 = .ok (.iload_n 1, 1) := by decide +kernel
theorem dX7_startsOf_30 : decode cX7_startsOf 30 = .ok (.aload_n 0, 1) := by decide +kernel
theorem dX7_startsOf_31 : decode cX7_startsOf 31 = .ok (.iload_n 1, 1) := by decide +kernel
theorem dX7_startsOf_32 : decode cX7_startsOf 32 = .ok (.iload_n 3, 1) := by decide +kernel
theorem dX7_startsOf_33 : decode cX7_startsOf 33 = .ok (.iconst 1, 1) := by decide +kernel
theorem dX7_startsOf_34 : decode cX7_startsOf 34 = .ok (.isub, 1) := by decide +kernel
theorem dX7_startsOf_35 : decode cX7_startsOf 35 = .ok (.invokevirtual 100, 3) := by decide +kernel
theorem dX7_startsOf_38 : decode cX7_startsOf 38 = .ok (.aload_n 0, 1) := by decide +kernel
theorem dX7_startsOf_39 : decode cX7_startsOf 39 = .ok (.iload_n 1, 1) := by decide +kernel
theorem dX7_startsOf_40 : decode cX7_startsOf 40 = .ok (.iload_n 3, 1) := by decide +kernel
theorem dX7_startsOf_41 : decode cX7_startsOf 41 = .ok (.invokevirtual 100, 3) := by decide +kernel
theorem dX7_startsOf_44 : decode cX7_startsOf 44 = .ok (.invokevirtual 96, 3) := by decide +kernel
theorem dX7_startsOf_47 : decode cX7_startsOf 47 = .ok (.aload_n 0, 1) := by decide +kernel
theorem dX7_startsOf_48 : decode cX7_startsOf 48 = .ok (.getfield 7, 3) := by decide +kernel
theorem dX7_startsOf_51 : decode cX7_startsOf 51 = .ok (.if_icmp .le 7, 3) := by decide +kernel
theorem dX7_startsOf_54 : decode cX7_startsOf 54 = .ok (.iconst 1, 1) := by decide +kernel
theorem dX7_startsOf_55 : decode cX7_startsOf 55 = .ok (.goto 4, 3) := by decide +kernel
theorem dX7_startsOf_58 : decode cX7_startsOf 58 = .ok (.iconst 0, 1) := by decide +kernel
theorem dX7_startsOf_59 : decode cX7_startsOf 59 = .ok (.iadd, 1) := by decide +kernel
theorem dX7_startsOf_60 : decode cX7_startsOf 60 = .ok (.istore_n 2, 1) := by decide +kernel
theorem dX7_startsOf_61 : decode cX7_startsOf 61 = .ok (.iinc 3 1, 3) := by decide +kernel
theorem dX7_startsOf_64 : decode cX7_startsOf 64 = .ok (.goto (-47), 3) := by decide +kernel
theorem dX7_startsOf_67 : decode cX7_startsOf 67 = .ok (.iload_n 2, 1) := by decide +kernel
theorem dX7_startsOf_68 : decode cX7_startsOf 68 = .ok (.ireturn, 1) := by decide +kernel
theorem dX7_type_0 : decode cX7_type 0 = .ok (.aload_n 0, 1) := by decide +kernel
theorem dX7_type_1 : decode cX7_type 1 = .ok (.getfield 106, 3) := by decide +kernel
theorem dX7_type_4 : decode cX7_type 4 = .ok (.bipush 120, 2) := by decide +kernel
theorem dX7_type_6 : decode cX7_type 6 = .ok (.if_icmp .ne 6, 3) := by decide +kernel
theorem dX7_type_9 : decode cX7_type 9 = .ok (.bipush (-3), 2) := by decide +kernel
theorem dX7_type_11 : decode cX7_type 11 = .ok (.ireturn, 1) := by decide +kernel
theorem dX7_type_12 : decode cX7_type 12 = .ok (.aload_n 0, 1) := by decide +kernel
theorem dX7_type_13 : decode cX7_type 13 = .ok (.getfield 57, 3) := by decide +kernel
theorem dX7_type_16 : decode cX7_type 16 = .ok (.aload_n 0, 1) := by decide +kernel
theorem dX7_type_17 : decode cX7_type 17 = .ok (.getfield 106, 3) := by decide +kernel
theorem dX7_type_20 : decode cX7_type 20 = .ok (.iload_n 1, 1) := by decide +kernel
theorem dX7_type_21 : decode cX7_type 21 = .ok (.castore, 1) := by decide +kernel
theorem dX7_type_22 : decode cX7_type 22 = .ok (.aload_n 0, 1) := by decide +kernel
theorem dX7_type_23 : decode cX7_type 23 = .ok (.dup, 1) := by decide +kernel
theorem dX7_type_24 : decode cX7_type 24 = .ok (.getfield 106, 3) := by decide +kernel
theorem dX7_type_27 : decode cX7_type 27 = .ok (.iconst 1, 1) := by decide +kernel
theorem dX7_type_28 : decode cX7_type 28 = .ok (.iadd, 1) := by decide +kernel
theorem dX7_type_29 : decode cX7_type 29 = .ok (.putfield 106, 3) := by decide +kernel
theorem dX7_type_32 : decode cX7_type 32 = .ok (.aload_n 0, 1) := by decide +kernel
theorem dX7_type_33 : decode cX7_type 33 = .ok (.getfield 106, 3) := by decide +kernel
theorem dX7_type_36 : decode cX7_type 36 = .ok (.ireturn, 1) := by decide +kernel
theorem dX7_clearText_0 : decode cX7_clearText 0 = .ok (.aload_n 0, 1) := by decide +kernel
theorem dX7_clearText_1 : decode cX7_clearText 1 = .ok (.getfield 106, 3) := by decide +kernel
theorem dX7_clearText_4 : decode cX7_clearText 4 = .ok (.istore_n 1, 1) := by decide +kernel
theorem dX7_clearText_5 : decode cX7_clearText 5 = .ok (.aload_n 0, 1) := by decide +kernel
theorem dX7_clearText_6 : decode cX7_clearText 6 = .ok (.iconst 0, 1) := by decide +kernel
theorem dX7_clearText_7 : decode cX7_clearText 7 = .ok (.putfield 106, 3) := by decide +kernel
theorem dX7_clearText_10 : decode cX7_clearText 10 = .ok (.iload_n 1, 1) := by decide +kernel
theorem dX7_clearText_11 : decode cX7_clearText 11 = .ok (.ireturn, 1) := by decide +kernel
theorem dX7_isDigit_0 : decode cX7_isDigit 0 = .ok (.aload_n 0, 1) := by decide +kernel
theorem dX7_isDigit_1 : decode cX7_isDigit 1 = .ok (.getfield 109, 3) := by decide +kernel
theorem dX7_isDigit_4 : decode cX7_isDigit 4 = .ok (.aload_n 0, 1) := by decide +kernel
theorem dX7_isDigit_5 : decode cX7_isDigit 5 = .ok (.getfield 106, 3) := by decide +kernel
theorem dX7_isDigit_8 : decode cX7_isDigit 8 = .ok (.if_icmp .ge 35, 3) := by decide +kernel
theorem dX7_isDigit_11 : decode cX7_isDigit 11 = .ok (.aload_n 0, 1) := by decide +kernel
theorem dX7_isDigit_12 : decode cX7_isDigit 12 = .ok (.getfield 57, 3) := by decide +kernel
theorem dX7_isDigit_15 : decode cX7_isDigit 15 = .ok (.aload_n 0, 1) := by decide +kernel
theorem dX7_isDigit_16 : decode cX7_isDigit 16 = .ok (.getfield 109, 3) := by decide +kernel
theorem dX7_isDigit_19 : decode cX7_isDigit 19 = .ok (.caload, 1) := by decide +kernel
theorem dX7_isDigit_20 : decode cX7_isDigit 20 = .ok (.bipush 48, 2) := by decide +kernel
theorem dX7_isDigit_22 : decode cX7_isDigit 22 = .ok (.if_icmp .lt 21, 3) := by decide +kernel
theorem dX7_isDigit_25 : decode cX7_isDigit 25 = .ok (.aload_n 0, 1) := by decide +kernel
theorem dX7_isDigit_26 : decode cX7_isDigit 26 = .ok (.getfield 57, 3) := by decide +kernel
theorem dX7_isDigit_29 : decode cX7_isDigit 29 = .ok (.aload_n 0, 1) := by decide +kernel
theorem dX7_isDigit_30 : decode cX7_isDigit 30 = .ok (.getfield 109, 3) := by decide +kernel
theorem dX7_isDigit_33 : decode cX7_isDigit 33 = .ok (.caload, 1) := by decide +kernel
theorem dX7_isDigit_34 : decode cX7_isDigit 34 = .ok (.bipush 57, 2) := by decide +kernel
theorem dX7_isDigit_36 : decode cX7_isDigit 36 = .ok (.if_icmp .gt 7, 3) := by decide +kernel
theorem dX7_isDigit_39 : decode cX7_isDigit 39 = .ok (.iconst 1, 1) := by decide +kernel
theorem dX7_isDigit_40 : decode cX7_isDigit 40 = .ok (.goto 4, 3) := by decide +kernel
theorem dX7_isDigit_43 : decode cX7_isDigit 43 = .ok (.iconst 0, 1) := by decide +kernel
theorem dX7_isDigit_44 : decode cX7_isDigit 44 = .ok (.ireturn, 1) := by decide +kernel
theorem dX7_readNumber_0 : decode cX7_readNumber 0 = .ok (.aload_n 0, 1) := by decide +kernel
theorem dX7_readNumber_1 : decode cX7_readNumber 1 = .ok (.getfield 109, 3) := by decide +kernel
theorem dX7_readNumber_4 : decode cX7_readNumber 4 = .ok (.istore_n 1, 1) := by decide +kernel
theorem dX7_readNumber_5 : decode cX7_readNumber 5 = .ok (.iconst 0, 1) := by decide +kernel
theorem dX7_readNumber_6 : decode cX7_readNumber 6 = .ok (.istore_n 2, 1) := by decide +kernel
theorem dX7_readNumber_7 : decode cX7_readNumber 7 = .ok (.aload_n 0, 1) := by decide +kernel
theorem dX7_readNumber_8 : decode cX7_readNumber 8 = .ok (.getfield 109, 3) := by decide +kernel
theorem dX7_readNumber_11 : decode cX7_readNumber 11 = .ok (.iload_n 1, 1) := by decide +kernel
theorem dX7_readNumber_12 : decode cX7_readNumber 12 = .ok (.iconst 2, 1) := by decide +kernel
theorem dX7_readNumber_13 : decode cX7_readNumber 13 = .ok (.iadd, 1) := by decide +kernel
theorem dX7_readNumber_14 : decode cX7_readNumber 14 = .ok (.if_icmp .ge 41, 3) := by decide +kernel
theorem dX7_readNumber_17 : decode cX7_readNumber 17 = .ok (.aload_n 0, 1) := by decide +kernel
theorem dX7_readNumber_18 : decode cX7_readNumber 18 = .ok (.invokevirtual 112, 3) := by decide +kernel
theorem dX7_readNumber_21 : decode cX7_readNumber 21 = .ok (.ifCond .eq 34, 3) := by decide +kernel
theorem dX7_readNumber_24 : decode cX7_readNumber 24 = .ok (.bipush 10, 2) := by decide +kernel
theorem dX7_readNumber_26 : decode cX7_readNumber 26 = .ok (.iload_n 2, 1) := by decide +kernel
theorem dX7_readNumber_27 : decode cX7_readNumber 27 = .ok (.imul, 1) := by decide +kernel
theorem dX7_readNumber_28 : decode cX7_readNumber 28 = .ok (.aload_n 0, 1) := by decide +kernel
theorem dX7_readNumber_29 : decode cX7_readNumber 29 = .ok (.getfield 57, 3) := by decide +kernel
theorem dX7_readNumber_32 : decode cX7_readNumber 32 = .ok (.aload_n 0, 1) := by decide +kernel
theorem dX7_readNumber_33 : decode cX7_readNumber 33 = .ok (.getfield 109, 3) := by decide +kernel
theorem dX7_readNumber_36 : decode cX7_readNumber 36 = .ok (.caload, 1) := by decide +kernel
theorem dX7_readNumber_37 : decode cX7_readNumber 37 = .ok (.iadd, 1) := by decide +kernel
theorem dX7_readNumber_38 : decode cX7_readNumber 38 = .ok (.bipush 48, 2) := by decide +kernel
theorem dX7_readNumber_40 : decode cX7_readNumber 40 = .ok (.isub, 1) := by decide +kernel
theorem dX7_readNumber_41 : decode cX7_readNumber 41 = .ok (.istore_n 2, 1) := by decide +kernel
theorem dX7_readNumber_42 : decode cX7_readNumber 42 = .ok (.aload_n 0, 1) := by decide +kernel
theorem dX7_readNumber_43 : decode cX7_readNumber 43 = .ok (.dup, 1) := by decide +kernel
theorem dX7_readNumber_44 : decode cX7_readNumber 44 = .ok (.getfield 109, 3) := by decide +kernel
theorem dX7_readNumber_47 : decode cX7_readNumber 47 = .ok (.iconst 1, 1) := by decide +kernel
theorem dX7_readNumber_48 : decode cX7_readNumber 48 = .ok (.iadd, 1) := by decide +kernel
theorem dX7_readNumber_49 : decode cX7_readNumber 49 = .ok (.putfield 109, 3) := by decide +kernel
theorem dX7_readNumber_52 : decode cX7_readNumber 52 = .ok (.goto (-45), 3) := by decide +kernel
theorem dX7_readNumber_55 : decode cX7_readNumber 55 = .ok (.aload_n 0, 1) := by decide +kernel
theorem dX7_readNumber_56 : decode cX7_readNumber 56 = .ok (.getfield 109, 3) := by decide +kernel
theorem dX7_readNumber_59 : decode cX7_readNumber 59 = .ok (.iload_n 1, 1) := by decide +kernel
theorem dX7_readNumber_60 : decode cX7_readNumber 60 = .ok (.if_icmp .ne 5, 3) := by decide +kernel
theorem dX7_readNumber_63 : decode cX7_readNumber 63 = .ok (.iconst 1, 1) := by decide +kernel
theorem dX7_readNumber_64 : decode cX7_readNumber 64 = .ok (.ireturn, 1) := by decide +kernel
theorem dX7_readNumber_65 : decode cX7_readNumber 65 = .ok (.aload_n 0, 1) := by decide +kernel
theorem dX7_readNumber_66 : decode cX7_readNumber 66 = .ok (.invokevirtual 112, 3) := by decide +kernel
theorem dX7_readNumber_69 : decode cX7_readNumber 69 = .ok (.ifCond .eq 11, 3) := by decide +kernel
theorem dX7_readNumber_72 : decode cX7_readNumber 72 = .ok (.aload_n 0, 1) := by decide +kernel
theorem dX7_readNumber_73 : decode cX7_readNumber 73 = .ok (.iconst 0, 1) := by decide +kernel
theorem dX7_readNumber_74 : decode cX7_readNumber 74 = .ok (.putfield 116, 3) := by decide +kernel
theorem dX7_readNumber_77 : decode cX7_readNumber 77 = .ok (.goto 23, 3) := by decide +kernel
theorem dX7_readNumber_80 : decode cX7_readNumber 80 = .ok (.iload_n 2, 1) := by decide +kernel
theorem dX7_readNumber_81 : decode cX7_readNumber 81 = .ok (.iconst 1, 1) := by decide +kernel
theorem dX7_readNumber_82 : decode cX7_readNumber 82 = .ok (.bipush 24, 2) := by decide +kernel
theorem dX7_readNumber_84 : decode cX7_readNumber 84 = .ok (.invokestatic 81, 3) := by decide +kernel
theorem dX7_readNumber_87 : decode cX7_readNumber 87 = .ok (.ifCond .ne 13, 3) := by decide +kernel
theorem dX7_readNumber_90 : decode cX7_readNumber 90 = .ok (.aload_n 0, 1) := by decide +kernel
theorem dX7_readNumber_91 : decode cX7_readNumber 91 = .ok (.iconst 0, 1) := by decide +kernel
theorem dX7_readNumber_92 : decode cX7_readNumber 92 = .ok (.putfield 116, 3) := by decide +kernel
theorem dX7_readNumber_95 : decode cX7_readNumber 95 = .ok (.aload_n 0, 1) := by decide +kernel
theorem dX7_readNumber_96 : decode cX7_readNumber 96 = .ok (.iload_n 1, 1) := by decide +kernel
theorem dX7_readNumber_97 : decode cX7_readNumber 97 = .ok (.putfield 109, 3) := by decide +kernel
theorem dX7_readNumber_100 : decode cX7_readNumber 100 = .ok (.iload_n 2, 1) := by decide +kernel
theorem dX7_readNumber_101 : decode cX7_readNumber 101 = .ok (.ireturn, 1) := by decide +kernel
theorem dX7_readEntry_0 : decode cX7_readEntry 0 = .ok (.aload_n 0, 1) := by decide +kernel
theorem dX7_readEntry_1 : decode cX7_readEntry 1 = .ok (.invokevirtual 120, 3) := by decide +kernel
theorem dX7_readEntry_4 : decode cX7_readEntry 4 = .ok (.istore_n 1, 1) := by decide +kernel
theorem dX7_readEntry_5 : decode cX7_readEntry 5 = .ok (.aload_n 0, 1) := by decide +kernel
theorem dX7_readEntry_6 : decode cX7_readEntry 6 = .ok (.getfield 116, 3) := by decide +kernel
theorem dX7_readEntry_9 : decode cX7_readEntry 9 = .ok (.ifCond .ne 4, 3) := by decide +kernel
theorem dX7_readEntry_12 : decode cX7_readEntry 12 = .ok (.return_, 1) := by decide +kernel
theorem dX7_readEntry_13 : decode cX7_readEntry 13 = .ok (.aload_n 0, 1) := by decide +kernel
theorem dX7_readEntry_14 : decode cX7_readEntry 14 = .ok (.getfield 109, 3) := by decide +kernel
theorem dX7_readEntry_17 : decode cX7_readEntry 17 = .ok (.aload_n 0, 1) := by decide +kernel
theorem dX7_readEntry_18 : decode cX7_readEntry 18 = .ok (.getfield 106, 3) := by decide +kernel
theorem dX7_readEntry_21 : decode cX7_readEntry 21 = .ok (.if_icmp .ge 49, 3) := by decide +kernel
theorem dX7_readEntry_24 : decode cX7_readEntry 24 = .ok (.aload_n 0, 1) := by decide +kernel
theorem dX7_readEntry_25 : decode cX7_readEntry 25 = .ok (.getfield 57, 3) := by decide +kernel
theorem dX7_readEntry_28 : decode cX7_readEntry 28 = .ok (.aload_n 0, 1) := by decide +kernel
theorem dX7_readEntry_29 : decode cX7_readEntry 29 = .ok (.getfield 109, 3) := by decide +kernel
theorem dX7_readEntry_32 : decode cX7_readEntry 32 = .ok (.caload, 1) := by decide +kernel
theorem dX7_readEntry_33 : decode cX7_readEntry 33 = .ok (.bipush 46, 2) := by decide +kernel
theorem dX7_readEntry_35 : decode cX7_readEntry 35 = .ok (.if_icmp .eq 31, 3) := by decide +kernel
theorem dX7_readEntry_38 : decode cX7_readEntry 38 = .ok (.aload_n 0, 1) := by decide +kernel
theorem dX7_readEntry_39 : decode cX7_readEntry 39 = .ok (.getfield 57, 3) := by decide +kernel
theorem dX7_readEntry_42 : decode cX7_readEntry 42 = .ok (.aload_n 0, 1) := by decide +kernel
theorem dX7_readEntry_43 : decode cX7_readEntry 43 = .ok (.getfield 109, 3) := by decide +kernel
theorem dX7_readEntry_46 : decode cX7_readEntry 46 = .ok (.caload, 1) := by decide +kernel
theorem dX7_readEntry_47 : decode cX7_readEntry 47 = .ok (.bipush 97, 2) := by decide +kernel
theorem dX7_readEntry_49 : decode cX7_readEntry 49 = .ok (.if_icmp .lt 21, 3) := by decide +kernel
theorem dX7_readEntry_52 : decode cX7_readEntry 52 = .ok (.aload_n 0, 1) := by decide +kernel
theorem dX7_readEntry_53 : decode cX7_readEntry 53 = .ok (.getfield 57, 3) := by decide +kernel
theorem dX7_readEntry_56 : decode cX7_readEntry 56 = .ok (.aload_n 0, 1) := by decide +kernel
theorem dX7_readEntry_57 : decode cX7_readEntry 57 = .ok (.getfield 109, 3) := by decide +kernel
theorem dX7_readEntry_60 : decode cX7_readEntry 60 = .ok (.caload, 1) := by decide +kernel
theorem dX7_readEntry_61 : decode cX7_readEntry 61 = .ok (.bipush 102, 2) := by decide +kernel
theorem dX7_readEntry_63 : decode cX7_readEntry 63 = .ok (.if_icmp .gt 7, 3) := by decide +kernel
theorem dX7_readEntry_66 : decode cX7_readEntry 66 = .ok (.iconst 1, 1) := by decide +kernel
theorem dX7_readEntry_67 : decode cX7_readEntry 67 = .ok (.goto 4, 3) := by decide +kernel
theorem dX7_readEntry_70 : decode cX7_readEntry 70 = .ok (.iconst 0, 1) := by decide +kernel
theorem dX7_readEntry_71 : decode cX7_readEntry 71 = .ok (.istore_n 2, 1) := by decide +kernel
theorem dX7_readEntry_72 : decode cX7_readEntry 72 = .ok (.iload_n 2, 1) := by decide +kernel
theorem dX7_readEntry_73 : decode cX7_readEntry 73 = .ok (.ifCond .ne 9, 3) := by decide +kernel
theorem dX7_readEntry_76 : decode cX7_readEntry 76 = .ok (.aload_n 0, 1) := by decide +kernel
theorem dX7_readEntry_77 : decode cX7_readEntry 77 = .ok (.iconst 0, 1) := by decide +kernel
theorem dX7_readEntry_78 : decode cX7_readEntry 78 = .ok (.putfield 116, 3) := by decide +kernel
theorem dX7_readEntry_81 : decode cX7_readEntry 81 = .ok (.return_, 1) := by decide +kernel
theorem dX7_readEntry_82 : decode cX7_readEntry 82 = .ok (.aload_n 0, 1) := by decide +kernel
theorem dX7_readEntry_83 : decode cX7_readEntry 83 = .ok (.getfield 57, 3) := by decide +kernel
theorem dX7_readEntry_86 : decode cX7_readEntry 86 = .ok (.aload_n 0, 1) := by decide +kernel
theorem dX7_readEntry_87 : decode cX7_readEntry 87 = .ok (.getfield 109, 3) := by decide +kernel
theorem dX7_readEntry_90 : decode cX7_readEntry 90 = .ok (.caload, 1) := by decide +kernel
theorem dX7_readEntry_91 : decode cX7_readEntry 91 = .ok (.bipush 46, 2) := by decide +kernel
theorem dX7_readEntry_93 : decode cX7_readEntry 93 = .ok (.if_icmp .ne 7, 3) := by decide +kernel
theorem dX7_readEntry_96 : decode cX7_readEntry 96 = .ok (.iconst 0, 1) := by decide +kernel
theorem dX7_readEntry_97 : decode cX7_readEntry 97 = .ok (.goto 17, 3) := by decide +kernel
theorem dX7_readEntry_100 : decode cX7_readEntry 100 = .ok (.aload_n 0, 1) := by decide +kernel
theorem dX7_readEntry_101 : decode cX7_readEntry 101 = .ok (.getfield 57, 3) := by decide +kernel
theorem dX7_readEntry_104 : decode cX7_readEntry 104 = .ok (.aload_n 0, 1) := by decide +kernel
theorem dX7_readEntry_105 : decode cX7_readEntry 105 = .ok (.getfield 109, 3) := by decide +kernel
theorem dX7_readEntry_108 : decode cX7_readEntry 108 = .ok (.caload, 1) := by decide +kernel
theorem dX7_readEntry_109 : decode cX7_readEntry 109 = .ok (.bipush 97, 2) := by decide +kernel
theorem dX7_readEntry_111 : decode cX7_readEntry 111 = .ok (.isub, 1) := by decide +kernel
theorem dX7_readEntry_112 : decode cX7_readEntry 112 = .ok (.iconst 1, 1) := by decide +kernel
theorem dX7_readEntry_113 : decode cX7_readEntry 113 = .ok (.iadd, 1) := by decide +kernel
theorem dX7_readEntry_114 : decode cX7_readEntry 114 = .ok (.istore_n 3, 1) := by decide +kernel
theorem dX7_readEntry_115 : decode cX7_readEntry 115 = .ok (.aload_n 0, 1) := by decide +kernel
theorem dX7_readEntry_116 : decode cX7_readEntry 116 = .ok (.dup, 1) := by decide +kernel
theorem dX7_readEntry_117 : decode cX7_readEntry 117 = .ok (.getfield 109, 3) := by decide +kernel
theorem dX7_readEntry_120 : decode cX7_readEntry 120 = .ok (.iconst 1, 1) := by decide +kernel
theorem dX7_readEntry_121 : decode cX7_readEntry 121 = .ok (.iadd, 1) := by decide +kernel
theorem dX7_readEntry_122 : decode cX7_readEntry 122 = .ok (.putfield 109, 3) := by decide +kernel
theorem dX7_readEntry_125 : decode cX7_readEntry 125 = .ok (.iconst 0, 1) := by decide +kernel
theorem dX7_readEntry_126 : decode cX7_readEntry 126 = .ok (.istore 4, 2) := by decide +kernel
theorem dX7_readEntry_128 : decode cX7_readEntry 128 = .ok (.iload 4, 2) := by decide +kernel
theorem dX7_readEntry_130 : decode cX7_readEntry 130 = .ok (.iload_n 1, 1) := by decide +kernel
theorem dX7_readEntry_131 : decode cX7_readEntry 131 = .ok (.if_icmp .ge 60, 3) := by decide +kernel
theorem dX7_readEntry_134 : decode cX7_readEntry 134 = .ok (.aload_n 0, 1) := by decide +kernel
theorem dX7_readEntry_135 : decode cX7_readEntry 135 = .ok (.aload_n 0, 1) := by decide +kernel
theorem dX7_readEntry_136 : decode cX7_readEntry 136 = .ok (.getfield 124, 3) := by decide +kernel
theorem dX7_readEntry_139 : decode cX7_readEntry 139 = .ok (.aload_n 0, 1) := by decide +kernel
theorem dX7_readEntry_140 : decode cX7_readEntry 140 = .ok (.getfield 127, 3) := by decide +kernel
theorem dX7_readEntry_143 : decode cX7_readEntry 143 = .ok (.invokevirtual 85, 3) := by decide +kernel
theorem dX7_readEntry_146 : decode cX7_readEntry 146 = .ok (.ifCond .eq 24, 3) := by decide +kernel
theorem dX7_readEntry_149 : decode cX7_readEntry 149 = .ok (.aload_n 0, 1) := by decide +kernel
theorem dX7_readEntry_150 : decode cX7_readEntry 150 = .ok (.getfield 29, 3) := by decide +kernel
theorem dX7_readEntry_153 : decode cX7_readEntry 153 = .ok (.bipush 24, 2) := by decide +kernel
theorem dX7_readEntry_155 : decode cX7_readEntry 155 = .ok (.aload_n 0, 1) := by decide +kernel
theorem dX7_readEntry_156 : decode cX7_readEntry 156 = .ok (.getfield 127, 3) := by decide +kernel
theorem dX7_readEntry_159 : decode cX7_readEntry 159 = .ok (.imul, 1) := by decide +kernel
theorem dX7_readEntry_160 : decode cX7_readEntry 160 = .ok (.aload_n 0, 1) := by decide +kernel
theorem dX7_readEntry_161 : decode cX7_readEntry 161 = .ok (.getfield 124, 3) := by decide +kernel
theorem dX7_readEntry_164 : decode cX7_readEntry 164 = .ok (.iadd, 1) := by decide +kernel
theorem dX7_readEntry_165 : decode cX7_readEntry 165 = .ok (.iload_n 3, 1) := by decide +kernel
theorem dX7_readEntry_166 : decode cX7_readEntry 166 = .ok (.iastore, 1) := by decide +kernel
theorem dX7_readEntry_167 : decode cX7_readEntry 167 = .ok (.goto 8, 3) := by decide +kernel
theorem dX7_readEntry_170 : decode cX7_readEntry 170 = .ok (.aload_n 0, 1) := by decide +kernel
theorem dX7_readEntry_171 : decode cX7_readEntry 171 = .ok (.iconst 1, 1) := by decide +kernel
theorem dX7_readEntry_172 : decode cX7_readEntry 172 = .ok (.putfield 130, 3) := by decide +kernel
theorem dX7_readEntry_175 : decode cX7_readEntry 175 = .ok (.aload_n 0, 1) := by decide +kernel
theorem dX7_readEntry_176 : decode cX7_readEntry 176 = .ok (.dup, 1) := by decide +kernel
theorem dX7_readEntry_177 : decode cX7_readEntry 177 = .ok (.getfield 124, 3) := by decide +kernel
theorem dX7_readEntry_180 : decode cX7_readEntry 180 = .ok (.iconst 1, 1) := by decide +kernel
theorem dX7_readEntry_181 : decode cX7_readEntry 181 = .ok (.iadd, 1) := by decide +kernel
theorem dX7_readEntry_182 : decode cX7_readEntry 182 = .ok (.putfield 124, 3) := by decide +kernel
theorem dX7_readEntry_185 : decode cX7_readEntry 185 = .ok (.iinc 4 1, 3) := by decide +kernel
theorem dX7_readEntry_188 : decode cX7_readEntry 188 = .ok (.goto (-60), 3) := by decide +kernel
theorem dX7_readEntry_191 : decode cX7_readEntry 191 = .ok (.return_, 1) := by decide +kernel
theorem dX7_takeOver_0 : decode cX7_takeOver 0 = .ok (.iconst 0, 1) := by decide +kernel
theorem dX7_takeOver_1 : decode cX7_takeOver 1 = .ok (.istore_n 1, 1) := by decide +kernel
theorem dX7_takeOver_2 : decode cX7_takeOver 2 = .ok (.iload_n 1, 1) := by decide +kernel
theorem dX7_takeOver_3 : decode cX7_takeOver 3 = .ok (.sipush 576, 3) := by decide +kernel
theorem dX7_takeOver_6 : decode cX7_takeOver 6 = .ok (.if_icmp .ge 21, 3) := by decide +kernel
theorem dX7_takeOver_9 : decode cX7_takeOver 9 = .ok (.aload_n 0, 1) := by decide +kernel
theorem dX7_takeOver_10 : decode cX7_takeOver 10 = .ok (.getfield 29, 3) := by decide +kernel
theorem dX7_takeOver_13 : decode cX7_takeOver 13 = .ok (.iload_n 1, 1) := by decide +kernel
theorem dX7_takeOver_14 : decode cX7_takeOver 14 = .ok (.aload_n 0, 1) := by decide +kernel
theorem dX7_takeOver_15 : decode cX7_takeOver 15 = .ok (.getfield 25, 3) := by decide +kernel
theorem dX7_takeOver_18 : decode cX7_takeOver 18 = .ok (.iload_n 1, 1) := by decide +kernel
theorem dX7_takeOver_19 : decode cX7_takeOver 19 = .ok (.iaload, 1) := by decide +kernel
theorem dX7_takeOver_20 : decode cX7_takeOver 20 = .ok (.iastore, 1) := by decide +kernel
theorem dX7_takeOver_21 : decode cX7_takeOver 21 = .ok (.iinc 1 1, 3) := by decide +kernel
theorem dX7_takeOver_24 : decode cX7_takeOver 24 = .ok (.goto (-22), 3) := by decide +kernel
theorem dX7_takeOver_27 : decode cX7_takeOver 27 = .ok (.return_, 1) := by decide +kernel
theorem dX7_change_0 : decode cX7_change 0 = .ok (.iconst 0, 1) := by decide +kernel
theorem dX7_change_1 : decode cX7_change 1 = .ok (.istore_n 1, 1) := by decide +kernel
theorem dX7_change_2 : decode cX7_change 2 = .ok (.iconst 0, 1) := by decide +kernel
theorem dX7_change_3 : decode cX7_change 3 = .ok (.istore_n 2, 1) := by decide +kernel
theorem dX7_change_4 : decode cX7_change 4 = .ok (.iload_n 2, 1) := by decide +kernel
theorem dX7_change_5 : decode cX7_change 5 = .ok (.sipush 576, 3) := by decide +kernel
theorem dX7_change_8 : decode cX7_change 8 = .ok (.if_icmp .ge 65, 3) := by decide +kernel
theorem dX7_change_11 : decode cX7_change 11 = .ok (.aload_n 0, 1) := by decide +kernel
theorem dX7_change_12 : decode cX7_change 12 = .ok (.getfield 29, 3) := by decide +kernel
theorem dX7_change_15 : decode cX7_change 15 = .ok (.iload_n 2, 1) := by decide +kernel
theorem dX7_change_16 : decode cX7_change 16 = .ok (.iaload, 1) := by decide +kernel
theorem dX7_change_17 : decode cX7_change 17 = .ok (.aload_n 0, 1) := by decide +kernel
theorem dX7_change_18 : decode cX7_change 18 = .ok (.getfield 25, 3) := by decide +kernel
theorem dX7_change_21 : decode cX7_change 21 = .ok (.iload_n 2, 1) := by decide +kernel
theorem dX7_change_22 : decode cX7_change 22 = .ok (.iaload, 1) := by decide +kernel
theorem dX7_change_23 : decode cX7_change 23 = .ok (.if_icmp .eq 44, 3) := by decide +kernel
theorem dX7_change_26 : decode cX7_change 26 = .ok (.iinc 1 1, 3) := by decide +kernel
theorem dX7_change_29 : decode cX7_change 29 = .ok (.aload_n 0, 1) := by decide +kernel
theorem dX7_change_30 : decode cX7_change 30 = .ok (.dup, 1) := by decide +kernel
theorem dX7_change_31 : decode cX7_change 31 = .ok (.getfield 133, 3) := by decide +kernel
theorem dX7_change_34 : decode cX7_change 34 = .ok (.iconst 1, 1) := by decide +kernel
theorem dX7_change_35 : decode cX7_change 35 = .ok (.aload_n 0, 1) := by decide +kernel
theorem dX7_change_36 : decode cX7_change 36 = .ok (.getfield 25, 3) := by decide +kernel
theorem dX7_change_39 : decode cX7_change 39 = .ok (.iload_n 2, 1) := by decide +kernel
theorem dX7_change_40 : decode cX7_change 40 = .ok (.iaload, 1) := by decide +kernel
theorem dX7_change_41 : decode cX7_change 41 = .ok (.ishl, 1) := by decide +kernel
theorem dX7_change_42 : decode cX7_change 42 = .ok (.iconst 1, 1) := by decide +kernel
theorem dX7_change_43 : decode cX7_change 43 = .ok (.aload_n 0, 1) := by decide +kernel
theorem dX7_change_44 : decode cX7_change 44 = .ok (.getfield 29, 3) := by decide +kernel
theorem dX7_change_47 : decode cX7_change 47 = .ok (.iload_n 2, 1) := by decide +kernel
theorem dX7_change_48 : decode cX7_change 48 = .ok (.iaload, 1) := by decide +kernel
theorem dX7_change_49 : decode cX7_change 49 = .ok (.ishl, 1) := by decide +kernel
theorem dX7_change_50 : decode cX7_change 50 = .ok (.ior, 1) := by decide +kernel
theorem dX7_change_51 : decode cX7_change 51 = .ok (.ior, 1) := by decide +kernel
theorem dX7_change_52 : decode cX7_change 52 = .ok (.putfield 133, 3) := by decide +kernel
theorem dX7_change_55 : decode cX7_change 55 = .ok (.aload_n 0, 1) := by decide +kernel
theorem dX7_change_56 : decode cX7_change 56 = .ok (.getfield 25, 3) := by decide +kernel
theorem dX7_change_59 : decode cX7_change 59 = .ok (.iload_n 2, 1) := by decide +kernel
theorem dX7_change_60 : decode cX7_change 60 = .ok (.aload_n 0, 1) := by decide +kernel
theorem dX7_change_61 : decode cX7_change 61 = .ok (.getfield 29, 3) := by decide +kernel
theorem dX7_change_64 : decode cX7_change 64 = .ok (.iload_n 2, 1) := by decide +kernel
theorem dX7_change_65 : decode cX7_change 65 = .ok (.iaload, 1) := by decide +kernel
theorem dX7_change_66 : decode cX7_change 66 = .ok (.iastore, 1) := by decide +kernel
theorem dX7_change_67 : decode cX7_change 67 = .ok (.iinc 2 1, 3) := by decide +kernel
theorem dX7_change_70 : decode cX7_change 70 = .ok (.goto (-66), 3) := by decide +kernel
theorem dX7_change_73 : decode cX7_change 73 = .ok (.iload_n 1, 1) := by decide +kernel
theorem dX7_change_74 : decode cX7_change 74 = .ok (.ireturn, 1) := by decide +kernel
theorem dX7_readChart_0 : decode cX7_readChart 0 = .ok (.aload_n 0, 1) := by decide +kernel
theorem dX7_readChart_1 : decode cX7_readChart 1 = .ok (.invokevirtual 136, 3) := by decide +kernel
theorem dX7_readChart_4 : decode cX7_readChart 4 = .ok (.aload_n 0, 1) := by decide +kernel
theorem dX7_readChart_5 : decode cX7_readChart 5 = .ok (.iconst 0, 1) := by decide +kernel
theorem dX7_readChart_6 : decode cX7_readChart 6 = .ok (.putfield 109, 3) := by decide +kernel
theorem dX7_readChart_9 : decode cX7_readChart 9 = .ok (.aload_n 0, 1) := by decide +kernel
theorem dX7_readChart_10 : decode cX7_readChart 10 = .ok (.iconst 0, 1) := by decide +kernel
theorem dX7_readChart_11 : decode cX7_readChart 11 = .ok (.putfield 124, 3) := by decide +kernel
theorem dX7_readChart_14 : decode cX7_readChart 14 = .ok (.aload_n 0, 1) := by decide +kernel
theorem dX7_readChart_15 : decode cX7_readChart 15 = .ok (.iconst 0, 1) := by decide +kernel
theorem dX7_readChart_16 : decode cX7_readChart 16 = .ok (.putfield 127, 3) := by decide +kernel
theorem dX7_readChart_19 : decode cX7_readChart 19 = .ok (.aload_n 0, 1) := by decide +kernel
theorem dX7_readChart_20 : decode cX7_readChart 20 = .ok (.iconst 1, 1) := by decide +kernel
theorem dX7_readChart_21 : decode cX7_readChart 21 = .ok (.putfield 116, 3) := by decide +kernel
theorem dX7_readChart_24 : decode cX7_readChart 24 = .ok (.aload_n 0, 1) := by decide +kernel
theorem dX7_readChart_25 : decode cX7_readChart 25 = .ok (.iconst 0, 1) := by decide +kernel
theorem dX7_readChart_26 : decode cX7_readChart 26 = .ok (.putfield 130, 3) := by decide +kernel
theorem dX7_readChart_29 : decode cX7_readChart 29 = .ok (.aload_n 0, 1) := by decide +kernel
theorem dX7_readChart_30 : decode cX7_readChart 30 = .ok (.getfield 116, 3) := by decide +kernel
theorem dX7_readChart_33 : decode cX7_readChart 33 = .ok (.ifCond .eq 63, 3) := by decide +kernel
theorem dX7_readChart_36 : decode cX7_readChart 36 = .ok (.aload_n 0, 1) := by decide +kernel
theorem dX7_readChart_37 : decode cX7_readChart 37 = .ok (.getfield 109, 3) := by decide +kernel
theorem dX7_readChart_40 : decode cX7_readChart 40 = .ok (.aload_n 0, 1) := by decide +kernel
theorem dX7_readChart_41 : decode cX7_readChart 41 = .ok (.getfield 106, 3) := by decide +kernel
theorem dX7_readChart_44 : decode cX7_readChart 44 = .ok (.if_icmp .ge 52, 3) := by decide +kernel
theorem dX7_readChart_47 : decode cX7_readChart 47 = .ok (.aload_n 0, 1) := by decide +kernel
theorem dX7_readChart_48 : decode cX7_readChart 48 = .ok (.getfield 57, 3) := by decide +kernel
theorem dX7_readChart_51 : decode cX7_readChart 51 = .ok (.aload_n 0, 1) := by decide +kernel
theorem dX7_readChart_52 : decode cX7_readChart 52 = .ok (.getfield 109, 3) := by decide +kernel
theorem dX7_readChart_55 : decode cX7_readChart 55 = .ok (.caload, 1) := by decide +kernel
theorem dX7_readChart_56 : decode cX7_readChart 56 = .ok (.bipush 47, 2) := by decide +kernel
theorem dX7_readChart_58 : decode cX7_readChart 58 = .ok (.if_icmp .ne 31, 3) := by decide +kernel
theorem dX7_readChart_61 : decode cX7_readChart 61 = .ok (.aload_n 0, 1) := by decide +kernel
theorem dX7_readChart_62 : decode cX7_readChart 62 = .ok (.dup, 1) := by decide +kernel
theorem dX7_readChart_63 : decode cX7_readChart 63 = .ok (.getfield 109, 3) := by decide +kernel
theorem dX7_readChart_66 : decode cX7_readChart 66 = .ok (.iconst 1, 1) := by decide +kernel
theorem dX7_readChart_67 : decode cX7_readChart 67 = .ok (.iadd, 1) := by decide +kernel
theorem dX7_readChart_68 : decode cX7_readChart 68 = .ok (.putfield 109, 3) := by decide +kernel
theorem dX7_readChart_71 : decode cX7_readChart 71 = .ok (.aload_n 0, 1) := by decide +kernel
theorem dX7_readChart_72 : decode cX7_readChart 72 = .ok (.iconst 0, 1) := by decide +kernel
theorem dX7_readChart_73 : decode cX7_readChart 73 = .ok (.putfield 124, 3) := by decide +kernel
theorem dX7_readChart_76 : decode cX7_readChart 76 = .ok (.aload_n 0, 1) := by decide +kernel
theorem dX7_readChart_77 : decode cX7_readChart 77 = .ok (.dup, 1) := by decide +kernel
theorem dX7_readChart_78 : decode cX7_readChart 78 = .ok (.getfield 127, 3) := by decide +kernel
theorem dX7_readChart_81 : decode cX7_readChart 81 = .ok (.iconst 1, 1) := by decide +kernel
theorem dX7_readChart_82 : decode cX7_readChart 82 = .ok (.iadd, 1) := by decide +kernel
theorem dX7_readChart_83 : decode cX7_readChart 83 = .ok (.putfield 127, 3) := by decide +kernel
theorem dX7_readChart_86 : decode cX7_readChart 86 = .ok (.goto (-57), 3) := by decide +kernel
theorem dX7_readChart_89 : decode cX7_readChart 89 = .ok (.aload_n 0, 1) := by decide +kernel
theorem dX7_readChart_90 : decode cX7_readChart 90 = .ok (.invokevirtual 139, 3) := by decide +kernel
theorem dX7_readChart_93 : decode cX7_readChart 93 = .ok (.goto (-64), 3) := by decide +kernel
theorem dX7_readChart_96 : decode cX7_readChart 96 = .ok (.aload_n 0, 1) := by decide +kernel
theorem dX7_readChart_97 : decode cX7_readChart 97 = .ok (.getfield 116, 3) := by decide +kernel
theorem dX7_readChart_100 : decode cX7_readChart 100 = .ok (.ifCond .ne 11, 3) := by decide +kernel
theorem dX7_readChart_103 : decode cX7_readChart 103 = .ok (.bipush (-100), 2) := by decide +kernel
theorem dX7_readChart_105 : decode cX7_readChart 105 = .ok (.aload_n 0, 1) := by decide +kernel
theorem dX7_readChart_106 : decode cX7_readChart 106 = .ok (.getfield 109, 3) := by decide +kernel
theorem dX7_readChart_109 : decode cX7_readChart 109 = .ok (.isub, 1) := by decide +kernel
theorem dX7_readChart_110 : decode cX7_readChart 110 = .ok (.ireturn, 1) := by decide +kernel
theorem dX7_readChart_111 : decode cX7_readChart 111 = .ok (.aload_n 0, 1) := by decide +kernel
theorem dX7_readChart_112 : decode cX7_readChart 112 = .ok (.getfield 130, 3) := by decide +kernel
theorem dX7_readChart_115 : decode cX7_readChart 115 = .ok (.ifCond .ne 14, 3) := by decide +kernel
theorem dX7_readChart_118 : decode cX7_readChart 118 = .ok (.aload_n 0, 1) := by decide +kernel
theorem dX7_readChart_119 : decode cX7_readChart 119 = .ok (.getfield 127, 3) := by decide +kernel
theorem dX7_readChart_122 : decode cX7_readChart 122 = .ok (.aload_n 0, 1) := by decide +kernel
theorem dX7_readChart_123 : decode cX7_readChart 123 = .ok (.getfield 74, 3) := by decide +kernel
theorem dX7_readChart_126 : decode cX7_readChart 126 = .ok (.if_icmp .lt 7, 3) := by decide +kernel
theorem dX7_readChart_129 : decode cX7_readChart 129 = .ok (.sipush (-220), 3) := by decide +kernel
theorem dX7_readChart_132 : decode cX7_readChart 132 = .ok (.ireturn, 1) := by decide +kernel
theorem dX7_readChart_133 : decode cX7_readChart 133 = .ok (.aload_n 0, 1) := by decide +kernel
theorem dX7_readChart_134 : decode cX7_readChart 134 = .ok (.iconst 0, 1) := by decide +kernel
theorem dX7_readChart_135 : decode cX7_readChart 135 = .ok (.putfield 133, 3) := by decide +kernel
theorem dX7_readChart_138 : decode cX7_readChart 138 = .ok (.aload_n 0, 1) := by decide +kernel
theorem dX7_readChart_139 : decode cX7_readChart 139 = .ok (.invokevirtual 142, 3) := by decide +kernel
theorem dX7_readChart_142 : decode cX7_readChart 142 = .ok (.istore_n 1, 1) := by decide +kernel
theorem dX7_readChart_143 : decode cX7_readChart 143 = .ok (.aload_n 0, 1) := by decide +kernel
theorem dX7_readChart_144 : decode cX7_readChart 144 = .ok (.aload_n 0, 1) := by decide +kernel
theorem dX7_readChart_145 : decode cX7_readChart 145 = .ok (.getfield 133, 3) := by decide +kernel
theorem dX7_readChart_148 : decode cX7_readChart 148 = .ok (.invokevirtual 77, 3) := by decide +kernel
theorem dX7_readChart_151 : decode cX7_readChart 151 = .ok (.iload_n 1, 1) := by decide +kernel
theorem dX7_readChart_152 : decode cX7_readChart 152 = .ok (.ireturn, 1) := by decide +kernel
theorem dX7_isColor_0 : decode cX7_isColor 0 = .ok (.iload_n 0, 1) := by decide +kernel
theorem dX7_isColor_1 : decode cX7_isColor 1 = .ok (.iconst 1, 1) := by decide +kernel
theorem dX7_isColor_2 : decode cX7_isColor 2 = .ok (.bipush 6, 2) := by decide +kernel
theorem dX7_isColor_4 : decode cX7_isColor 4 = .ok (.invokestatic 81, 3) := by decide +kernel
theorem dX7_isColor_7 : decode cX7_isColor 7 = .ok (.ireturn, 1) := by decide +kernel
theorem dX7_setCell_0 : decode cX7_setCell 0 = .ok (.aload_n 0, 1) := by decide +kernel
theorem dX7_setCell_1 : decode cX7_setCell 1 = .ok (.iload_n 1, 1) := by decide +kernel
theorem dX7_setCell_2 : decode cX7_setCell 2 = .ok (.iload_n 2, 1) := by decide +kernel
theorem dX7_setCell_3 : decode cX7_setCell 3 = .ok (.invokevirtual 85, 3) := by decide +kernel
theorem dX7_setCell_6 : decode cX7_setCell 6 = .ok (.ifCond .ne 5, 3) := by decide +kernel
theorem dX7_setCell_9 : decode cX7_setCell 9 = .ok (.iconst (-1), 1) := by decide +kernel
theorem dX7_setCell_10 : decode cX7_setCell 10 = .ok (.ireturn, 1) := by decide +kernel
theorem dX7_setCell_11 : decode cX7_setCell 11 = .ok (.iload_n 3, 1) := by decide +kernel
theorem dX7_setCell_12 : decode cX7_setCell 12 = .ok (.iconst 0, 1) := by decide +kernel
theorem dX7_setCell_13 : decode cX7_setCell 13 = .ok (.bipush 6, 2) := by decide +kernel
theorem dX7_setCell_15 : decode cX7_setCell 15 = .ok (.invokestatic 81, 3) := by decide +kernel
theorem dX7_setCell_18 : decode cX7_setCell 18 = .ok (.ifCond .ne 6, 3) := by decide +kernel
theorem dX7_setCell_21 : decode cX7_setCell 21 = .ok (.bipush (-2), 2) := by decide +kernel
theorem dX7_setCell_23 : decode cX7_setCell 23 = .ok (.ireturn, 1) := by decide +kernel
theorem dX7_setCell_24 : decode cX7_setCell 24 = .ok (.aload_n 0, 1) := by decide +kernel
theorem dX7_setCell_25 : decode cX7_setCell 25 = .ok (.iload_n 1, 1) := by decide +kernel
theorem dX7_setCell_26 : decode cX7_setCell 26 = .ok (.iload_n 2, 1) := by decide +kernel
theorem dX7_setCell_27 : decode cX7_setCell 27 = .ok (.invokevirtual 89, 3) := by decide +kernel
theorem dX7_setCell_30 : decode cX7_setCell 30 = .ok (.istore 4, 2) := by decide +kernel
theorem dX7_setCell_32 : decode cX7_setCell 32 = .ok (.aload_n 0, 1) := by decide +kernel
theorem dX7_setCell_33 : decode cX7_setCell 33 = .ok (.invokevirtual 136, 3) := by decide +kernel
theorem dX7_setCell_36 : decode cX7_setCell 36 = .ok (.aload_n 0, 1) := by decide +kernel
theorem dX7_setCell_37 : decode cX7_setCell 37 = .ok (.getfield 29, 3) := by decide +kernel
theorem dX7_setCell_40 : decode cX7_setCell 40 = .ok (.bipush 24, 2) := by decide +kernel
theorem dX7_setCell_42 : decode cX7_setCell 42 = .ok (.iload_n 2, 1) := by decide +kernel
theorem dX7_setCell_43 : decode cX7_setCell 43 = .ok (.imul, 1) := by decide +kernel
theorem dX7_setCell_44 : decode cX7_setCell 44 = .ok (.iload_n 1, 1) := by decide +kernel
theorem dX7_setCell_45 : decode cX7_setCell 45 = .ok (.iadd, 1) := by decide +kernel
theorem dX7_setCell_46 : decode cX7_setCell 46 = .ok (.iload_n 3, 1) := by decide +kernel
theorem dX7_setCell_47 : decode cX7_setCell 47 = .ok (.iastore, 1) := by decide +kernel
theorem dX7_setCell_48 : decode cX7_setCell 48 = .ok (.aload_n 0, 1) := by decide +kernel
theorem dX7_setCell_49 : decode cX7_setCell 49 = .ok (.iconst 0, 1) := by decide +kernel
theorem dX7_setCell_50 : decode cX7_setCell 50 = .ok (.putfield 133, 3) := by decide +kernel
theorem dX7_setCell_53 : decode cX7_setCell 53 = .ok (.aload_n 0, 1) := by decide +kernel
theorem dX7_setCell_54 : decode cX7_setCell 54 = .ok (.invokevirtual 142, 3) := by decide +kernel
theorem dX7_setCell_57 : decode cX7_setCell 57 = .ok (.pop, 1) := by decide +kernel
theorem dX7_setCell_58 : decode cX7_setCell 58 = .ok (.aload_n 0, 1) := by decide +kernel
theorem dX7_setCell_59 : decode cX7_setCell 59 = .ok (.aload_n 0, 1) := by decide +kernel
theorem dX7_setCell_60 : decode cX7_setCell 60 = .ok (.getfield 133, 3) := by decide +kernel
theorem dX7_setCell_63 : decode cX7_setCell 63 = .ok (.invokevirtual 77, 3) := by decide +kernel
theorem dX7_setCell_66 : decode cX7_setCell 66 = .ok (.iload 4, 2) := by decide +kernel
theorem dX7_setCell_68 : decode cX7_setCell 68 = .ok (.ireturn, 1) := by decide +kernel
theorem dX7_fill_0 : decode cX7_fill 0 = .ok (.aload_n 0, 1) := by decide +kernel
theorem dX7_fill_1 : decode cX7_fill 1 = .ok (.iload_n 1, 1) := by decide +kernel
theorem dX7_fill_2 : decode cX7_fill 2 = .ok (.iload_n 2, 1) := by decide +kernel
theorem dX7_fill_3 : decode cX7_fill 3 = .ok (.invokevirtual 85, 3) := by decide +kernel
theorem dX7_fill_6 : decode cX7_fill 6 = .ok (.ifCond .ne 5, 3) := by decide +kernel
theorem dX7_fill_9 : decode cX7_fill 9 = .ok (.iconst (-1), 1) := by decide +kernel
theorem dX7_fill_10 : decode cX7_fill 10 = .ok (.ireturn, 1) := by decide +kernel
theorem dX7_fill_11 : decode cX7_fill 11 = .ok (.iload_n 3, 1) := by decide +kernel
theorem dX7_fill_12 : decode cX7_fill 12 = .ok (.iconst 1, 1) := by decide +kernel
theorem dX7_fill_13 : decode cX7_fill 13 = .ok (.aload_n 0, 1) := by decide +kernel
theorem dX7_fill_14 : decode cX7_fill 14 = .ok (.getfield 71, 3) := by decide +kernel
theorem dX7_fill_17 : decode cX7_fill 17 = .ok (.iload_n 1, 1) := by decide +kernel
theorem dX7_fill_18 : decode cX7_fill 18 = .ok (.isub, 1) := by decide +kernel
theorem dX7_fill_19 : decode cX7_fill 19 = .ok (.invokestatic 81, 3) := by decide +kernel
theorem dX7_fill_22 : decode cX7_fill 22 = .ok (.ifCond .eq 29, 3) := by decide +kernel
theorem dX7_fill_25 : decode cX7_fill 25 = .ok (.iload 4, 2) := by decide +kernel
theorem dX7_fill_27 : decode cX7_fill 27 = .ok (.iconst 1, 1) := by decide +kernel
theorem dX7_fill_28 : decode cX7_fill 28 = .ok (.aload_n 0, 1) := by decide +kernel
theorem dX7_fill_29 : decode cX7_fill 29 = .ok (.getfield 74, 3) := by decide +kernel
theorem dX7_fill_32 : decode cX7_fill 32 = .ok (.iload_n 2, 1) := by decide +kernel
theorem dX7_fill_33 : decode cX7_fill 33 = .ok (.isub, 1) := by decide +kernel
theorem dX7_fill_34 : decode cX7_fill 34 = .ok (.invokestatic 81, 3) := by decide +kernel
theorem dX7_fill_37 : decode cX7_fill 37 = .ok (.ifCond .eq 14, 3) := by decide +kernel
theorem dX7_fill_40 : decode cX7_fill 40 = .ok (.iload 5, 2) := by decide +kernel
theorem dX7_fill_42 : decode cX7_fill 42 = .ok (.iconst 0, 1) := by decide +kernel
theorem dX7_fill_43 : decode cX7_fill 43 = .ok (.bipush 6, 2) := by decide +kernel
theorem dX7_fill_45 : decode cX7_fill 45 = .ok (.invokestatic 81, 3) := by decide +kernel
theorem dX7_fill_48 : decode cX7_fill 48 = .ok (.ifCond .ne 6, 3) := by decide +kernel
theorem dX7_fill_51 : decode cX7_fill 51 = .ok (.bipush (-2), 2) := by decide +kernel
theorem dX7_fill_53 : decode cX7_fill 53 = .ok (.ireturn, 1) := by decide +kernel
theorem dX7_fill_54 : decode cX7_fill 54 = .ok (.aload_n 0, 1) := by decide +kernel
theorem dX7_fill_55 : decode cX7_fill 55 = .ok (.invokevirtual 136, 3) := by decide +kernel
theorem dX7_fill_58 : decode cX7_fill 58 = .ok (.iload_n 2, 1) := by decide +kernel
theorem dX7_fill_59 : decode cX7_fill 59 = .ok (.istore 6, 2) := by decide +kernel
theorem dX7_fill_61 : decode cX7_fill 61 = .ok (.iload 6, 2) := by decide +kernel
theorem dX7_fill_63 : decode cX7_fill 63 = .ok (.iload_n 2, 1) := by decide +kernel
theorem dX7_fill_64 : decode cX7_fill 64 = .ok (.iload 4, 2) := by decide +kernel
theorem dX7_fill_66 : decode cX7_fill 66 = .ok (.iadd, 1) := by decide +kernel
theorem dX7_fill_67 : decode cX7_fill 67 = .ok (.if_icmp .ge 41, 3) := by decide +kernel
theorem dX7_fill_70 : decode cX7_fill 70 = .ok (.iload_n 1, 1) := by decide +kernel
theorem dX7_fill_71 : decode cX7_fill 71 = .ok (.istore 7, 2) := by decide +kernel
theorem dX7_fill_73 : decode cX7_fill 73 = .ok (.iload 7, 2) := by decide +kernel
theorem dX7_fill_75 : decode cX7_fill 75 = .ok (.iload_n 1, 1) := by decide +kernel
theorem dX7_fill_76 : decode cX7_fill 76 = .ok (.iload_n 3, 1) := by decide +kernel
theorem dX7_fill_77 : decode cX7_fill 77 = .ok (.iadd, 1) := by decide +kernel
theorem dX7_fill_78 : decode cX7_fill 78 = .ok (.if_icmp .ge 24, 3) := by decide +kernel
theorem dX7_fill_81 : decode cX7_fill 81 = .ok (.aload_n 0, 1) := by decide +kernel
theorem dX7_fill_82 : decode cX7_fill 82 = .ok (.getfield 29, 3) := by decide +kernel
theorem dX7_fill_85 : decode cX7_fill 85 = .ok (.bipush 24, 2) := by decide +kernel
theorem dX7_fill_87 : decode cX7_fill 87 = .ok (.iload 6, 2) := by decide +kernel
theorem dX7_fill_89 : decode cX7_fill 89 = .ok (.imul, 1) := by decide +kernel
theorem dX7_fill_90 : decode cX7_fill 90 = .ok (.iload 7, 2) := by decide +kernel
theorem dX7_fill_92 : decode cX7_fill 92 = .ok (.iadd, 1) := by decide +kernel
theorem dX7_fill_93 : decode cX7_fill 93 = .ok (.iload 5, 2) := by decide +kernel
theorem dX7_fill_95 : decode cX7_fill 95 = .ok (.iastore, 1) := by decide +kernel
theorem dX7_fill_96 : decode cX7_fill 96 = .ok (.iinc 7 1, 3) := by decide +kernel
theorem dX7_fill_99 : decode cX7_fill 99 = .ok (.goto (-26), 3) := by decide +kernel
theorem dX7_fill_102 : decode cX7_fill 102 = .ok (.iinc 6 1, 3) := by decide +kernel
theorem dX7_fill_105 : decode cX7_fill 105 = .ok (.goto (-44), 3) := by decide +kernel
theorem dX7_fill_108 : decode cX7_fill 108 = .ok (.aload_n 0, 1) := by decide +kernel
theorem dX7_fill_109 : decode cX7_fill 109 = .ok (.iconst 0, 1) := by decide +kernel
theorem dX7_fill_110 : decode cX7_fill 110 = .ok (.putfield 133, 3) := by decide +kernel
theorem dX7_fill_113 : decode cX7_fill 113 = .ok (.aload_n 0, 1) := by decide +kernel
theorem dX7_fill_114 : decode cX7_fill 114 = .ok (.invokevirtual 142, 3) := by decide +kernel
theorem dX7_fill_117 : decode cX7_fill 117 = .ok (.istore 6, 2) := by decide +kernel
theorem dX7_fill_119 : decode cX7_fill 119 = .ok (.aload_n 0, 1) := by decide +kernel
theorem dX7_fill_120 : decode cX7_fill 120 = .ok (.aload_n 0, 1) := by decide +kernel
theorem dX7_fill_121 : decode cX7_fill 121 = .ok (.getfield 133, 3) := by decide +kernel
theorem dX7_fill_124 : decode cX7_fill 124 = .ok (.invokevirtual 77, 3) := by decide +kernel
theorem dX7_fill_127 : decode cX7_fill 127 = .ok (.iload 6, 2) := by decide +kernel
theorem dX7_fill_129 : decode cX7_fill 129 = .ok (.ireturn, 1) := by decide +kernel
theorem dX7_cell_0 : decode cX7_cell 0 = .ok (.aload_n 0, 1) := by decide +kernel
theorem dX7_cell_1 : decode cX7_cell 1 = .ok (.iload_n 1, 1) := by decide +kernel
theorem dX7_cell_2 : decode cX7_cell 2 = .ok (.iload_n 2, 1) := by decide +kernel
theorem dX7_cell_3 : decode cX7_cell 3 = .ok (.invokevirtual 85, 3) := by decide +kernel
theorem dX7_cell_6 : decode cX7_cell 6 = .ok (.ifCond .eq 12, 3) := by decide +kernel
theorem dX7_cell_9 : decode cX7_cell 9 = .ok (.aload_n 0, 1) := by decide +kernel
theorem dX7_cell_10 : decode cX7_cell 10 = .ok (.iload_n 1, 1) := by decide +kernel
theorem dX7_cell_11 : decode cX7_cell 11 = .ok (.iload_n 2, 1) := by decide +kernel
theorem dX7_cell_12 : decode cX7_cell 12 = .ok (.invokevirtual 89, 3) := by decide +kernel
theorem dX7_cell_15 : decode cX7_cell 15 = .ok (.goto 4, 3) := by decide +kernel
theorem dX7_cell_18 : decode cX7_cell 18 = .ok (.iconst (-1), 1) := by decide +kernel
theorem dX7_cell_19 : decode cX7_cell 19 = .ok (.ireturn, 1) := by decide +kernel
theorem dX7_around_0 : decode cX7_around 0 = .ok (.iconst 0, 1) := by decide +kernel
theorem dX7_around_1 : decode cX7_around 1 = .ok (.istore 4, 2) := by decide +kernel
theorem dX7_around_3 : decode cX7_around 3 = .ok (.iconst 0, 1) := by decide +kernel
theorem dX7_around_4 : decode cX7_around 4 = .ok (.istore 5, 2) := by decide +kernel
theorem dX7_around_6 : decode cX7_around 6 = .ok (.iload 5, 2) := by decide +kernel
theorem dX7_around_8 : decode cX7_around 8 = .ok (.bipush 9, 2) := by decide +kernel
theorem dX7_around_10 : decode cX7_around 10 = .ok (.if_icmp .ge 49, 3) := by decide +kernel
theorem dX7_around_13 : decode cX7_around 13 = .ok (.iload 4, 2) := by decide +kernel
theorem dX7_around_15 : decode cX7_around 15 = .ok (.iload 5, 2) := by decide +kernel
theorem dX7_around_17 : decode cX7_around 17 = .ok (.iconst 4, 1) := by decide +kernel
theorem dX7_around_18 : decode cX7_around 18 = .ok (.if_icmp .eq 31, 3) := by decide +kernel
theorem dX7_around_21 : decode cX7_around 21 = .ok (.aload_n 0, 1) := by decide +kernel
theorem dX7_around_22 : decode cX7_around 22 = .ok (.iload_n 1, 1) := by decide +kernel
theorem dX7_around_23 : decode cX7_around 23 = .ok (.iload 5, 2) := by decide +kernel
theorem dX7_around_25 : decode cX7_around 25 = .ok (.iconst 3, 1) := by decide +kernel
theorem dX7_around_26 : decode cX7_around 26 = .ok (.irem, 1) := by decide +kernel
theorem dX7_around_27 : decode cX7_around 27 = .ok (.iadd, 1) := by decide +kernel
theorem dX7_around_28 : decode cX7_around 28 = .ok (.iconst 1, 1) := by decide +kernel
theorem dX7_around_29 : decode cX7_around 29 = .ok (.isub, 1) := by decide +kernel
theorem dX7_around_30 : decode cX7_around 30 = .ok (.iload_n 2, 1) := by decide +kernel
theorem dX7_around_31 : decode cX7_around 31 = .ok (.iload 5, 2) := by decide +kernel
theorem dX7_around_33 : decode cX7_around 33 = .ok (.iconst 3, 1) := by decide +kernel
theorem dX7_around_34 : decode cX7_around 34 = .ok (.idiv, 1) := by decide +kernel
theorem dX7_around_35 : decode cX7_around 35 = .ok (.iadd, 1) := by decide +kernel
theorem dX7_around_36 : decode cX7_around 36 = .ok (.iconst 1, 1) := by decide +kernel
theorem dX7_around_37 : decode cX7_around 37 = .ok (.isub, 1) := by decide +kernel
theorem dX7_around_38 : decode cX7_around 38 = .ok (.invokevirtual 89, 3) := by decide +kernel
theorem dX7_around_41 : decode cX7_around 41 = .ok (.iload_n 3, 1) := by decide +kernel
theorem dX7_around_42 : decode cX7_around 42 = .ok (.if_icmp .ne 7, 3) := by decide +kernel
theorem dX7_around_45 : decode cX7_around 45 = .ok (.iconst 1, 1) := by decide +kernel
theorem dX7_around_46 : decode cX7_around 46 = .ok (.goto 4, 3) := by decide +kernel
theorem dX7_around_49 : decode cX7_around 49 = .ok (.iconst 0, 1) := by decide +kernel
theorem dX7_around_50 : decode cX7_around 50 = .ok (.iadd, 1) := by decide +kernel
theorem dX7_around_51 : decode cX7_around 51 = .ok (.istore 4, 2) := by decide +kernel
theorem dX7_around_53 : decode cX7_around 53 = .ok (.iinc 5 1, 3) := by decide +kernel
theorem dX7_around_56 : decode cX7_around 56 = .ok (.goto (-50), 3) := by decide +kernel
theorem dX7_around_59 : decode cX7_around 59 = .ok (.iload 4, 2) := by decide +kernel
theorem dX7_around_61 : decode cX7_around 61 = .ok (.ireturn, 1) := by decide +kernel
theorem dX7_stands_0 : decode cX7_stands 0 = .ok (.aload_n 0, 1) := by decide +kernel
theorem dX7_stands_1 : decode cX7_stands 1 = .ok (.iload_n 1, 1) := by decide +kernel
theorem dX7_stands_2 : decode cX7_stands 2 = .ok (.iload_n 2, 1) := by decide +kernel
theorem dX7_stands_3 : decode cX7_stands 3 = .ok (.invokevirtual 89, 3) := by decide +kernel
theorem dX7_stands_6 : decode cX7_stands 6 = .ok (.ifCond .le 22, 3) := by decide +kernel
theorem dX7_stands_9 : decode cX7_stands 9 = .ok (.aload_n 0, 1) := by decide +kernel
theorem dX7_stands_10 : decode cX7_stands 10 = .ok (.iload_n 1, 1) := by decide +kernel
theorem dX7_stands_11 : decode cX7_stands 11 = .ok (.iload_n 2, 1) := by decide +kernel
theorem dX7_stands_12 : decode cX7_stands 12 = .ok (.aload_n 0, 1) := by decide +kernel
theorem dX7_stands_13 : decode cX7_stands 13 = .ok (.iload_n 1, 1) := by decide +kernel
theorem dX7_stands_14 : decode cX7_stands 14 = .ok (.iload_n 2, 1) := by decide +kernel
theorem dX7_stands_15 : decode cX7_stands 15 = .ok (.invokevirtual 89, 3) := by decide +kernel
theorem dX7_stands_18 : decode cX7_stands 18 = .ok (.invokevirtual 145, 3) := by decide +kernel
theorem dX7_stands_21 : decode cX7_stands 21 = .ok (.ifCond .ne 7, 3) := by decide +kernel
theorem dX7_stands_24 : decode cX7_stands 24 = .ok (.iconst 1, 1) := by decide +kernel
theorem dX7_stands_25 : decode cX7_stands 25 = .ok (.goto 4, 3) := by decide +kernel
theorem dX7_stands_28 : decode cX7_stands 28 = .ok (.iconst 0, 1) := by decide +kernel
theorem dX7_stands_29 : decode cX7_stands 29 = .ok (.ireturn, 1) := by decide +kernel
theorem dX7_isLone_0 : decode cX7_isLone 0 = .ok (.aload_n 0, 1) := by decide +kernel
theorem dX7_isLone_1 : decode cX7_isLone 1 = .ok (.iload_n 1, 1) := by decide +kernel
theorem dX7_isLone_2 : decode cX7_isLone 2 = .ok (.iload_n 2, 1) := by decide +kernel
theorem dX7_isLone_3 : decode cX7_isLone 3 = .ok (.invokevirtual 85, 3) := by decide +kernel
theorem dX7_isLone_6 : decode cX7_isLone 6 = .ok (.ifCond .ne 5, 3) := by decide +kernel
theorem dX7_isLone_9 : decode cX7_isLone 9 = .ok (.iconst (-1), 1) := by decide +kernel
theorem dX7_isLone_10 : decode cX7_isLone 10 = .ok (.ireturn, 1) := by decide +kernel
theorem dX7_isLone_11 : decode cX7_isLone 11 = .ok (.aload_n 0, 1) := by decide +kernel
theorem dX7_isLone_12 : decode cX7_isLone 12 = .ok (.iload_n 1, 1) := by decide +kernel
theorem dX7_isLone_13 : decode cX7_isLone 13 = .ok (.iload_n 2, 1) := by decide +kernel
theorem dX7_isLone_14 : decode cX7_isLone 14 = .ok (.invokevirtual 148, 3) := by decide +kernel
theorem dX7_isLone_17 : decode cX7_isLone 17 = .ok (.ifCond .eq 7, 3) := by decide +kernel
theorem dX7_isLone_20 : decode cX7_isLone 20 = .ok (.iconst 1, 1) := by decide +kernel
theorem dX7_isLone_21 : decode cX7_isLone 21 = .ok (.goto 4, 3) := by decide +kernel
theorem dX7_isLone_24 : decode cX7_isLone 24 = .ok (.iconst 0, 1) := by decide +kernel
theorem dX7_isLone_25 : decode cX7_isLone 25 = .ok (.ireturn, 1) := by decide +kernel
theorem dX7_count_0 : decode cX7_count 0 = .ok (.iload_n 1, 1) := by decide +kernel
theorem dX7_count_1 : decode cX7_count 1 = .ok (.iconst 0, 1) := by decide +kernel
theorem dX7_count_2 : decode cX7_count 2 = .ok (.bipush 6, 2) := by decide +kernel
theorem dX7_count_4 : decode cX7_count 4 = .ok (.invokestatic 81, 3) := by decide +kernel
theorem dX7_count_7 : decode cX7_count 7 = .ok (.ifCond .eq 12, 3) := by decide +kernel
theorem dX7_count_10 : decode cX7_count 10 = .ok (.iload_n 2, 1) := by decide +kernel
theorem dX7_count_11 : decode cX7_count 11 = .ok (.iconst 0, 1) := by decide +kernel
theorem dX7_count_12 : decode cX7_count 12 = .ok (.iconst 4, 1) := by decide +kernel
theorem dX7_count_13 : decode cX7_count 13 = .ok (.invokestatic 81, 3) := by decide +kernel
theorem dX7_count_16 : decode cX7_count 16 = .ok (.ifCond .ne 6, 3) := by decide +kernel
theorem dX7_count_19 : decode cX7_count 19 = .ok (.bipush (-2), 2) := by decide +kernel
theorem dX7_count_21 : decode cX7_count 21 = .ok (.ireturn, 1) := by decide +kernel
theorem dX7_count_22 : decode cX7_count 22 = .ok (.iconst 0, 1) := by decide +kernel
theorem dX7_count_23 : decode cX7_count 23 = .ok (.istore_n 3, 1) := by decide +kernel
theorem dX7_count_24 : decode cX7_count 24 = .ok (.iconst 0, 1) := by decide +kernel
theorem dX7_count_25 : decode cX7_count 25 = .ok (.istore 4, 2) := by decide +kernel
theorem dX7_count_27 : decode cX7_count 27 = .ok (.iload 4, 2) := by decide +kernel
theorem dX7_count_29 : decode cX7_count 29 = .ok (.aload_n 0, 1) := by decide +kernel
theorem dX7_count_30 : decode cX7_count 30 = .ok (.getfield 71, 3) := by decide +kernel
theorem dX7_count_33 : decode cX7_count 33 = .ok (.if_icmp .ge 94, 3) := by decide +kernel
theorem dX7_count_36 : decode cX7_count 36 = .ok (.iload_n 2, 1) := by decide +kernel
theorem dX7_count_37 : decode cX7_count 37 = .ok (.iconst 2, 1) := by decide +kernel
theorem dX7_count_38 : decode cX7_count 38 = .ok (.if_icmp .ge 89, 3) := by decide +kernel
theorem dX7_count_41 : decode cX7_count 41 = .ok (.iconst 0, 1) := by decide +kernel
theorem dX7_count_42 : decode cX7_count 42 = .ok (.istore 5, 2) := by decide +kernel
theorem dX7_count_44 : decode cX7_count 44 = .ok (.iload 5, 2) := by decide +kernel
theorem dX7_count_46 : decode cX7_count 46 = .ok (.aload_n 0, 1) := by decide +kernel
theorem dX7_count_47 : decode cX7_count 47 = .ok (.getfield 74, 3) := by decide +kernel
theorem dX7_count_50 : decode cX7_count 50 = .ok (.if_icmp .ge 71, 3) := by decide +kernel
theorem dX7_count_53 : decode cX7_count 53 = .ok (.aload_n 0, 1) := by decide +kernel
theorem dX7_count_54 : decode cX7_count 54 = .ok (.iload 4, 2) := by decide +kernel
theorem dX7_count_56 : decode cX7_count 56 = .ok (.iload 5, 2) := by decide +kernel
theorem dX7_count_58 : decode cX7_count 58 = .ok (.invokevirtual 89, 3) := by decide +kernel
theorem dX7_count_61 : decode cX7_count 61 = .ok (.ifCond .le 23, 3) := by decide +kernel
theorem dX7_count_64 : decode cX7_count 64 = .ok (.iload_n 1, 1) := by decide +kernel
theorem dX7_count_65 : decode cX7_count 65 = .ok (.ifCond .eq 15, 3) := by decide +kernel
theorem dX7_count_68 : decode cX7_count 68 = .ok (.aload_n 0, 1) := by decide +kernel
theorem dX7_count_69 : decode cX7_count 69 = .ok (.iload 4, 2) := by decide +kernel
theorem dX7_count_71 : decode cX7_count 71 = .ok (.iload 5, 2) := by decide +kernel
theorem dX7_count_73 : decode cX7_count 73 = .ok (.invokevirtual 89, 3) := by decide +kernel
theorem dX7_count_76 : decode cX7_count 76 = .ok (.iload_n 1, 1) := by decide +kernel
theorem dX7_count_77 : decode cX7_count 77 = .ok (.if_icmp .ne 7, 3) := by decide +kernel
theorem dX7_count_80 : decode cX7_count 80 = .ok (.iconst 1, 1) := by decide +kernel
theorem dX7_count_81 : decode cX7_count 81 = .ok (.goto 4, 3) := by decide +kernel
theorem dX7_count_84 : decode cX7_count 84 = .ok (.iconst 0, 1) := by decide +kernel
theorem dX7_count_85 : decode cX7_count 85 = .ok (.istore 6, 2) := by decide +kernel
theorem dX7_count_87 : decode cX7_count 87 = .ok (.iload_n 3, 1) := by decide +kernel
theorem dX7_count_88 : decode cX7_count 88 = .ok (.iload 6, 2) := by decide +kernel
theorem dX7_count_90 : decode cX7_count 90 = .ok (.ifCond .eq 22, 3) := by decide +kernel
theorem dX7_count_93 : decode cX7_count 93 = .ok (.iload_n 2, 1) := by decide +kernel
theorem dX7_count_94 : decode cX7_count 94 = .ok (.ifCond .eq 14, 3) := by decide +kernel
theorem dX7_count_97 : decode cX7_count 97 = .ok (.aload_n 0, 1) := by decide +kernel
theorem dX7_count_98 : decode cX7_count 98 = .ok (.iload 4, 2) := by decide +kernel
theorem dX7_count_100 : decode cX7_count 100 = .ok (.iload 5, 2) := by decide +kernel
theorem dX7_count_102 : decode cX7_count 102 = .ok (.invokevirtual 148, 3) := by decide +kernel
theorem dX7_count_105 : decode cX7_count 105 = .ok (.ifCond .eq 7, 3) := by decide +kernel
theorem dX7_count_108 : decode cX7_count 108 = .ok (.iconst 1, 1) := by decide +kernel
theorem dX7_count_109 : decode cX7_count 109 = .ok (.goto 4, 3) := by decide +kernel
theorem dX7_count_112 : decode cX7_count 112 = .ok (.iconst 0, 1) := by decide +kernel
theorem dX7_count_113 : decode cX7_count 113 = .ok (.iadd, 1) := by decide +kernel
theorem dX7_count_114 : decode cX7_count 114 = .ok (.istore_n 3, 1) := by decide +kernel
theorem dX7_count_115 : decode cX7_count 115 = .ok (.iinc 5 1, 3) := by decide +kernel
theorem dX7_count_118 : decode cX7_count 118 = .ok (.goto (-74), 3) := by decide +kernel
theorem dX7_count_121 : decode cX7_count 121 = .ok (.iinc 4 1, 3) := by decide +kernel
theorem dX7_count_124 : decode cX7_count 124 = .ok (.goto (-97), 3) := by decide +kernel
theorem dX7_count_127 : decode cX7_count 127 = .ok (.iconst 1, 1) := by decide +kernel
theorem dX7_count_128 : decode cX7_count 128 = .ok (.istore 4, 2) := by decide +kernel
theorem dX7_count_130 : decode cX7_count 130 = .ok (.iload 4, 2) := by decide +kernel
theorem dX7_count_132 : decode cX7_count 132 = .ok (.bipush 6, 2) := by decide +kernel
theorem dX7_count_134 : decode cX7_count 134 = .ok (.if_icmp .gt 62, 3) := by decide +kernel
theorem dX7_count_137 : decode cX7_count 137 = .ok (.iload_n 2, 1) := by decide +kernel
theorem dX7_count_138 : decode cX7_count 138 = .ok (.iconst 1, 1) := by decide +kernel
theorem dX7_count_139 : decode cX7_count 139 = .ok (.if_icmp .le 57, 3) := by decide +kernel
theorem dX7_count_142 : decode cX7_count 142 = .ok (.iload_n 1, 1) := by decide +kernel
theorem dX7_count_143 : decode cX7_count 143 = .ok (.ifCond .eq 9, 3) := by decide +kernel
theorem dX7_count_146 : decode cX7_count 146 = .ok (.iload 4, 2) := by decide +kernel
theorem dX7_count_148 : decode cX7_count 148 = .ok (.iload_n 1, 1) := by decide +kernel
theorem dX7_count_149 : decode cX7_count 149 = .ok (.if_icmp .ne 41, 3) := by decide +kernel
theorem dX7_count_152 : decode cX7_count 152 = .ok (.iload_n 3, 1) := by decide +kernel
theorem dX7_count_153 : decode cX7_count 153 = .ok (.iload_n 2, 1) := by decide +kernel
theorem dX7_count_154 : decode cX7_count 154 = .ok (.iconst 2, 1) := by decide +kernel
theorem dX7_count_155 : decode cX7_count 155 = .ok (.if_icmp .ne 13, 3) := by decide +kernel
theorem dX7_count_158 : decode cX7_count 158 = .ok (.aload_n 0, 1) := by decide +kernel
theorem dX7_count_159 : decode cX7_count 159 = .ok (.getfield 39, 3) := by decide +kernel
theorem dX7_count_162 : decode cX7_count 162 = .ok (.iload 4, 2) := by decide +kernel
theorem dX7_count_164 : decode cX7_count 164 = .ok (.iaload, 1) := by decide +kernel
theorem dX7_count_165 : decode cX7_count 165 = .ok (.goto 23, 3) := by decide +kernel
theorem dX7_count_168 : decode cX7_count 168 = .ok (.iload_n 2, 1) := by decide +kernel
theorem dX7_count_169 : decode cX7_count 169 = .ok (.iconst 3, 1) := by decide +kernel
theorem dX7_count_170 : decode cX7_count 170 = .ok (.if_icmp .ne 12, 3) := by decide +kernel
theorem dX7_count_173 : decode cX7_count 173 = .ok (.aload_n 0, 1) := by decide +kernel
theorem dX7_count_174 : decode cX7_count 174 = .ok (.iload 4, 2) := by decide +kernel
theorem dX7_count_176 : decode cX7_count 176 = .ok (.invokevirtual 151, 3) := by decide +kernel
theorem dX7_count_179 : decode cX7_count 179 = .ok (.goto 9, 3) := by decide +kernel
theorem dX7_count_182 : decode cX7_count 182 = .ok (.aload_n 0, 1) := by decide +kernel
theorem dX7_count_183 : decode cX7_count 183 = .ok (.iload 4, 2) := by decide +kernel
theorem dX7_count_185 : decode cX7_count 185 = .ok (.invokevirtual 155, 3) := by decide +kernel
theorem dX7_count_188 : decode cX7_count 188 = .ok (.iadd, 1) := by decide +kernel
theorem dX7_count_189 : decode cX7_count 189 = .ok (.istore_n 3, 1) := by decide +kernel
theorem dX7_count_190 : decode cX7_count 190 = .ok (.iinc 4 1, 3) := by decide +kernel
theorem dX7_count_193 : decode cX7_count 193 = .ok (.goto (-63), 3) := by decide +kernel
theorem dX7_count_196 : decode cX7_count 196 = .ok (.iload_n 3, 1) := by decide +kernel
theorem dX7_count_197 : decode cX7_count 197 = .ok (.ireturn, 1) := by decide +kernel
theorem dX7_merged_0 : decode cX7_merged 0 = .ok (.aload_n 0, 1) := by decide +kernel
theorem dX7_merged_1 : decode cX7_merged 1 = .ok (.iload_n 1, 1) := by decide +kernel
theorem dX7_merged_2 : decode cX7_merged 2 = .ok (.iload_n 2, 1) := by decide +kernel
theorem dX7_merged_3 : decode cX7_merged 3 = .ok (.invokevirtual 89, 3) := by decide +kernel
theorem dX7_merged_6 : decode cX7_merged 6 = .ok (.istore_n 3, 1) := by decide +kernel
theorem dX7_merged_7 : decode cX7_merged 7 = .ok (.iconst 0, 1) := by decide +kernel
theorem dX7_merged_8 : decode cX7_merged 8 = .ok (.istore 4, 2) := by decide +kernel
theorem dX7_merged_10 : decode cX7_merged 10 = .ok (.iconst 1, 1) := by decide +kernel
theorem dX7_merged_11 : decode cX7_merged 11 = .ok (.istore 5, 2) := by decide +kernel
theorem dX7_merged_13 : decode cX7_merged 13 = .ok (.iload 5, 2) := by decide +kernel
theorem dX7_merged_15 : decode cX7_merged 15 = .ok (.bipush 6, 2) := by decide +kernel
theorem dX7_merged_17 : decode cX7_merged 17 = .ok (.if_icmp .gt 49, 3) := by decide +kernel
theorem dX7_merged_20 : decode cX7_merged 20 = .ok (.aload_n 0, 1) := by decide +kernel
theorem dX7_merged_21 : decode cX7_merged 21 = .ok (.iload_n 1, 1) := by decide +kernel
theorem dX7_merged_22 : decode cX7_merged 22 = .ok (.iload_n 2, 1) := by decide +kernel
theorem dX7_merged_23 : decode cX7_merged 23 = .ok (.iload 5, 2) := by decide +kernel
theorem dX7_merged_25 : decode cX7_merged 25 = .ok (.invokevirtual 145, 3) := by decide +kernel
theorem dX7_merged_28 : decode cX7_merged 28 = .ok (.istore 6, 2) := by decide +kernel
theorem dX7_merged_30 : decode cX7_merged 30 = .ok (.iload 6, 2) := by decide +kernel
theorem dX7_merged_32 : decode cX7_merged 32 = .ok (.iload 4, 2) := by decide +kernel
theorem dX7_merged_34 : decode cX7_merged 34 = .ok (.if_icmp .le 8, 3) := by decide +kernel
theorem dX7_merged_37 : decode cX7_merged 37 = .ok (.iload 5, 2) := by decide +kernel
theorem dX7_merged_39 : decode cX7_merged 39 = .ok (.goto 4, 3) := by decide +kernel
theorem dX7_merged_42 : decode cX7_merged 42 = .ok (.iload_n 3, 1) := by decide +kernel
theorem dX7_merged_43 : decode cX7_merged 43 = .ok (.istore_n 3, 1) := by decide +kernel
theorem dX7_merged_44 : decode cX7_merged 44 = .ok (.iload 6, 2) := by decide +kernel
theorem dX7_merged_46 : decode cX7_merged 46 = .ok (.iload 4, 2) := by decide +kernel
theorem dX7_merged_48 : decode cX7_merged 48 = .ok (.if_icmp .le 8, 3) := by decide +kernel
theorem dX7_merged_51 : decode cX7_merged 51 = .ok (.iload 6, 2) := by decide +kernel
theorem dX7_merged_53 : decode cX7_merged 53 = .ok (.goto 5, 3) := by decide +kernel
theorem dX7_merged_56 : decode cX7_merged 56 = .ok (.iload 4, 2) := by decide +kernel
theorem dX7_merged_58 : decode cX7_merged 58 = .ok (.istore 4, 2) := by decide +kernel
theorem dX7_merged_60 : decode cX7_merged 60 = .ok (.iinc 5 1, 3) := by decide +kernel
theorem dX7_merged_63 : decode cX7_merged 63 = .ok (.goto (-50), 3) := by decide +kernel
theorem dX7_merged_66 : decode cX7_merged 66 = .ok (.iload_n 3, 1) := by decide +kernel
theorem dX7_merged_67 : decode cX7_merged 67 = .ok (.ireturn, 1) := by decide +kernel
theorem dX7_merge_0 : decode cX7_merge 0 = .ok (.iload_n 1, 1) := by decide +kernel
theorem dX7_merge_1 : decode cX7_merge 1 = .ok (.iconst 1, 1) := by decide +kernel
theorem dX7_merge_2 : decode cX7_merge 2 = .ok (.bipush 20, 2) := by decide +kernel
theorem dX7_merge_4 : decode cX7_merge 4 = .ok (.invokestatic 81, 3) := by decide +kernel
theorem dX7_merge_7 : decode cX7_merge 7 = .ok (.ifCond .ne 6, 3) := by decide +kernel
theorem dX7_merge_10 : decode cX7_merge 10 = .ok (.bipush (-2), 2) := by decide +kernel
theorem dX7_merge_12 : decode cX7_merge 12 = .ok (.ireturn, 1) := by decide +kernel
theorem dX7_merge_13 : decode cX7_merge 13 = .ok (.aload_n 0, 1) := by decide +kernel
theorem dX7_merge_14 : decode cX7_merge 14 = .ok (.iconst 0, 1) := by decide +kernel
theorem dX7_merge_15 : decode cX7_merge 15 = .ok (.putfield 133, 3) := by decide +kernel
theorem dX7_merge_18 : decode cX7_merge 18 = .ok (.iconst 0, 1) := by decide +kernel
theorem dX7_merge_19 : decode cX7_merge 19 = .ok (.istore_n 2, 1) := by decide +kernel
theorem dX7_merge_20 : decode cX7_merge 20 = .ok (.iconst 1, 1) := by decide +kernel
theorem dX7_merge_21 : decode cX7_merge 21 = .ok (.istore_n 3, 1) := by decide +kernel
theorem dX7_merge_22 : decode cX7_merge 22 = .ok (.iconst 0, 1) := by decide +kernel
theorem dX7_merge_23 : decode cX7_merge 23 = .ok (.istore 4, 2) := by decide +kernel
theorem dX7_merge_25 : decode cX7_merge 25 = .ok (.iload 4, 2) := by decide +kernel
theorem dX7_merge_27 : decode cX7_merge 27 = .ok (.iload_n 1, 1) := by decide +kernel
theorem dX7_merge_28 : decode cX7_merge 28 = .ok (.if_icmp .ge 105, 3) := by decide +kernel
theorem dX7_merge_31 : decode cX7_merge 31 = .ok (.iload_n 3, 1) := by decide +kernel
theorem dX7_merge_32 : decode cX7_merge 32 = .ok (.ifCond .le 101, 3) := by decide +kernel
theorem dX7_merge_35 : decode cX7_merge 35 = .ok (.aload_n 0, 1) := by decide +kernel
theorem dX7_merge_36 : decode cX7_merge 36 = .ok (.invokevirtual 136, 3) := by decide +kernel
theorem dX7_merge_39 : decode cX7_merge 39 = .ok (.iconst 0, 1) := by decide +kernel
theorem dX7_merge_40 : decode cX7_merge 40 = .ok (.istore 5, 2) := by decide +kernel
theorem dX7_merge_42 : decode cX7_merge 42 = .ok (.iload 5, 2) := by decide +kernel
theorem dX7_merge_44 : decode cX7_merge 44 = .ok (.aload_n 0, 1) := by decide +kernel
theorem dX7_merge_45 : decode cX7_merge 45 = .ok (.getfield 71, 3) := by decide +kernel
theorem dX7_merge_48 : decode cX7_merge 48 = .ok (.if_icmp .ge 70, 3) := by decide +kernel
theorem dX7_merge_51 : decode cX7_merge 51 = .ok (.iconst 0, 1) := by decide +kernel
theorem dX7_merge_52 : decode cX7_merge 52 = .ok (.istore 6, 2) := by decide +kernel
theorem dX7_merge_54 : decode cX7_merge 54 = .ok (.iload 6, 2) := by decide +kernel
theorem dX7_merge_56 : decode cX7_merge 56 = .ok (.aload_n 0, 1) := by decide +kernel
theorem dX7_merge_57 : decode cX7_merge 57 = .ok (.getfield 74, 3) := by decide +kernel
theorem dX7_merge_60 : decode cX7_merge 60 = .ok (.if_icmp .ge 52, 3) := by decide +kernel
theorem dX7_merge_63 : decode cX7_merge 63 = .ok (.aload_n 0, 1) := by decide +kernel
theorem dX7_merge_64 : decode cX7_merge 64 = .ok (.getfield 29, 3) := by decide +kernel
theorem dX7_merge_67 : decode cX7_merge 67 = .ok (.bipush 24, 2) := by decide +kernel
theorem dX7_merge_69 : decode cX7_merge 69 = .ok (.iload 6, 2) := by decide +kernel
theorem dX7_merge_71 : decode cX7_merge 71 = .ok (.imul, 1) := by decide +kernel
theorem dX7_merge_72 : decode cX7_merge 72 = .ok (.iload 5, 2) := by decide +kernel
theorem dX7_merge_74 : decode cX7_merge 74 = .ok (.iadd, 1) := by decide +kernel
theorem dX7_merge_75 : decode cX7_merge 75 = .ok (.aload_n 0, 1) := by decide +kernel
theorem dX7_merge_76 : decode cX7_merge 76 = .ok (.iload 5, 2) := by decide +kernel
theorem dX7_merge_78 : decode cX7_merge 78 = .ok (.iload 6, 2) := by decide +kernel
theorem dX7_merge_80 : decode cX7_merge 80 = .ok (.invokevirtual 148, 3) := by decide +kernel
theorem dX7_merge_83 : decode cX7_merge 83 = .ok (.ifCond .eq 14, 3) := by decide +kernel
theorem dX7_merge_86 : decode cX7_merge 86 = .ok (.aload_n 0, 1) := by decide +kernel
theorem dX7_merge_87 : decode cX7_merge 87 = .ok (.iload 5, 2) := by decide +kernel
theorem dX7_merge_89 : decode cX7_merge 89 = .ok (.iload 6, 2) := by decide +kernel
theorem dX7_merge_91 : decode cX7_merge 91 = .ok (.invokevirtual 158, 3) := by decide +kernel
theorem dX7_merge_94 : decode cX7_merge 94 = .ok (.goto 11, 3) := by decide +kernel
theorem dX7_merge_97 : decode cX7_merge 97 = .ok (.aload_n 0, 1) := by decide +kernel
theorem dX7_merge_98 : decode cX7_merge 98 = .ok (.iload 5, 2) := by decide +kernel
theorem dX7_merge_100 : decode cX7_merge 100 = .ok (.iload 6, 2) := by decide +kernel
theorem dX7_merge_102 : decode cX7_merge 102 = .ok (.invokevirtual 89, 3) := by decide +kernel
theorem dX7_merge_105 : decode cX7_merge 105 = .ok (.iastore, 1) := by decide +kernel
theorem dX7_merge_106 : decode cX7_merge 106 = .ok (.iinc 6 1, 3) := by decide +kernel
theorem dX7_merge_109 : decode cX7_merge 109 = .ok (.goto (-55), 3) := by decide +kernel
theorem dX7_merge_112 : decode cX7_merge 112 = .ok (.iinc 5 1, 3) := by decide +kernel
theorem dX7_merge_115 : decode cX7_merge 115 = .ok (.goto (-73), 3) := by decide +kernel
theorem dX7_merge_118 : decode cX7_merge 118 = .ok (.aload_n 0, 1) := by decide +kernel
theorem dX7_merge_119 : decode cX7_merge 119 = .ok (.invokevirtual 142, 3) := by decide +kernel
theorem dX7_merge_122 : decode cX7_merge 122 = .ok (.istore_n 3, 1) := by decide +kernel
theorem dX7_merge_123 : decode cX7_merge 123 = .ok (.iload_n 2, 1) := by decide +kernel
theorem dX7_merge_124 : decode cX7_merge 124 = .ok (.iload_n 3, 1) := by decide +kernel
theorem dX7_merge_125 : decode cX7_merge 125 = .ok (.iadd, 1) := by decide +kernel
theorem dX7_merge_126 : decode cX7_merge 126 = .ok (.istore_n 2, 1) := by decide +kernel
theorem dX7_merge_127 : decode cX7_merge 127 = .ok (.iinc 4 1, 3) := by decide +kernel
theorem dX7_merge_130 : decode cX7_merge 130 = .ok (.goto (-105), 3) := by decide +kernel
theorem dX7_merge_133 : decode cX7_merge 133 = .ok (.aload_n 0, 1) := by decide +kernel
theorem dX7_merge_134 : decode cX7_merge 134 = .ok (.aload_n 0, 1) := by decide +kernel
theorem dX7_merge_135 : decode cX7_merge 135 = .ok (.getfield 133, 3) := by decide +kernel
theorem dX7_merge_138 : decode cX7_merge 138 = .ok (.invokevirtual 77, 3) := by decide +kernel
theorem dX7_merge_141 : decode cX7_merge 141 = .ok (.iload_n 2, 1) := by decide +kernel
theorem dX7_merge_142 : decode cX7_merge 142 = .ok (.ireturn, 1) := by decide +kernel
theorem dX7_whereIs_0 : decode cX7_whereIs 0 = .ok (.iconst 0, 1) := by decide +kernel
theorem dX7_whereIs_1 : decode cX7_whereIs 1 = .ok (.istore_n 3, 1) := by decide +kernel
theorem dX7_whereIs_2 : decode cX7_whereIs 2 = .ok (.aload_n 0, 1) := by decide +kernel
theorem dX7_whereIs_3 : decode cX7_whereIs 3 = .ok (.iload_n 1, 1) := by decide +kernel
theorem dX7_whereIs_4 : decode cX7_whereIs 4 = .ok (.iload_n 3, 1) := by decide +kernel
theorem dX7_whereIs_5 : decode cX7_whereIs 5 = .ok (.invokevirtual 100, 3) := by decide +kernel
theorem dX7_whereIs_8 : decode cX7_whereIs 8 = .ok (.iload_n 2, 1) := by decide +kernel
theorem dX7_whereIs_9 : decode cX7_whereIs 9 = .ok (.if_icmp .eq 9, 3) := by decide +kernel
theorem dX7_whereIs_12 : decode cX7_whereIs 12 = .ok (.iinc 3 1, 3) := by decide +kernel
theorem dX7_whereIs_15 : decode cX7_whereIs 15 = .ok (.goto (-13), 3) := by decide +kernel
theorem dX7_whereIs_18 : decode cX7_whereIs 18 = .ok (.iload_n 3, 1) := by decide +kernel
theorem dX7_whereIs_19 : decode cX7_whereIs 19 = .ok (.ireturn, 1) := by decide +kernel
theorem dX7_run_0 : decode cX7_run 0 = .ok (.iload_n 1, 1) := by decide +kernel
theorem dX7_run_1 : decode cX7_run 1 = .ok (.invokestatic 161, 3) := by decide +kernel
theorem dX7_run_4 : decode cX7_run 4 = .ok (.ifCond .ne 6, 3) := by decide +kernel
theorem dX7_run_7 : decode cX7_run 7 = .ok (.bipush (-2), 2) := by decide +kernel
theorem dX7_run_9 : decode cX7_run 9 = .ok (.ireturn, 1) := by decide +kernel
theorem dX7_run_10 : decode cX7_run 10 = .ok (.iload_n 2, 1) := by decide +kernel
theorem dX7_run_11 : decode cX7_run 11 = .ok (.iconst 0, 1) := by decide +kernel
theorem dX7_run_12 : decode cX7_run 12 = .ok (.aload_n 0, 1) := by decide +kernel
theorem dX7_run_13 : decode cX7_run 13 = .ok (.getfield 39, 3) := by decide +kernel
theorem dX7_run_16 : decode cX7_run 16 = .ok (.iload_n 1, 1) := by decide +kernel
theorem dX7_run_17 : decode cX7_run 17 = .ok (.iaload, 1) := by decide +kernel
theorem dX7_run_18 : decode cX7_run 18 = .ok (.iconst 1, 1) := by decide +kernel
theorem dX7_run_19 : decode cX7_run 19 = .ok (.isub, 1) := by decide +kernel
theorem dX7_run_20 : decode cX7_run 20 = .ok (.invokestatic 81, 3) := by decide +kernel
theorem dX7_run_23 : decode cX7_run 23 = .ok (.ifCond .ne 5, 3) := by decide +kernel
theorem dX7_run_26 : decode cX7_run 26 = .ok (.iconst (-1), 1) := by decide +kernel
theorem dX7_run_27 : decode cX7_run 27 = .ok (.ireturn, 1) := by decide +kernel
theorem dX7_run_28 : decode cX7_run 28 = .ok (.iload_n 3, 1) := by decide +kernel
theorem dX7_run_29 : decode cX7_run 29 = .ok (.tableswitch 77 0 3 #[31, 44, 57, 70], 31) := by decide +kernel
theorem dX7_run_60 : decode cX7_run 60 = .ok (.aload_n 0, 1) := by decide +kernel
theorem dX7_run_61 : decode cX7_run 61 = .ok (.getfield 42, 3) := by decide +kernel
theorem dX7_run_64 : decode cX7_run 64 = .ok (.sipush 288, 3) := by decide +kernel
theorem dX7_run_67 : decode cX7_run 67 = .ok (.iload_n 1, 1) := by decide +kernel
theorem dX7_run_68 : decode cX7_run 68 = .ok (.imul, 1) := by decide +kernel
theorem dX7_run_69 : decode cX7_run 69 = .ok (.iload_n 2, 1) := by decide +kernel
theorem dX7_run_70 : decode cX7_run 70 = .ok (.iadd, 1) := by decide +kernel
theorem dX7_run_71 : decode cX7_run 71 = .ok (.iaload, 1) := by decide +kernel
theorem dX7_run_72 : decode cX7_run 72 = .ok (.ireturn, 1) := by decide +kernel
theorem dX7_run_73 : decode cX7_run 73 = .ok (.aload_n 0, 1) := by decide +kernel
theorem dX7_run_74 : decode cX7_run 74 = .ok (.getfield 45, 3) := by decide +kernel
theorem dX7_run_77 : decode cX7_run 77 = .ok (.sipush 288, 3) := by decide +kernel
theorem dX7_run_80 : decode cX7_run 80 = .ok (.iload_n 1, 1) := by decide +kernel
theorem dX7_run_81 : decode cX7_run 81 = .ok (.imul, 1) := by decide +kernel
theorem dX7_run_82 : decode cX7_run 82 = .ok (.iload_n 2, 1) := by decide +kernel
theorem dX7_run_83 : decode cX7_run 83 = .ok (.iadd, 1) := by decide +kernel
theorem dX7_run_84 : decode cX7_run 84 = .ok (.iaload, 1) := by decide +kernel
theorem dX7_run_85 : decode cX7_run 85 = .ok (.ireturn, 1) := by decide +kernel
theorem dX7_run_86 : decode cX7_run 86 = .ok (.aload_n 0, 1) := by decide +kernel
theorem dX7_run_87 : decode cX7_run 87 = .ok (.getfield 48, 3) := by decide +kernel
theorem dX7_run_90 : decode cX7_run 90 = .ok (.sipush 288, 3) := by decide +kernel
theorem dX7_run_93 : decode cX7_run 93 = .ok (.iload_n 1, 1) := by decide +kernel
theorem dX7_run_94 : decode cX7_run 94 = .ok (.imul, 1) := by decide +kernel
theorem dX7_run_95 : decode cX7_run 95 = .ok (.iload_n 2, 1) := by decide +kernel
theorem dX7_run_96 : decode cX7_run 96 = .ok (.iadd, 1) := by decide +kernel
theorem dX7_run_97 : decode cX7_run 97 = .ok (.iaload, 1) := by decide +kernel
theorem dX7_run_98 : decode cX7_run 98 = .ok (.ireturn, 1) := by decide +kernel
theorem dX7_run_99 : decode cX7_run 99 = .ok (.aload_n 0, 1) := by decide +kernel
theorem dX7_run_100 : decode cX7_run 100 = .ok (.iload_n 1, 1) := by decide +kernel
theorem dX7_run_101 : decode cX7_run 101 = .ok (.iload_n 2, 1) := by decide +kernel
theorem dX7_run_102 : decode cX7_run 102 = .ok (.invokevirtual 165, 3) := by decide +kernel
theorem dX7_run_105 : decode cX7_run 105 = .ok (.ireturn, 1) := by decide +kernel
theorem dX7_run_106 : decode cX7_run 106 = .ok (.bipush (-2), 2) := by decide +kernel
theorem dX7_run_108 : decode cX7_run 108 = .ok (.ireturn, 1) := by decide +kernel
theorem dX7_runAt_0 : decode cX7_runAt 0 = .ok (.iload_n 1, 1) := by decide +kernel
theorem dX7_runAt_1 : decode cX7_runAt 1 = .ok (.invokestatic 161, 3) := by decide +kernel
theorem dX7_runAt_4 : decode cX7_runAt 4 = .ok (.ifCond .eq 7, 3) := by decide +kernel
theorem dX7_runAt_7 : decode cX7_runAt 7 = .ok (.iload_n 2, 1) := by decide +kernel
theorem dX7_runAt_8 : decode cX7_runAt 8 = .ok (.ifCond .ge 6, 3) := by decide +kernel
theorem dX7_runAt_11 : decode cX7_runAt 11 = .ok (.bipush (-2), 2) := by decide +kernel
theorem dX7_runAt_13 : decode cX7_runAt 13 = .ok (.ireturn, 1) := by decide +kernel
theorem dX7_runAt_14 : decode cX7_runAt 14 = .ok (.iload_n 2, 1) := by decide +kernel
theorem dX7_runAt_15 : decode cX7_runAt 15 = .ok (.aload_n 0, 1) := by decide +kernel
theorem dX7_runAt_16 : decode cX7_runAt 16 = .ok (.getfield 39, 3) := by decide +kernel
theorem dX7_runAt_19 : decode cX7_runAt 19 = .ok (.iload_n 1, 1) := by decide +kernel
theorem dX7_runAt_20 : decode cX7_runAt 20 = .ok (.iaload, 1) := by decide +kernel
theorem dX7_runAt_21 : decode cX7_runAt 21 = .ok (.if_icmp .ge 12, 3) := by decide +kernel
theorem dX7_runAt_24 : decode cX7_runAt 24 = .ok (.aload_n 0, 1) := by decide +kernel
theorem dX7_runAt_25 : decode cX7_runAt 25 = .ok (.iload_n 1, 1) := by decide +kernel
theorem dX7_runAt_26 : decode cX7_runAt 26 = .ok (.iload_n 2, 1) := by decide +kernel
theorem dX7_runAt_27 : decode cX7_runAt 27 = .ok (.invokevirtual 100, 3) := by decide +kernel
theorem dX7_runAt_30 : decode cX7_runAt 30 = .ok (.goto 5, 3) := by decide +kernel
theorem dX7_runAt_33 : decode cX7_runAt 33 = .ok (.bipush (-4), 2) := by decide +kernel
theorem dX7_runAt_35 : decode cX7_runAt 35 = .ok (.ireturn, 1) := by decide +kernel
theorem dX7_shift_0 : decode cX7_shift 0 = .ok (.aload_n 0, 1) := by decide +kernel
theorem dX7_shift_1 : decode cX7_shift 1 = .ok (.iload_n 1, 1) := by decide +kernel
theorem dX7_shift_2 : decode cX7_shift 2 = .ok (.iload_n 2, 1) := by decide +kernel
theorem dX7_shift_3 : decode cX7_shift 3 = .ok (.invokevirtual 100, 3) := by decide +kernel
theorem dX7_shift_6 : decode cX7_shift 6 = .ok (.istore 4, 2) := by decide +kernel
theorem dX7_shift_8 : decode cX7_shift 8 = .ok (.iload_n 2, 1) := by decide +kernel
theorem dX7_shift_9 : decode cX7_shift 9 = .ok (.istore 5, 2) := by decide +kernel
theorem dX7_shift_11 : decode cX7_shift 11 = .ok (.iload 5, 2) := by decide +kernel
theorem dX7_shift_13 : decode cX7_shift 13 = .ok (.iload_n 3, 1) := by decide +kernel
theorem dX7_shift_14 : decode cX7_shift 14 = .ok (.if_icmp .ge 37, 3) := by decide +kernel
theorem dX7_shift_17 : decode cX7_shift 17 = .ok (.aload_n 0, 1) := by decide +kernel
theorem dX7_shift_18 : decode cX7_shift 18 = .ok (.getfield 51, 3) := by decide +kernel
theorem dX7_shift_21 : decode cX7_shift 21 = .ok (.sipush 288, 3) := by decide +kernel
theorem dX7_shift_24 : decode cX7_shift 24 = .ok (.iload_n 1, 1) := by decide +kernel
theorem dX7_shift_25 : decode cX7_shift 25 = .ok (.imul, 1) := by decide +kernel
theorem dX7_shift_26 : decode cX7_shift 26 = .ok (.iload 5, 2) := by decide +kernel
theorem dX7_shift_28 : decode cX7_shift 28 = .ok (.iadd, 1) := by decide +kernel
theorem dX7_shift_29 : decode cX7_shift 29 = .ok (.aload_n 0, 1) := by decide +kernel
theorem dX7_shift_30 : decode cX7_shift 30 = .ok (.getfield 51, 3) := by decide +kernel
theorem dX7_shift_33 : decode cX7_shift 33 = .ok (.sipush 288, 3) := by decide +kernel
theorem dX7_shift_36 : decode cX7_shift 36 = .ok (.iload_n 1, 1) := by decide +kernel
theorem dX7_shift_37 : decode cX7_shift 37 = .ok (.imul, 1) := by decide +kernel
theorem dX7_shift_38 : decode cX7_shift 38 = .ok (.iload 5, 2) := by decide +kernel
theorem dX7_shift_40 : decode cX7_shift 40 = .ok (.iadd, 1) := by decide +kernel
theorem dX7_shift_41 : decode cX7_shift 41 = .ok (.iconst 1, 1) := by decide +kernel
theorem dX7_shift_42 : decode cX7_shift 42 = .ok (.iadd, 1) := by decide +kernel
theorem dX7_shift_43 : decode cX7_shift 43 = .ok (.iaload, 1) := by decide +kernel
theorem dX7_shift_44 : decode cX7_shift 44 = .ok (.iastore, 1) := by decide +kernel
theorem dX7_shift_45 : decode cX7_shift 45 = .ok (.iinc 5 1, 3) := by decide +kernel
theorem dX7_shift_48 : decode cX7_shift 48 = .ok (.goto (-37), 3) := by decide +kernel
theorem dX7_shift_51 : decode cX7_shift 51 = .ok (.iload_n 2, 1) := by decide +kernel
theorem dX7_shift_52 : decode cX7_shift 52 = .ok (.istore 5, 2) := by decide +kernel
theorem dX7_shift_54 : decode cX7_shift 54 = .ok (.iload 5, 2) := by decide +kernel
theorem dX7_shift_56 : decode cX7_shift 56 = .ok (.iload_n 3, 1) := by decide +kernel
theorem dX7_shift_57 : decode cX7_shift 57 = .ok (.if_icmp .le 37, 3) := by decide +kernel
theorem dX7_shift_60 : decode cX7_shift 60 = .ok (.aload_n 0, 1) := by decide +kernel
theorem dX7_shift_61 : decode cX7_shift 61 = .ok (.getfield 51, 3) := by decide +kernel
theorem dX7_shift_64 : decode cX7_shift 64 = .ok (.sipush 288, 3) := by decide +kernel
theorem dX7_shift_67 : decode cX7_shift 67 = .ok (.iload_n 1, 1) := by decide +kernel
theorem dX7_shift_68 : decode cX7_shift 68 = .ok (.imul, 1) := by decide +kernel
theorem dX7_shift_69 : decode cX7_shift 69 = .ok (.iload 5, 2) := by decide +kernel
theorem dX7_shift_71 : decode cX7_shift 71 = .ok (.iadd, 1) := by decide +kernel
theorem dX7_shift_72 : decode cX7_shift 72 = .ok (.aload_n 0, 1) := by decide +kernel
theorem dX7_shift_73 : decode cX7_shift 73 = .ok (.getfield 51, 3) := by decide +kernel
theorem dX7_shift_76 : decode cX7_shift 76 = .ok (.sipush 288, 3) := by decide +kernel
theorem dX7_shift_79 : decode cX7_shift 79 = .ok (.iload_n 1, 1) := by decide +kernel
theorem dX7_shift_80 : decode cX7_shift 80 = .ok (.imul, 1) := by decide +kernel
theorem dX7_shift_81 : decode cX7_shift 81 = .ok (.iload 5, 2) := by decide +kernel
theorem dX7_shift_83 : decode cX7_shift 83 = .ok (.iadd, 1) := by decide +kernel
theorem dX7_shift_84 : decode cX7_shift 84 = .ok (.iconst 1, 1) := by decide +kernel
theorem dX7_shift_85 : decode cX7_shift 85 = .ok (.isub, 1) := by decide +kernel
theorem dX7_shift_86 : decode cX7_shift 86 = .ok (.iaload, 1) := by decide +kernel
theorem dX7_shift_87 : decode cX7_shift 87 = .ok (.iastore, 1) := by decide +kernel
theorem dX7_shift_88 : decode cX7_shift 88 = .ok (.iinc 5 (-1), 3) := by decide +kernel
theorem dX7_shift_91 : decode cX7_shift 91 = .ok (.goto (-37), 3) := by decide +kernel
theorem dX7_shift_94 : decode cX7_shift 94 = .ok (.aload_n 0, 1) := by decide +kernel
theorem dX7_shift_95 : decode cX7_shift 95 = .ok (.getfield 51, 3) := by decide +kernel
theorem dX7_shift_98 : decode cX7_shift 98 = .ok (.sipush 288, 3) := by decide +kernel
theorem dX7_shift_101 : decode cX7_shift 101 = .ok (.iload_n 1, 1) := by decide +kernel
theorem dX7_shift_102 : decode cX7_shift 102 = .ok (.imul, 1) := by decide +kernel
theorem dX7_shift_103 : decode cX7_shift 103 = .ok (.iload_n 3, 1) := by decide +kernel
theorem dX7_shift_104 : decode cX7_shift 104 = .ok (.iadd, 1) := by decide +kernel
theorem dX7_shift_105 : decode cX7_shift 105 = .ok (.iload 4, 2) := by decide +kernel
theorem dX7_shift_107 : decode cX7_shift 107 = .ok (.iastore, 1) := by decide +kernel
theorem dX7_shift_108 : decode cX7_shift 108 = .ok (.return_, 1) := by decide +kernel
theorem dX7_moveRun_0 : decode cX7_moveRun 0 = .ok (.iload_n 1, 1) := by decide +kernel
theorem dX7_moveRun_1 : decode cX7_moveRun 1 = .ok (.invokestatic 161, 3) := by decide +kernel
theorem dX7_moveRun_4 : decode cX7_moveRun 4 = .ok (.ifCond .eq 35, 3) := by decide +kernel
theorem dX7_moveRun_7 : decode cX7_moveRun 7 = .ok (.iload_n 2, 1) := by decide +kernel
theorem dX7_moveRun_8 : decode cX7_moveRun 8 = .ok (.iconst 0, 1) := by decide +kernel
theorem dX7_moveRun_9 : decode cX7_moveRun 9 = .ok (.aload_n 0, 1) := by decide +kernel
theorem dX7_moveRun_10 : decode cX7_moveRun 10 = .ok (.getfield 39, 3) := by decide +kernel
theorem dX7_moveRun_13 : decode cX7_moveRun 13 = .ok (.iload_n 1, 1) := by decide +kernel
theorem dX7_moveRun_14 : decode cX7_moveRun 14 = .ok (.iaload, 1) := by decide +kernel
theorem dX7_moveRun_15 : decode cX7_moveRun 15 = .ok (.iconst 1, 1) := by decide +kernel
theorem dX7_moveRun_16 : decode cX7_moveRun 16 = .ok (.isub, 1) := by decide +kernel
theorem dX7_moveRun_17 : decode cX7_moveRun 17 = .ok (.invokestatic 81, 3) := by decide +kernel
theorem dX7_moveRun_20 : decode cX7_moveRun 20 = .ok (.ifCond .eq 19, 3) := by decide +kernel
theorem dX7_moveRun_23 : decode cX7_moveRun 23 = .ok (.iload_n 3, 1) := by decide +kernel
theorem dX7_moveRun_24 : decode cX7_moveRun 24 = .ok (.iconst 0, 1) := by decide +kernel
theorem dX7_moveRun_25 : decode cX7_moveRun 25 = .ok (.aload_n 0, 1) := by decide +kernel
theorem dX7_moveRun_26 : decode cX7_moveRun 26 = .ok (.getfield 39, 3) := by decide +kernel
theorem dX7_moveRun_29 : decode cX7_moveRun 29 = .ok (.iload_n 1, 1) := by decide +kernel
theorem dX7_moveRun_30 : decode cX7_moveRun 30 = .ok (.iaload, 1) := by decide +kernel
theorem dX7_moveRun_31 : decode cX7_moveRun 31 = .ok (.iconst 1, 1) := by decide +kernel
theorem dX7_moveRun_32 : decode cX7_moveRun 32 = .ok (.isub, 1) := by decide +kernel
theorem dX7_moveRun_33 : decode cX7_moveRun 33 = .ok (.invokestatic 81, 3) := by decide +kernel
theorem dX7_moveRun_36 : decode cX7_moveRun 36 = .ok (.ifCond .ne 6, 3) := by decide +kernel
theorem dX7_moveRun_39 : decode cX7_moveRun 39 = .ok (.bipush (-2), 2) := by decide +kernel
theorem dX7_moveRun_41 : decode cX7_moveRun 41 = .ok (.ireturn, 1) := by decide +kernel
theorem dX7_moveRun_42 : decode cX7_moveRun 42 = .ok (.aload_n 0, 1) := by decide +kernel
theorem dX7_moveRun_43 : decode cX7_moveRun 43 = .ok (.iload_n 1, 1) := by decide +kernel
theorem dX7_moveRun_44 : decode cX7_moveRun 44 = .ok (.iload_n 2, 1) := by decide +kernel
theorem dX7_moveRun_45 : decode cX7_moveRun 45 = .ok (.iload_n 3, 1) := by decide +kernel
theorem dX7_moveRun_46 : decode cX7_moveRun 46 = .ok (.invokevirtual 168, 3) := by decide +kernel
theorem dX7_moveRun_49 : decode cX7_moveRun 49 = .ok (.aload_n 0, 1) := by decide +kernel
theorem dX7_moveRun_50 : decode cX7_moveRun 50 = .ok (.iload_n 1, 1) := by decide +kernel
theorem dX7_moveRun_51 : decode cX7_moveRun 51 = .ok (.invokevirtual 151, 3) := by decide +kernel
theorem dX7_moveRun_54 : decode cX7_moveRun 54 = .ok (.ireturn, 1) := by decide +kernel
theorem dX7_firstOrder_0 : decode cX7_firstOrder 0 = .ok (.iload_n 1, 1) := by decide +kernel
theorem dX7_firstOrder_1 : decode cX7_firstOrder 1 = .ok (.invokestatic 161, 3) := by decide +kernel
theorem dX7_firstOrder_4 : decode cX7_firstOrder 4 = .ok (.ifCond .ne 6, 3) := by decide +kernel
theorem dX7_firstOrder_7 : decode cX7_firstOrder 7 = .ok (.bipush (-2), 2) := by decide +kernel
theorem dX7_firstOrder_9 : decode cX7_firstOrder 9 = .ok (.ireturn, 1) := by decide +kernel
theorem dX7_firstOrder_10 : decode cX7_firstOrder 10 = .ok (.aload_n 0, 1) := by decide +kernel
theorem dX7_firstOrder_11 : decode cX7_firstOrder 11 = .ok (.iload_n 1, 1) := by decide +kernel
theorem dX7_firstOrder_12 : decode cX7_firstOrder 12 = .ok (.invokevirtual 93, 3) := by decide +kernel
theorem dX7_firstOrder_15 : decode cX7_firstOrder 15 = .ok (.aload_n 0, 1) := by decide +kernel
theorem dX7_firstOrder_16 : decode cX7_firstOrder 16 = .ok (.iload_n 1, 1) := by decide +kernel
theorem dX7_firstOrder_17 : decode cX7_firstOrder 17 = .ok (.invokevirtual 151, 3) := by decide +kernel
theorem dX7_firstOrder_20 : decode cX7_firstOrder 20 = .ok (.ireturn, 1) := by decide +kernel
theorem dX7_placedWithout_0 : decode cX7_placedWithout 0 = .ok (.iload_n 2, 1) := by decide +kernel
theorem dX7_placedWithout_1 : decode cX7_placedWithout 1 = .ok (.iconst 0, 1) := by decide +kernel
theorem dX7_placedWithout_2 : decode cX7_placedWithout 2 = .ok (.aload_n 0, 1) := by decide +kernel
theorem dX7_placedWithout_3 : decode cX7_placedWithout 3 = .ok (.getfield 39, 3) := by decide +kernel
theorem dX7_placedWithout_6 : decode cX7_placedWithout 6 = .ok (.iload_n 1, 1) := by decide +kernel
theorem dX7_placedWithout_7 : decode cX7_placedWithout 7 = .ok (.iaload, 1) := by decide +kernel
theorem dX7_placedWithout_8 : decode cX7_placedWithout 8 = .ok (.iconst 2, 1) := by decide +kernel
theorem dX7_placedWithout_9 : decode cX7_placedWithout 9 = .ok (.isub, 1) := by decide +kernel
theorem dX7_placedWithout_10 : decode cX7_placedWithout 10 = .ok (.invokestatic 81, 3) := by decide +kernel
theorem dX7_placedWithout_13 : decode cX7_placedWithout 13 = .ok (.ifCond .eq 23, 3) := by decide +kernel
theorem dX7_placedWithout_16 : decode cX7_placedWithout 16 = .ok (.aload_n 0, 1) := by decide +kernel
theorem dX7_placedWithout_17 : decode cX7_placedWithout 17 = .ok (.iload_n 1, 1) := by decide +kernel
theorem dX7_placedWithout_18 : decode cX7_placedWithout 18 = .ok (.iload_n 2, 1) := by decide +kernel
theorem dX7_placedWithout_19 : decode cX7_placedWithout 19 = .ok (.iload_n 3, 1) := by decide +kernel
theorem dX7_placedWithout_20 : decode cX7_placedWithout 20 = .ok (.if_icmp .ge 7, 3) := by decide +kernel
theorem dX7_placedWithout_23 : decode cX7_placedWithout 23 = .ok (.iload_n 2, 1) := by decide +kernel
theorem dX7_placedWithout_24 : decode cX7_placedWithout 24 = .ok (.goto 6, 3) := by decide +kernel
theorem dX7_placedWithout_27 : decode cX7_placedWithout 27 = .ok (.iload_n 2, 1) := by decide +kernel
theorem dX7_placedWithout_28 : decode cX7_placedWithout 28 = .ok (.iconst 1, 1) := by decide +kernel
theorem dX7_placedWithout_29 : decode cX7_placedWithout 29 = .ok (.iadd, 1) := by decide +kernel
theorem dX7_placedWithout_30 : decode cX7_placedWithout 30 = .ok (.invokevirtual 100, 3) := by decide +kernel
theorem dX7_placedWithout_33 : decode cX7_placedWithout 33 = .ok (.goto 5, 3) := by decide +kernel
theorem dX7_placedWithout_36 : decode cX7_placedWithout 36 = .ok (.bipush (-4), 2) := by decide +kernel
theorem dX7_placedWithout_38 : decode cX7_placedWithout 38 = .ok (.ireturn, 1) := by decide +kernel
theorem dX7_costsIf_0 : decode cX7_costsIf 0 = .ok (.iload_n 2, 1) := by decide +kernel
theorem dX7_costsIf_1 : decode cX7_costsIf 1 = .ok (.ifCond .lt 7, 3) := by decide +kernel
theorem dX7_costsIf_4 : decode cX7_costsIf 4 = .ok (.iload_n 3, 1) := by decide +kernel
theorem dX7_costsIf_5 : decode cX7_costsIf 5 = .ok (.ifCond .ge 7, 3) := by decide +kernel
theorem dX7_costsIf_8 : decode cX7_costsIf 8 = .ok (.iconst 0, 1) := by decide +kernel
theorem dX7_costsIf_9 : decode cX7_costsIf 9 = .ok (.goto 10, 3) := by decide +kernel
theorem dX7_costsIf_12 : decode cX7_costsIf 12 = .ok (.aload_n 0, 1) := by decide +kernel
theorem dX7_costsIf_13 : decode cX7_costsIf 13 = .ok (.iload_n 1, 1) := by decide +kernel
theorem dX7_costsIf_14 : decode cX7_costsIf 14 = .ok (.iload_n 2, 1) := by decide +kernel
theorem dX7_costsIf_15 : decode cX7_costsIf 15 = .ok (.iload_n 3, 1) := by decide +kernel
theorem dX7_costsIf_16 : decode cX7_costsIf 16 = .ok (.invokevirtual 103, 3) := by decide +kernel
theorem dX7_costsIf_19 : decode cX7_costsIf 19 = .ok (.ireturn, 1) := by decide +kernel
theorem dX7_gain_0 : decode cX7_gain 0 = .ok (.aload_n 0, 1) := by decide +kernel
theorem dX7_gain_1 : decode cX7_gain 1 = .ok (.iload_n 1, 1) := by decide +kernel
theorem dX7_gain_2 : decode cX7_gain 2 = .ok (.iload_n 3, 1) := by decide +kernel
theorem dX7_gain_3 : decode cX7_gain 3 = .ok (.iload_n 2, 1) := by decide +kernel
theorem dX7_gain_4 : decode cX7_gain 4 = .ok (.invokevirtual 172, 3) := by decide +kernel
theorem dX7_gain_7 : decode cX7_gain 7 = .ok (.aload_n 0, 1) := by decide +kernel
theorem dX7_gain_8 : decode cX7_gain 8 = .ok (.iload_n 1, 1) := by decide +kernel
theorem dX7_gain_9 : decode cX7_gain 9 = .ok (.iload_n 2, 1) := by decide +kernel
theorem dX7_gain_10 : decode cX7_gain 10 = .ok (.iload 4, 2) := by decide +kernel
theorem dX7_gain_12 : decode cX7_gain 12 = .ok (.invokevirtual 172, 3) := by decide +kernel
theorem dX7_gain_15 : decode cX7_gain 15 = .ok (.iadd, 1) := by decide +kernel
theorem dX7_gain_16 : decode cX7_gain 16 = .ok (.aload_n 0, 1) := by decide +kernel
theorem dX7_gain_17 : decode cX7_gain 17 = .ok (.iload_n 1, 1) := by decide +kernel
theorem dX7_gain_18 : decode cX7_gain 18 = .ok (.iload_n 3, 1) := by decide +kernel
theorem dX7_gain_19 : decode cX7_gain 19 = .ok (.iload 4, 2) := by decide +kernel
theorem dX7_gain_21 : decode cX7_gain 21 = .ok (.invokevirtual 172, 3) := by decide +kernel
theorem dX7_gain_24 : decode cX7_gain 24 = .ok (.isub, 1) := by decide +kernel
theorem dX7_gain_25 : decode cX7_gain 25 = .ok (.ireturn, 1) := by decide +kernel
theorem dX7_isBetter_0 : decode cX7_isBetter 0 = .ok (.aload_n 0, 1) := by decide +kernel
theorem dX7_isBetter_1 : decode cX7_isBetter 1 = .ok (.iload_n 1, 1) := by decide +kernel
theorem dX7_isBetter_2 : decode cX7_isBetter 2 = .ok (.iload_n 2, 1) := by decide +kernel
theorem dX7_isBetter_3 : decode cX7_isBetter 3 = .ok (.invokevirtual 100, 3) := by decide +kernel
theorem dX7_isBetter_6 : decode cX7_isBetter 6 = .ok (.istore 4, 2) := by decide +kernel
theorem dX7_isBetter_8 : decode cX7_isBetter 8 = .ok (.aload_n 0, 1) := by decide +kernel
theorem dX7_isBetter_9 : decode cX7_isBetter 9 = .ok (.iload_n 1, 1) := by decide +kernel
theorem dX7_isBetter_10 : decode cX7_isBetter 10 = .ok (.iload 4, 2) := by decide +kernel
theorem dX7_isBetter_12 : decode cX7_isBetter 12 = .ok (.aload_n 0, 1) := by decide +kernel
theorem dX7_isBetter_13 : decode cX7_isBetter 13 = .ok (.iload_n 1, 1) := by decide +kernel
theorem dX7_isBetter_14 : decode cX7_isBetter 14 = .ok (.iload_n 2, 1) := by decide +kernel
theorem dX7_isBetter_15 : decode cX7_isBetter 15 = .ok (.iconst 1, 1) := by decide +kernel
theorem dX7_isBetter_16 : decode cX7_isBetter 16 = .ok (.isub, 1) := by decide +kernel
theorem dX7_isBetter_17 : decode cX7_isBetter 17 = .ok (.iload_n 2, 1) := by decide +kernel
theorem dX7_isBetter_18 : decode cX7_isBetter 18 = .ok (.invokevirtual 175, 3) := by decide +kernel
theorem dX7_isBetter_21 : decode cX7_isBetter 21 = .ok (.aload_n 0, 1) := by decide +kernel
theorem dX7_isBetter_22 : decode cX7_isBetter 22 = .ok (.iload_n 1, 1) := by decide +kernel
theorem dX7_isBetter_23 : decode cX7_isBetter 23 = .ok (.iload_n 2, 1) := by decide +kernel
theorem dX7_isBetter_24 : decode cX7_isBetter 24 = .ok (.iload_n 2, 1) := by decide +kernel
theorem dX7_isBetter_25 : decode cX7_isBetter 25 = .ok (.invokevirtual 175, 3) := by decide +kernel
theorem dX7_isBetter_28 : decode cX7_isBetter 28 = .ok (.invokevirtual 178, 3) := by decide +kernel
theorem dX7_isBetter_31 : decode cX7_isBetter 31 = .ok (.istore 5, 2) := by decide +kernel
theorem dX7_isBetter_33 : decode cX7_isBetter 33 = .ok (.aload_n 0, 1) := by decide +kernel
theorem dX7_isBetter_34 : decode cX7_isBetter 34 = .ok (.iload_n 1, 1) := by decide +kernel
theorem dX7_isBetter_35 : decode cX7_isBetter 35 = .ok (.iload 4, 2) := by decide +kernel
theorem dX7_isBetter_37 : decode cX7_isBetter 37 = .ok (.aload_n 0, 1) := by decide +kernel
theorem dX7_isBetter_38 : decode cX7_isBetter 38 = .ok (.iload_n 1, 1) := by decide +kernel
theorem dX7_isBetter_39 : decode cX7_isBetter 39 = .ok (.iload_n 3, 1) := by decide +kernel
theorem dX7_isBetter_40 : decode cX7_isBetter 40 = .ok (.iconst 1, 1) := by decide +kernel
theorem dX7_isBetter_41 : decode cX7_isBetter 41 = .ok (.isub, 1) := by decide +kernel
theorem dX7_isBetter_42 : decode cX7_isBetter 42 = .ok (.iload_n 2, 1) := by decide +kernel
theorem dX7_isBetter_43 : decode cX7_isBetter 43 = .ok (.invokevirtual 175, 3) := by decide +kernel
theorem dX7_isBetter_46 : decode cX7_isBetter 46 = .ok (.aload_n 0, 1) := by decide +kernel
theorem dX7_isBetter_47 : decode cX7_isBetter 47 = .ok (.iload_n 1, 1) := by decide +kernel
theorem dX7_isBetter_48 : decode cX7_isBetter 48 = .ok (.iload_n 3, 1) := by decide +kernel
theorem dX7_isBetter_49 : decode cX7_isBetter 49 = .ok (.iload_n 2, 1) := by decide +kernel
theorem dX7_isBetter_50 : decode cX7_isBetter 50 = .ok (.invokevirtual 175, 3) := by decide +kernel
theorem dX7_isBetter_53 : decode cX7_isBetter 53 = .ok (.invokevirtual 178, 3) := by decide +kernel
theorem dX7_isBetter_56 : decode cX7_isBetter 56 = .ok (.iload 5, 2) := by decide +kernel
theorem dX7_isBetter_58 : decode cX7_isBetter 58 = .ok (.if_icmp .ge 7, 3) := by decide +kernel
theorem dX7_isBetter_61 : decode cX7_isBetter 61 = .ok (.iconst 1, 1) := by decide +kernel
theorem dX7_isBetter_62 : decode cX7_isBetter 62 = .ok (.goto 4, 3) := by decide +kernel
theorem dX7_isBetter_65 : decode cX7_isBetter 65 = .ok (.iconst 0, 1) := by decide +kernel
theorem dX7_isBetter_66 : decode cX7_isBetter 66 = .ok (.ireturn, 1) := by decide +kernel
theorem dX7_shorten_0 : decode cX7_shorten 0 = .ok (.iload_n 1, 1) := by decide +kernel
theorem dX7_shorten_1 : decode cX7_shorten 1 = .ok (.invokestatic 161, 3) := by decide +kernel
theorem dX7_shorten_4 : decode cX7_shorten 4 = .ok (.ifCond .ne 6, 3) := by decide +kernel
theorem dX7_shorten_7 : decode cX7_shorten 7 = .ok (.bipush (-2), 2) := by decide +kernel
theorem dX7_shorten_9 : decode cX7_shorten 9 = .ok (.ireturn, 1) := by decide +kernel
theorem dX7_shorten_10 : decode cX7_shorten 10 = .ok (.iconst 0, 1) := by decide +kernel
theorem dX7_shorten_11 : decode cX7_shorten 11 = .ok (.istore_n 2, 1) := by decide +kernel
theorem dX7_shorten_12 : decode cX7_shorten 12 = .ok (.iconst 1, 1) := by decide +kernel
theorem dX7_shorten_13 : decode cX7_shorten 13 = .ok (.istore_n 3, 1) := by decide +kernel
theorem dX7_shorten_14 : decode cX7_shorten 14 = .ok (.iload_n 3, 1) := by decide +kernel
theorem dX7_shorten_15 : decode cX7_shorten 15 = .ok (.ifCond .eq 81, 3) := by decide +kernel
theorem dX7_shorten_18 : decode cX7_shorten 18 = .ok (.iconst 0, 1) := by decide +kernel
theorem dX7_shorten_19 : decode cX7_shorten 19 = .ok (.istore_n 3, 1) := by decide +kernel
theorem dX7_shorten_20 : decode cX7_shorten 20 = .ok (.iconst 0, 1) := by decide +kernel
theorem dX7_shorten_21 : decode cX7_shorten 21 = .ok (.istore 4, 2) := by decide +kernel
theorem dX7_shorten_23 : decode cX7_shorten 23 = .ok (.iload 4, 2) := by decide +kernel
theorem dX7_shorten_25 : decode cX7_shorten 25 = .ok (.aload_n 0, 1) := by decide +kernel
theorem dX7_shorten_26 : decode cX7_shorten 26 = .ok (.getfield 39, 3) := by decide +kernel
theorem dX7_shorten_29 : decode cX7_shorten 29 = .ok (.iload_n 1, 1) := by decide +kernel
theorem dX7_shorten_30 : decode cX7_shorten 30 = .ok (.iaload, 1) := by decide +kernel
theorem dX7_shorten_31 : decode cX7_shorten 31 = .ok (.if_icmp .ge 62, 3) := by decide +kernel
theorem dX7_shorten_34 : decode cX7_shorten 34 = .ok (.iconst 0, 1) := by decide +kernel
theorem dX7_shorten_35 : decode cX7_shorten 35 = .ok (.istore 5, 2) := by decide +kernel
theorem dX7_shorten_37 : decode cX7_shorten 37 = .ok (.iload 5, 2) := by decide +kernel
theorem dX7_shorten_39 : decode cX7_shorten 39 = .ok (.aload_n 0, 1) := by decide +kernel
theorem dX7_shorten_40 : decode cX7_shorten 40 = .ok (.getfield 39, 3) := by decide +kernel
theorem dX7_shorten_43 : decode cX7_shorten 43 = .ok (.iload_n 1, 1) := by decide +kernel
theorem dX7_shorten_44 : decode cX7_shorten 44 = .ok (.iaload, 1) := by decide +kernel
theorem dX7_shorten_45 : decode cX7_shorten 45 = .ok (.if_icmp .ge 42, 3) := by decide +kernel
theorem dX7_shorten_48 : decode cX7_shorten 48 = .ok (.iload 5, 2) := by decide +kernel
theorem dX7_shorten_50 : decode cX7_shorten 50 = .ok (.iload 4, 2) := by decide +kernel
theorem dX7_shorten_52 : decode cX7_shorten 52 = .ok (.if_icmp .eq 29, 3) := by decide +kernel
theorem dX7_shorten_55 : decode cX7_shorten 55 = .ok (.aload_n 0, 1) := by decide +kernel
theorem dX7_shorten_56 : decode cX7_shorten 56 = .ok (.iload_n 1, 1) := by decide +kernel
theorem dX7_shorten_57 : decode cX7_shorten 57 = .ok (.iload 4, 2) := by decide +kernel
theorem dX7_shorten_59 : decode cX7_shorten 59 = .ok (.iload 5, 2) := by decide +kernel
theorem dX7_shorten_61 : decode cX7_shorten 61 = .ok (.invokevirtual 182, 3) := by decide +kernel
theorem dX7_shorten_64 : decode cX7_shorten 64 = .ok (.ifCond .eq 17, 3) := by decide +kernel
theorem dX7_shorten_67 : decode cX7_shorten 67 = .ok (.aload_n 0, 1) := by decide +kernel
theorem dX7_shorten_68 : decode cX7_shorten 68 = .ok (.iload_n 1, 1) := by decide +kernel
theorem dX7_shorten_69 : decode cX7_shorten 69 = .ok (.iload 4, 2) := by decide +kernel
theorem dX7_shorten_71 : decode cX7_shorten 71 = .ok (.iload 5, 2) := by decide +kernel
theorem dX7_shorten_73 : decode cX7_shorten 73 = .ok (.invokevirtual 168, 3) := by decide +kernel
theorem dX7_shorten_76 : decode cX7_shorten 76 = .ok (.iinc 2 1, 3) := by decide +kernel
theorem dX7_shorten_79 : decode cX7_shorten 79 = .ok (.iconst 1, 1) := by decide +kernel
theorem dX7_shorten_80 : decode cX7_shorten 80 = .ok (.istore_n 3, 1) := by decide +kernel
theorem dX7_shorten_81 : decode cX7_shorten 81 = .ok (.iinc 5 1, 3) := by decide +kernel
theorem dX7_shorten_84 : decode cX7_shorten 84 = .ok (.goto (-47), 3) := by decide +kernel
theorem dX7_shorten_87 : decode cX7_shorten 87 = .ok (.iinc 4 1, 3) := by decide +kernel
theorem dX7_shorten_90 : decode cX7_shorten 90 = .ok (.goto (-67), 3) := by decide +kernel
theorem dX7_shorten_93 : decode cX7_shorten 93 = .ok (.goto (-79), 3) := by decide +kernel
theorem dX7_shorten_96 : decode cX7_shorten 96 = .ok (.iload_n 2, 1) := by decide +kernel
theorem dX7_shorten_97 : decode cX7_shorten 97 = .ok (.ireturn, 1) := by decide +kernel
theorem dX7_setThread_0 : decode cX7_setThread 0 = .ok (.iload_n 1, 1) := by decide +kernel
theorem dX7_setThread_1 : decode cX7_setThread 1 = .ok (.iconst 0, 1) := by decide +kernel
theorem dX7_setThread_2 : decode cX7_setThread 2 = .ok (.sipush 1000, 3) := by decide +kernel
theorem dX7_setThread_5 : decode cX7_setThread 5 = .ok (.invokestatic 81, 3) := by decide +kernel
theorem dX7_setThread_8 : decode cX7_setThread 8 = .ok (.ifCond .eq 14, 3) := by decide +kernel
theorem dX7_setThread_11 : decode cX7_setThread 11 = .ok (.iload_n 2, 1) := by decide +kernel
theorem dX7_setThread_12 : decode cX7_setThread 12 = .ok (.iconst 0, 1) := by decide +kernel
theorem dX7_setThread_13 : decode cX7_setThread 13 = .ok (.sipush 200, 3) := by decide +kernel
theorem dX7_setThread_16 : decode cX7_setThread 16 = .ok (.invokestatic 81, 3) := by decide +kernel
theorem dX7_setThread_19 : decode cX7_setThread 19 = .ok (.ifCond .ne 6, 3) := by decide +kernel
theorem dX7_setThread_22 : decode cX7_setThread 22 = .ok (.bipush (-2), 2) := by decide +kernel
theorem dX7_setThread_24 : decode cX7_setThread 24 = .ok (.ireturn, 1) := by decide +kernel
theorem dX7_setThread_25 : decode cX7_setThread 25 = .ok (.sipush 1000, 3) := by decide +kernel
theorem dX7_setThread_28 : decode cX7_setThread 28 = .ok (.aload_n 0, 1) := by decide +kernel
theorem dX7_setThread_29 : decode cX7_setThread 29 = .ok (.getfield 13, 3) := by decide +kernel
theorem dX7_setThread_32 : decode cX7_setThread 32 = .ok (.imul, 1) := by decide +kernel
theorem dX7_setThread_33 : decode cX7_setThread 33 = .ok (.aload_n 0, 1) := by decide +kernel
theorem dX7_setThread_34 : decode cX7_setThread 34 = .ok (.getfield 7, 3) := by decide +kernel
theorem dX7_setThread_37 : decode cX7_setThread 37 = .ok (.iadd, 1) := by decide +kernel
theorem dX7_setThread_38 : decode cX7_setThread 38 = .ok (.istore_n 3, 1) := by decide +kernel
theorem dX7_setThread_39 : decode cX7_setThread 39 = .ok (.aload_n 0, 1) := by decide +kernel
theorem dX7_setThread_40 : decode cX7_setThread 40 = .ok (.iload_n 1, 1) := by decide +kernel
theorem dX7_setThread_41 : decode cX7_setThread 41 = .ok (.putfield 7, 3) := by decide +kernel
theorem dX7_setThread_44 : decode cX7_setThread 44 = .ok (.aload_n 0, 1) := by decide +kernel
theorem dX7_setThread_45 : decode cX7_setThread 45 = .ok (.iload_n 2, 1) := by decide +kernel
theorem dX7_setThread_46 : decode cX7_setThread 46 = .ok (.putfield 13, 3) := by decide +kernel
theorem dX7_setThread_49 : decode cX7_setThread 49 = .ok (.iload_n 3, 1) := by decide +kernel
theorem dX7_setThread_50 : decode cX7_setThread 50 = .ok (.ireturn, 1) := by decide +kernel
theorem dX7_noEdge_0 : decode cX7_noEdge 0 = .ok (.iload_n 1, 1) := by decide +kernel
theorem dX7_noEdge_1 : decode cX7_noEdge 1 = .ok (.iconst 0, 1) := by decide +kernel
theorem dX7_noEdge_2 : decode cX7_noEdge 2 = .ok (.iload_n 3, 1) := by decide +kernel
theorem dX7_noEdge_3 : decode cX7_noEdge 3 = .ok (.ifCond .eq 10, 3) := by decide +kernel
theorem dX7_noEdge_6 : decode cX7_noEdge 6 = .ok (.aload_n 0, 1) := by decide +kernel
theorem dX7_noEdge_7 : decode cX7_noEdge 7 = .ok (.getfield 71, 3) := by decide +kernel
theorem dX7_noEdge_10 : decode cX7_noEdge 10 = .ok (.goto 9, 3) := by decide +kernel
theorem dX7_noEdge_13 : decode cX7_noEdge 13 = .ok (.aload_n 0, 1) := by decide +kernel
theorem dX7_noEdge_14 : decode cX7_noEdge 14 = .ok (.getfield 71, 3) := by decide +kernel
theorem dX7_noEdge_17 : decode cX7_noEdge 17 = .ok (.iconst 1, 1) := by decide +kernel
theorem dX7_noEdge_18 : decode cX7_noEdge 18 = .ok (.isub, 1) := by decide +kernel
theorem dX7_noEdge_19 : decode cX7_noEdge 19 = .ok (.invokestatic 81, 3) := by decide +kernel
theorem dX7_noEdge_22 : decode cX7_noEdge 22 = .ok (.ifCond .eq 28, 3) := by decide +kernel
theorem dX7_noEdge_25 : decode cX7_noEdge 25 = .ok (.iload_n 2, 1) := by decide +kernel
theorem dX7_noEdge_26 : decode cX7_noEdge 26 = .ok (.iconst 0, 1) := by decide +kernel
theorem dX7_noEdge_27 : decode cX7_noEdge 27 = .ok (.iload_n 3, 1) := by decide +kernel
theorem dX7_noEdge_28 : decode cX7_noEdge 28 = .ok (.ifCond .eq 12, 3) := by decide +kernel
theorem dX7_noEdge_31 : decode cX7_noEdge 31 = .ok (.aload_n 0, 1) := by decide +kernel
theorem dX7_noEdge_32 : decode cX7_noEdge 32 = .ok (.getfield 74, 3) := by decide +kernel
theorem dX7_noEdge_35 : decode cX7_noEdge 35 = .ok (.iconst 1, 1) := by decide +kernel
theorem dX7_noEdge_36 : decode cX7_noEdge 36 = .ok (.isub, 1) := by decide +kernel
theorem dX7_noEdge_37 : decode cX7_noEdge 37 = .ok (.goto 7, 3) := by decide +kernel
theorem dX7_noEdge_40 : decode cX7_noEdge 40 = .ok (.aload_n 0, 1) := by decide +kernel
theorem dX7_noEdge_41 : decode cX7_noEdge 41 = .ok (.getfield 74, 3) := by decide +kernel
theorem dX7_noEdge_44 : decode cX7_noEdge 44 = .ok (.invokestatic 81, 3) := by decide +kernel
theorem dX7_noEdge_47 : decode cX7_noEdge 47 = .ok (.ifCond .ne 7, 3) := by decide +kernel
theorem dX7_noEdge_50 : decode cX7_noEdge 50 = .ok (.iconst 1, 1) := by decide +kernel
theorem dX7_noEdge_51 : decode cX7_noEdge 51 = .ok (.goto 4, 3) := by decide +kernel
theorem dX7_noEdge_54 : decode cX7_noEdge 54 = .ok (.iconst 0, 1) := by decide +kernel
theorem dX7_noEdge_55 : decode cX7_noEdge 55 = .ok (.ireturn, 1) := by decide +kernel
theorem dX7_edge_0 : decode cX7_edge 0 = .ok (.bipush 25, 2) := by decide +kernel
theorem dX7_edge_2 : decode cX7_edge 2 = .ok (.iload_n 1, 1) := by decide +kernel
theorem dX7_edge_3 : decode cX7_edge 3 = .ok (.imul, 1) := by decide +kernel
theorem dX7_edge_4 : decode cX7_edge 4 = .ok (.iload_n 0, 1) := by decide +kernel
theorem dX7_edge_5 : decode cX7_edge 5 = .ok (.iadd, 1) := by decide +kernel
theorem dX7_edge_6 : decode cX7_edge 6 = .ok (.ireturn, 1) := by decide +kernel
theorem dX7_hasBack_0 : decode cX7_hasBack 0 = .ok (.aload_n 0, 1) := by decide +kernel
theorem dX7_hasBack_1 : decode cX7_hasBack 1 = .ok (.iload_n 1, 1) := by decide +kernel
theorem dX7_hasBack_2 : decode cX7_hasBack 2 = .ok (.iload_n 2, 1) := by decide +kernel
theorem dX7_hasBack_3 : decode cX7_hasBack 3 = .ok (.iload_n 3, 1) := by decide +kernel
theorem dX7_hasBack_4 : decode cX7_hasBack 4 = .ok (.invokevirtual 185, 3) := by decide +kernel
theorem dX7_hasBack_7 : decode cX7_hasBack 7 = .ok (.ifCond .ne 40, 3) := by decide +kernel
theorem dX7_hasBack_10 : decode cX7_hasBack 10 = .ok (.iload_n 3, 1) := by decide +kernel
theorem dX7_hasBack_11 : decode cX7_hasBack 11 = .ok (.ifCond .eq 19, 3) := by decide +kernel
theorem dX7_hasBack_14 : decode cX7_hasBack 14 = .ok (.aload_n 0, 1) := by decide +kernel
theorem dX7_hasBack_15 : decode cX7_hasBack 15 = .ok (.getfield 36, 3) := by decide +kernel
theorem dX7_hasBack_18 : decode cX7_hasBack 18 = .ok (.iload_n 1, 1) := by decide +kernel
theorem dX7_hasBack_19 : decode cX7_hasBack 19 = .ok (.iload_n 2, 1) := by decide +kernel
theorem dX7_hasBack_20 : decode cX7_hasBack 20 = .ok (.invokestatic 189, 3) := by decide +kernel
theorem dX7_hasBack_23 : decode cX7_hasBack 23 = .ok (.baload, 1) := by decide +kernel
theorem dX7_hasBack_24 : decode cX7_hasBack 24 = .ok (.ifCond .eq 23, 3) := by decide +kernel
theorem dX7_hasBack_27 : decode cX7_hasBack 27 = .ok (.goto 16, 3) := by decide +kernel
theorem dX7_hasBack_30 : decode cX7_hasBack 30 = .ok (.aload_n 0, 1) := by decide +kernel
theorem dX7_hasBack_31 : decode cX7_hasBack 31 = .ok (.getfield 32, 3) := by decide +kernel
theorem dX7_hasBack_34 : decode cX7_hasBack 34 = .ok (.iload_n 1, 1) := by decide +kernel
theorem dX7_hasBack_35 : decode cX7_hasBack 35 = .ok (.iload_n 2, 1) := by decide +kernel
theorem dX7_hasBack_36 : decode cX7_hasBack 36 = .ok (.invokestatic 189, 3) := by decide +kernel
theorem dX7_hasBack_39 : decode cX7_hasBack 39 = .ok (.baload, 1) := by decide +kernel
theorem dX7_hasBack_40 : decode cX7_hasBack 40 = .ok (.ifCond .eq 7, 3) := by decide +kernel
theorem dX7_hasBack_43 : decode cX7_hasBack 43 = .ok (.iconst 1, 1) := by decide +kernel
theorem dX7_hasBack_44 : decode cX7_hasBack 44 = .ok (.goto 4, 3) := by decide +kernel
theorem dX7_hasBack_47 : decode cX7_hasBack 47 = .ok (.iconst 0, 1) := by decide +kernel
theorem dX7_hasBack_48 : decode cX7_hasBack 48 = .ok (.ireturn, 1) := by decide +kernel
theorem dX7_putBack_0 : decode cX7_putBack 0 = .ok (.aload_n 0, 1) := by decide +kernel
theorem dX7_putBack_1 : decode cX7_putBack 1 = .ok (.iload_n 1, 1) := by decide +kernel
theorem dX7_putBack_2 : decode cX7_putBack 2 = .ok (.iload_n 2, 1) := by decide +kernel
theorem dX7_putBack_3 : decode cX7_putBack 3 = .ok (.iload_n 3, 1) := by decide +kernel
theorem dX7_putBack_4 : decode cX7_putBack 4 = .ok (.invokevirtual 192, 3) := by decide +kernel
theorem dX7_putBack_7 : decode cX7_putBack 7 = .ok (.iload 4, 2) := by decide +kernel
theorem dX7_putBack_9 : decode cX7_putBack 9 = .ok (.if_icmp .eq 7, 3) := by decide +kernel
theorem dX7_putBack_12 : decode cX7_putBack 12 = .ok (.iconst 1, 1) := by decide +kernel
theorem dX7_putBack_13 : decode cX7_putBack 13 = .ok (.goto 4, 3) := by decide +kernel
theorem dX7_putBack_16 : decode cX7_putBack 16 = .ok (.iconst 0, 1) := by decide +kernel
theorem dX7_putBack_17 : decode cX7_putBack 17 = .ok (.istore 5, 2) := by decide +kernel
theorem dX7_putBack_19 : decode cX7_putBack 19 = .ok (.iload_n 3, 1) := by decide +kernel
theorem dX7_putBack_20 : decode cX7_putBack 20 = .ok (.ifCond .eq 18, 3) := by decide +kernel
theorem dX7_putBack_23 : decode cX7_putBack 23 = .ok (.aload_n 0, 1) := by decide +kernel
theorem dX7_putBack_24 : decode cX7_putBack 24 = .ok (.getfield 36, 3) := by decide +kernel
theorem dX7_putBack_27 : decode cX7_putBack 27 = .ok (.iload_n 1, 1) := by decide +kernel
theorem dX7_putBack_28 : decode cX7_putBack 28 = .ok (.iload_n 2, 1) := by decide +kernel
theorem dX7_putBack_29 : decode cX7_putBack 29 = .ok (.invokestatic 189, 3) := by decide +kernel
theorem dX7_putBack_32 : decode cX7_putBack 32 = .ok (.iload 4, 2) := by decide +kernel
theorem dX7_putBack_34 : decode cX7_putBack 34 = .ok (.bastore, 1) := by decide +kernel
theorem dX7_putBack_35 : decode cX7_putBack 35 = .ok (.goto 15, 3) := by decide +kernel
theorem dX7_putBack_38 : decode cX7_putBack 38 = .ok (.aload_n 0, 1) := by decide +kernel
theorem dX7_putBack_39 : decode cX7_putBack 39 = .ok (.getfield 32, 3) := by decide +kernel
theorem dX7_putBack_42 : decode cX7_putBack 42 = .ok (.iload_n 1, 1) := by decide +kernel
theorem dX7_putBack_43 : decode cX7_putBack 43 = .ok (.iload_n 2, 1) := by decide +kernel
theorem dX7_putBack_44 : decode cX7_putBack 44 = .ok (.invokestatic 189, 3) := by decide +kernel
theorem dX7_putBack_47 : decode cX7_putBack 47 = .ok (.iload 4, 2) := by decide +kernel
theorem dX7_putBack_49 : decode cX7_putBack 49 = .ok (.bastore, 1) := by decide +kernel
theorem dX7_putBack_50 : decode cX7_putBack 50 = .ok (.iload 5, 2) := by decide +kernel
theorem dX7_putBack_52 : decode cX7_putBack 52 = .ok (.ireturn, 1) := by decide +kernel
theorem dX7_setBack_0 : decode cX7_setBack 0 = .ok (.aload_n 0, 1) := by decide +kernel
theorem dX7_setBack_1 : decode cX7_setBack 1 = .ok (.iload_n 1, 1) := by decide +kernel
theorem dX7_setBack_2 : decode cX7_setBack 2 = .ok (.iload_n 2, 1) := by decide +kernel
theorem dX7_setBack_3 : decode cX7_setBack 3 = .ok (.iload_n 3, 1) := by decide +kernel
theorem dX7_setBack_4 : decode cX7_setBack 4 = .ok (.invokevirtual 185, 3) := by decide +kernel
theorem dX7_setBack_7 : decode cX7_setBack 7 = .ok (.ifCond .eq 7, 3) := by decide +kernel
theorem dX7_setBack_10 : decode cX7_setBack 10 = .ok (.iconst (-1), 1) := by decide +kernel
theorem dX7_setBack_11 : decode cX7_setBack 11 = .ok (.goto 12, 3) := by decide +kernel
theorem dX7_setBack_14 : decode cX7_setBack 14 = .ok (.aload_n 0, 1) := by decide +kernel
theorem dX7_setBack_15 : decode cX7_setBack 15 = .ok (.iload_n 1, 1) := by decide +kernel
theorem dX7_setBack_16 : decode cX7_setBack 16 = .ok (.iload_n 2, 1) := by decide +kernel
theorem dX7_setBack_17 : decode cX7_setBack 17 = .ok (.iload_n 3, 1) := by decide +kernel
theorem dX7_setBack_18 : decode cX7_setBack 18 = .ok (.iload 4, 2) := by decide +kernel
theorem dX7_setBack_20 : decode cX7_setBack 20 = .ok (.invokevirtual 195, 3) := by decide +kernel
theorem dX7_setBack_23 : decode cX7_setBack 23 = .ok (.ireturn, 1) := by decide +kernel
theorem dX7_back_0 : decode cX7_back 0 = .ok (.aload_n 0, 1) := by decide +kernel
theorem dX7_back_1 : decode cX7_back 1 = .ok (.iload_n 1, 1) := by decide +kernel
theorem dX7_back_2 : decode cX7_back 2 = .ok (.iload_n 2, 1) := by decide +kernel
theorem dX7_back_3 : decode cX7_back 3 = .ok (.iload_n 3, 1) := by decide +kernel
theorem dX7_back_4 : decode cX7_back 4 = .ok (.invokevirtual 185, 3) := by decide +kernel
theorem dX7_back_7 : decode cX7_back 7 = .ok (.ifCond .eq 5, 3) := by decide +kernel
theorem dX7_back_10 : decode cX7_back 10 = .ok (.iconst (-1), 1) := by decide +kernel
theorem dX7_back_11 : decode cX7_back 11 = .ok (.ireturn, 1) := by decide +kernel
theorem dX7_back_12 : decode cX7_back 12 = .ok (.aload_n 0, 1) := by decide +kernel
theorem dX7_back_13 : decode cX7_back 13 = .ok (.iload_n 1, 1) := by decide +kernel
theorem dX7_back_14 : decode cX7_back 14 = .ok (.iload_n 2, 1) := by decide +kernel
theorem dX7_back_15 : decode cX7_back 15 = .ok (.iload_n 3, 1) := by decide +kernel
theorem dX7_back_16 : decode cX7_back 16 = .ok (.invokevirtual 192, 3) := by decide +kernel
theorem dX7_back_19 : decode cX7_back 19 = .ok (.ifCond .eq 7, 3) := by decide +kernel
theorem dX7_back_22 : decode cX7_back 22 = .ok (.iconst 1, 1) := by decide +kernel
theorem dX7_back_23 : decode cX7_back 23 = .ok (.goto 4, 3) := by decide +kernel
theorem dX7_back_26 : decode cX7_back 26 = .ok (.iconst 0, 1) := by decide +kernel
theorem dX7_back_27 : decode cX7_back 27 = .ok (.ireturn, 1) := by decide +kernel
theorem dX7_outline_0 : decode cX7_outline 0 = .ok (.iload_n 1, 1) := by decide +kernel
theorem dX7_outline_1 : decode cX7_outline 1 = .ok (.invokestatic 161, 3) := by decide +kernel
theorem dX7_outline_4 : decode cX7_outline 4 = .ok (.ifCond .ne 6, 3) := by decide +kernel
theorem dX7_outline_7 : decode cX7_outline 7 = .ok (.bipush (-2), 2) := by decide +kernel
theorem dX7_outline_9 : decode cX7_outline 9 = .ok (.ireturn, 1) := by decide +kernel
theorem dX7_outline_10 : decode cX7_outline 10 = .ok (.iconst 0, 1) := by decide +kernel
theorem dX7_outline_11 : decode cX7_outline 11 = .ok (.istore_n 2, 1) := by decide +kernel
theorem dX7_outline_12 : decode cX7_outline 12 = .ok (.iconst 0, 1) := by decide +kernel
theorem dX7_outline_13 : decode cX7_outline 13 = .ok (.istore_n 3, 1) := by decide +kernel
theorem dX7_outline_14 : decode cX7_outline 14 = .ok (.iload_n 3, 1) := by decide +kernel
theorem dX7_outline_15 : decode cX7_outline 15 = .ok (.aload_n 0, 1) := by decide +kernel
theorem dX7_outline_16 : decode cX7_outline 16 = .ok (.getfield 71, 3) := by decide +kernel
theorem dX7_outline_19 : decode cX7_outline 19 = .ok (.if_icmp .gt 132, 3) := by decide +kernel
theorem dX7_outline_22 : decode cX7_outline 22 = .ok (.iconst 0, 1) := by decide +kernel
theorem dX7_outline_23 : decode cX7_outline 23 = .ok (.istore 4, 2) := by decide +kernel
theorem dX7_outline_25 : decode cX7_outline 25 = .ok (.iload 4, 2) := by decide +kernel
theorem dX7_outline_27 : decode cX7_outline 27 = .ok (.aload_n 0, 1) := by decide +kernel
theorem dX7_outline_28 : decode cX7_outline 28 = .ok (.getfield 74, 3) := by decide +kernel
theorem dX7_outline_31 : decode cX7_outline 31 = .ok (.if_icmp .gt 114, 3) := by decide +kernel
theorem dX7_outline_34 : decode cX7_outline 34 = .ok (.aload_n 0, 1) := by decide +kernel
theorem dX7_outline_35 : decode cX7_outline 35 = .ok (.iload_n 3, 1) := by decide +kernel
theorem dX7_outline_36 : decode cX7_outline 36 = .ok (.iload 4, 2) := by decide +kernel
