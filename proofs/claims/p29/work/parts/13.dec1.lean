theorem dX2_relocate_82 : decode cX2_relocate 82 = .ok (.aload_n 0, 1) := by decide +kernel
theorem dX2_relocate_83 : decode cX2_relocate 83 = .ok (.iload_n 3, 1) := by decide +kernel
theorem dX2_relocate_84 : decode cX2_relocate 84 = .ok (.iload_n 2, 1) := by decide +kernel
theorem dX2_relocate_85 : decode cX2_relocate 85 = .ok (.invokevirtual 95, 3) := by decide +kernel
theorem dX2_relocate_88 : decode cX2_relocate 88 = .ok (.return_, 1) := by decide +kernel
theorem dX2_lay_0 : decode cX2_lay 0 = .ok (.aload_n 0, 1) := by decide +kernel
theorem dX2_lay_1 : decode cX2_lay 1 = .ok (.iload_n 1, 1) := by decide +kernel
theorem dX2_lay_2 : decode cX2_lay 2 = .ok (.invokevirtual 62, 3) := by decide +kernel
theorem dX2_lay_5 : decode cX2_lay 5 = .ok (.ifCond .eq 25, 3) := by decide +kernel
theorem dX2_lay_8 : decode cX2_lay 8 = .ok (.aload_n 0, 1) := by decide +kernel
theorem dX2_lay_9 : decode cX2_lay 9 = .ok (.iload_n 2, 1) := by decide +kernel
theorem dX2_lay_10 : decode cX2_lay 10 = .ok (.invokevirtual 62, 3) := by decide +kernel
theorem dX2_lay_13 : decode cX2_lay 13 = .ok (.ifCond .eq 17, 3) := by decide +kernel
theorem dX2_lay_16 : decode cX2_lay 16 = .ok (.aload_n 0, 1) := by decide +kernel
theorem dX2_lay_17 : decode cX2_lay 17 = .ok (.getfield 33, 3) := by decide +kernel
theorem dX2_lay_20 : decode cX2_lay 20 = .ok (.iload_n 2, 1) := by decide +kernel
theorem dX2_lay_21 : decode cX2_lay 21 = .ok (.iload_n 1, 1) := by decide +kernel
theorem dX2_lay_22 : decode cX2_lay 22 = .ok (.iastore, 1) := by decide +kernel
theorem dX2_lay_23 : decode cX2_lay 23 = .ok (.aload_n 0, 1) := by decide +kernel
theorem dX2_lay_24 : decode cX2_lay 24 = .ok (.getfield 36, 3) := by decide +kernel
theorem dX2_lay_27 : decode cX2_lay 27 = .ok (.iload_n 1, 1) := by decide +kernel
theorem dX2_lay_28 : decode cX2_lay 28 = .ok (.iload_n 2, 1) := by decide +kernel
theorem dX2_lay_29 : decode cX2_lay 29 = .ok (.iastore, 1) := by decide +kernel
theorem dX2_lay_30 : decode cX2_lay 30 = .ok (.return_, 1) := by decide +kernel
theorem dX2_shortenOrder_0 : decode cX2_shortenOrder 0 = .ok (.iconst 0, 1) := by decide +kernel
theorem dX2_shortenOrder_1 : decode cX2_shortenOrder 1 = .ok (.istore_n 1, 1) := by decide +kernel
theorem dX2_shortenOrder_2 : decode cX2_shortenOrder 2 = .ok (.iconst 0, 1) := by decide +kernel
theorem dX2_shortenOrder_3 : decode cX2_shortenOrder 3 = .ok (.istore_n 2, 1) := by decide +kernel
theorem dX2_shortenOrder_4 : decode cX2_shortenOrder 4 = .ok (.iload_n 2, 1) := by decide +kernel
theorem dX2_shortenOrder_5 : decode cX2_shortenOrder 5 = .ok (.ldc 98, 2) := by decide +kernel
theorem dX2_shortenOrder_7 : decode cX2_shortenOrder 7 = .ok (.if_icmp .ge 25, 3) := by decide +kernel
theorem dX2_shortenOrder_10 : decode cX2_shortenOrder 10 = .ok (.aload_n 0, 1) := by decide +kernel
theorem dX2_shortenOrder_11 : decode cX2_shortenOrder 11 = .ok (.invokevirtual 99, 3) := by decide +kernel
theorem dX2_shortenOrder_14 : decode cX2_shortenOrder 14 = .ok (.istore_n 3, 1) := by decide +kernel
theorem dX2_shortenOrder_15 : decode cX2_shortenOrder 15 = .ok (.iload_n 3, 1) := by decide +kernel
theorem dX2_shortenOrder_16 : decode cX2_shortenOrder 16 = .ok (.ifCond .ne 6, 3) := by decide +kernel
theorem dX2_shortenOrder_19 : decode cX2_shortenOrder 19 = .ok (.goto 13, 3) := by decide +kernel
theorem dX2_shortenOrder_22 : decode cX2_shortenOrder 22 = .ok (.iload_n 1, 1) := by decide +kernel
theorem dX2_shortenOrder_23 : decode cX2_shortenOrder 23 = .ok (.iload_n 3, 1) := by decide +kernel
theorem dX2_shortenOrder_24 : decode cX2_shortenOrder 24 = .ok (.iadd, 1) := by decide +kernel
theorem dX2_shortenOrder_25 : decode cX2_shortenOrder 25 = .ok (.istore_n 1, 1) := by decide +kernel
theorem dX2_shortenOrder_26 : decode cX2_shortenOrder 26 = .ok (.iinc 2 1, 3) := by decide +kernel
theorem dX2_shortenOrder_29 : decode cX2_shortenOrder 29 = .ok (.goto (-25), 3) := by decide +kernel
theorem dX2_shortenOrder_32 : decode cX2_shortenOrder 32 = .ok (.iload_n 1, 1) := by decide +kernel
theorem dX2_shortenOrder_33 : decode cX2_shortenOrder 33 = .ok (.ireturn, 1) := by decide +kernel
theorem dX2_shortenOnce_0 : decode cX2_shortenOnce 0 = .ok (.iconst 0, 1) := by decide +kernel
theorem dX2_shortenOnce_1 : decode cX2_shortenOnce 1 = .ok (.istore_n 1, 1) := by decide +kernel
theorem dX2_shortenOnce_2 : decode cX2_shortenOnce 2 = .ok (.iconst 0, 1) := by decide +kernel
theorem dX2_shortenOnce_3 : decode cX2_shortenOnce 3 = .ok (.istore_n 2, 1) := by decide +kernel
theorem dX2_shortenOnce_4 : decode cX2_shortenOnce 4 = .ok (.iload_n 2, 1) := by decide +kernel
theorem dX2_shortenOnce_5 : decode cX2_shortenOnce 5 = .ok (.aload_n 0, 1) := by decide +kernel
theorem dX2_shortenOnce_6 : decode cX2_shortenOnce 6 = .ok (.getfield 39, 3) := by decide +kernel
theorem dX2_shortenOnce_9 : decode cX2_shortenOnce 9 = .ok (.if_icmp .ge 48, 3) := by decide +kernel
theorem dX2_shortenOnce_12 : decode cX2_shortenOnce 12 = .ok (.iconst 0, 1) := by decide +kernel
theorem dX2_shortenOnce_13 : decode cX2_shortenOnce 13 = .ok (.istore_n 3, 1) := by decide +kernel
theorem dX2_shortenOnce_14 : decode cX2_shortenOnce 14 = .ok (.iload_n 3, 1) := by decide +kernel
theorem dX2_shortenOnce_15 : decode cX2_shortenOnce 15 = .ok (.aload_n 0, 1) := by decide +kernel
theorem dX2_shortenOnce_16 : decode cX2_shortenOnce 16 = .ok (.getfield 39, 3) := by decide +kernel
theorem dX2_shortenOnce_19 : decode cX2_shortenOnce 19 = .ok (.if_icmp .ge 32, 3) := by decide +kernel
theorem dX2_shortenOnce_22 : decode cX2_shortenOnce 22 = .ok (.iload_n 3, 1) := by decide +kernel
theorem dX2_shortenOnce_23 : decode cX2_shortenOnce 23 = .ok (.iload_n 2, 1) := by decide +kernel
theorem dX2_shortenOnce_24 : decode cX2_shortenOnce 24 = .ok (.if_icmp .eq 21, 3) := by decide +kernel
theorem dX2_shortenOnce_27 : decode cX2_shortenOnce 27 = .ok (.aload_n 0, 1) := by decide +kernel
theorem dX2_shortenOnce_28 : decode cX2_shortenOnce 28 = .ok (.iload_n 2, 1) := by decide +kernel
theorem dX2_shortenOnce_29 : decode cX2_shortenOnce 29 = .ok (.iload_n 3, 1) := by decide +kernel
theorem dX2_shortenOnce_30 : decode cX2_shortenOnce 30 = .ok (.invokevirtual 102, 3) := by decide +kernel
theorem dX2_shortenOnce_33 : decode cX2_shortenOnce 33 = .ok (.ifCond .le 12, 3) := by decide +kernel
theorem dX2_shortenOnce_36 : decode cX2_shortenOnce 36 = .ok (.aload_n 0, 1) := by decide +kernel
theorem dX2_shortenOnce_37 : decode cX2_shortenOnce 37 = .ok (.iload_n 2, 1) := by decide +kernel
theorem dX2_shortenOnce_38 : decode cX2_shortenOnce 38 = .ok (.iload_n 3, 1) := by decide +kernel
theorem dX2_shortenOnce_39 : decode cX2_shortenOnce 39 = .ok (.invokevirtual 105, 3) := by decide +kernel
theorem dX2_shortenOnce_42 : decode cX2_shortenOnce 42 = .ok (.iinc 1 1, 3) := by decide +kernel
theorem dX2_shortenOnce_45 : decode cX2_shortenOnce 45 = .ok (.iinc 3 1, 3) := by decide +kernel
theorem dX2_shortenOnce_48 : decode cX2_shortenOnce 48 = .ok (.goto (-34), 3) := by decide +kernel
theorem dX2_shortenOnce_51 : decode cX2_shortenOnce 51 = .ok (.iinc 2 1, 3) := by decide +kernel
theorem dX2_shortenOnce_54 : decode cX2_shortenOnce 54 = .ok (.goto (-50), 3) := by decide +kernel
theorem dX2_shortenOnce_57 : decode cX2_shortenOnce 57 = .ok (.iload_n 1, 1) := by decide +kernel
theorem dX2_shortenOnce_58 : decode cX2_shortenOnce 58 = .ok (.ireturn, 1) := by decide +kernel
theorem dX2_savedByMove_0 : decode cX2_savedByMove 0 = .ok (.aload_n 0, 1) := by decide +kernel
theorem dX2_savedByMove_1 : decode cX2_savedByMove 1 = .ok (.iload_n 1, 1) := by decide +kernel
theorem dX2_savedByMove_2 : decode cX2_savedByMove 2 = .ok (.invokevirtual 86, 3) := by decide +kernel
theorem dX2_savedByMove_5 : decode cX2_savedByMove 5 = .ok (.istore_n 3, 1) := by decide +kernel
theorem dX2_savedByMove_6 : decode cX2_savedByMove 6 = .ok (.aload_n 0, 1) := by decide +kernel
theorem dX2_savedByMove_7 : decode cX2_savedByMove 7 = .ok (.iload_n 1, 1) := by decide +kernel
theorem dX2_savedByMove_8 : decode cX2_savedByMove 8 = .ok (.iconst 1, 1) := by decide +kernel
theorem dX2_savedByMove_9 : decode cX2_savedByMove 9 = .ok (.isub, 1) := by decide +kernel
theorem dX2_savedByMove_10 : decode cX2_savedByMove 10 = .ok (.invokevirtual 86, 3) := by decide +kernel
theorem dX2_savedByMove_13 : decode cX2_savedByMove 13 = .ok (.istore 4, 2) := by decide +kernel
theorem dX2_savedByMove_15 : decode cX2_savedByMove 15 = .ok (.aload_n 0, 1) := by decide +kernel
theorem dX2_savedByMove_16 : decode cX2_savedByMove 16 = .ok (.iload_n 1, 1) := by decide +kernel
theorem dX2_savedByMove_17 : decode cX2_savedByMove 17 = .ok (.iconst 1, 1) := by decide +kernel
theorem dX2_savedByMove_18 : decode cX2_savedByMove 18 = .ok (.iadd, 1) := by decide +kernel
theorem dX2_savedByMove_19 : decode cX2_savedByMove 19 = .ok (.invokevirtual 86, 3) := by decide +kernel
theorem dX2_savedByMove_22 : decode cX2_savedByMove 22 = .ok (.istore 5, 2) := by decide +kernel
theorem dX2_savedByMove_24 : decode cX2_savedByMove 24 = .ok (.aload_n 0, 1) := by decide +kernel
theorem dX2_savedByMove_25 : decode cX2_savedByMove 25 = .ok (.iload_n 2, 1) := by decide +kernel
theorem dX2_savedByMove_26 : decode cX2_savedByMove 26 = .ok (.iload_n 1, 1) := by decide +kernel
theorem dX2_savedByMove_27 : decode cX2_savedByMove 27 = .ok (.if_icmp .le 7, 3) := by decide +kernel
theorem dX2_savedByMove_30 : decode cX2_savedByMove 30 = .ok (.iload_n 2, 1) := by decide +kernel
theorem dX2_savedByMove_31 : decode cX2_savedByMove 31 = .ok (.goto 6, 3) := by decide +kernel
theorem dX2_savedByMove_34 : decode cX2_savedByMove 34 = .ok (.iload_n 2, 1) := by decide +kernel
theorem dX2_savedByMove_35 : decode cX2_savedByMove 35 = .ok (.iconst 1, 1) := by decide +kernel
theorem dX2_savedByMove_36 : decode cX2_savedByMove 36 = .ok (.isub, 1) := by decide +kernel
theorem dX2_savedByMove_37 : decode cX2_savedByMove 37 = .ok (.invokevirtual 86, 3) := by decide +kernel
theorem dX2_savedByMove_40 : decode cX2_savedByMove 40 = .ok (.istore 6, 2) := by decide +kernel
theorem dX2_savedByMove_42 : decode cX2_savedByMove 42 = .ok (.aload_n 0, 1) := by decide +kernel
theorem dX2_savedByMove_43 : decode cX2_savedByMove 43 = .ok (.iload_n 2, 1) := by decide +kernel
theorem dX2_savedByMove_44 : decode cX2_savedByMove 44 = .ok (.iload_n 1, 1) := by decide +kernel
theorem dX2_savedByMove_45 : decode cX2_savedByMove 45 = .ok (.if_icmp .le 9, 3) := by decide +kernel
theorem dX2_savedByMove_48 : decode cX2_savedByMove 48 = .ok (.iload_n 2, 1) := by decide +kernel
theorem dX2_savedByMove_49 : decode cX2_savedByMove 49 = .ok (.iconst 1, 1) := by decide +kernel
theorem dX2_savedByMove_50 : decode cX2_savedByMove 50 = .ok (.iadd, 1) := by decide +kernel
theorem dX2_savedByMove_51 : decode cX2_savedByMove 51 = .ok (.goto 4, 3) := by decide +kernel
theorem dX2_savedByMove_54 : decode cX2_savedByMove 54 = .ok (.iload_n 2, 1) := by decide +kernel
theorem dX2_savedByMove_55 : decode cX2_savedByMove 55 = .ok (.invokevirtual 86, 3) := by decide +kernel
theorem dX2_savedByMove_58 : decode cX2_savedByMove 58 = .ok (.istore 7, 2) := by decide +kernel
theorem dX2_savedByMove_60 : decode cX2_savedByMove 60 = .ok (.aload_n 0, 1) := by decide +kernel
theorem dX2_savedByMove_61 : decode cX2_savedByMove 61 = .ok (.iload 4, 2) := by decide +kernel
theorem dX2_savedByMove_63 : decode cX2_savedByMove 63 = .ok (.iload_n 3, 1) := by decide +kernel
theorem dX2_savedByMove_64 : decode cX2_savedByMove 64 = .ok (.invokevirtual 89, 3) := by decide +kernel
theorem dX2_savedByMove_67 : decode cX2_savedByMove 67 = .ok (.aload_n 0, 1) := by decide +kernel
theorem dX2_savedByMove_68 : decode cX2_savedByMove 68 = .ok (.iload_n 3, 1) := by decide +kernel
theorem dX2_savedByMove_69 : decode cX2_savedByMove 69 = .ok (.iload 5, 2) := by decide +kernel
theorem dX2_savedByMove_71 : decode cX2_savedByMove 71 = .ok (.invokevirtual 89, 3) := by decide +kernel
theorem dX2_savedByMove_74 : decode cX2_savedByMove 74 = .ok (.iadd, 1) := by decide +kernel
theorem dX2_savedByMove_75 : decode cX2_savedByMove 75 = .ok (.aload_n 0, 1) := by decide +kernel
theorem dX2_savedByMove_76 : decode cX2_savedByMove 76 = .ok (.iload 6, 2) := by decide +kernel
theorem dX2_savedByMove_78 : decode cX2_savedByMove 78 = .ok (.iload 7, 2) := by decide +kernel
theorem dX2_savedByMove_80 : decode cX2_savedByMove 80 = .ok (.invokevirtual 89, 3) := by decide +kernel
theorem dX2_savedByMove_83 : decode cX2_savedByMove 83 = .ok (.iadd, 1) := by decide +kernel
theorem dX2_savedByMove_84 : decode cX2_savedByMove 84 = .ok (.istore 8, 2) := by decide +kernel
theorem dX2_savedByMove_86 : decode cX2_savedByMove 86 = .ok (.aload_n 0, 1) := by decide +kernel
theorem dX2_savedByMove_87 : decode cX2_savedByMove 87 = .ok (.iload 4, 2) := by decide +kernel
theorem dX2_savedByMove_89 : decode cX2_savedByMove 89 = .ok (.iload 5, 2) := by decide +kernel
theorem dX2_savedByMove_91 : decode cX2_savedByMove 91 = .ok (.invokevirtual 89, 3) := by decide +kernel
theorem dX2_savedByMove_94 : decode cX2_savedByMove 94 = .ok (.aload_n 0, 1) := by decide +kernel
theorem dX2_savedByMove_95 : decode cX2_savedByMove 95 = .ok (.iload 6, 2) := by decide +kernel
theorem dX2_savedByMove_97 : decode cX2_savedByMove 97 = .ok (.iload_n 3, 1) := by decide +kernel
theorem dX2_savedByMove_98 : decode cX2_savedByMove 98 = .ok (.invokevirtual 89, 3) := by decide +kernel
theorem dX2_savedByMove_101 : decode cX2_savedByMove 101 = .ok (.iadd, 1) := by decide +kernel
theorem dX2_savedByMove_102 : decode cX2_savedByMove 102 = .ok (.aload_n 0, 1) := by decide +kernel
theorem dX2_savedByMove_103 : decode cX2_savedByMove 103 = .ok (.iload_n 3, 1) := by decide +kernel
theorem dX2_savedByMove_104 : decode cX2_savedByMove 104 = .ok (.iload 7, 2) := by decide +kernel
theorem dX2_savedByMove_106 : decode cX2_savedByMove 106 = .ok (.invokevirtual 89, 3) := by decide +kernel
theorem dX2_savedByMove_109 : decode cX2_savedByMove 109 = .ok (.iadd, 1) := by decide +kernel
theorem dX2_savedByMove_110 : decode cX2_savedByMove 110 = .ok (.istore 9, 2) := by decide +kernel
theorem dX2_savedByMove_112 : decode cX2_savedByMove 112 = .ok (.iload 8, 2) := by decide +kernel
theorem dX2_savedByMove_114 : decode cX2_savedByMove 114 = .ok (.iload 9, 2) := by decide +kernel
theorem dX2_savedByMove_116 : decode cX2_savedByMove 116 = .ok (.isub, 1) := by decide +kernel
theorem dX2_savedByMove_117 : decode cX2_savedByMove 117 = .ok (.ireturn, 1) := by decide +kernel
theorem dX2_runsOnPage_0 : decode cX2_runsOnPage 0 = .ok (.iconst 0, 1) := by decide +kernel
theorem dX2_runsOnPage_1 : decode cX2_runsOnPage 1 = .ok (.istore_n 3, 1) := by decide +kernel
theorem dX2_runsOnPage_2 : decode cX2_runsOnPage 2 = .ok (.iconst 0, 1) := by decide +kernel
theorem dX2_runsOnPage_3 : decode cX2_runsOnPage 3 = .ok (.istore 4, 2) := by decide +kernel
theorem dX2_runsOnPage_5 : decode cX2_runsOnPage 5 = .ok (.iload 4, 2) := by decide +kernel
theorem dX2_runsOnPage_7 : decode cX2_runsOnPage 7 = .ok (.aload_n 0, 1) := by decide +kernel
theorem dX2_runsOnPage_8 : decode cX2_runsOnPage 8 = .ok (.getfield 39, 3) := by decide +kernel
theorem dX2_runsOnPage_11 : decode cX2_runsOnPage 11 = .ok (.if_icmp .ge 34, 3) := by decide +kernel
theorem dX2_runsOnPage_14 : decode cX2_runsOnPage 14 = .ok (.aload_n 1, 1) := by decide +kernel
theorem dX2_runsOnPage_15 : decode cX2_runsOnPage 15 = .ok (.aload_n 0, 1) := by decide +kernel
theorem dX2_runsOnPage_16 : decode cX2_runsOnPage 16 = .ok (.getfield 23, 3) := by decide +kernel
theorem dX2_runsOnPage_19 : decode cX2_runsOnPage 19 = .ok (.iload 4, 2) := by decide +kernel
theorem dX2_runsOnPage_21 : decode cX2_runsOnPage 21 = .ok (.iaload, 1) := by decide +kernel
theorem dX2_runsOnPage_22 : decode cX2_runsOnPage 22 = .ok (.aload_n 0, 1) := by decide +kernel
theorem dX2_runsOnPage_23 : decode cX2_runsOnPage 23 = .ok (.getfield 27, 3) := by decide +kernel
theorem dX2_runsOnPage_26 : decode cX2_runsOnPage 26 = .ok (.iload 4, 2) := by decide +kernel
theorem dX2_runsOnPage_28 : decode cX2_runsOnPage 28 = .ok (.iaload, 1) := by decide +kernel
theorem dX2_runsOnPage_29 : decode cX2_runsOnPage 29 = .ok (.invokevirtual 108, 3) := by decide +kernel
theorem dX2_runsOnPage_32 : decode cX2_runsOnPage 32 = .ok (.iload_n 2, 1) := by decide +kernel
theorem dX2_runsOnPage_33 : decode cX2_runsOnPage 33 = .ok (.if_icmp .ne 6, 3) := by decide +kernel
theorem dX2_runsOnPage_36 : decode cX2_runsOnPage 36 = .ok (.iinc 3 1, 3) := by decide +kernel
theorem dX2_runsOnPage_39 : decode cX2_runsOnPage 39 = .ok (.iinc 4 1, 3) := by decide +kernel
theorem dX2_runsOnPage_42 : decode cX2_runsOnPage 42 = .ok (.goto (-37), 3) := by decide +kernel
theorem dX2_runsOnPage_45 : decode cX2_runsOnPage 45 = .ok (.iload_n 3, 1) := by decide +kernel
theorem dX2_runsOnPage_46 : decode cX2_runsOnPage 46 = .ok (.ireturn, 1) := by decide +kernel
theorem dX2_startsOnPage_0 : decode cX2_startsOnPage 0 = .ok (.iconst 0, 1) := by decide +kernel
theorem dX2_startsOnPage_1 : decode cX2_startsOnPage 1 = .ok (.istore_n 3, 1) := by decide +kernel
theorem dX2_startsOnPage_2 : decode cX2_startsOnPage 2 = .ok (.iconst 0, 1) := by decide +kernel
theorem dX2_startsOnPage_3 : decode cX2_startsOnPage 3 = .ok (.istore 4, 2) := by decide +kernel
theorem dX2_startsOnPage_5 : decode cX2_startsOnPage 5 = .ok (.iload 4, 2) := by decide +kernel
theorem dX2_startsOnPage_7 : decode cX2_startsOnPage 7 = .ok (.aload_n 0, 1) := by decide +kernel
theorem dX2_startsOnPage_8 : decode cX2_startsOnPage 8 = .ok (.getfield 39, 3) := by decide +kernel
theorem dX2_startsOnPage_11 : decode cX2_startsOnPage 11 = .ok (.if_icmp .ge 105, 3) := by decide +kernel
theorem dX2_startsOnPage_14 : decode cX2_startsOnPage 14 = .ok (.aload_n 0, 1) := by decide +kernel
theorem dX2_startsOnPage_15 : decode cX2_startsOnPage 15 = .ok (.iload 4, 2) := by decide +kernel
theorem dX2_startsOnPage_17 : decode cX2_startsOnPage 17 = .ok (.invokevirtual 86, 3) := by decide +kernel
theorem dX2_startsOnPage_20 : decode cX2_startsOnPage 20 = .ok (.istore 5, 2) := by decide +kernel
theorem dX2_startsOnPage_22 : decode cX2_startsOnPage 22 = .ok (.aload_n 0, 1) := by decide +kernel
theorem dX2_startsOnPage_23 : decode cX2_startsOnPage 23 = .ok (.iload 5, 2) := by decide +kernel
theorem dX2_startsOnPage_25 : decode cX2_startsOnPage 25 = .ok (.invokevirtual 62, 3) := by decide +kernel
theorem dX2_startsOnPage_28 : decode cX2_startsOnPage 28 = .ok (.ifCond .eq 82, 3) := by decide +kernel
theorem dX2_startsOnPage_31 : decode cX2_startsOnPage 31 = .ok (.aload_n 1, 1) := by decide +kernel
theorem dX2_startsOnPage_32 : decode cX2_startsOnPage 32 = .ok (.aload_n 0, 1) := by decide +kernel
theorem dX2_startsOnPage_33 : decode cX2_startsOnPage 33 = .ok (.getfield 23, 3) := by decide +kernel
theorem dX2_startsOnPage_36 : decode cX2_startsOnPage 36 = .ok (.iload 5, 2) := by decide +kernel
theorem dX2_startsOnPage_38 : decode cX2_startsOnPage 38 = .ok (.iaload, 1) := by decide +kernel
theorem dX2_startsOnPage_39 : decode cX2_startsOnPage 39 = .ok (.aload_n 0, 1) := by decide +kernel
theorem dX2_startsOnPage_40 : decode cX2_startsOnPage 40 = .ok (.getfield 27, 3) := by decide +kernel
theorem dX2_startsOnPage_43 : decode cX2_startsOnPage 43 = .ok (.iload 5, 2) := by decide +kernel
theorem dX2_startsOnPage_45 : decode cX2_startsOnPage 45 = .ok (.iaload, 1) := by decide +kernel
theorem dX2_startsOnPage_46 : decode cX2_startsOnPage 46 = .ok (.invokevirtual 108, 3) := by decide +kernel
theorem dX2_startsOnPage_49 : decode cX2_startsOnPage 49 = .ok (.iload_n 2, 1) := by decide +kernel
theorem dX2_startsOnPage_50 : decode cX2_startsOnPage 50 = .ok (.if_icmp .ne 60, 3) := by decide +kernel
theorem dX2_startsOnPage_53 : decode cX2_startsOnPage 53 = .ok (.iload_n 3, 1) := by decide +kernel
theorem dX2_startsOnPage_54 : decode cX2_startsOnPage 54 = .ok (.iload 4, 2) := by decide +kernel
theorem dX2_startsOnPage_56 : decode cX2_startsOnPage 56 = .ok (.ifCond .ne 13, 3) := by decide +kernel
theorem dX2_startsOnPage_59 : decode cX2_startsOnPage 59 = .ok (.aload_n 0, 1) := by decide +kernel
theorem dX2_startsOnPage_60 : decode cX2_startsOnPage 60 = .ok (.getfield 15, 3) := by decide +kernel
theorem dX2_startsOnPage_63 : decode cX2_startsOnPage 63 = .ok (.getfield 79, 3) := by decide +kernel
theorem dX2_startsOnPage_66 : decode cX2_startsOnPage 66 = .ok (.goto 17, 3) := by decide +kernel
theorem dX2_startsOnPage_69 : decode cX2_startsOnPage 69 = .ok (.aload_n 0, 1) := by decide +kernel
theorem dX2_startsOnPage_70 : decode cX2_startsOnPage 70 = .ok (.aload_n 0, 1) := by decide +kernel
theorem dX2_startsOnPage_71 : decode cX2_startsOnPage 71 = .ok (.iload 4, 2) := by decide +kernel
theorem dX2_startsOnPage_73 : decode cX2_startsOnPage 73 = .ok (.iconst 1, 1) := by decide +kernel
theorem dX2_startsOnPage_74 : decode cX2_startsOnPage 74 = .ok (.isub, 1) := by decide +kernel
theorem dX2_startsOnPage_75 : decode cX2_startsOnPage 75 = .ok (.invokevirtual 86, 3) := by decide +kernel
theorem dX2_startsOnPage_78 : decode cX2_startsOnPage 78 = .ok (.iload 5, 2) := by decide +kernel
theorem dX2_startsOnPage_80 : decode cX2_startsOnPage 80 = .ok (.invokevirtual 89, 3) := by decide +kernel
theorem dX2_startsOnPage_83 : decode cX2_startsOnPage 83 = .ok (.iadd, 1) := by decide +kernel
theorem dX2_startsOnPage_84 : decode cX2_startsOnPage 84 = .ok (.istore_n 3, 1) := by decide +kernel
theorem dX2_startsOnPage_85 : decode cX2_startsOnPage 85 = .ok (.iload_n 3, 1) := by decide +kernel
theorem dX2_startsOnPage_86 : decode cX2_startsOnPage 86 = .ok (.iload 4, 2) := by decide +kernel
theorem dX2_startsOnPage_88 : decode cX2_startsOnPage 88 = .ok (.aload_n 0, 1) := by decide +kernel
theorem dX2_startsOnPage_89 : decode cX2_startsOnPage 89 = .ok (.getfield 39, 3) := by decide +kernel
theorem dX2_startsOnPage_92 : decode cX2_startsOnPage 92 = .ok (.iconst 1, 1) := by decide +kernel
theorem dX2_startsOnPage_93 : decode cX2_startsOnPage 93 = .ok (.isub, 1) := by decide +kernel
theorem dX2_startsOnPage_94 : decode cX2_startsOnPage 94 = .ok (.if_icmp .ne 13, 3) := by decide +kernel
theorem dX2_startsOnPage_97 : decode cX2_startsOnPage 97 = .ok (.aload_n 0, 1) := by decide +kernel
theorem dX2_startsOnPage_98 : decode cX2_startsOnPage 98 = .ok (.getfield 15, 3) := by decide +kernel
theorem dX2_startsOnPage_101 : decode cX2_startsOnPage 101 = .ok (.getfield 79, 3) := by decide +kernel
theorem dX2_startsOnPage_104 : decode cX2_startsOnPage 104 = .ok (.goto 4, 3) := by decide +kernel
theorem dX2_startsOnPage_107 : decode cX2_startsOnPage 107 = .ok (.iconst 0, 1) := by decide +kernel
theorem dX2_startsOnPage_108 : decode cX2_startsOnPage 108 = .ok (.iadd, 1) := by decide +kernel
theorem dX2_startsOnPage_109 : decode cX2_startsOnPage 109 = .ok (.istore_n 3, 1) := by decide +kernel
theorem dX2_startsOnPage_110 : decode cX2_startsOnPage 110 = .ok (.iinc 4 1, 3) := by decide +kernel
theorem dX2_startsOnPage_113 : decode cX2_startsOnPage 113 = .ok (.goto (-108), 3) := by decide +kernel
theorem dX2_startsOnPage_116 : decode cX2_startsOnPage 116 = .ok (.iload_n 3, 1) := by decide +kernel
theorem dX2_startsOnPage_117 : decode cX2_startsOnPage 117 = .ok (.ireturn, 1) := by decide +kernel
theorem dX3_init_0 : decode cX3_init 0 = .ok (.aload_n 0, 1) := by decide +kernel
theorem dX3_init_1 : decode cX3_init 1 = .ok (.invokespecial 3, 3) := by decide +kernel
theorem dX3_init_4 : decode cX3_init 4 = .ok (.aload_n 0, 1) := by decide +kernel
theorem dX3_init_5 : decode cX3_init 5 = .ok (.bipush 10, 2) := by decide +kernel
theorem dX3_init_7 : decode cX3_init 7 = .ok (.putfield 9, 3) := by decide +kernel
theorem dX3_init_10 : decode cX3_init 10 = .ok (.aload_n 0, 1) := by decide +kernel
theorem dX3_init_11 : decode cX3_init 11 = .ok (.bipush 8, 2) := by decide +kernel
theorem dX3_init_13 : decode cX3_init 13 = .ok (.putfield 15, 3) := by decide +kernel
theorem dX3_init_16 : decode cX3_init 16 = .ok (.aload_n 0, 1) := by decide +kernel
theorem dX3_init_17 : decode cX3_init 17 = .ok (.bipush 7, 2) := by decide +kernel
theorem dX3_init_19 : decode cX3_init 19 = .ok (.newarray .boolean, 2) := by decide +kernel
theorem dX3_init_21 : decode cX3_init 21 = .ok (.putfield 18, 3) := by decide +kernel
theorem dX3_init_24 : decode cX3_init 24 = .ok (.aload_n 0, 1) := by decide +kernel
theorem dX3_init_25 : decode cX3_init 25 = .ok (.sipush 576, 3) := by decide +kernel
theorem dX3_init_28 : decode cX3_init 28 = .ok (.newarray .int, 2) := by decide +kernel
theorem dX3_init_30 : decode cX3_init 30 = .ok (.putfield 22, 3) := by decide +kernel
theorem dX3_init_33 : decode cX3_init 33 = .ok (.aload_n 0, 1) := by decide +kernel
theorem dX3_init_34 : decode cX3_init 34 = .ok (.sipush 576, 3) := by decide +kernel
theorem dX3_init_37 : decode cX3_init 37 = .ok (.newarray .int, 2) := by decide +kernel
theorem dX3_init_39 : decode cX3_init 39 = .ok (.putfield 26, 3) := by decide +kernel
theorem dX3_init_42 : decode cX3_init 42 = .ok (.return_, 1) := by decide +kernel
theorem dX3_startAnew_0 : decode cX3_startAnew 0 = .ok (.aload_n 0, 1) := by decide +kernel
theorem dX3_startAnew_1 : decode cX3_startAnew 1 = .ok (.iload_n 1, 1) := by decide +kernel
theorem dX3_startAnew_2 : decode cX3_startAnew 2 = .ok (.putfield 9, 3) := by decide +kernel
theorem dX3_startAnew_5 : decode cX3_startAnew 5 = .ok (.aload_n 0, 1) := by decide +kernel
theorem dX3_startAnew_6 : decode cX3_startAnew 6 = .ok (.iload_n 2, 1) := by decide +kernel
theorem dX3_startAnew_7 : decode cX3_startAnew 7 = .ok (.putfield 15, 3) := by decide +kernel
theorem dX3_startAnew_10 : decode cX3_startAnew 10 = .ok (.iconst 0, 1) := by decide +kernel
theorem dX3_startAnew_11 : decode cX3_startAnew 11 = .ok (.istore_n 3, 1) := by decide +kernel
theorem dX3_startAnew_12 : decode cX3_startAnew 12 = .ok (.iload_n 3, 1) := by decide +kernel
theorem dX3_startAnew_13 : decode cX3_startAnew 13 = .ok (.sipush 576, 3) := by decide +kernel
theorem dX3_startAnew_16 : decode cX3_startAnew 16 = .ok (.if_icmp .ge 16, 3) := by decide +kernel
theorem dX3_startAnew_19 : decode cX3_startAnew 19 = .ok (.aload_n 0, 1) := by decide +kernel
theorem dX3_startAnew_20 : decode cX3_startAnew 20 = .ok (.getfield 22, 3) := by decide +kernel
theorem dX3_startAnew_23 : decode cX3_startAnew 23 = .ok (.iload_n 3, 1) := by decide +kernel
theorem dX3_startAnew_24 : decode cX3_startAnew 24 = .ok (.iconst 0, 1) := by decide +kernel
theorem dX3_startAnew_25 : decode cX3_startAnew 25 = .ok (.iastore, 1) := by decide +kernel
theorem dX3_startAnew_26 : decode cX3_startAnew 26 = .ok (.iinc 3 1, 3) := by decide +kernel
theorem dX3_startAnew_29 : decode cX3_startAnew 29 = .ok (.goto (-17), 3) := by decide +kernel
theorem dX3_startAnew_32 : decode cX3_startAnew 32 = .ok (.iconst 0, 1) := by decide +kernel
theorem dX3_startAnew_33 : decode cX3_startAnew 33 = .ok (.istore_n 3, 1) := by decide +kernel
theorem dX3_startAnew_34 : decode cX3_startAnew 34 = .ok (.iload_n 3, 1) := by decide +kernel
theorem dX3_startAnew_35 : decode cX3_startAnew 35 = .ok (.bipush 6, 2) := by decide +kernel
theorem dX3_startAnew_37 : decode cX3_startAnew 37 = .ok (.if_icmp .gt 16, 3) := by decide +kernel
theorem dX3_startAnew_40 : decode cX3_startAnew 40 = .ok (.aload_n 0, 1) := by decide +kernel
theorem dX3_startAnew_41 : decode cX3_startAnew 41 = .ok (.getfield 18, 3) := by decide +kernel
theorem dX3_startAnew_44 : decode cX3_startAnew 44 = .ok (.iload_n 3, 1) := by decide +kernel
theorem dX3_startAnew_45 : decode cX3_startAnew 45 = .ok (.iconst 1, 1) := by decide +kernel
theorem dX3_startAnew_46 : decode cX3_startAnew 46 = .ok (.bastore, 1) := by decide +kernel
theorem dX3_startAnew_47 : decode cX3_startAnew 47 = .ok (.iinc 3 1, 3) := by decide +kernel
theorem dX3_startAnew_50 : decode cX3_startAnew 50 = .ok (.goto (-16), 3) := by decide +kernel
theorem dX3_startAnew_53 : decode cX3_startAnew 53 = .ok (.return_, 1) := by decide +kernel
theorem dX3_has_0 : decode cX3_has 0 = .ok (.iload_n 1, 1) := by decide +kernel
theorem dX3_has_1 : decode cX3_has 1 = .ok (.ifCond .lt 27, 3) := by decide +kernel
theorem dX3_has_4 : decode cX3_has 4 = .ok (.iload_n 1, 1) := by decide +kernel
theorem dX3_has_5 : decode cX3_has 5 = .ok (.aload_n 0, 1) := by decide +kernel
theorem dX3_has_6 : decode cX3_has 6 = .ok (.getfield 9, 3) := by decide +kernel
theorem dX3_has_9 : decode cX3_has 9 = .ok (.if_icmp .ge 19, 3) := by decide +kernel
theorem dX3_has_12 : decode cX3_has 12 = .ok (.iload_n 2, 1) := by decide +kernel
theorem dX3_has_13 : decode cX3_has 13 = .ok (.ifCond .lt 15, 3) := by decide +kernel
theorem dX3_has_16 : decode cX3_has 16 = .ok (.iload_n 2, 1) := by decide +kernel
theorem dX3_has_17 : decode cX3_has 17 = .ok (.aload_n 0, 1) := by decide +kernel
theorem dX3_has_18 : decode cX3_has 18 = .ok (.getfield 15, 3) := by decide +kernel
theorem dX3_has_21 : decode cX3_has 21 = .ok (.if_icmp .ge 7, 3) := by decide +kernel
theorem dX3_has_24 : decode cX3_has 24 = .ok (.iconst 1, 1) := by decide +kernel
theorem dX3_has_25 : decode cX3_has 25 = .ok (.goto 4, 3) := by decide +kernel
theorem dX3_has_28 : decode cX3_has 28 = .ok (.iconst 0, 1) := by decide +kernel
theorem dX3_has_29 : decode cX3_has 29 = .ok (.ireturn, 1) := by decide +kernel
theorem dX3_colorAt_0 : decode cX3_colorAt 0 = .ok (.aload_n 0, 1) := by decide +kernel
theorem dX3_colorAt_1 : decode cX3_colorAt 1 = .ok (.iload_n 1, 1) := by decide +kernel
theorem dX3_colorAt_2 : decode cX3_colorAt 2 = .ok (.iload_n 2, 1) := by decide +kernel
theorem dX3_colorAt_3 : decode cX3_colorAt 3 = .ok (.invokevirtual 29, 3) := by decide +kernel
theorem dX3_colorAt_6 : decode cX3_colorAt 6 = .ok (.ifCond .eq 17, 3) := by decide +kernel
theorem dX3_colorAt_9 : decode cX3_colorAt 9 = .ok (.aload_n 0, 1) := by decide +kernel
theorem dX3_colorAt_10 : decode cX3_colorAt 10 = .ok (.getfield 22, 3) := by decide +kernel
theorem dX3_colorAt_13 : decode cX3_colorAt 13 = .ok (.iload_n 2, 1) := by decide +kernel
theorem dX3_colorAt_14 : decode cX3_colorAt 14 = .ok (.bipush 24, 2) := by decide +kernel
theorem dX3_colorAt_16 : decode cX3_colorAt 16 = .ok (.imul, 1) := by decide +kernel
theorem dX3_colorAt_17 : decode cX3_colorAt 17 = .ok (.iload_n 1, 1) := by decide +kernel
theorem dX3_colorAt_18 : decode cX3_colorAt 18 = .ok (.iadd, 1) := by decide +kernel
theorem dX3_colorAt_19 : decode cX3_colorAt 19 = .ok (.iaload, 1) := by decide +kernel
theorem dX3_colorAt_20 : decode cX3_colorAt 20 = .ok (.goto 4, 3) := by decide +kernel
theorem dX3_colorAt_23 : decode cX3_colorAt 23 = .ok (.iconst 0, 1) := by decide +kernel
theorem dX3_colorAt_24 : decode cX3_colorAt 24 = .ok (.ireturn, 1) := by decide +kernel
theorem dX3_put_0 : decode cX3_put 0 = .ok (.aload_n 0, 1) := by decide +kernel
theorem dX3_put_1 : decode cX3_put 1 = .ok (.iload_n 1, 1) := by decide +kernel
theorem dX3_put_2 : decode cX3_put 2 = .ok (.iload_n 2, 1) := by decide +kernel
theorem dX3_put_3 : decode cX3_put 3 = .ok (.invokevirtual 33, 3) := by decide +kernel
theorem dX3_put_6 : decode cX3_put 6 = .ok (.istore 4, 2) := by decide +kernel
theorem dX3_put_8 : decode cX3_put 8 = .ok (.aload_n 0, 1) := by decide +kernel
theorem dX3_put_9 : decode cX3_put 9 = .ok (.iload_n 1, 1) := by decide +kernel
theorem dX3_put_10 : decode cX3_put 10 = .ok (.iload_n 2, 1) := by decide +kernel
theorem dX3_put_11 : decode cX3_put 11 = .ok (.invokevirtual 29, 3) := by decide +kernel
theorem dX3_put_14 : decode cX3_put 14 = .ok (.ifCond .eq 19, 3) := by decide +kernel
theorem dX3_put_17 : decode cX3_put 17 = .ok (.iload_n 3, 1) := by decide +kernel
theorem dX3_put_18 : decode cX3_put 18 = .ok (.iconst 0, 1) := by decide +kernel
theorem dX3_put_19 : decode cX3_put 19 = .ok (.bipush 6, 2) := by decide +kernel
theorem dX3_put_21 : decode cX3_put 21 = .ok (.invokestatic 37, 3) := by decide +kernel
theorem dX3_put_24 : decode cX3_put 24 = .ok (.ifCond .eq 9, 3) := by decide +kernel
theorem dX3_put_27 : decode cX3_put 27 = .ok (.iload 4, 2) := by decide +kernel
theorem dX3_put_29 : decode cX3_put 29 = .ok (.iload_n 3, 1) := by decide +kernel
theorem dX3_put_30 : decode cX3_put 30 = .ok (.if_icmp .ne 5, 3) := by decide +kernel
theorem dX3_put_33 : decode cX3_put 33 = .ok (.iconst 0, 1) := by decide +kernel
theorem dX3_put_34 : decode cX3_put 34 = .ok (.ireturn, 1) := by decide +kernel
theorem dX3_put_35 : decode cX3_put 35 = .ok (.aload_n 0, 1) := by decide +kernel
theorem dX3_put_36 : decode cX3_put 36 = .ok (.getfield 22, 3) := by decide +kernel
theorem dX3_put_39 : decode cX3_put 39 = .ok (.iload_n 2, 1) := by decide +kernel
theorem dX3_put_40 : decode cX3_put 40 = .ok (.bipush 24, 2) := by decide +kernel
theorem dX3_put_42 : decode cX3_put 42 = .ok (.imul, 1) := by decide +kernel
theorem dX3_put_43 : decode cX3_put 43 = .ok (.iload_n 1, 1) := by decide +kernel
theorem dX3_put_44 : decode cX3_put 44 = .ok (.iadd, 1) := by decide +kernel
theorem dX3_put_45 : decode cX3_put 45 = .ok (.iload_n 3, 1) := by decide +kernel
theorem dX3_put_46 : decode cX3_put 46 = .ok (.iastore, 1) := by decide +kernel
theorem dX3_put_47 : decode cX3_put 47 = .ok (.aload_n 0, 1) := by decide +kernel
theorem dX3_put_48 : decode cX3_put 48 = .ok (.iload 4, 2) := by decide +kernel
theorem dX3_put_50 : decode cX3_put 50 = .ok (.invokevirtual 41, 3) := by decide +kernel
theorem dX3_put_53 : decode cX3_put 53 = .ok (.aload_n 0, 1) := by decide +kernel
theorem dX3_put_54 : decode cX3_put 54 = .ok (.iload_n 3, 1) := by decide +kernel
theorem dX3_put_55 : decode cX3_put 55 = .ok (.invokevirtual 41, 3) := by decide +kernel
theorem dX3_put_58 : decode cX3_put 58 = .ok (.iconst 1, 1) := by decide +kernel
theorem dX3_put_59 : decode cX3_put 59 = .ok (.ireturn, 1) := by decide +kernel
theorem dX3_touch_0 : decode cX3_touch 0 = .ok (.iload_n 1, 1) := by decide +kernel
theorem dX3_touch_1 : decode cX3_touch 1 = .ok (.iconst 0, 1) := by decide +kernel
theorem dX3_touch_2 : decode cX3_touch 2 = .ok (.bipush 6, 2) := by decide +kernel
theorem dX3_touch_4 : decode cX3_touch 4 = .ok (.invokestatic 37, 3) := by decide +kernel
theorem dX3_touch_7 : decode cX3_touch 7 = .ok (.ifCond .eq 10, 3) := by decide +kernel
theorem dX3_touch_10 : decode cX3_touch 10 = .ok (.aload_n 0, 1) := by decide +kernel
theorem dX3_touch_11 : decode cX3_touch 11 = .ok (.getfield 18, 3) := by decide +kernel
theorem dX3_touch_14 : decode cX3_touch 14 = .ok (.iload_n 1, 1) := by decide +kernel
theorem dX3_touch_15 : decode cX3_touch 15 = .ok (.iconst 1, 1) := by decide +kernel
theorem dX3_touch_16 : decode cX3_touch 16 = .ok (.bastore, 1) := by decide +kernel
theorem dX3_touch_17 : decode cX3_touch 17 = .ok (.return_, 1) := by decide +kernel
theorem dX3_putRow_0 : decode cX3_putRow 0 = .ok (.iconst 0, 1) := by decide +kernel
theorem dX3_putRow_1 : decode cX3_putRow 1 = .ok (.istore 5, 2) := by decide +kernel
theorem dX3_putRow_3 : decode cX3_putRow 3 = .ok (.iconst 0, 1) := by decide +kernel
theorem dX3_putRow_4 : decode cX3_putRow 4 = .ok (.istore 6, 2) := by decide +kernel
theorem dX3_putRow_6 : decode cX3_putRow 6 = .ok (.iload 6, 2) := by decide +kernel
theorem dX3_putRow_8 : decode cX3_putRow 8 = .ok (.iload_n 3, 1) := by decide +kernel
theorem dX3_putRow_9 : decode cX3_putRow 9 = .ok (.if_icmp .ge 25, 3) := by decide +kernel
theorem dX3_putRow_12 : decode cX3_putRow 12 = .ok (.iload 5, 2) := by decide +kernel
theorem dX3_putRow_14 : decode cX3_putRow 14 = .ok (.aload_n 0, 1) := by decide +kernel
theorem dX3_putRow_15 : decode cX3_putRow 15 = .ok (.iload_n 1, 1) := by decide +kernel
theorem dX3_putRow_16 : decode cX3_putRow 16 = .ok (.iload 6, 2) := by decide +kernel
theorem dX3_putRow_18 : decode cX3_putRow 18 = .ok (.iadd, 1) := by decide +kernel
theorem dX3_putRow_19 : decode cX3_putRow 19 = .ok (.iload_n 2, 1) := by decide +kernel
theorem dX3_putRow_20 : decode cX3_putRow 20 = .ok (.iload 4, 2) := by decide +kernel
theorem dX3_putRow_22 : decode cX3_putRow 22 = .ok (.invokevirtual 45, 3) := by decide +kernel
theorem dX3_putRow_25 : decode cX3_putRow 25 = .ok (.iadd, 1) := by decide +kernel
theorem dX3_putRow_26 : decode cX3_putRow 26 = .ok (.istore 5, 2) := by decide +kernel
theorem dX3_putRow_28 : decode cX3_putRow 28 = .ok (.iinc 6 1, 3) := by decide +kernel
theorem dX3_putRow_31 : decode cX3_putRow 31 = .ok (.goto (-25), 3) := by decide +kernel
theorem dX3_putRow_34 : decode cX3_putRow 34 = .ok (.iload 5, 2) := by decide +kernel
theorem dX3_putRow_36 : decode cX3_putRow 36 = .ok (.ireturn, 1) := by decide +kernel
theorem dX3_neighborsOfColor_0 : decode cX3_neighborsOfColor 0 = .ok (.iconst 0, 1) := by decide +kernel
theorem dX3_neighborsOfColor_1 : decode cX3_neighborsOfColor 1 = .ok (.istore 4, 2) := by decide +kernel
theorem dX3_neighborsOfColor_3 : decode cX3_neighborsOfColor 3 = .ok (.iconst (-1), 1) := by decide +kernel
theorem dX3_neighborsOfColor_4 : decode cX3_neighborsOfColor 4 = .ok (.istore 5, 2) := by decide +kernel
theorem dX3_neighborsOfColor_6 : decode cX3_neighborsOfColor 6 = .ok (.iload 5, 2) := by decide +kernel
theorem dX3_neighborsOfColor_8 : decode cX3_neighborsOfColor 8 = .ok (.iconst 1, 1) := by decide +kernel
theorem dX3_neighborsOfColor_9 : decode cX3_neighborsOfColor 9 = .ok (.if_icmp .gt 65, 3) := by decide +kernel
theorem dX3_neighborsOfColor_12 : decode cX3_neighborsOfColor 12 = .ok (.iconst (-1), 1) := by decide +kernel
theorem dX3_neighborsOfColor_13 : decode cX3_neighborsOfColor 13 = .ok (.istore 6, 2) := by decide +kernel
theorem dX3_neighborsOfColor_15 : decode cX3_neighborsOfColor 15 = .ok (.iload 6, 2) := by decide +kernel
theorem dX3_neighborsOfColor_17 : decode cX3_neighborsOfColor 17 = .ok (.iconst 1, 1) := by decide +kernel
theorem dX3_neighborsOfColor_18 : decode cX3_neighborsOfColor 18 = .ok (.if_icmp .gt 50, 3) := by decide +kernel
theorem dX3_neighborsOfColor_21 : decode cX3_neighborsOfColor 21 = .ok (.iload 5, 2) := by decide +kernel
theorem dX3_neighborsOfColor_23 : decode cX3_neighborsOfColor 23 = .ok (.ifCond .ne 12, 3) := by decide +kernel
theorem dX3_neighborsOfColor_26 : decode cX3_neighborsOfColor 26 = .ok (.iload 6, 2) := by decide +kernel
theorem dX3_neighborsOfColor_28 : decode cX3_neighborsOfColor 28 = .ok (.ifCond .ne 7, 3) := by decide +kernel
theorem dX3_neighborsOfColor_31 : decode cX3_neighborsOfColor 31 = .ok (.iconst 1, 1) := by decide +kernel
theorem dX3_neighborsOfColor_32 : decode cX3_neighborsOfColor 32 = .ok (.goto 4, 3) := by decide +kernel
theorem dX3_neighborsOfColor_35 : decode cX3_neighborsOfColor 35 = .ok (.iconst 0, 1) := by decide +kernel
theorem dX3_neighborsOfColor_36 : decode cX3_neighborsOfColor 36 = .ok (.istore 7, 2) := by decide +kernel
theorem dX3_neighborsOfColor_38 : decode cX3_neighborsOfColor 38 = .ok (.iload 7, 2) := by decide +kernel
theorem dX3_neighborsOfColor_40 : decode cX3_neighborsOfColor 40 = .ok (.ifCond .ne 22, 3) := by decide +kernel
theorem dX3_neighborsOfColor_43 : decode cX3_neighborsOfColor 43 = .ok (.aload_n 0, 1) := by decide +kernel
theorem dX3_neighborsOfColor_44 : decode cX3_neighborsOfColor 44 = .ok (.iload_n 1, 1) := by decide +kernel
theorem dX3_neighborsOfColor_45 : decode cX3_neighborsOfColor 45 = .ok (.iload 6, 2) := by decide +kernel
theorem dX3_neighborsOfColor_47 : decode cX3_neighborsOfColor 47 = .ok (.iadd, 1) := by decide +kernel
theorem dX3_neighborsOfColor_48 : decode cX3_neighborsOfColor 48 = .ok (.iload_n 2, 1) := by decide +kernel
theorem dX3_neighborsOfColor_49 : decode cX3_neighborsOfColor 49 = .ok (.iload 5, 2) := by decide +kernel
theorem dX3_neighborsOfColor_51 : decode cX3_neighborsOfColor 51 = .ok (.iadd, 1) := by decide +kernel
theorem dX3_neighborsOfColor_52 : decode cX3_neighborsOfColor 52 = .ok (.invokevirtual 33, 3) := by decide +kernel
theorem dX3_neighborsOfColor_55 : decode cX3_neighborsOfColor 55 = .ok (.iload_n 3, 1) := by decide +kernel
theorem dX3_neighborsOfColor_56 : decode cX3_neighborsOfColor 56 = .ok (.if_icmp .ne 6, 3) := by decide +kernel
theorem dX3_neighborsOfColor_59 : decode cX3_neighborsOfColor 59 = .ok (.iinc 4 1, 3) := by decide +kernel
theorem dX3_neighborsOfColor_62 : decode cX3_neighborsOfColor 62 = .ok (.iinc 6 1, 3) := by decide +kernel
theorem dX3_neighborsOfColor_65 : decode cX3_neighborsOfColor 65 = .ok (.goto (-50), 3) := by decide +kernel
theorem dX3_neighborsOfColor_68 : decode cX3_neighborsOfColor 68 = .ok (.iinc 5 1, 3) := by decide +kernel
theorem dX3_neighborsOfColor_71 : decode cX3_neighborsOfColor 71 = .ok (.goto (-65), 3) := by decide +kernel
theorem dX3_neighborsOfColor_74 : decode cX3_neighborsOfColor 74 = .ok (.iload 4, 2) := by decide +kernel
theorem dX3_neighborsOfColor_76 : decode cX3_neighborsOfColor 76 = .ok (.ireturn, 1) := by decide +kernel
theorem dX3_standsAlone_0 : decode cX3_standsAlone 0 = .ok (.aload_n 0, 1) := by decide +kernel
theorem dX3_standsAlone_1 : decode cX3_standsAlone 1 = .ok (.iload_n 1, 1) := by decide +kernel
theorem dX3_standsAlone_2 : decode cX3_standsAlone 2 = .ok (.iload_n 2, 1) := by decide +kernel
theorem dX3_standsAlone_3 : decode cX3_standsAlone 3 = .ok (.invokevirtual 33, 3) := by decide +kernel
theorem dX3_standsAlone_6 : decode cX3_standsAlone 6 = .ok (.istore_n 3, 1) := by decide +kernel
theorem dX3_standsAlone_7 : decode cX3_standsAlone 7 = .ok (.iload_n 3, 1) := by decide +kernel
theorem dX3_standsAlone_8 : decode cX3_standsAlone 8 = .ok (.ifCond .eq 17, 3) := by decide +kernel
theorem dX3_standsAlone_11 : decode cX3_standsAlone 11 = .ok (.aload_n 0, 1) := by decide +kernel
theorem dX3_standsAlone_12 : decode cX3_standsAlone 12 = .ok (.iload_n 1, 1) := by decide +kernel
theorem dX3_standsAlone_13 : decode cX3_standsAlone 13 = .ok (.iload_n 2, 1) := by decide +kernel
theorem dX3_standsAlone_14 : decode cX3_standsAlone 14 = .ok (.iload_n 3, 1) := by decide +kernel
theorem dX3_standsAlone_15 : decode cX3_standsAlone 15 = .ok (.invokevirtual 49, 3) := by decide +kernel
theorem dX3_standsAlone_18 : decode cX3_standsAlone 18 = .ok (.ifCond .ne 7, 3) := by decide +kernel
theorem dX3_standsAlone_21 : decode cX3_standsAlone 21 = .ok (.iconst 1, 1) := by decide +kernel
theorem dX3_standsAlone_22 : decode cX3_standsAlone 22 = .ok (.goto 4, 3) := by decide +kernel
theorem dX3_standsAlone_25 : decode cX3_standsAlone 25 = .ok (.iconst 0, 1) := by decide +kernel
theorem dX3_standsAlone_26 : decode cX3_standsAlone 26 = .ok (.ireturn, 1) := by decide +kernel
theorem dX3_loneStitches_0 : decode cX3_loneStitches 0 = .ok (.iconst 0, 1) := by decide +kernel
theorem dX3_loneStitches_1 : decode cX3_loneStitches 1 = .ok (.istore_n 2, 1) := by decide +kernel
theorem dX3_loneStitches_2 : decode cX3_loneStitches 2 = .ok (.iconst 0, 1) := by decide +kernel
theorem dX3_loneStitches_3 : decode cX3_loneStitches 3 = .ok (.istore_n 3, 1) := by decide +kernel
theorem dX3_loneStitches_4 : decode cX3_loneStitches 4 = .ok (.iload_n 3, 1) := by decide +kernel
theorem dX3_loneStitches_5 : decode cX3_loneStitches 5 = .ok (.aload_n 0, 1) := by decide +kernel
theorem dX3_loneStitches_6 : decode cX3_loneStitches 6 = .ok (.getfield 15, 3) := by decide +kernel
theorem dX3_loneStitches_9 : decode cX3_loneStitches 9 = .ok (.if_icmp .ge 51, 3) := by decide +kernel
theorem dX3_loneStitches_12 : decode cX3_loneStitches 12 = .ok (.iconst 0, 1) := by decide +kernel
theorem dX3_loneStitches_13 : decode cX3_loneStitches 13 = .ok (.istore 4, 2) := by decide +kernel
theorem dX3_loneStitches_15 : decode cX3_loneStitches 15 = .ok (.iload 4, 2) := by decide +kernel
theorem dX3_loneStitches_17 : decode cX3_loneStitches 17 = .ok (.aload_n 0, 1) := by decide +kernel
theorem dX3_loneStitches_18 : decode cX3_loneStitches 18 = .ok (.getfield 9, 3) := by decide +kernel
theorem dX3_loneStitches_21 : decode cX3_loneStitches 21 = .ok (.if_icmp .ge 33, 3) := by decide +kernel
theorem dX3_loneStitches_24 : decode cX3_loneStitches 24 = .ok (.aload_n 0, 1) := by decide +kernel
theorem dX3_loneStitches_25 : decode cX3_loneStitches 25 = .ok (.iload 4, 2) := by decide +kernel
theorem dX3_loneStitches_27 : decode cX3_loneStitches 27 = .ok (.iload_n 3, 1) := by decide +kernel
theorem dX3_loneStitches_28 : decode cX3_loneStitches 28 = .ok (.invokevirtual 33, 3) := by decide +kernel
theorem dX3_loneStitches_31 : decode cX3_loneStitches 31 = .ok (.iload_n 1, 1) := by decide +kernel
theorem dX3_loneStitches_32 : decode cX3_loneStitches 32 = .ok (.if_icmp .ne 16, 3) := by decide +kernel
theorem dX3_loneStitches_35 : decode cX3_loneStitches 35 = .ok (.aload_n 0, 1) := by decide +kernel
theorem dX3_loneStitches_36 : decode cX3_loneStitches 36 = .ok (.iload 4, 2) := by decide +kernel
theorem dX3_loneStitches_38 : decode cX3_loneStitches 38 = .ok (.iload_n 3, 1) := by decide +kernel
theorem dX3_loneStitches_39 : decode cX3_loneStitches 39 = .ok (.invokevirtual 52, 3) := by decide +kernel
theorem dX3_loneStitches_42 : decode cX3_loneStitches 42 = .ok (.ifCond .eq 6, 3) := by decide +kernel
theorem dX3_loneStitches_45 : decode cX3_loneStitches 45 = .ok (.iinc 2 1, 3) := by decide +kernel
theorem dX3_loneStitches_48 : decode cX3_loneStitches 48 = .ok (.iinc 4 1, 3) := by decide +kernel
theorem dX3_loneStitches_51 : decode cX3_loneStitches 51 = .ok (.goto (-36), 3) := by decide +kernel
theorem dX3_loneStitches_54 : decode cX3_loneStitches 54 = .ok (.iinc 3 1, 3) := by decide +kernel
theorem dX3_loneStitches_57 : decode cX3_loneStitches 57 = .ok (.goto (-53), 3) := by decide +kernel
theorem dX3_loneStitches_60 : decode cX3_loneStitches 60 = .ok (.iload_n 2, 1) := by decide +kernel
theorem dX3_loneStitches_61 : decode cX3_loneStitches 61 = .ok (.ireturn, 1) := by decide +kernel
theorem dX3_colorAfterMerging_0 : decode cX3_colorAfterMerging 0 = .ok (.aload_n 0, 1) := by decide +kernel
theorem dX3_colorAfterMerging_1 : decode cX3_colorAfterMerging 1 = .ok (.iload_n 1, 1) := by decide +kernel
theorem dX3_colorAfterMerging_2 : decode cX3_colorAfterMerging 2 = .ok (.iload_n 2, 1) := by decide +kernel
theorem dX3_colorAfterMerging_3 : decode cX3_colorAfterMerging 3 = .ok (.invokevirtual 33, 3) := by decide +kernel
theorem dX3_colorAfterMerging_6 : decode cX3_colorAfterMerging 6 = .ok (.istore_n 3, 1) := by decide +kernel
theorem dX3_colorAfterMerging_7 : decode cX3_colorAfterMerging 7 = .ok (.aload_n 0, 1) := by decide +kernel
theorem dX3_colorAfterMerging_8 : decode cX3_colorAfterMerging 8 = .ok (.iload_n 1, 1) := by decide +kernel
theorem dX3_colorAfterMerging_9 : decode cX3_colorAfterMerging 9 = .ok (.iload_n 2, 1) := by decide +kernel
theorem dX3_colorAfterMerging_10 : decode cX3_colorAfterMerging 10 = .ok (.invokevirtual 52, 3) := by decide +kernel
theorem dX3_colorAfterMerging_13 : decode cX3_colorAfterMerging 13 = .ok (.ifCond .ne 5, 3) := by decide +kernel
theorem dX3_colorAfterMerging_16 : decode cX3_colorAfterMerging 16 = .ok (.iload_n 3, 1) := by decide +kernel
theorem dX3_colorAfterMerging_17 : decode cX3_colorAfterMerging 17 = .ok (.ireturn, 1) := by decide +kernel
theorem dX3_colorAfterMerging_18 : decode cX3_colorAfterMerging 18 = .ok (.iconst 0, 1) := by decide +kernel
theorem dX3_colorAfterMerging_19 : decode cX3_colorAfterMerging 19 = .ok (.istore 4, 2) := by decide +kernel
theorem dX3_colorAfterMerging_21 : decode cX3_colorAfterMerging 21 = .ok (.iconst 1, 1) := by decide +kernel
theorem dX3_colorAfterMerging_22 : decode cX3_colorAfterMerging 22 = .ok (.istore 5, 2) := by decide +kernel
theorem dX3_colorAfterMerging_24 : decode cX3_colorAfterMerging 24 = .ok (.iload 5, 2) := by decide +kernel
theorem dX3_colorAfterMerging_26 : decode cX3_colorAfterMerging 26 = .ok (.bipush 6, 2) := by decide +kernel
theorem dX3_colorAfterMerging_28 : decode cX3_colorAfterMerging 28 = .ok (.if_icmp .gt 33, 3) := by decide +kernel
theorem dX3_colorAfterMerging_31 : decode cX3_colorAfterMerging 31 = .ok (.aload_n 0, 1) := by decide +kernel
theorem dX3_colorAfterMerging_32 : decode cX3_colorAfterMerging 32 = .ok (.iload_n 1, 1) := by decide +kernel
theorem dX3_colorAfterMerging_33 : decode cX3_colorAfterMerging 33 = .ok (.iload_n 2, 1) := by decide +kernel
theorem dX3_colorAfterMerging_34 : decode cX3_colorAfterMerging 34 = .ok (.iload 5, 2) := by decide +kernel
theorem dX3_colorAfterMerging_36 : decode cX3_colorAfterMerging 36 = .ok (.invokevirtual 49, 3) := by decide +kernel
theorem dX3_colorAfterMerging_39 : decode cX3_colorAfterMerging 39 = .ok (.istore 6, 2) := by decide +kernel
theorem dX3_colorAfterMerging_41 : decode cX3_colorAfterMerging 41 = .ok (.iload 6, 2) := by decide +kernel
theorem dX3_colorAfterMerging_43 : decode cX3_colorAfterMerging 43 = .ok (.iload 4, 2) := by decide +kernel
theorem dX3_colorAfterMerging_45 : decode cX3_colorAfterMerging 45 = .ok (.if_icmp .le 10, 3) := by decide +kernel
theorem dX3_colorAfterMerging_48 : decode cX3_colorAfterMerging 48 = .ok (.iload 6, 2) := by decide +kernel
theorem dX3_colorAfterMerging_50 : decode cX3_colorAfterMerging 50 = .ok (.istore 4, 2) := by decide +kernel
theorem dX3_colorAfterMerging_52 : decode cX3_colorAfterMerging 52 = .ok (.iload 5, 2) := by decide +kernel
theorem dX3_colorAfterMerging_54 : decode cX3_colorAfterMerging 54 = .ok (.istore_n 3, 1) := by decide +kernel
theorem dX3_colorAfterMerging_55 : decode cX3_colorAfterMerging 55 = .ok (.iinc 5 1, 3) := by decide +kernel
theorem dX3_colorAfterMerging_58 : decode cX3_colorAfterMerging 58 = .ok (.goto (-34), 3) := by decide +kernel
theorem dX3_colorAfterMerging_61 : decode cX3_colorAfterMerging 61 = .ok (.iload_n 3, 1) := by decide +kernel
theorem dX3_colorAfterMerging_62 : decode cX3_colorAfterMerging 62 = .ok (.ireturn, 1) := by decide +kernel
theorem dX3_mergeOnce_0 : decode cX3_mergeOnce 0 = .ok (.iconst 0, 1) := by decide +kernel
theorem dX3_mergeOnce_1 : decode cX3_mergeOnce 1 = .ok (.istore_n 1, 1) := by decide +kernel
theorem dX3_mergeOnce_2 : decode cX3_mergeOnce 2 = .ok (.iload_n 1, 1) := by decide +kernel
theorem dX3_mergeOnce_3 : decode cX3_mergeOnce 3 = .ok (.aload_n 0, 1) := by decide +kernel
theorem dX3_mergeOnce_4 : decode cX3_mergeOnce 4 = .ok (.getfield 15, 3) := by decide +kernel
theorem dX3_mergeOnce_7 : decode cX3_mergeOnce 7 = .ok (.if_icmp .ge 51, 3) := by decide +kernel
theorem dX3_mergeOnce_10 : decode cX3_mergeOnce 10 = .ok (.iconst 0, 1) := by decide +kernel
theorem dX3_mergeOnce_11 : decode cX3_mergeOnce 11 = .ok (.istore_n 2, 1) := by decide +kernel
theorem dX3_mergeOnce_12 : decode cX3_mergeOnce 12 = .ok (.iload_n 2, 1) := by decide +kernel
theorem dX3_mergeOnce_13 : decode cX3_mergeOnce 13 = .ok (.aload_n 0, 1) := by decide +kernel
theorem dX3_mergeOnce_14 : decode cX3_mergeOnce 14 = .ok (.getfield 9, 3) := by decide +kernel
theorem dX3_mergeOnce_17 : decode cX3_mergeOnce 17 = .ok (.if_icmp .ge 35, 3) := by decide +kernel
theorem dX3_mergeOnce_20 : decode cX3_mergeOnce 20 = .ok (.aload_n 0, 1) := by decide +kernel
theorem dX3_mergeOnce_21 : decode cX3_mergeOnce 21 = .ok (.iload_n 2, 1) := by decide +kernel
theorem dX3_mergeOnce_22 : decode cX3_mergeOnce 22 = .ok (.iload_n 1, 1) := by decide +kernel
theorem dX3_mergeOnce_23 : decode cX3_mergeOnce 23 = .ok (.invokevirtual 29, 3) := by decide +kernel
theorem dX3_mergeOnce_26 : decode cX3_mergeOnce 26 = .ok (.ifCond .eq 20, 3) := by decide +kernel
theorem dX3_mergeOnce_29 : decode cX3_mergeOnce 29 = .ok (.aload_n 0, 1) := by decide +kernel
theorem dX3_mergeOnce_30 : decode cX3_mergeOnce 30 = .ok (.getfield 26, 3) := by decide +kernel
theorem dX3_mergeOnce_33 : decode cX3_mergeOnce 33 = .ok (.iload_n 1, 1) := by decide +kernel
theorem dX3_mergeOnce_34 : decode cX3_mergeOnce 34 = .ok (.bipush 24, 2) := by decide +kernel
theorem dX3_mergeOnce_36 : decode cX3_mergeOnce 36 = .ok (.imul, 1) := by decide +kernel
theorem dX3_mergeOnce_37 : decode cX3_mergeOnce 37 = .ok (.iload_n 2, 1) := by decide +kernel
theorem dX3_mergeOnce_38 : decode cX3_mergeOnce 38 = .ok (.iadd, 1) := by decide +kernel
theorem dX3_mergeOnce_39 : decode cX3_mergeOnce 39 = .ok (.aload_n 0, 1) := by decide +kernel
theorem dX3_mergeOnce_40 : decode cX3_mergeOnce 40 = .ok (.iload_n 2, 1) := by decide +kernel
theorem dX3_mergeOnce_41 : decode cX3_mergeOnce 41 = .ok (.iload_n 1, 1) := by decide +kernel
theorem dX3_mergeOnce_42 : decode cX3_mergeOnce 42 = .ok (.invokevirtual 55, 3) := by decide +kernel
theorem dX3_mergeOnce_45 : decode cX3_mergeOnce 45 = .ok (.iastore, 1) := by decide +kernel
theorem dX3_mergeOnce_46 : decode cX3_mergeOnce 46 = .ok (.iinc 2 1, 3) := by decide +kernel
theorem dX3_mergeOnce_49 : decode cX3_mergeOnce 49 = .ok (.goto (-37), 3) := by decide +kernel
theorem dX3_mergeOnce_52 : decode cX3_mergeOnce 52 = .ok (.iinc 1 1, 3) := by decide +kernel
theorem dX3_mergeOnce_55 : decode cX3_mergeOnce 55 = .ok (.goto (-53), 3) := by decide +kernel
theorem dX3_mergeOnce_58 : decode cX3_mergeOnce 58 = .ok (.iconst 0, 1) := by decide +kernel
theorem dX3_mergeOnce_59 : decode cX3_mergeOnce 59 = .ok (.istore_n 1, 1) := by decide +kernel
theorem dX3_mergeOnce_60 : decode cX3_mergeOnce 60 = .ok (.iconst 0, 1) := by decide +kernel
theorem dX3_mergeOnce_61 : decode cX3_mergeOnce 61 = .ok (.istore_n 2, 1) := by decide +kernel
theorem dX3_mergeOnce_62 : decode cX3_mergeOnce 62 = .ok (.iload_n 2, 1) := by decide +kernel
theorem dX3_mergeOnce_63 : decode cX3_mergeOnce 63 = .ok (.aload_n 0, 1) := by decide +kernel
theorem dX3_mergeOnce_64 : decode cX3_mergeOnce 64 = .ok (.getfield 15, 3) := by decide +kernel
theorem dX3_mergeOnce_67 : decode cX3_mergeOnce 67 = .ok (.if_icmp .ge 54, 3) := by decide +kernel
theorem dX3_mergeOnce_70 : decode cX3_mergeOnce 70 = .ok (.iconst 0, 1) := by decide +kernel
theorem dX3_mergeOnce_71 : decode cX3_mergeOnce 71 = .ok (.istore_n 3, 1) := by decide +kernel
theorem dX3_mergeOnce_72 : decode cX3_mergeOnce 72 = .ok (.iload_n 3, 1) := by decide +kernel
theorem dX3_mergeOnce_73 : decode cX3_mergeOnce 73 = .ok (.aload_n 0, 1) := by decide +kernel
theorem dX3_mergeOnce_74 : decode cX3_mergeOnce 74 = .ok (.getfield 9, 3) := by decide +kernel
theorem dX3_mergeOnce_77 : decode cX3_mergeOnce 77 = .ok (.if_icmp .ge 38, 3) := by decide +kernel
theorem dX3_mergeOnce_80 : decode cX3_mergeOnce 80 = .ok (.aload_n 0, 1) := by decide +kernel
theorem dX3_mergeOnce_81 : decode cX3_mergeOnce 81 = .ok (.iload_n 3, 1) := by decide +kernel
theorem dX3_mergeOnce_82 : decode cX3_mergeOnce 82 = .ok (.iload_n 2, 1) := by decide +kernel
theorem dX3_mergeOnce_83 : decode cX3_mergeOnce 83 = .ok (.invokevirtual 29, 3) := by decide +kernel
theorem dX3_mergeOnce_86 : decode cX3_mergeOnce 86 = .ok (.ifCond .eq 23, 3) := by decide +kernel
theorem dX3_mergeOnce_89 : decode cX3_mergeOnce 89 = .ok (.iload_n 1, 1) := by decide +kernel
theorem dX3_mergeOnce_90 : decode cX3_mergeOnce 90 = .ok (.aload_n 0, 1) := by decide +kernel
theorem dX3_mergeOnce_91 : decode cX3_mergeOnce 91 = .ok (.iload_n 3, 1) := by decide +kernel
theorem dX3_mergeOnce_92 : decode cX3_mergeOnce 92 = .ok (.iload_n 2, 1) := by decide +kernel
theorem dX3_mergeOnce_93 : decode cX3_mergeOnce 93 = .ok (.aload_n 0, 1) := by decide +kernel
theorem dX3_mergeOnce_94 : decode cX3_mergeOnce 94 = .ok (.getfield 26, 3) := by decide +kernel
theorem dX3_mergeOnce_97 : decode cX3_mergeOnce 97 = .ok (.iload_n 2, 1) := by decide +kernel
theorem dX3_mergeOnce_98 : decode cX3_mergeOnce 98 = .ok (.bipush 24, 2) := by decide +kernel
theorem dX3_mergeOnce_100 : decode cX3_mergeOnce 100 = .ok (.imul, 1) := by decide +kernel
theorem dX3_mergeOnce_101 : decode cX3_mergeOnce 101 = .ok (.iload_n 3, 1) := by decide +kernel
theorem dX3_mergeOnce_102 : decode cX3_mergeOnce 102 = .ok (.iadd, 1) := by decide +kernel
theorem dX3_mergeOnce_103 : decode cX3_mergeOnce 103 = .ok (.iaload, 1) := by decide +kernel
theorem dX3_mergeOnce_104 : decode cX3_mergeOnce 104 = .ok (.invokevirtual 45, 3) := by decide +kernel
theorem dX3_mergeOnce_107 : decode cX3_mergeOnce 107 = .ok (.iadd, 1) := by decide +kernel
theorem dX3_mergeOnce_108 : decode cX3_mergeOnce 108 = .ok (.istore_n 1, 1) := by decide +kernel
theorem dX3_mergeOnce_109 : decode cX3_mergeOnce 109 = .ok (.iinc 3 1, 3) := by decide +kernel
theorem dX3_mergeOnce_112 : decode cX3_mergeOnce 112 = .ok (.goto (-40), 3) := by decide +kernel
theorem dX3_mergeOnce_115 : decode cX3_mergeOnce 115 = .ok (.iinc 2 1, 3) := by decide +kernel
theorem dX3_mergeOnce_118 : decode cX3_mergeOnce 118 = .ok (.goto (-56), 3) := by decide +kernel
theorem dX3_mergeOnce_121 : decode cX3_mergeOnce 121 = .ok (.iload_n 1, 1) := by decide +kernel
theorem dX3_mergeOnce_122 : decode cX3_mergeOnce 122 = .ok (.ireturn, 1) := by decide +kernel
theorem dX4_init_0 : decode cX4_init 0 = .ok (.aload_n 0, 1) := by decide +kernel
theorem dX4_init_1 : decode cX4_init 1 = .ok (.invokespecial 1, 3) := by decide +kernel
theorem dX4_init_4 : decode cX4_init 4 = .ok (.aload_n 0, 1) := by decide +kernel
theorem dX4_init_5 : decode cX4_init 5 = .ok (.bipush 8, 2) := by decide +kernel
theorem dX4_init_7 : decode cX4_init 7 = .ok (.putfield 7, 3) := by decide +kernel
theorem dX4_init_10 : decode cX4_init 10 = .ok (.aload_n 0, 1) := by decide +kernel
theorem dX4_init_11 : decode cX4_init 11 = .ok (.bipush 6, 2) := by decide +kernel
theorem dX4_init_13 : decode cX4_init 13 = .ok (.putfield 13, 3) := by decide +kernel
theorem dX4_init_16 : decode cX4_init 16 = .ok (.aload_n 0, 1) := by decide +kernel
theorem dX4_init_17 : decode cX4_init 17 = .ok (.iconst 1, 1) := by decide +kernel
theorem dX4_init_18 : decode cX4_init 18 = .ok (.putfield 16, 3) := by decide +kernel
theorem dX4_init_21 : decode cX4_init 21 = .ok (.aload_n 0, 1) := by decide +kernel
theorem dX4_init_22 : decode cX4_init 22 = .ok (.aload_n 1, 1) := by decide +kernel
theorem dX4_init_23 : decode cX4_init 23 = .ok (.putfield 19, 3) := by decide +kernel
theorem dX4_init_26 : decode cX4_init 26 = .ok (.return_, 1) := by decide +kernel
theorem dX4_step_0 : decode cX4_step 0 = .ok (.iload_n 1, 1) := by decide +kernel
theorem dX4_step_1 : decode cX4_step 1 = .ok (.aload_n 0, 1) := by decide +kernel
theorem dX4_step_2 : decode cX4_step 2 = .ok (.getfield 16, 3) := by decide +kernel
theorem dX4_step_5 : decode cX4_step 5 = .ok (.if_icmp .le 12, 3) := by decide +kernel
theorem dX4_step_8 : decode cX4_step 8 = .ok (.iload_n 1, 1) := by decide +kernel
theorem dX4_step_9 : decode cX4_step 9 = .ok (.aload_n 0, 1) := by decide +kernel
theorem dX4_step_10 : decode cX4_step 10 = .ok (.getfield 16, 3) := by decide +kernel
theorem dX4_step_13 : decode cX4_step 13 = .ok (.isub, 1) := by decide +kernel
theorem dX4_step_14 : decode cX4_step 14 = .ok (.goto 4, 3) := by decide +kernel
theorem dX4_step_17 : decode cX4_step 17 = .ok (.iconst 1, 1) := by decide +kernel
theorem dX4_step_18 : decode cX4_step 18 = .ok (.ireturn, 1) := by decide +kernel
theorem dX4_pagesAlong_0 : decode cX4_pagesAlong 0 = .ok (.iload_n 1, 1) := by decide +kernel
theorem dX4_pagesAlong_1 : decode cX4_pagesAlong 1 = .ok (.iload_n 2, 1) := by decide +kernel
theorem dX4_pagesAlong_2 : decode cX4_pagesAlong 2 = .ok (.if_icmp .gt 5, 3) := by decide +kernel
theorem dX4_pagesAlong_5 : decode cX4_pagesAlong 5 = .ok (.iconst 1, 1) := by decide +kernel
theorem dX4_pagesAlong_6 : decode cX4_pagesAlong 6 = .ok (.ireturn, 1) := by decide +kernel
theorem dX4_pagesAlong_7 : decode cX4_pagesAlong 7 = .ok (.aload_n 0, 1) := by decide +kernel
theorem dX4_pagesAlong_8 : decode cX4_pagesAlong 8 = .ok (.iload_n 2, 1) := by decide +kernel
theorem dX4_pagesAlong_9 : decode cX4_pagesAlong 9 = .ok (.invokevirtual 23, 3) := by decide +kernel
theorem dX4_pagesAlong_12 : decode cX4_pagesAlong 12 = .ok (.istore_n 3, 1) := by decide +kernel
theorem dX4_pagesAlong_13 : decode cX4_pagesAlong 13 = .ok (.iconst 1, 1) := by decide +kernel
theorem dX4_pagesAlong_14 : decode cX4_pagesAlong 14 = .ok (.iload_n 1, 1) := by decide +kernel
theorem dX4_pagesAlong_15 : decode cX4_pagesAlong 15 = .ok (.iload_n 2, 1) := by decide +kernel
theorem dX4_pagesAlong_16 : decode cX4_pagesAlong 16 = .ok (.isub, 1) := by decide +kernel
theorem dX4_pagesAlong_17 : decode cX4_pagesAlong 17 = .ok (.iload_n 3, 1) := by decide +kernel
theorem dX4_pagesAlong_18 : decode cX4_pagesAlong 18 = .ok (.iadd, 1) := by decide +kernel
theorem dX4_pagesAlong_19 : decode cX4_pagesAlong 19 = .ok (.iconst 1, 1) := by decide +kernel
theorem dX4_pagesAlong_20 : decode cX4_pagesAlong 20 = .ok (.isub, 1) := by decide +kernel
theorem dX4_pagesAlong_21 : decode cX4_pagesAlong 21 = .ok (.iload_n 3, 1) := by decide +kernel
theorem dX4_pagesAlong_22 : decode cX4_pagesAlong 22 = .ok (.idiv, 1) := by decide +kernel
theorem dX4_pagesAlong_23 : decode cX4_pagesAlong 23 = .ok (.iadd, 1) := by decide +kernel
theorem dX4_pagesAlong_24 : decode cX4_pagesAlong 24 = .ok (.ireturn, 1) := by decide +kernel
theorem dX4_pagesAcross_0 : decode cX4_pagesAcross 0 = .ok (.iconst 1, 1) := by decide +kernel
theorem dX4_pagesAcross_1 : decode cX4_pagesAcross 1 = .ok (.aload_n 0, 1) := by decide +kernel
theorem dX4_pagesAcross_2 : decode cX4_pagesAcross 2 = .ok (.aload_n 0, 1) := by decide +kernel
theorem dX4_pagesAcross_3 : decode cX4_pagesAcross 3 = .ok (.getfield 19, 3) := by decide +kernel
theorem dX4_pagesAcross_6 : decode cX4_pagesAcross 6 = .ok (.getfield 27, 3) := by decide +kernel
theorem dX4_pagesAcross_9 : decode cX4_pagesAcross 9 = .ok (.aload_n 0, 1) := by decide +kernel
theorem dX4_pagesAcross_10 : decode cX4_pagesAcross 10 = .ok (.getfield 7, 3) := by decide +kernel
theorem dX4_pagesAcross_13 : decode cX4_pagesAcross 13 = .ok (.invokevirtual 32, 3) := by decide +kernel
theorem dX4_pagesAcross_16 : decode cX4_pagesAcross 16 = .ok (.invokestatic 36, 3) := by decide +kernel
theorem dX4_pagesAcross_19 : decode cX4_pagesAcross 19 = .ok (.ireturn, 1) := by decide +kernel
theorem dX4_total_0 : decode cX4_total 0 = .ok (.aload_n 0, 1) := by decide +kernel
theorem dX4_total_1 : decode cX4_total 1 = .ok (.invokevirtual 41, 3) := by decide +kernel
theorem dX4_total_4 : decode cX4_total 4 = .ok (.aload_n 0, 1) := by decide +kernel
theorem dX4_total_5 : decode cX4_total 5 = .ok (.aload_n 0, 1) := by decide +kernel
theorem dX4_total_6 : decode cX4_total 6 = .ok (.getfield 19, 3) := by decide +kernel
theorem dX4_total_9 : decode cX4_total 9 = .ok (.getfield 45, 3) := by decide +kernel
theorem dX4_total_12 : decode cX4_total 12 = .ok (.aload_n 0, 1) := by decide +kernel
theorem dX4_total_13 : decode cX4_total 13 = .ok (.getfield 13, 3) := by decide +kernel
theorem dX4_total_16 : decode cX4_total 16 = .ok (.invokevirtual 32, 3) := by decide +kernel
theorem dX4_total_19 : decode cX4_total 19 = .ok (.imul, 1) := by decide +kernel
theorem dX4_total_20 : decode cX4_total 20 = .ok (.ireturn, 1) := by decide +kernel
theorem dX4_has_0 : decode cX4_has 0 = .ok (.iload_n 1, 1) := by decide +kernel
theorem dX4_has_1 : decode cX4_has 1 = .ok (.iconst 0, 1) := by decide +kernel
theorem dX4_has_2 : decode cX4_has 2 = .ok (.aload_n 0, 1) := by decide +kernel
theorem dX4_has_3 : decode cX4_has 3 = .ok (.invokevirtual 48, 3) := by decide +kernel
theorem dX4_has_6 : decode cX4_has 6 = .ok (.iconst 1, 1) := by decide +kernel
theorem dX4_has_7 : decode cX4_has 7 = .ok (.isub, 1) := by decide +kernel
theorem dX4_has_8 : decode cX4_has 8 = .ok (.invokestatic 51, 3) := by decide +kernel
theorem dX4_has_11 : decode cX4_has 11 = .ok (.ireturn, 1) := by decide +kernel
theorem dX4_left_0 : decode cX4_left 0 = .ok (.iload_n 1, 1) := by decide +kernel
theorem dX4_left_1 : decode cX4_left 1 = .ok (.aload_n 0, 1) := by decide +kernel
theorem dX4_left_2 : decode cX4_left 2 = .ok (.invokevirtual 41, 3) := by decide +kernel
theorem dX4_left_5 : decode cX4_left 5 = .ok (.irem, 1) := by decide +kernel
theorem dX4_left_6 : decode cX4_left 6 = .ok (.aload_n 0, 1) := by decide +kernel
theorem dX4_left_7 : decode cX4_left 7 = .ok (.aload_n 0, 1) := by decide +kernel
theorem dX4_left_8 : decode cX4_left 8 = .ok (.getfield 7, 3) := by decide +kernel
theorem dX4_left_11 : decode cX4_left 11 = .ok (.invokevirtual 23, 3) := by decide +kernel
theorem dX4_left_14 : decode cX4_left 14 = .ok (.imul, 1) := by decide +kernel
theorem dX4_left_15 : decode cX4_left 15 = .ok (.ireturn, 1) := by decide +kernel
theorem dX4_top_0 : decode cX4_top 0 = .ok (.iload_n 1, 1) := by decide +kernel
theorem dX4_top_1 : decode cX4_top 1 = .ok (.aload_n 0, 1) := by decide +kernel
theorem dX4_top_2 : decode cX4_top 2 = .ok (.invokevirtual 41, 3) := by decide +kernel
theorem dX4_top_5 : decode cX4_top 5 = .ok (.idiv, 1) := by decide +kernel
theorem dX4_top_6 : decode cX4_top 6 = .ok (.aload_n 0, 1) := by decide +kernel
theorem dX4_top_7 : decode cX4_top 7 = .ok (.aload_n 0, 1) := by decide +kernel
theorem dX4_top_8 : decode cX4_top 8 = .ok (.getfield 13, 3) := by decide +kernel
theorem dX4_top_11 : decode cX4_top 11 = .ok (.invokevirtual 23, 3) := by decide +kernel
theorem dX4_top_14 : decode cX4_top 14 = .ok (.imul, 1) := by decide +kernel
theorem dX4_top_15 : decode cX4_top 15 = .ok (.ireturn, 1) := by decide +kernel
theorem dX4_shownColumns_0 : decode cX4_shownColumns 0 = .ok (.aload_n 0, 1) := by decide +kernel
theorem dX4_shownColumns_1 : decode cX4_shownColumns 1 = .ok (.getfield 7, 3) := by decide +kernel
theorem dX4_shownColumns_4 : decode cX4_shownColumns 4 = .ok (.aload_n 0, 1) := by decide +kernel
theorem dX4_shownColumns_5 : decode cX4_shownColumns 5 = .ok (.getfield 19, 3) := by decide +kernel
theorem dX4_shownColumns_8 : decode cX4_shownColumns 8 = .ok (.getfield 27, 3) := by decide +kernel
theorem dX4_shownColumns_11 : decode cX4_shownColumns 11 = .ok (.aload_n 0, 1) := by decide +kernel
theorem dX4_shownColumns_12 : decode cX4_shownColumns 12 = .ok (.iload_n 1, 1) := by decide +kernel
theorem dX4_shownColumns_13 : decode cX4_shownColumns 13 = .ok (.invokevirtual 57, 3) := by decide +kernel
theorem dX4_shownColumns_16 : decode cX4_shownColumns 16 = .ok (.isub, 1) := by decide +kernel
theorem dX4_shownColumns_17 : decode cX4_shownColumns 17 = .ok (.invokestatic 60, 3) := by decide +kernel
theorem dX4_shownColumns_20 : decode cX4_shownColumns 20 = .ok (.ireturn, 1) := by decide +kernel
theorem dX4_shownLines_0 : decode cX4_shownLines 0 = .ok (.aload_n 0, 1) := by decide +kernel
theorem dX4_shownLines_1 : decode cX4_shownLines 1 = .ok (.getfield 13, 3) := by decide +kernel
theorem dX4_shownLines_4 : decode cX4_shownLines 4 = .ok (.aload_n 0, 1) := by decide +kernel
theorem dX4_shownLines_5 : decode cX4_shownLines 5 = .ok (.getfield 19, 3) := by decide +kernel
theorem dX4_shownLines_8 : decode cX4_shownLines 8 = .ok (.getfield 45, 3) := by decide +kernel
theorem dX4_shownLines_11 : decode cX4_shownLines 11 = .ok (.aload_n 0, 1) := by decide +kernel
theorem dX4_shownLines_12 : decode cX4_shownLines 12 = .ok (.iload_n 1, 1) := by decide +kernel
theorem dX4_shownLines_13 : decode cX4_shownLines 13 = .ok (.invokevirtual 63, 3) := by decide +kernel
theorem dX4_shownLines_16 : decode cX4_shownLines 16 = .ok (.isub, 1) := by decide +kernel
theorem dX4_shownLines_17 : decode cX4_shownLines 17 = .ok (.invokestatic 60, 3) := by decide +kernel
theorem dX4_shownLines_20 : decode cX4_shownLines 20 = .ok (.ireturn, 1) := by decide +kernel
theorem dX4_firstShowing_0 : decode cX4_firstShowing 0 = .ok (.iload_n 1, 1) := by decide +kernel
theorem dX4_firstShowing_1 : decode cX4_firstShowing 1 = .ok (.iload_n 2, 1) := by decide +kernel
theorem dX4_firstShowing_2 : decode cX4_firstShowing 2 = .ok (.if_icmp .ge 7, 3) := by decide +kernel
theorem dX4_firstShowing_5 : decode cX4_firstShowing 5 = .ok (.iconst 0, 1) := by decide +kernel
theorem dX4_firstShowing_6 : decode cX4_firstShowing 6 = .ok (.goto 14, 3) := by decide +kernel
theorem dX4_firstShowing_9 : decode cX4_firstShowing 9 = .ok (.iconst 1, 1) := by decide +kernel
theorem dX4_firstShowing_10 : decode cX4_firstShowing 10 = .ok (.iload_n 1, 1) := by decide +kernel
theorem dX4_firstShowing_11 : decode cX4_firstShowing 11 = .ok (.iload_n 2, 1) := by decide +kernel
theorem dX4_firstShowing_12 : decode cX4_firstShowing 12 = .ok (.isub, 1) := by decide +kernel
theorem dX4_firstShowing_13 : decode cX4_firstShowing 13 = .ok (.aload_n 0, 1) := by decide +kernel
theorem dX4_firstShowing_14 : decode cX4_firstShowing 14 = .ok (.iload_n 2, 1) := by decide +kernel
theorem dX4_firstShowing_15 : decode cX4_firstShowing 15 = .ok (.invokevirtual 23, 3) := by decide +kernel
theorem dX4_firstShowing_18 : decode cX4_firstShowing 18 = .ok (.idiv, 1) := by decide +kernel
theorem dX4_firstShowing_19 : decode cX4_firstShowing 19 = .ok (.iadd, 1) := by decide +kernel
theorem dX4_firstShowing_20 : decode cX4_firstShowing 20 = .ok (.ireturn, 1) := by decide +kernel
theorem dX4_owner_0 : decode cX4_owner 0 = .ok (.aload_n 0, 1) := by decide +kernel
theorem dX4_owner_1 : decode cX4_owner 1 = .ok (.iload_n 2, 1) := by decide +kernel
theorem dX4_owner_2 : decode cX4_owner 2 = .ok (.aload_n 0, 1) := by decide +kernel
theorem dX4_owner_3 : decode cX4_owner 3 = .ok (.getfield 13, 3) := by decide +kernel
theorem dX4_owner_6 : decode cX4_owner 6 = .ok (.invokevirtual 66, 3) := by decide +kernel
theorem dX4_owner_9 : decode cX4_owner 9 = .ok (.aload_n 0, 1) := by decide +kernel
theorem dX4_owner_10 : decode cX4_owner 10 = .ok (.invokevirtual 41, 3) := by decide +kernel
theorem dX4_owner_13 : decode cX4_owner 13 = .ok (.imul, 1) := by decide +kernel
theorem dX4_owner_14 : decode cX4_owner 14 = .ok (.aload_n 0, 1) := by decide +kernel
theorem dX4_owner_15 : decode cX4_owner 15 = .ok (.iload_n 1, 1) := by decide +kernel
theorem dX4_owner_16 : decode cX4_owner 16 = .ok (.aload_n 0, 1) := by decide +kernel
theorem dX4_owner_17 : decode cX4_owner 17 = .ok (.getfield 7, 3) := by decide +kernel
theorem dX4_owner_20 : decode cX4_owner 20 = .ok (.invokevirtual 66, 3) := by decide +kernel
theorem dX4_owner_23 : decode cX4_owner 23 = .ok (.iadd, 1) := by decide +kernel
theorem dX4_owner_24 : decode cX4_owner 24 = .ok (.ireturn, 1) := by decide +kernel
theorem dX4_tally_0 : decode cX4_tally 0 = .ok (.aload_n 0, 1) := by decide +kernel
theorem dX4_tally_1 : decode cX4_tally 1 = .ok (.iload_n 1, 1) := by decide +kernel
theorem dX4_tally_2 : decode cX4_tally 2 = .ok (.invokevirtual 57, 3) := by decide +kernel
theorem dX4_tally_5 : decode cX4_tally 5 = .ok (.istore 5, 2) := by decide +kernel
theorem dX4_tally_7 : decode cX4_tally 7 = .ok (.aload_n 0, 1) := by decide +kernel
theorem dX4_tally_8 : decode cX4_tally 8 = .ok (.iload_n 1, 1) := by decide +kernel
theorem dX4_tally_9 : decode cX4_tally 9 = .ok (.invokevirtual 63, 3) := by decide +kernel
theorem dX4_tally_12 : decode cX4_tally 12 = .ok (.istore 6, 2) := by decide +kernel
theorem dX4_tally_14 : decode cX4_tally 14 = .ok (.iload 5, 2) := by decide +kernel
theorem dX4_tally_16 : decode cX4_tally 16 = .ok (.aload_n 0, 1) := by decide +kernel
theorem dX4_tally_17 : decode cX4_tally 17 = .ok (.getfield 7, 3) := by decide +kernel
theorem dX4_tally_20 : decode cX4_tally 20 = .ok (.iadd, 1) := by decide +kernel
theorem dX4_tally_21 : decode cX4_tally 21 = .ok (.aload_n 0, 1) := by decide +kernel
theorem dX4_tally_22 : decode cX4_tally 22 = .ok (.getfield 19, 3) := by decide +kernel
theorem dX4_tally_25 : decode cX4_tally 25 = .ok (.getfield 27, 3) := by decide +kernel
theorem dX4_tally_28 : decode cX4_tally 28 = .ok (.invokestatic 60, 3) := by decide +kernel
theorem dX4_tally_31 : decode cX4_tally 31 = .ok (.istore 7, 2) := by decide +kernel
theorem dX4_tally_33 : decode cX4_tally 33 = .ok (.iload 6, 2) := by decide +kernel
theorem dX4_tally_35 : decode cX4_tally 35 = .ok (.aload_n 0, 1) := by decide +kernel
theorem dX4_tally_36 : decode cX4_tally 36 = .ok (.getfield 13, 3) := by decide +kernel
theorem dX4_tally_39 : decode cX4_tally 39 = .ok (.iadd, 1) := by decide +kernel
theorem dX4_tally_40 : decode cX4_tally 40 = .ok (.aload_n 0, 1) := by decide +kernel
theorem dX4_tally_41 : decode cX4_tally 41 = .ok (.getfield 19, 3) := by decide +kernel
theorem dX4_tally_44 : decode cX4_tally 44 = .ok (.getfield 45, 3) := by decide +kernel
theorem dX4_tally_47 : decode cX4_tally 47 = .ok (.invokestatic 60, 3) := by decide +kernel
theorem dX4_tally_50 : decode cX4_tally 50 = .ok (.istore 8, 2) := by decide +kernel
theorem dX4_tally_52 : decode cX4_tally 52 = .ok (.iconst 0, 1) := by decide +kernel
theorem dX4_tally_53 : decode cX4_tally 53 = .ok (.istore 9, 2) := by decide +kernel
theorem dX4_tally_55 : decode cX4_tally 55 = .ok (.iload 6, 2) := by decide +kernel
theorem dX4_tally_57 : decode cX4_tally 57 = .ok (.istore 10, 2) := by decide +kernel
theorem dX4_tally_59 : decode cX4_tally 59 = .ok (.iload 10, 2) := by decide +kernel
theorem dX4_tally_61 : decode cX4_tally 61 = .ok (.iload 8, 2) := by decide +kernel
theorem dX4_tally_63 : decode cX4_tally 63 = .ok (.if_icmp .ge 74, 3) := by decide +kernel
theorem dX4_tally_66 : decode cX4_tally 66 = .ok (.iload 5, 2) := by decide +kernel
theorem dX4_tally_68 : decode cX4_tally 68 = .ok (.istore 11, 2) := by decide +kernel
theorem dX4_tally_70 : decode cX4_tally 70 = .ok (.iload 11, 2) := by decide +kernel
theorem dX4_tally_72 : decode cX4_tally 72 = .ok (.iload 7, 2) := by decide +kernel
theorem dX4_tally_74 : decode cX4_tally 74 = .ok (.if_icmp .ge 57, 3) := by decide +kernel
theorem dX4_tally_77 : decode cX4_tally 77 = .ok (.aload_n 0, 1) := by decide +kernel
theorem dX4_tally_78 : decode cX4_tally 78 = .ok (.iload 11, 2) := by decide +kernel
theorem dX4_tally_80 : decode cX4_tally 80 = .ok (.iload 10, 2) := by decide +kernel
theorem dX4_tally_82 : decode cX4_tally 82 = .ok (.invokevirtual 69, 3) := by decide +kernel
theorem dX4_tally_85 : decode cX4_tally 85 = .ok (.iload_n 1, 1) := by decide +kernel
theorem dX4_tally_86 : decode cX4_tally 86 = .ok (.if_icmp .ne 7, 3) := by decide +kernel
theorem dX4_tally_89 : decode cX4_tally 89 = .ok (.iconst 1, 1) := by decide +kernel
theorem dX4_tally_90 : decode cX4_tally 90 = .ok (.goto 4, 3) := by decide +kernel
theorem dX4_tally_93 : decode cX4_tally 93 = .ok (.iconst 0, 1) := by decide +kernel
theorem dX4_tally_94 : decode cX4_tally 94 = .ok (.istore 12, 2) := by decide +kernel
theorem dX4_tally_96 : decode cX4_tally 96 = .ok (.iload 12, 2) := by decide +kernel
theorem dX4_tally_98 : decode cX4_tally 98 = .ok (.iload_n 2, 1) := by decide +kernel
theorem dX4_tally_99 : decode cX4_tally 99 = .ok (.if_icmp .ne 26, 3) := by decide +kernel
theorem dX4_tally_102 : decode cX4_tally 102 = .ok (.aload_n 0, 1) := by decide +kernel
theorem dX4_tally_103 : decode cX4_tally 103 = .ok (.getfield 19, 3) := by decide +kernel
theorem dX4_tally_106 : decode cX4_tally 106 = .ok (.iload 11, 2) := by decide +kernel
theorem dX4_tally_108 : decode cX4_tally 108 = .ok (.iload 10, 2) := by decide +kernel
theorem dX4_tally_110 : decode cX4_tally 110 = .ok (.invokevirtual 72, 3) := by decide +kernel
theorem dX4_tally_113 : decode cX4_tally 113 = .ok (.iload_n 3, 1) := by decide +kernel
theorem dX4_tally_114 : decode cX4_tally 114 = .ok (.iload 4, 2) := by decide +kernel
theorem dX4_tally_116 : decode cX4_tally 116 = .ok (.invokestatic 51, 3) := by decide +kernel
theorem dX4_tally_119 : decode cX4_tally 119 = .ok (.ifCond .eq 6, 3) := by decide +kernel
theorem dX4_tally_122 : decode cX4_tally 122 = .ok (.iinc 9 1, 3) := by decide +kernel
theorem dX4_tally_125 : decode cX4_tally 125 = .ok (.iinc 11 1, 3) := by decide +kernel
theorem dX4_tally_128 : decode cX4_tally 128 = .ok (.goto (-58), 3) := by decide +kernel
theorem dX4_tally_131 : decode cX4_tally 131 = .ok (.iinc 10 1, 3) := by decide +kernel
theorem dX4_tally_134 : decode cX4_tally 134 = .ok (.goto (-75), 3) := by decide +kernel
theorem dX4_tally_137 : decode cX4_tally 137 = .ok (.iload 9, 2) := by decide +kernel
theorem dX4_tally_139 : decode cX4_tally 139 = .ok (.ireturn, 1) := by decide +kernel
theorem dX5_init_0 : decode cX5_init 0 = .ok (.aload_n 0, 1) := by decide +kernel
theorem dX5_init_1 : decode cX5_init 1 = .ok (.invokespecial 1, 3) := by decide +kernel
theorem dX5_init_4 : decode cX5_init 4 = .ok (.aload_n 0, 1) := by decide +kernel
theorem dX5_init_5 : decode cX5_init 5 = .ok (.bipush 60, 2) := by decide +kernel
theorem dX5_init_7 : decode cX5_init 7 = .ok (.putfield 7, 3) := by decide +kernel
theorem dX5_init_10 : decode cX5_init 10 = .ok (.aload_n 0, 1) := by decide +kernel
theorem dX5_init_11 : decode cX5_init 11 = .ok (.bipush 30, 2) := by decide +kernel
theorem dX5_init_13 : decode cX5_init 13 = .ok (.putfield 13, 3) := by decide +kernel
theorem dX5_init_16 : decode cX5_init 16 = .ok (.return_, 1) := by decide +kernel
theorem dX5_carries_0 : decode cX5_carries 0 = .ok (.iload_n 1, 1) := by decide +kernel
theorem dX5_carries_1 : decode cX5_carries 1 = .ok (.aload_n 0, 1) := by decide +kernel
theorem dX5_carries_2 : decode cX5_carries 2 = .ok (.getfield 7, 3) := by decide +kernel
theorem dX5_carries_5 : decode cX5_carries 5 = .ok (.if_icmp .gt 7, 3) := by decide +kernel
theorem dX5_carries_8 : decode cX5_carries 8 = .ok (.iconst 1, 1) := by decide +kernel
theorem dX5_carries_9 : decode cX5_carries 9 = .ok (.goto 4, 3) := by decide +kernel
theorem dX5_carries_12 : decode cX5_carries 12 = .ok (.iconst 0, 1) := by decide +kernel
theorem dX5_carries_13 : decode cX5_carries 13 = .ok (.ireturn, 1) := by decide +kernel
theorem dX5_cost_0 : decode cX5_cost 0 = .ok (.aload_n 0, 1) := by decide +kernel
theorem dX5_cost_1 : decode cX5_cost 1 = .ok (.iload_n 1, 1) := by decide +kernel
theorem dX5_cost_2 : decode cX5_cost 2 = .ok (.invokevirtual 16, 3) := by decide +kernel
theorem dX5_cost_5 : decode cX5_cost 5 = .ok (.ifCond .eq 7, 3) := by decide +kernel
theorem dX5_cost_8 : decode cX5_cost 8 = .ok (.iload_n 1, 1) := by decide +kernel
theorem dX5_cost_9 : decode cX5_cost 9 = .ok (.goto 9, 3) := by decide +kernel
theorem dX5_cost_12 : decode cX5_cost 12 = .ok (.iconst 2, 1) := by decide +kernel
theorem dX5_cost_13 : decode cX5_cost 13 = .ok (.aload_n 0, 1) := by decide +kernel
theorem dX5_cost_14 : decode cX5_cost 14 = .ok (.getfield 13, 3) := by decide +kernel
theorem dX5_cost_17 : decode cX5_cost 17 = .ok (.imul, 1) := by decide +kernel
theorem dX5_cost_18 : decode cX5_cost 18 = .ok (.ireturn, 1) := by decide +kernel
theorem dX6_init_0 : decode cX6_init 0 = .ok (.aload_n 0, 1) := by decide +kernel
theorem dX6_init_1 : decode cX6_init 1 = .ok (.invokespecial 1, 3) := by decide +kernel
theorem dX6_init_4 : decode cX6_init 4 = .ok (.aload_n 0, 1) := by decide +kernel
theorem dX6_init_5 : decode cX6_init 5 = .ok (.new 7, 3) := by decide +kernel
theorem dX6_init_8 : decode cX6_init 8 = .ok (.dup, 1) := by decide +kernel
theorem dX6_init_9 : decode cX6_init 9 = .ok (.invokespecial 9, 3) := by decide +kernel
theorem dX6_init_12 : decode cX6_init 12 = .ok (.putfield 10, 3) := by decide +kernel
theorem dX6_init_15 : decode cX6_init 15 = .ok (.aload_n 0, 1) := by decide +kernel
theorem dX6_init_16 : decode cX6_init 16 = .ok (.new 16, 3) := by decide +kernel
theorem dX6_init_19 : decode cX6_init 19 = .ok (.dup, 1) := by decide +kernel
theorem dX6_init_20 : decode cX6_init 20 = .ok (.invokespecial 18, 3) := by decide +kernel
theorem dX6_init_23 : decode cX6_init 23 = .ok (.putfield 19, 3) := by decide +kernel
theorem dX6_init_26 : decode cX6_init 26 = .ok (.aload_n 0, 1) := by decide +kernel
theorem dX6_init_27 : decode cX6_init 27 = .ok (.bipush 6, 2) := by decide +kernel
theorem dX6_init_29 : decode cX6_init 29 = .ok (.anewarray 23, 3) := by decide +kernel
theorem dX6_init_32 : decode cX6_init 32 = .ok (.putfield 25, 3) := by decide +kernel
theorem dX6_init_35 : decode cX6_init 35 = .ok (.iconst 0, 1) := by decide +kernel
theorem dX6_init_36 : decode cX6_init 36 = .ok (.istore_n 1, 1) := by decide +kernel
theorem dX6_init_37 : decode cX6_init 37 = .ok (.iload_n 1, 1) := by decide +kernel
theorem dX6_init_38 : decode cX6_init 38 = .ok (.bipush 6, 2) := by decide +kernel
theorem dX6_init_40 : decode cX6_init 40 = .ok (.if_icmp .ge 33, 3) := by decide +kernel
theorem dX6_init_43 : decode cX6_init 43 = .ok (.aload_n 0, 1) := by decide +kernel
theorem dX6_init_44 : decode cX6_init 44 = .ok (.getfield 25, 3) := by decide +kernel
theorem dX6_init_47 : decode cX6_init 47 = .ok (.iload_n 1, 1) := by decide +kernel
theorem dX6_init_48 : decode cX6_init 48 = .ok (.new 23, 3) := by decide +kernel
theorem dX6_init_51 : decode cX6_init 51 = .ok (.dup, 1) := by decide +kernel
theorem dX6_init_52 : decode cX6_init 52 = .ok (.aload_n 0, 1) := by decide +kernel
theorem dX6_init_53 : decode cX6_init 53 = .ok (.getfield 10, 3) := by decide +kernel
theorem dX6_init_56 : decode cX6_init 56 = .ok (.aload_n 0, 1) := by decide +kernel
theorem dX6_init_57 : decode cX6_init 57 = .ok (.getfield 19, 3) := by decide +kernel
theorem dX6_init_60 : decode cX6_init 60 = .ok (.iload_n 1, 1) := by decide +kernel
theorem dX6_init_61 : decode cX6_init 61 = .ok (.iconst 1, 1) := by decide +kernel
theorem dX6_init_62 : decode cX6_init 62 = .ok (.iadd, 1) := by decide +kernel
theorem dX6_init_63 : decode cX6_init 63 = .ok (.invokespecial 29, 3) := by decide +kernel
theorem dX6_init_66 : decode cX6_init 66 = .ok (.aastore, 1) := by decide +kernel
theorem dX6_init_67 : decode cX6_init 67 = .ok (.iinc 1 1, 3) := by decide +kernel
theorem dX6_init_70 : decode cX6_init 70 = .ok (.goto (-33), 3) := by decide +kernel
theorem dX6_init_73 : decode cX6_init 73 = .ok (.aload_n 0, 1) := by decide +kernel
theorem dX6_init_74 : decode cX6_init 74 = .ok (.new 32, 3) := by decide +kernel
theorem dX6_init_77 : decode cX6_init 77 = .ok (.dup, 1) := by decide +kernel
theorem dX6_init_78 : decode cX6_init 78 = .ok (.aload_n 0, 1) := by decide +kernel
theorem dX6_init_79 : decode cX6_init 79 = .ok (.getfield 10, 3) := by decide +kernel
theorem dX6_init_82 : decode cX6_init 82 = .ok (.invokespecial 34, 3) := by decide +kernel
theorem dX6_init_85 : decode cX6_init 85 = .ok (.putfield 37, 3) := by decide +kernel
theorem dX6_init_88 : decode cX6_init 88 = .ok (.aload_n 0, 1) := by decide +kernel
theorem dX6_init_89 : decode cX6_init 89 = .ok (.new 41, 3) := by decide +kernel
theorem dX6_init_92 : decode cX6_init 92 = .ok (.dup, 1) := by decide +kernel
theorem dX6_init_93 : decode cX6_init 93 = .ok (.aload_n 0, 1) := by decide +kernel
theorem dX6_init_94 : decode cX6_init 94 = .ok (.getfield 10, 3) := by decide +kernel
theorem dX6_init_97 : decode cX6_init 97 = .ok (.invokespecial 43, 3) := by decide +kernel
theorem dX6_init_100 : decode cX6_init 100 = .ok (.putfield 44, 3) := by decide +kernel
theorem dX6_init_103 : decode cX6_init 103 = .ok (.aload_n 0, 1) := by decide +kernel
theorem dX6_init_104 : decode cX6_init 104 = .ok (.new 48, 3) := by decide +kernel
theorem dX6_init_107 : decode cX6_init 107 = .ok (.dup, 1) := by decide +kernel
theorem dX6_init_108 : decode cX6_init 108 = .ok (.invokespecial 50, 3) := by decide +kernel
theorem dX6_init_111 : decode cX6_init 111 = .ok (.putfield 51, 3) := by decide +kernel
theorem dX6_init_114 : decode cX6_init 114 = .ok (.return_, 1) := by decide +kernel
theorem dX6_reset_0 : decode cX6_reset 0 = .ok (.iload_n 1, 1) := by decide +kernel
theorem dX6_reset_1 : decode cX6_reset 1 = .ok (.iconst 1, 1) := by decide +kernel
theorem dX6_reset_2 : decode cX6_reset 2 = .ok (.bipush 24, 2) := by decide +kernel
theorem dX6_reset_4 : decode cX6_reset 4 = .ok (.invokestatic 55, 3) := by decide +kernel
theorem dX6_reset_7 : decode cX6_reset 7 = .ok (.ifCond .eq 13, 3) := by decide +kernel
theorem dX6_reset_10 : decode cX6_reset 10 = .ok (.iload_n 2, 1) := by decide +kernel
theorem dX6_reset_11 : decode cX6_reset 11 = .ok (.iconst 1, 1) := by decide +kernel
theorem dX6_reset_12 : decode cX6_reset 12 = .ok (.bipush 24, 2) := by decide +kernel
theorem dX6_reset_14 : decode cX6_reset 14 = .ok (.invokestatic 55, 3) := by decide +kernel
theorem dX6_reset_17 : decode cX6_reset 17 = .ok (.ifCond .ne 6, 3) := by decide +kernel
theorem dX6_reset_20 : decode cX6_reset 20 = .ok (.bipush (-2), 2) := by decide +kernel
theorem dX6_reset_22 : decode cX6_reset 22 = .ok (.ireturn, 1) := by decide +kernel
theorem dX6_reset_23 : decode cX6_reset 23 = .ok (.aload_n 0, 1) := by decide +kernel
theorem dX6_reset_24 : decode cX6_reset 24 = .ok (.getfield 10, 3) := by decide +kernel
theorem dX6_reset_27 : decode cX6_reset 27 = .ok (.iload_n 1, 1) := by decide +kernel
theorem dX6_reset_28 : decode cX6_reset 28 = .ok (.iload_n 2, 1) := by decide +kernel
theorem dX6_reset_29 : decode cX6_reset 29 = .ok (.invokevirtual 59, 3) := by decide +kernel
theorem dX6_reset_32 : decode cX6_reset 32 = .ok (.aload_n 0, 1) := by decide +kernel
theorem dX6_reset_33 : decode cX6_reset 33 = .ok (.getfield 37, 3) := by decide +kernel
theorem dX6_reset_36 : decode cX6_reset 36 = .ok (.invokevirtual 63, 3) := by decide +kernel
theorem dX6_reset_39 : decode cX6_reset 39 = .ok (.iload_n 1, 1) := by decide +kernel
theorem dX6_reset_40 : decode cX6_reset 40 = .ok (.iload_n 2, 1) := by decide +kernel
theorem dX6_reset_41 : decode cX6_reset 41 = .ok (.imul, 1) := by decide +kernel
theorem dX6_reset_42 : decode cX6_reset 42 = .ok (.ireturn, 1) := by decide +kernel
theorem dX6_type_0 : decode cX6_type 0 = .ok (.aload_n 0, 1) := by decide +kernel
theorem dX6_type_1 : decode cX6_type 1 = .ok (.getfield 51, 3) := by decide +kernel
theorem dX6_type_4 : decode cX6_type 4 = .ok (.iload_n 1, 1) := by decide +kernel
theorem dX6_type_5 : decode cX6_type 5 = .ok (.invokevirtual 66, 3) := by decide +kernel
theorem dX6_type_8 : decode cX6_type 8 = .ok (.ifCond .eq 13, 3) := by decide +kernel
theorem dX6_type_11 : decode cX6_type 11 = .ok (.aload_n 0, 1) := by decide +kernel
theorem dX6_type_12 : decode cX6_type 12 = .ok (.getfield 51, 3) := by decide +kernel
theorem dX6_type_15 : decode cX6_type 15 = .ok (.getfield 70, 3) := by decide +kernel
theorem dX6_type_18 : decode cX6_type 18 = .ok (.goto 5, 3) := by decide +kernel
theorem dX6_type_21 : decode cX6_type 21 = .ok (.bipush (-3), 2) := by decide +kernel
theorem dX6_type_23 : decode cX6_type 23 = .ok (.ireturn, 1) := by decide +kernel
theorem dX6_clearText_0 : decode cX6_clearText 0 = .ok (.aload_n 0, 1) := by decide +kernel
theorem dX6_clearText_1 : decode cX6_clearText 1 = .ok (.getfield 51, 3) := by decide +kernel
theorem dX6_clearText_4 : decode cX6_clearText 4 = .ok (.getfield 70, 3) := by decide +kernel
theorem dX6_clearText_7 : decode cX6_clearText 7 = .ok (.istore_n 1, 1) := by decide +kernel
theorem dX6_clearText_8 : decode cX6_clearText 8 = .ok (.aload_n 0, 1) := by decide +kernel
theorem dX6_clearText_9 : decode cX6_clearText 9 = .ok (.getfield 51, 3) := by decide +kernel
theorem dX6_clearText_12 : decode cX6_clearText 12 = .ok (.iconst 0, 1) := by decide +kernel
theorem dX6_clearText_13 : decode cX6_clearText 13 = .ok (.putfield 70, 3) := by decide +kernel
theorem dX6_clearText_16 : decode cX6_clearText 16 = .ok (.iload_n 1, 1) := by decide +kernel
theorem dX6_clearText_17 : decode cX6_clearText 17 = .ok (.ireturn, 1) := by decide +kernel
theorem dX6_readChart_0 : decode cX6_readChart 0 = .ok (.aload_n 0, 1) := by decide +kernel
theorem dX6_readChart_1 : decode cX6_readChart 1 = .ok (.getfield 51, 3) := by decide +kernel
theorem dX6_readChart_4 : decode cX6_readChart 4 = .ok (.aload_n 0, 1) := by decide +kernel
theorem dX6_readChart_5 : decode cX6_readChart 5 = .ok (.getfield 10, 3) := by decide +kernel
theorem dX6_readChart_8 : decode cX6_readChart 8 = .ok (.getfield 74, 3) := by decide +kernel
theorem dX6_readChart_11 : decode cX6_readChart 11 = .ok (.aload_n 0, 1) := by decide +kernel
theorem dX6_readChart_12 : decode cX6_readChart 12 = .ok (.getfield 10, 3) := by decide +kernel
theorem dX6_readChart_15 : decode cX6_readChart 15 = .ok (.getfield 77, 3) := by decide +kernel
theorem dX6_readChart_18 : decode cX6_readChart 18 = .ok (.invokevirtual 80, 3) := by decide +kernel
theorem dX6_readChart_21 : decode cX6_readChart 21 = .ok (.istore_n 1, 1) := by decide +kernel
theorem dX6_readChart_22 : decode cX6_readChart 22 = .ok (.iload_n 1, 1) := by decide +kernel
theorem dX6_readChart_23 : decode cX6_readChart 23 = .ok (.iconst (-1), 1) := by decide +kernel
theorem dX6_readChart_24 : decode cX6_readChart 24 = .ok (.if_icmp .ne 17, 3) := by decide +kernel
theorem dX6_readChart_27 : decode cX6_readChart 27 = .ok (.aload_n 0, 1) := by decide +kernel
theorem dX6_readChart_28 : decode cX6_readChart 28 = .ok (.getfield 51, 3) := by decide +kernel
theorem dX6_readChart_31 : decode cX6_readChart 31 = .ok (.aload_n 0, 1) := by decide +kernel
theorem dX6_readChart_32 : decode cX6_readChart 32 = .ok (.getfield 10, 3) := by decide +kernel
theorem dX6_readChart_35 : decode cX6_readChart 35 = .ok (.invokevirtual 84, 3) := by decide +kernel
theorem dX6_readChart_38 : decode cX6_readChart 38 = .ok (.goto 7, 3) := by decide +kernel
theorem dX6_readChart_41 : decode cX6_readChart 41 = .ok (.bipush (-100), 2) := by decide +kernel
theorem dX6_readChart_43 : decode cX6_readChart 43 = .ok (.iload_n 1, 1) := by decide +kernel
theorem dX6_readChart_44 : decode cX6_readChart 44 = .ok (.isub, 1) := by decide +kernel
theorem dX6_readChart_45 : decode cX6_readChart 45 = .ok (.ireturn, 1) := by decide +kernel
theorem dX6_setCell_0 : decode cX6_setCell 0 = .ok (.aload_n 0, 1) := by decide +kernel
theorem dX6_setCell_1 : decode cX6_setCell 1 = .ok (.getfield 10, 3) := by decide +kernel
theorem dX6_setCell_4 : decode cX6_setCell 4 = .ok (.iload_n 1, 1) := by decide +kernel
theorem dX6_setCell_5 : decode cX6_setCell 5 = .ok (.iload_n 2, 1) := by decide +kernel
theorem dX6_setCell_6 : decode cX6_setCell 6 = .ok (.invokevirtual 88, 3) := by decide +kernel
theorem dX6_setCell_9 : decode cX6_setCell 9 = .ok (.ifCond .ne 5, 3) := by decide +kernel
theorem dX6_setCell_12 : decode cX6_setCell 12 = .ok (.iconst (-1), 1) := by decide +kernel
theorem dX6_setCell_13 : decode cX6_setCell 13 = .ok (.ireturn, 1) := by decide +kernel
theorem dX6_setCell_14 : decode cX6_setCell 14 = .ok (.iload_n 3, 1) := by decide +kernel
theorem dX6_setCell_15 : decode cX6_setCell 15 = .ok (.iconst 0, 1) := by decide +kernel
theorem dX6_setCell_16 : decode cX6_setCell 16 = .ok (.bipush 6, 2) := by decide +kernel
theorem dX6_setCell_18 : decode cX6_setCell 18 = .ok (.invokestatic 55, 3) := by decide +kernel
theorem dX6_setCell_21 : decode cX6_setCell 21 = .ok (.ifCond .ne 6, 3) := by decide +kernel
theorem dX6_setCell_24 : decode cX6_setCell 24 = .ok (.bipush (-2), 2) := by decide +kernel
theorem dX6_setCell_26 : decode cX6_setCell 26 = .ok (.ireturn, 1) := by decide +kernel
theorem dX6_setCell_27 : decode cX6_setCell 27 = .ok (.aload_n 0, 1) := by decide +kernel
theorem dX6_setCell_28 : decode cX6_setCell 28 = .ok (.getfield 10, 3) := by decide +kernel
theorem dX6_setCell_31 : decode cX6_setCell 31 = .ok (.iload_n 1, 1) := by decide +kernel
theorem dX6_setCell_32 : decode cX6_setCell 32 = .ok (.iload_n 2, 1) := by decide +kernel
theorem dX6_setCell_33 : decode cX6_setCell 33 = .ok (.invokevirtual 92, 3) := by decide +kernel
theorem dX6_setCell_36 : decode cX6_setCell 36 = .ok (.istore 4, 2) := by decide +kernel
theorem dX6_setCell_38 : decode cX6_setCell 38 = .ok (.aload_n 0, 1) := by decide +kernel
theorem dX6_setCell_39 : decode cX6_setCell 39 = .ok (.getfield 10, 3) := by decide +kernel
theorem dX6_setCell_42 : decode cX6_setCell 42 = .ok (.iload_n 1, 1) := by decide +kernel
theorem dX6_setCell_43 : decode cX6_setCell 43 = .ok (.iload_n 2, 1) := by decide +kernel
theorem dX6_setCell_44 : decode cX6_setCell 44 = .ok (.iload_n 3, 1) := by decide +kernel
theorem dX6_setCell_45 : decode cX6_setCell 45 = .ok (.invokevirtual 95, 3) := by decide +kernel
theorem dX6_setCell_48 : decode cX6_setCell 48 = .ok (.pop, 1) := by decide +kernel
theorem dX6_setCell_49 : decode cX6_setCell 49 = .ok (.iload 4, 2) := by decide +kernel
theorem dX6_setCell_51 : decode cX6_setCell 51 = .ok (.ireturn, 1) := by decide +kernel
theorem dX6_fill_0 : decode cX6_fill 0 = .ok (.aload_n 0, 1) := by decide +kernel
theorem dX6_fill_1 : decode cX6_fill 1 = .ok (.getfield 10, 3) := by decide +kernel
theorem dX6_fill_4 : decode cX6_fill 4 = .ok (.iload_n 1, 1) := by decide +kernel
theorem dX6_fill_5 : decode cX6_fill 5 = .ok (.iload_n 2, 1) := by decide +kernel
theorem dX6_fill_6 : decode cX6_fill 6 = .ok (.invokevirtual 88, 3) := by decide +kernel
theorem dX6_fill_9 : decode cX6_fill 9 = .ok (.ifCond .ne 5, 3) := by decide +kernel
theorem dX6_fill_12 : decode cX6_fill 12 = .ok (.iconst (-1), 1) := by decide +kernel
theorem dX6_fill_13 : decode cX6_fill 13 = .ok (.ireturn, 1) := by decide +kernel
theorem dX6_fill_14 : decode cX6_fill 14 = .ok (.iload_n 3, 1) := by decide +kernel
theorem dX6_fill_15 : decode cX6_fill 15 = .ok (.iconst 1, 1) := by decide +kernel
theorem dX6_fill_16 : decode cX6_fill 16 = .ok (.aload_n 0, 1) := by decide +kernel
theorem dX6_fill_17 : decode cX6_fill 17 = .ok (.getfield 10, 3) := by decide +kernel
theorem dX6_fill_20 : decode cX6_fill 20 = .ok (.getfield 74, 3) := by decide +kernel
theorem dX6_fill_23 : decode cX6_fill 23 = .ok (.iload_n 1, 1) := by decide +kernel
theorem dX6_fill_24 : decode cX6_fill 24 = .ok (.isub, 1) := by decide +kernel
theorem dX6_fill_25 : decode cX6_fill 25 = .ok (.invokestatic 55, 3) := by decide +kernel
theorem dX6_fill_28 : decode cX6_fill 28 = .ok (.ifCond .eq 32, 3) := by decide +kernel
theorem dX6_fill_31 : decode cX6_fill 31 = .ok (.iload 4, 2) := by decide +kernel
theorem dX6_fill_33 : decode cX6_fill 33 = .ok (.iconst 1, 1) := by decide +kernel
theorem dX6_fill_34 : decode cX6_fill 34 = .ok (.aload_n 0, 1) := by decide +kernel
theorem dX6_fill_35 : decode cX6_fill 35 = .ok (.getfield 10, 3) := by decide +kernel
theorem dX6_fill_38 : decode cX6_fill 38 = .ok (.getfield 77, 3) := by decide +kernel
theorem dX6_fill_41 : decode cX6_fill 41 = .ok (.iload_n 2, 1) := by decide +kernel
theorem dX6_fill_42 : decode cX6_fill 42 = .ok (.isub, 1) := by decide +kernel
theorem dX6_fill_43 : decode cX6_fill 43 = .ok (.invokestatic 55, 3) := by decide +kernel
theorem dX6_fill_46 : decode cX6_fill 46 = .ok (.ifCond .eq 14, 3) := by decide +kernel
theorem dX6_fill_49 : decode cX6_fill 49 = .ok (.iload 5, 2) := by decide +kernel
theorem dX6_fill_51 : decode cX6_fill 51 = .ok (.iconst 0, 1) := by decide +kernel
theorem dX6_fill_52 : decode cX6_fill 52 = .ok (.bipush 6, 2) := by decide +kernel
theorem dX6_fill_54 : decode cX6_fill 54 = .ok (.invokestatic 55, 3) := by decide +kernel
theorem dX6_fill_57 : decode cX6_fill 57 = .ok (.ifCond .ne 6, 3) := by decide +kernel
theorem dX6_fill_60 : decode cX6_fill 60 = .ok (.bipush (-2), 2) := by decide +kernel
theorem dX6_fill_62 : decode cX6_fill 62 = .ok (.ireturn, 1) := by decide +kernel
theorem dX6_fill_63 : decode cX6_fill 63 = .ok (.iconst 0, 1) := by decide +kernel
theorem dX6_fill_64 : decode cX6_fill 64 = .ok (.istore 6, 2) := by decide +kernel
theorem dX6_fill_66 : decode cX6_fill 66 = .ok (.iconst 0, 1) := by decide +kernel
theorem dX6_fill_67 : decode cX6_fill 67 = .ok (.istore 7, 2) := by decide +kernel
theorem dX6_fill_69 : decode cX6_fill 69 = .ok (.iload 7, 2) := by decide +kernel
theorem dX6_fill_71 : decode cX6_fill 71 = .ok (.iload 4, 2) := by decide +kernel
theorem dX6_fill_73 : decode cX6_fill 73 = .ok (.if_icmp .ge 29, 3) := by decide +kernel
theorem dX6_fill_76 : decode cX6_fill 76 = .ok (.iload 6, 2) := by decide +kernel
theorem dX6_fill_78 : decode cX6_fill 78 = .ok (.aload_n 0, 1) := by decide +kernel
theorem dX6_fill_79 : decode cX6_fill 79 = .ok (.getfield 10, 3) := by decide +kernel
theorem dX6_fill_82 : decode cX6_fill 82 = .ok (.iload_n 1, 1) := by decide +kernel
theorem dX6_fill_83 : decode cX6_fill 83 = .ok (.iload_n 2, 1) := by decide +kernel
theorem dX6_fill_84 : decode cX6_fill 84 = .ok (.iload 7, 2) := by decide +kernel
theorem dX6_fill_86 : decode cX6_fill 86 = .ok (.iadd, 1) := by decide +kernel
theorem dX6_fill_87 : decode cX6_fill 87 = .ok (.iload_n 3, 1) := by decide +kernel
theorem dX6_fill_88 : decode cX6_fill 88 = .ok (.iload 5, 2) := by decide +kernel
theorem dX6_fill_90 : decode cX6_fill 90 = .ok (.invokevirtual 99, 3) := by decide +kernel
theorem dX6_fill_93 : decode cX6_fill 93 = .ok (.iadd, 1) := by decide +kernel
theorem dX6_fill_94 : decode cX6_fill 94 = .ok (.istore 6, 2) := by decide +kernel
theorem dX6_fill_96 : decode cX6_fill 96 = .ok (.iinc 7 1, 3) := by decide +kernel
theorem dX6_fill_99 : decode cX6_fill 99 = .ok (.goto (-30), 3) := by decide +kernel
theorem dX6_fill_102 : decode cX6_fill 102 = .ok (.iload 6, 2) := by decide +kernel
theorem dX6_fill_104 : decode cX6_fill 104 = .ok (.ireturn, 1) := by decide +kernel
theorem dX6_cell_0 : decode cX6_cell 0 = .ok (.aload_n 0, 1) := by decide +kernel
theorem dX6_cell_1 : decode cX6_cell 1 = .ok (.getfield 10, 3) := by decide +kernel
theorem dX6_cell_4 : decode cX6_cell 4 = .ok (.iload_n 1, 1) := by decide +kernel
theorem dX6_cell_5 : decode cX6_cell 5 = .ok (.iload_n 2, 1) := by decide +kernel
theorem dX6_cell_6 : decode cX6_cell 6 = .ok (.invokevirtual 88, 3) := by decide +kernel
theorem dX6_cell_9 : decode cX6_cell 9 = .ok (.ifCond .eq 15, 3) := by decide +kernel
theorem dX6_cell_12 : decode cX6_cell 12 = .ok (.aload_n 0, 1) := by decide +kernel
theorem dX6_cell_13 : decode cX6_cell 13 = .ok (.getfield 10, 3) := by decide +kernel
theorem dX6_cell_16 : decode cX6_cell 16 = .ok (.iload_n 1, 1) := by decide +kernel
theorem dX6_cell_17 : decode cX6_cell 17 = .ok (.iload_n 2, 1) := by decide +kernel
theorem dX6_cell_18 : decode cX6_cell 18 = .ok (.invokevirtual 92, 3) := by decide +kernel
theorem dX6_cell_21 : decode cX6_cell 21 = .ok (.goto 4, 3) := by decide +kernel
theorem dX6_cell_24 : decode cX6_cell 24 = .ok (.iconst (-1), 1) := by decide +kernel
theorem dX6_cell_25 : decode cX6_cell 25 = .ok (.ireturn, 1) := by decide +kernel
theorem dX6_count_0 : decode cX6_count 0 = .ok (.iload_n 1, 1) := by decide +kernel
theorem dX6_count_1 : decode cX6_count 1 = .ok (.iconst 0, 1) := by decide +kernel
theorem dX6_count_2 : decode cX6_count 2 = .ok (.bipush 6, 2) := by decide +kernel
theorem dX6_count_4 : decode cX6_count 4 = .ok (.invokestatic 55, 3) := by decide +kernel
theorem dX6_count_7 : decode cX6_count 7 = .ok (.ifCond .eq 12, 3) := by decide +kernel
theorem dX6_count_10 : decode cX6_count 10 = .ok (.iload_n 2, 1) := by decide +kernel
theorem dX6_count_11 : decode cX6_count 11 = .ok (.iconst 0, 1) := by decide +kernel
theorem dX6_count_12 : decode cX6_count 12 = .ok (.iconst 4, 1) := by decide +kernel
theorem dX6_count_13 : decode cX6_count 13 = .ok (.invokestatic 55, 3) := by decide +kernel
theorem dX6_count_16 : decode cX6_count 16 = .ok (.ifCond .ne 6, 3) := by decide +kernel
theorem dX6_count_19 : decode cX6_count 19 = .ok (.bipush (-2), 2) := by decide +kernel
theorem dX6_count_21 : decode cX6_count 21 = .ok (.ireturn, 1) := by decide +kernel
theorem dX6_count_22 : decode cX6_count 22 = .ok (.iconst 0, 1) := by decide +kernel
theorem dX6_count_23 : decode cX6_count 23 = .ok (.istore_n 3, 1) := by decide +kernel
theorem dX6_count_24 : decode cX6_count 24 = .ok (.iconst 1, 1) := by decide +kernel
theorem dX6_count_25 : decode cX6_count 25 = .ok (.istore 4, 2) := by decide +kernel
theorem dX6_count_27 : decode cX6_count 27 = .ok (.iload 4, 2) := by decide +kernel
theorem dX6_count_29 : decode cX6_count 29 = .ok (.bipush 6, 2) := by decide +kernel
theorem dX6_count_31 : decode cX6_count 31 = .ok (.if_icmp .gt 29, 3) := by decide +kernel
theorem dX6_count_34 : decode cX6_count 34 = .ok (.iload_n 1, 1) := by decide +kernel
theorem dX6_count_35 : decode cX6_count 35 = .ok (.ifCond .eq 9, 3) := by decide +kernel
theorem dX6_count_38 : decode cX6_count 38 = .ok (.iload_n 1, 1) := by decide +kernel
theorem dX6_count_39 : decode cX6_count 39 = .ok (.iload 4, 2) := by decide +kernel
theorem dX6_count_41 : decode cX6_count 41 = .ok (.if_icmp .ne 13, 3) := by decide +kernel
theorem dX6_count_44 : decode cX6_count 44 = .ok (.iload_n 3, 1) := by decide +kernel
theorem dX6_count_45 : decode cX6_count 45 = .ok (.aload_n 0, 1) := by decide +kernel
theorem dX6_count_46 : decode cX6_count 46 = .ok (.iload 4, 2) := by decide +kernel
theorem dX6_count_48 : decode cX6_count 48 = .ok (.iload_n 2, 1) := by decide +kernel
theorem dX6_count_49 : decode cX6_count 49 = .ok (.invokevirtual 103, 3) := by decide +kernel
theorem dX6_count_52 : decode cX6_count 52 = .ok (.iadd, 1) := by decide +kernel
theorem dX6_count_53 : decode cX6_count 53 = .ok (.istore_n 3, 1) := by decide +kernel
theorem dX6_count_54 : decode cX6_count 54 = .ok (.iinc 4 1, 3) := by decide +kernel
theorem dX6_count_57 : decode cX6_count 57 = .ok (.goto (-30), 3) := by decide +kernel
theorem dX6_count_60 : decode cX6_count 60 = .ok (.iload_n 3, 1) := by decide +kernel
theorem dX6_count_61 : decode cX6_count 61 = .ok (.ireturn, 1) := by decide +kernel
theorem dX6_isLone_0 : decode cX6_isLone 0 = .ok (.aload_n 0, 1) := by decide +kernel
theorem dX6_isLone_1 : decode cX6_isLone 1 = .ok (.getfield 10, 3) := by decide +kernel
theorem dX6_isLone_4 : decode cX6_isLone 4 = .ok (.iload_n 1, 1) := by decide +kernel
theorem dX6_isLone_5 : decode cX6_isLone 5 = .ok (.iload_n 2, 1) := by decide +kernel
theorem dX6_isLone_6 : decode cX6_isLone 6 = .ok (.invokevirtual 88, 3) := by decide +kernel
theorem dX6_isLone_9 : decode cX6_isLone 9 = .ok (.ifCond .ne 5, 3) := by decide +kernel
theorem dX6_isLone_12 : decode cX6_isLone 12 = .ok (.iconst (-1), 1) := by decide +kernel
theorem dX6_isLone_13 : decode cX6_isLone 13 = .ok (.ireturn, 1) := by decide +kernel
theorem dX6_isLone_14 : decode cX6_isLone 14 = .ok (.aload_n 0, 1) := by decide +kernel
theorem dX6_isLone_15 : decode cX6_isLone 15 = .ok (.getfield 10, 3) := by decide +kernel
theorem dX6_isLone_18 : decode cX6_isLone 18 = .ok (.iload_n 1, 1) := by decide +kernel
theorem dX6_isLone_19 : decode cX6_isLone 19 = .ok (.iload_n 2, 1) := by decide +kernel
theorem dX6_isLone_20 : decode cX6_isLone 20 = .ok (.invokevirtual 106, 3) := by decide +kernel
theorem dX6_isLone_23 : decode cX6_isLone 23 = .ok (.ifCond .eq 7, 3) := by decide +kernel
theorem dX6_isLone_26 : decode cX6_isLone 26 = .ok (.iconst 1, 1) := by decide +kernel
theorem dX6_isLone_27 : decode cX6_isLone 27 = .ok (.goto 4, 3) := by decide +kernel
theorem dX6_isLone_30 : decode cX6_isLone 30 = .ok (.iconst 0, 1) := by decide +kernel
theorem dX6_isLone_31 : decode cX6_isLone 31 = .ok (.ireturn, 1) := by decide +kernel
theorem dX6_merge_0 : decode cX6_merge 0 = .ok (.iload_n 1, 1) := by decide +kernel
theorem dX6_merge_1 : decode cX6_merge 1 = .ok (.iconst 1, 1) := by decide +kernel
theorem dX6_merge_2 : decode cX6_merge 2 = .ok (.bipush 20, 2) := by decide +kernel
theorem dX6_merge_4 : decode cX6_merge 4 = .ok (.invokestatic 55, 3) := by decide +kernel
theorem dX6_merge_7 : decode cX6_merge 7 = .ok (.ifCond .ne 6, 3) := by decide +kernel
theorem dX6_merge_10 : decode cX6_merge 10 = .ok (.bipush (-2), 2) := by decide +kernel
theorem dX6_merge_12 : decode cX6_merge 12 = .ok (.ireturn, 1) := by decide +kernel
theorem dX6_merge_13 : decode cX6_merge 13 = .ok (.iconst 0, 1) := by decide +kernel
theorem dX6_merge_14 : decode cX6_merge 14 = .ok (.istore_n 2, 1) := by decide +kernel
theorem dX6_merge_15 : decode cX6_merge 15 = .ok (.iconst 0, 1) := by decide +kernel
theorem dX6_merge_16 : decode cX6_merge 16 = .ok (.istore_n 3, 1) := by decide +kernel
theorem dX6_merge_17 : decode cX6_merge 17 = .ok (.iload_n 3, 1) := by decide +kernel
theorem dX6_merge_18 : decode cX6_merge 18 = .ok (.iload_n 1, 1) := by decide +kernel
theorem dX6_merge_19 : decode cX6_merge 19 = .ok (.if_icmp .ge 31, 3) := by decide +kernel
theorem dX6_merge_22 : decode cX6_merge 22 = .ok (.aload_n 0, 1) := by decide +kernel
theorem dX6_merge_23 : decode cX6_merge 23 = .ok (.getfield 10, 3) := by decide +kernel
theorem dX6_merge_26 : decode cX6_merge 26 = .ok (.invokevirtual 109, 3) := by decide +kernel
theorem dX6_merge_29 : decode cX6_merge 29 = .ok (.istore 4, 2) := by decide +kernel
theorem dX6_merge_31 : decode cX6_merge 31 = .ok (.iload 4, 2) := by decide +kernel
theorem dX6_merge_33 : decode cX6_merge 33 = .ok (.ifCond .ne 6, 3) := by decide +kernel
theorem dX6_merge_36 : decode cX6_merge 36 = .ok (.goto 14, 3) := by decide +kernel
theorem dX6_merge_39 : decode cX6_merge 39 = .ok (.iload_n 2, 1) := by decide +kernel
theorem dX6_merge_40 : decode cX6_merge 40 = .ok (.iload 4, 2) := by decide +kernel
theorem dX6_merge_42 : decode cX6_merge 42 = .ok (.iadd, 1) := by decide +kernel
theorem dX6_merge_43 : decode cX6_merge 43 = .ok (.istore_n 2, 1) := by decide +kernel
theorem dX6_merge_44 : decode cX6_merge 44 = .ok (.iinc 3 1, 3) := by decide +kernel
theorem dX6_merge_47 : decode cX6_merge 47 = .ok (.goto (-30), 3) := by decide +kernel
theorem dX6_merge_50 : decode cX6_merge 50 = .ok (.iload_n 2, 1) := by decide +kernel
theorem dX6_merge_51 : decode cX6_merge 51 = .ok (.ireturn, 1) := by decide +kernel
theorem dX6_run_0 : decode cX6_run 0 = .ok (.iload_n 1, 1) := by decide +kernel
theorem dX6_run_1 : decode cX6_run 1 = .ok (.invokestatic 113, 3) := by decide +kernel
theorem dX6_run_4 : decode cX6_run 4 = .ok (.ifCond .ne 6, 3) := by decide +kernel
theorem dX6_run_7 : decode cX6_run 7 = .ok (.bipush (-2), 2) := by decide +kernel
theorem dX6_run_9 : decode cX6_run 9 = .ok (.ireturn, 1) := by decide +kernel
theorem dX6_run_10 : decode cX6_run 10 = .ok (.aload_n 0, 1) := by decide +kernel
theorem dX6_run_11 : decode cX6_run 11 = .ok (.iload_n 1, 1) := by decide +kernel
theorem dX6_run_12 : decode cX6_run 12 = .ok (.invokevirtual 117, 3) := by decide +kernel
theorem dX6_run_15 : decode cX6_run 15 = .ok (.astore 4, 2) := by decide +kernel
theorem dX6_run_17 : decode cX6_run 17 = .ok (.aload 4, 2) := by decide +kernel
theorem dX6_run_19 : decode cX6_run 19 = .ok (.iload_n 2, 1) := by decide +kernel
theorem dX6_run_20 : decode cX6_run 20 = .ok (.invokevirtual 121, 3) := by decide +kernel
theorem dX6_run_23 : decode cX6_run 23 = .ok (.ifCond .ne 5, 3) := by decide +kernel
theorem dX6_run_26 : decode cX6_run 26 = .ok (.iconst (-1), 1) := by decide +kernel
theorem dX6_run_27 : decode cX6_run 27 = .ok (.ireturn, 1) := by decide +kernel
theorem dX6_run_28 : decode cX6_run 28 = .ok (.iload_n 3, 1) := by decide +kernel
theorem dX6_run_29 : decode cX6_run 29 = .ok (.tableswitch 63 0 3 #[31, 39, 47, 55], 31) := by decide +kernel
theorem dX6_run_60 : decode cX6_run 60 = .ok (.aload 4, 2) := by decide +kernel
theorem dX6_run_62 : decode cX6_run 62 = .ok (.getfield 123, 3) := by decide +kernel
theorem dX6_run_65 : decode cX6_run 65 = .ok (.iload_n 2, 1) := by decide +kernel
theorem dX6_run_66 : decode cX6_run 66 = .ok (.iaload, 1) := by decide +kernel
theorem dX6_run_67 : decode cX6_run 67 = .ok (.ireturn, 1) := by decide +kernel
theorem dX6_run_68 : decode cX6_run 68 = .ok (.aload 4, 2) := by decide +kernel
theorem dX6_run_70 : decode cX6_run 70 = .ok (.getfield 127, 3) := by decide +kernel
theorem dX6_run_73 : decode cX6_run 73 = .ok (.iload_n 2, 1) := by decide +kernel
theorem dX6_run_74 : decode cX6_run 74 = .ok (.iaload, 1) := by decide +kernel
theorem dX6_run_75 : decode cX6_run 75 = .ok (.ireturn, 1) := by decide +kernel
theorem dX6_run_76 : decode cX6_run 76 = .ok (.aload 4, 2) := by decide +kernel
theorem dX6_run_78 : decode cX6_run 78 = .ok (.getfield 130, 3) := by decide +kernel
theorem dX6_run_81 : decode cX6_run 81 = .ok (.iload_n 2, 1) := by decide +kernel
theorem dX6_run_82 : decode cX6_run 82 = .ok (.iaload, 1) := by decide +kernel
theorem dX6_run_83 : decode cX6_run 83 = .ok (.ireturn, 1) := by decide +kernel
theorem dX6_run_84 : decode cX6_run 84 = .ok (.aload 4, 2) := by decide +kernel
theorem dX6_run_86 : decode cX6_run 86 = .ok (.getfield 133, 3) := by decide +kernel
theorem dX6_run_89 : decode cX6_run 89 = .ok (.iload_n 2, 1) := by decide +kernel
theorem dX6_run_90 : decode cX6_run 90 = .ok (.iaload, 1) := by decide +kernel
theorem dX6_run_91 : decode cX6_run 91 = .ok (.ireturn, 1) := by decide +kernel
theorem dX6_run_92 : decode cX6_run 92 = .ok (.bipush (-2), 2) := by decide +kernel
theorem dX6_run_94 : decode cX6_run 94 = .ok (.ireturn, 1) := by decide +kernel
theorem dX6_runAt_0 : decode cX6_runAt 0 = .ok (.iload_n 1, 1) := by decide +kernel
theorem dX6_runAt_1 : decode cX6_runAt 1 = .ok (.invokestatic 113, 3) := by decide +kernel
theorem dX6_runAt_4 : decode cX6_runAt 4 = .ok (.ifCond .eq 7, 3) := by decide +kernel
theorem dX6_runAt_7 : decode cX6_runAt 7 = .ok (.iload_n 2, 1) := by decide +kernel
theorem dX6_runAt_8 : decode cX6_runAt 8 = .ok (.ifCond .ge 6, 3) := by decide +kernel
theorem dX6_runAt_11 : decode cX6_runAt 11 = .ok (.bipush (-2), 2) := by decide +kernel
theorem dX6_runAt_13 : decode cX6_runAt 13 = .ok (.ireturn, 1) := by decide +kernel
theorem dX6_runAt_14 : decode cX6_runAt 14 = .ok (.aload_n 0, 1) := by decide +kernel
theorem dX6_runAt_15 : decode cX6_runAt 15 = .ok (.iload_n 1, 1) := by decide +kernel
theorem dX6_runAt_16 : decode cX6_runAt 16 = .ok (.invokevirtual 117, 3) := by decide +kernel
theorem dX6_runAt_19 : decode cX6_runAt 19 = .ok (.astore_n 3, 1) := by decide +kernel
theorem dX6_runAt_20 : decode cX6_runAt 20 = .ok (.aload_n 3, 1) := by decide +kernel
theorem dX6_runAt_21 : decode cX6_runAt 21 = .ok (.iload_n 2, 1) := by decide +kernel
theorem dX6_runAt_22 : decode cX6_runAt 22 = .ok (.invokevirtual 121, 3) := by decide +kernel
theorem dX6_runAt_25 : decode cX6_runAt 25 = .ok (.ifCond .eq 12, 3) := by decide +kernel
theorem dX6_runAt_28 : decode cX6_runAt 28 = .ok (.aload_n 3, 1) := by decide +kernel
theorem dX6_runAt_29 : decode cX6_runAt 29 = .ok (.getfield 136, 3) := by decide +kernel
theorem dX6_runAt_32 : decode cX6_runAt 32 = .ok (.iload_n 2, 1) := by decide +kernel
theorem dX6_runAt_33 : decode cX6_runAt 33 = .ok (.iaload, 1) := by decide +kernel
theorem dX6_runAt_34 : decode cX6_runAt 34 = .ok (.goto 5, 3) := by decide +kernel
theorem dX6_runAt_37 : decode cX6_runAt 37 = .ok (.bipush (-4), 2) := by decide +kernel
theorem dX6_runAt_39 : decode cX6_runAt 39 = .ok (.ireturn, 1) := by decide +kernel
theorem dX6_moveRun_0 : decode cX6_moveRun 0 = .ok (.iload_n 1, 1) := by decide +kernel
theorem dX6_moveRun_1 : decode cX6_moveRun 1 = .ok (.invokestatic 113, 3) := by decide +kernel
theorem dX6_moveRun_4 : decode cX6_moveRun 4 = .ok (.ifCond .ne 6, 3) := by decide +kernel
theorem dX6_moveRun_7 : decode cX6_moveRun 7 = .ok (.bipush (-2), 2) := by decide +kernel
theorem dX6_moveRun_9 : decode cX6_moveRun 9 = .ok (.ireturn, 1) := by decide +kernel
theorem dX6_moveRun_10 : decode cX6_moveRun 10 = .ok (.aload_n 0, 1) := by decide +kernel
theorem dX6_moveRun_11 : decode cX6_moveRun 11 = .ok (.iload_n 1, 1) := by decide +kernel
theorem dX6_moveRun_12 : decode cX6_moveRun 12 = .ok (.invokevirtual 117, 3) := by decide +kernel
theorem dX6_moveRun_15 : decode cX6_moveRun 15 = .ok (.astore 4, 2) := by decide +kernel
theorem dX6_moveRun_17 : decode cX6_moveRun 17 = .ok (.aload 4, 2) := by decide +kernel
theorem dX6_moveRun_19 : decode cX6_moveRun 19 = .ok (.iload_n 2, 1) := by decide +kernel
theorem dX6_moveRun_20 : decode cX6_moveRun 20 = .ok (.invokevirtual 121, 3) := by decide +kernel
theorem dX6_moveRun_23 : decode cX6_moveRun 23 = .ok (.ifCond .eq 12, 3) := by decide +kernel
theorem dX6_moveRun_26 : decode cX6_moveRun 26 = .ok (.aload 4, 2) := by decide +kernel
theorem dX6_moveRun_28 : decode cX6_moveRun 28 = .ok (.iload_n 3, 1) := by decide +kernel
theorem dX6_moveRun_29 : decode cX6_moveRun 29 = .ok (.invokevirtual 121, 3) := by decide +kernel
theorem dX6_moveRun_32 : decode cX6_moveRun 32 = .ok (.ifCond .ne 6, 3) := by decide +kernel
theorem dX6_moveRun_35 : decode cX6_moveRun 35 = .ok (.bipush (-2), 2) := by decide +kernel
theorem dX6_moveRun_37 : decode cX6_moveRun 37 = .ok (.ireturn, 1) := by decide +kernel
theorem dX6_moveRun_38 : decode cX6_moveRun 38 = .ok (.aload 4, 2) := by decide +kernel
theorem dX6_moveRun_40 : decode cX6_moveRun 40 = .ok (.iload_n 2, 1) := by decide +kernel
theorem dX6_moveRun_41 : decode cX6_moveRun 41 = .ok (.iload_n 3, 1) := by decide +kernel
theorem dX6_moveRun_42 : decode cX6_moveRun 42 = .ok (.invokevirtual 139, 3) := by decide +kernel
theorem dX6_moveRun_45 : decode cX6_moveRun 45 = .ok (.aload 4, 2) := by decide +kernel
theorem dX6_moveRun_47 : decode cX6_moveRun 47 = .ok (.invokevirtual 142, 3) := by decide +kernel
theorem dX6_moveRun_50 : decode cX6_moveRun 50 = .ok (.ireturn, 1) := by decide +kernel
theorem dX6_firstOrder_0 : decode cX6_firstOrder 0 = .ok (.iload_n 1, 1) := by decide +kernel
theorem dX6_firstOrder_1 : decode cX6_firstOrder 1 = .ok (.invokestatic 113, 3) := by decide +kernel
theorem dX6_firstOrder_4 : decode cX6_firstOrder 4 = .ok (.ifCond .ne 6, 3) := by decide +kernel
theorem dX6_firstOrder_7 : decode cX6_firstOrder 7 = .ok (.bipush (-2), 2) := by decide +kernel
theorem dX6_firstOrder_9 : decode cX6_firstOrder 9 = .ok (.ireturn, 1) := by decide +kernel
theorem dX6_firstOrder_10 : decode cX6_firstOrder 10 = .ok (.aload_n 0, 1) := by decide +kernel
theorem dX6_firstOrder_11 : decode cX6_firstOrder 11 = .ok (.iload_n 1, 1) := by decide +kernel
theorem dX6_firstOrder_12 : decode cX6_firstOrder 12 = .ok (.invokevirtual 117, 3) := by decide +kernel
theorem dX6_firstOrder_15 : decode cX6_firstOrder 15 = .ok (.astore_n 2, 1) := by decide +kernel
theorem dX6_firstOrder_16 : decode cX6_firstOrder 16 = .ok (.aload_n 2, 1) := by decide +kernel
theorem dX6_firstOrder_17 : decode cX6_firstOrder 17 = .ok (.invokevirtual 145, 3) := by decide +kernel
theorem dX6_firstOrder_20 : decode cX6_firstOrder 20 = .ok (.aload_n 2, 1) := by decide +kernel
theorem dX6_firstOrder_21 : decode cX6_firstOrder 21 = .ok (.invokevirtual 142, 3) := by decide +kernel
theorem dX6_firstOrder_24 : decode cX6_firstOrder 24 = .ok (.ireturn, 1) := by decide +kernel
theorem dX6_shorten_0 : decode cX6_shorten 0 = .ok (.iload_n 1, 1) := by decide +kernel
theorem dX6_shorten_1 : decode cX6_shorten 1 = .ok (.invokestatic 113, 3) := by decide +kernel
theorem dX6_shorten_4 : decode cX6_shorten 4 = .ok (.ifCond .eq 14, 3) := by decide +kernel
theorem dX6_shorten_7 : decode cX6_shorten 7 = .ok (.aload_n 0, 1) := by decide +kernel
theorem dX6_shorten_8 : decode cX6_shorten 8 = .ok (.iload_n 1, 1) := by decide +kernel
theorem dX6_shorten_9 : decode cX6_shorten 9 = .ok (.invokevirtual 117, 3) := by decide +kernel
theorem dX6_shorten_12 : decode cX6_shorten 12 = .ok (.invokevirtual 148, 3) := by decide +kernel
theorem dX6_shorten_15 : decode cX6_shorten 15 = .ok (.goto 5, 3) := by decide +kernel
theorem dX6_shorten_18 : decode cX6_shorten 18 = .ok (.bipush (-2), 2) := by decide +kernel
theorem dX6_shorten_20 : decode cX6_shorten 20 = .ok (.ireturn, 1) := by decide +kernel
theorem dX6_setThread_0 : decode cX6_setThread 0 = .ok (.iload_n 1, 1) := by decide +kernel
theorem dX6_setThread_1 : decode cX6_setThread 1 = .ok (.iconst 0, 1) := by decide +kernel
theorem dX6_setThread_2 : decode cX6_setThread 2 = .ok (.sipush 1000, 3) := by decide +kernel
theorem dX6_setThread_5 : decode cX6_setThread 5 = .ok (.invokestatic 55, 3) := by decide +kernel
theorem dX6_setThread_8 : decode cX6_setThread 8 = .ok (.ifCond .eq 14, 3) := by decide +kernel
theorem dX6_setThread_11 : decode cX6_setThread 11 = .ok (.iload_n 2, 1) := by decide +kernel
theorem dX6_setThread_12 : decode cX6_setThread 12 = .ok (.iconst 0, 1) := by decide +kernel
theorem dX6_setThread_13 : decode cX6_setThread 13 = .ok (.sipush 200, 3) := by decide +kernel
theorem dX6_setThread_16 : decode cX6_setThread 16 = .ok (.invokestatic 55, 3) := by decide +kernel
theorem dX6_setThread_19 : decode cX6_setThread 19 = .ok (.ifCond .ne 6, 3) := by decide +kernel
theorem dX6_setThread_22 : decode cX6_setThread 22 = .ok (.bipush (-2), 2) := by decide +kernel
theorem dX6_setThread_24 : decode cX6_setThread 24 = .ok (.ireturn, 1) := by decide +kernel
theorem dX6_setThread_25 : decode cX6_setThread 25 = .ok (.sipush 1000, 3) := by decide +kernel
theorem dX6_setThread_28 : decode cX6_setThread 28 = .ok (.aload_n 0, 1) := by decide +kernel
theorem dX6_setThread_29 : decode cX6_setThread 29 = .ok (.getfield 19, 3) := by decide +kernel
theorem dX6_setThread_32 : decode cX6_setThread 32 = .ok (.getfield 151, 3) := by decide +kernel
theorem dX6_setThread_35 : decode cX6_setThread 35 = .ok (.imul, 1) := by decide +kernel
theorem dX6_setThread_36 : decode cX6_setThread 36 = .ok (.aload_n 0, 1) := by decide +kernel
theorem dX6_setThread_37 : decode cX6_setThread 37 = .ok (.getfield 19, 3) := by decide +kernel
theorem dX6_setThread_40 : decode cX6_setThread 40 = .ok (.getfield 154, 3) := by decide +kernel
theorem dX6_setThread_43 : decode cX6_setThread 43 = .ok (.iadd, 1) := by decide +kernel
theorem dX6_setThread_44 : decode cX6_setThread 44 = .ok (.istore_n 3, 1) := by decide +kernel
theorem dX6_setThread_45 : decode cX6_setThread 45 = .ok (.aload_n 0, 1) := by decide +kernel
