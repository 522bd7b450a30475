theorem dX3_colorAt_3 : decode cX3_colorAt 3 = .ok (.invokevirtual 29, 3) := by decide +kernel
theorem dX3_colorAt_6 : decode cX3_colorAt 6 = .ok (.ifCond .eq 17, 3) := by decide +kernel
theorem dX3_colorAt_9 : decode cX3_colorAt 9 = .ok (.aload_n 0, 1) := by decide +kernel
theorem dX3_colorAt_10 : decode cX3_colorAt 10 = .ok (.getfield 22, 3) := by decide +kernel
theorem dX3_colorAt_13 : decode cX3_colorAt 13 = .ok (.iload_n 2, 1) := by decide +kernel
theorem dX3_colorAt_14 : decode cX3_colorAt 14 = .ok (.bipush 24, 2) := by decide +kernel
theorem dX3_colorAt_16 : decode cX3_colorAt 16 = .ok (.imul, 1) := by decide +kernel
theorem dX3_colorAt_17 : decode cX3_colorAt 17 = .ok (.iload_n 1, 1) := by decide +kernel
theorem dX3_colorAt_18 : decode cX3_colorAt 18 = .ok (.iadd, 1) := by decide +kernel
theorem dX3_colorAt_19 : decode cX3_colorAt 19 = .ok (.iaload, 1) := by decide +kernel
theorem dX3_colorAt_20 : decode cX3_colorAt 20 = .ok (.goto 4, 3) := by decide +kernel
theorem dX3_colorAt_23 : decode cX3_colorAt 23 = .ok (.iconst 0, 1) := by decide +kernel
theorem dX3_colorAt_24 : decode cX3_colorAt 24 = .ok (.ireturn, 1) := by decide +kernel
theorem dX3_put_0 : decode cX3_put 0 = .ok (.aload_n 0, 1) := by decide +kernel
theorem dX3_put_1 : decode cX3_put 1 = .ok (.iload_n 1, 1) := by decide +kernel
theorem dX3_put_2 : decode cX3_put 2 = .ok (.iload_n 2, 1) := by decide +kernel
theorem dX3_put_3 : decode cX3_put 3 = .ok (.invokevirtual 33, 3) := by decide +kernel
theorem dX3_put_6 : decode cX3_put 6 = .ok (.istore 4, 2) := by decide +kernel
theorem dX3_put_8 : decode cX3_put 8 = .ok (.aload_n 0, 1) := by decide +kernel
theorem dX3_put_9 : decode cX3_put 9 = .ok (.iload_n 1, 1) := by decide +kernel
theorem dX3_put_10 : decode cX3_put 10 = .ok (.iload_n 2, 1) := by decide +kernel
theorem dX3_put_11 : decode cX3_put 11 = .ok (.invokevirtual 29, 3) := by decide +kernel
theorem dX3_put_14 : decode cX3_put 14 = .ok (.ifCond .eq 19, 3) := by decide +kernel
theorem dX3_put_17 : decode cX3_put 17 = .ok (.iload_n 3, 1) := by decide +kernel
theorem dX3_put_18 : decode cX3_put 18 = .ok (.iconst 0, 1) := by decide +kernel
theorem dX3_put_19 : decode cX3_put 19 = .ok (.bipush 6, 2) := by decide +kernel
theorem dX3_put_21 : decode cX3_put 21 = .ok (.invokestatic 37, 3) := by decide +kernel
theorem dX3_put_24 : decode cX3_put 24 = .ok (.ifCond .eq 9, 3) := by decide +kernel
theorem dX3_put_27 : decode cX3_put 27 = .ok (.iload 4, 2) := by decide +kernel
theorem dX3_put_29 : decode cX3_put 29 = .ok (.iload_n 3, 1) := by decide +kernel
theorem dX3_put_30 : decode cX3_put 30 = .ok (.if_icmp .ne 5, 3) := by decide +kernel
theorem dX3_put_33 : decode cX3_put 33 = .ok (.iconst 0, 1) := by decide +kernel
theorem dX3_put_34 : decode cX3_put 34 = .ok (.ireturn, 1) := by decide +kernel
theorem dX3_put_35 : decode cX3_put 35 = .ok (.aload_n 0, 1) := by decide +kernel
theorem dX3_put_36 : decode cX3_put 36 = .ok (.getfield 22, 3) := by decide +kernel
theorem dX3_put_39 : decode cX3_put 39 = .ok (.iload_n 2, 1) := by decide +kernel
theorem dX3_put_40 : decode cX3_put 40 = .ok (.bipush 24, 2) := by decide +kernel
theorem dX3_put_42 : decode cX3_put 42 = .ok (.imul, 1) := by decide +kernel
theorem dX3_put_43 : decode cX3_put 43 = .ok (.iload_n 1, 1) := by decide +kernel
theorem dX3_put_44 : decode cX3_put 44 = .ok (.iadd, 1) := by decide +kernel
theorem dX3_put_45 : decode cX3_put 45 = .ok (.iload_n 3, 1) := by decide +kernel
theorem dX3_put_46 : decode cX3_put 46 = .ok (.iastore, 1) := by decide +kernel
theorem dX3_put_47 : decode cX3_put 47 = .ok (.aload_n 0, 1) := by decide +kernel
theorem dX3_put_48 : decode cX3_put 48 = .ok (.iload 4, 2) := by decide +kernel
theorem dX3_put_50 : decode cX3_put 50 = .ok (.invokevirtual 41, 3) := by decide +kernel
theorem dX3_put_53 : decode cX3_put 53 = .ok (.aload_n 0, 1) := by decide +kernel
theorem dX3_put_54 : decode cX3_put 54 = .ok (.iload_n 3, 1) := by decide +kernel
theorem dX3_put_55 : decode cX3_put 55 = .ok (.invokevirtual 41, 3) := by decide +kernel
theorem dX3_put_58 : decode cX3_put 58 = .ok (.iconst 1, 1) := by decide +kernel
theorem dX3_put_59 : decode cX3_put 59 = .ok (.ireturn, 1) := by decide +kernel
theorem dX3_touch_0 : decode cX3_touch 0 = .ok (.iload_n 1, 1) := by decide +kernel
theorem dX3_touch_1 : decode cX3_touch 1 = .ok (.iconst 0, 1) := by decide +kernel
theorem dX3_touch_2 : decode cX3_touch 2 = .ok (.bipush 6, 2) := by decide +kernel
theorem dX3_touch_4 : decode cX3_touch 4 = .ok (.invokestatic 37, 3) := by decide +kernel
theorem dX3_touch_7 : decode cX3_touch 7 = .ok (.ifCond .eq 10, 3) := by decide +kernel
theorem dX3_touch_10 : decode cX3_touch 10 = .ok (.aload_n 0, 1) := by decide +kernel
theorem dX3_touch_11 : decode cX3_touch 11 = .ok (.getfield 18, 3) := by decide +kernel
theorem dX3_touch_14 : decode cX3_touch 14 = .ok (.iload_n 1, 1) := by decide +kernel
theorem dX3_touch_15 : decode cX3_touch 15 = .ok (.iconst 1, 1) := by decide +kernel
theorem dX3_touch_16 : decode cX3_touch 16 = .ok (.bastore, 1) := by decide +kernel
theorem dX3_touch_17 : decode cX3_touch 17 = .ok (.return_, 1) := by decide +kernel
theorem dX3_putRow_0 : decode cX3_putRow 0 = .ok (.iconst 0, 1) := by decide +kernel
theorem dX3_putRow_1 : decode cX3_putRow 1 = .ok (.istore 5, 2) := by decide +kernel
theorem dX3_putRow_3 : decode cX3_putRow 3 = .ok (.iconst 0, 1) := by decide +kernel
theorem dX3_putRow_4 : decode cX3_putRow 4 = .ok (.istore 6, 2) := by decide +kernel
theorem dX3_putRow_6 : decode cX3_putRow 6 = .ok (.iload 6, 2) := by decide +kernel
theorem dX3_putRow_8 : decode cX3_putRow 8 = .ok (.iload_n 3, 1) := by decide +kernel
theorem dX3_putRow_9 : decode cX3_putRow 9 = .ok (.if_icmp .ge 25, 3) := by decide +kernel
theorem dX3_putRow_12 : decode cX3_putRow 12 = .ok (.iload 5, 2) := by decide +kernel
theorem dX3_putRow_14 : decode cX3_putRow 14 = .ok (.aload_n 0, 1) := by decide +kernel
theorem dX3_putRow_15 : decode cX3_putRow 15 = .ok (.iload_n 1, 1) := by decide +kernel
theorem dX3_putRow_16 : decode cX3_putRow 16 = .ok (.iload 6, 2) := by decide +kernel
theorem dX3_putRow_18 : decode cX3_putRow 18 = .ok (.iadd, 1) := by decide +kernel
theorem dX3_putRow_19 : decode cX3_putRow 19 = .ok (.iload_n 2, 1) := by decide +kernel
theorem dX3_putRow_20 : decode cX3_putRow 20 = .ok (.iload 4, 2) := by decide +kernel
theorem dX3_putRow_22 : decode cX3_putRow 22 = .ok (.invokevirtual 45, 3) := by decide +kernel
theorem dX3_putRow_25 : decode cX3_putRow 25 = .ok (.iadd, 1) := by decide +kernel
theorem dX3_putRow_26 : decode cX3_putRow 26 = .ok (.istore 5, 2) := by decide +kernel
theorem dX3_putRow_28 : decode cX3_putRow 28 = .ok (.iinc 6 1, 3) := by decide +kernel
theorem dX3_putRow_31 : decode cX3_putRow 31 = .ok (.goto (-25), 3) := by decide +kernel
theorem dX3_putRow_34 : decode cX3_putRow 34 = .ok (.iload 5, 2) := by decide +kernel
theorem dX3_putRow_36 : decode cX3_putRow 36 = .ok (.ireturn, 1) := by decide +kernel
theorem dX3_neighborsOfColor_0 : decode cX3_neighborsOfColor 0 = .ok (.iconst 0, 1) := by decide +kernel
theorem dX3_neighborsOfColor_1 : decode cX3_neighborsOfColor 1 = .ok (.istore 4, 2) := by decide +kernel
theorem dX3_neighborsOfColor_3 : decode cX3_neighborsOfColor 3 = .ok (.iconst (-1), 1) := by decide +kernel
theorem dX3_neighborsOfColor_4 : decode cX3_neighborsOfColor 4 = .ok (.istore 5, 2) := by decide +kernel
theorem dX3_neighborsOfColor_6 : decode cX3_neighborsOfColor 6 = .ok (.iload 5, 2) := by decide +kernel
theorem dX3_neighborsOfColor_8 : decode cX3_neighborsOfColor 8 = .ok (.iconst 1, 1) := by decide +kernel
theorem dX3_neighborsOfColor_9 : decode cX3_neighborsOfColor 9 = .ok (.if_icmp .gt 65, 3) := by decide +kernel
theorem dX3_neighborsOfColor_12 : decode cX3_neighborsOfColor 12 = .ok (.iconst (-1), 1) := by decide +kernel
theorem dX3_neighborsOfColor_13 : decode cX3_neighborsOfColor 13 = .ok (.istore 6, 2) := by decide +kernel
theorem dX3_neighborsOfColor_15 : decode cX3_neighborsOfColor 15 = .ok (.iload 6, 2) := by decide +kernel
theorem dX3_neighborsOfColor_17 : decode cX3_neighborsOfColor 17 = .ok (.iconst 1, 1) := by decide +kernel
theorem dX3_neighborsOfColor_18 : decode cX3_neighborsOfColor 18 = .ok (.if_icmp .gt 50, 3) := by decide +kernel
theorem dX3_neighborsOfColor_21 : decode cX3_neighborsOfColor 21 = .ok (.iload 5, 2) := by decide +kernel
theorem dX3_neighborsOfColor_23 : decode cX3_neighborsOfColor 23 = .ok (.ifCond .ne 12, 3) := by decide +kernel
theorem dX3_neighborsOfColor_26 : decode cX3_neighborsOfColor 26 = .ok (.iload 6, 2) := by decide +kernel
theorem dX3_neighborsOfColor_28 : decode cX3_neighborsOfColor 28 = .ok (.ifCond .ne 7, 3) := by decide +kernel
theorem dX3_neighborsOfColor_31 : decode cX3_neighborsOfColor 31 = .ok (.iconst 1, 1) := by decide +kernel
theorem dX3_neighborsOfColor_32 : decode cX3_neighborsOfColor 32 = .ok (.goto 4, 3) := by decide +kernel
theorem dX3_neighborsOfColor_35 : decode cX3_neighborsOfColor 35 = .ok (.iconst 0, 1) := by decide +kernel
theorem dX3_neighborsOfColor_36 : decode cX3_neighborsOfColor 36 = .ok (.istore 7, 2) := by decide +kernel
theorem dX3_neighborsOfColor_38 : decode cX3_neighborsOfColor 38 = .ok (.iload 7, 2) := by decide +kernel
theorem dX3_neighborsOfColor_40 : decode cX3_neighborsOfColor 40 = .ok (.ifCond .ne 22, 3) := by decide +kernel
theorem dX3_neighborsOfColor_43 : decode cX3_neighborsOfColor 43 = .ok (.aload_n 0, 1) := by decide +kernel
theorem dX3_neighborsOfColor_44 : decode cX3_neighborsOfColor 44 = .ok (.iload_n 1, 1) := by decide +kernel
theorem dX3_neighborsOfColor_45 : decode cX3_neighborsOfColor 45 = .ok (.iload 6, 2) := by decide +kernel
theorem dX3_neighborsOfColor_47 : decode cX3_neighborsOfColor 47 = .ok (.iadd, 1) := by decide +kernel
theorem dX3_neighborsOfColor_48 : decode cX3_neighborsOfColor 48 = .ok (.iload_n 2, 1) := by decide +kernel
theorem dX3_neighborsOfColor_49 : decode cX3_neighborsOfColor 49 = .ok (.iload 5, 2) := by decide +kernel
theorem dX3_neighborsOfColor_51 : decode cX3_neighborsOfColor 51 = .ok (.iadd, 1) := by decide +kernel
theorem dX3_neighborsOfColor_52 : decode cX3_neighborsOfColor 52 = .ok (.invokevirtual 33, 3) := by decide +kernel
theorem dX3_neighborsOfColor_55 : decode cX3_neighborsOfColor 55 = .ok (.iload_n 3, 1) := by decide +kernel
theorem dX3_neighborsOfColor_56 : decode cX3_neighborsOfColor 56 = .ok (.if_icmp .ne 6, 3) := by decide +kernel
theorem dX3_neighborsOfColor_59 : decode cX3_neighborsOfColor 59 = .ok (.iinc 4 1, 3) := by decide +kernel
theorem dX3_neighborsOfColor_62 : decode cX3_neighborsOfColor 62 = .ok (.iinc 6 1, 3) := by decide +kernel
theorem dX3_neighborsOfColor_65 : decode cX3_neighborsOfColor 65 = .ok (.goto (-50), 3) := by decide +kernel
theorem dX3_neighborsOfColor_68 : decode cX3_neighborsOfColor 68 = .ok (.iinc 5 1, 3) := by decide +kernel
theorem dX3_neighborsOfColor_71 : decode cX3_neighborsOfColor 71 = .ok (.goto (-65), 3) := by decide +kernel
theorem dX3_neighborsOfColor_74 : decode cX3_neighborsOfColor 74 = .ok (.iload 4, 2) := by decide +kernel
theorem dX3_neighborsOfColor_76 : decode cX3_neighborsOfColor 76 = .ok (.ireturn, 1) := by decide +kernel
theorem dX3_standsAlone_0 : decode cX3_standsAlone 0 = .ok (.aload_n 0, 1) := by decide +kernel
theorem dX3_standsAlone_1 : decode cX3_standsAlone 1 = .ok (.iload_n 1, 1) := by decide +kernel
theorem dX3_standsAlone_2 : decode cX3_standsAlone 2 = .ok (.iload_n 2, 1) := by decide +kernel
theorem dX3_standsAlone_3 : decode cX3_standsAlone 3 = .ok (.invokevirtual 33, 3) := by decide +kernel
theorem dX3_standsAlone_6 : decode cX3_standsAlone 6 = .ok (.istore_n 3, 1) := by decide +kernel
theorem dX3_standsAlone_7 : decode cX3_standsAlone 7 = .ok (.iload_n 3, 1) := by decide +kernel
theorem dX3_standsAlone_8 : decode cX3_standsAlone 8 = .ok (.ifCond .eq 17, 3) := by decide +kernel
theorem dX3_standsAlone_11 : decode cX3_standsAlone 11 = .ok (.aload_n 0, 1) := by decide +kernel
theorem dX3_standsAlone_12 : decode cX3_standsAlone 12 = .ok (.iload_n 1, 1) := by decide +kernel
theorem dX3_standsAlone_13 : decode cX3_standsAlone 13 = .ok (.iload_n 2, 1) := by decide +kernel
theorem dX3_standsAlone_14 : decode cX3_standsAlone 14 = .ok (.iload_n 3, 1) := by decide +kernel
theorem dX3_standsAlone_15 : decode cX3_standsAlone 15 = .ok (.invokevirtual 49, 3) := by decide +kernel
theorem dX3_standsAlone_18 : decode cX3_standsAlone 18 = .ok (.ifCond .ne 7, 3) := by decide +kernel
theorem dX3_standsAlone_21 : decode cX3_standsAlone 21 = .ok (.iconst 1, 1) := by decide +kernel
theorem dX3_standsAlone_22 : decode cX3_standsAlone 22 = .ok (.goto 4, 3) := by decide +kernel
theorem dX3_standsAlone_25 : decode cX3_standsAlone 25 = .ok (.iconst 0, 1) := by decide +kernel
theorem dX3_standsAlone_26 : decode cX3_standsAlone 26 = .ok (.ireturn, 1) := by decide +kernel
theorem dX3_loneStitches_0 : decode cX3_loneStitches 0 = .ok (.iconst 0, 1) := by decide +kernel
theorem dX3_loneStitches_1 : decode cX3_loneStitches 1 = .ok (.istore_n 2, 1) := by decide +kernel
theorem dX3_loneStitches_2 : decode cX3_loneStitches 2 = .ok (.iconst 0, 1) := by decide +kernel
theorem dX3_loneStitches_3 : decode cX3_loneStitches 3 = .ok (.istore_n 3, 1) := by decide +kernel
theorem dX3_loneStitches_4 : decode cX3_loneStitches 4 = .ok (.iload_n 3, 1) := by decide +kernel
theorem dX3_loneStitches_5 : decode cX3_loneStitches 5 = .ok (.aload_n 0, 1) := by decide +kernel
theorem dX3_loneStitches_6 : decode cX3_loneStitches 6 = .ok (.getfield 15, 3) := by decide +kernel
theorem dX3_loneStitches_9 : decode cX3_loneStitches 9 = .ok (.if_icmp .ge 51, 3) := by decide +kernel
theorem dX3_loneStitches_12 : decode cX3_loneStitches 12 = .ok (.iconst 0, 1) := by decide +kernel
theorem dX3_loneStitches_13 : decode cX3_loneStitches 13 = .ok (.istore 4, 2) := by decide +kernel
theorem dX3_loneStitches_15 : decode cX3_loneStitches 15 = .ok (.iload 4, 2) := by decide +kernel
theorem dX3_loneStitches_17 : decode cX3_loneStitches 17 = .ok (.aload_n 0, 1) := by decide +kernel
theorem dX3_loneStitches_18 : decode cX3_loneStitches 18 = .ok (.getfield 9, 3) := by decide +kernel
theorem dX3_loneStitches_21 : decode cX3_loneStitches 21 = .ok (.if_icmp .ge 33, 3) := by decide +kernel
theorem dX3_loneStitches_24 : decode cX3_loneStitches 24 = .ok (.aload_n 0, 1) := by decide +kernel
theorem dX3_loneStitches_25 : decode cX3_loneStitches 25 = .ok (.iload 4, 2) := by decide +kernel
theorem dX3_loneStitches_27 : decode cX3_loneStitches 27 = .ok (.iload_n 3, 1) := by decide +kernel
theorem dX3_loneStitches_28 : decode cX3_loneStitches 28 = .ok (.invokevirtual 33, 3) := by decide +kernel
theorem dX3_loneStitches_31 : decode cX3_loneStitches 31 = .ok (.iload_n 1, 1) := by decide +kernel
theorem dX3_loneStitches_32 : decode cX3_loneStitches 32 = .ok (.if_icmp .ne 16, 3) := by decide +kernel
theorem dX3_loneStitches_35 : decode cX3_loneStitches 35 = .ok (.aload_n 0, 1) := by decide +kernel
theorem dX3_loneStitches_36 : decode cX3_loneStitches 36 = .ok (.iload 4, 2) := by decide +kernel
theorem dX3_loneStitches_38 : decode cX3_loneStitches 38 = .ok (.iload_n 3, 1) := by decide +kernel
theorem dX3_loneStitches_39 : decode cX3_loneStitches 39 = .ok (.invokevirtual 52, 3) := by decide +kernel
theorem dX3_loneStitches_42 : decode cX3_loneStitches 42 = .ok (.ifCond .eq 6, 3) := by decide +kernel
theorem dX3_loneStitches_45 : decode cX3_loneStitches 45 = .ok (.iinc 2 1, 3) := by decide +kernel
theorem dX3_loneStitches_48 : decode cX3_loneStitches 48 = .ok (.iinc 4 1, 3) := by decide +kernel
theorem dX3_loneStitches_51 : decode cX3_loneStitches 51 = .ok (.goto (-36), 3) := by decide +kernel
theorem dX3_loneStitches_54 : decode cX3_loneStitches 54 = .ok (.iinc 3 1, 3) := by decide +kernel
theorem dX3_loneStitches_57 : decode cX3_loneStitches 57 = .ok (.goto (-53), 3) := by decide +kernel
theorem dX3_loneStitches_60 : decode cX3_loneStitches 60 = .ok (.iload_n 2, 1) := by decide +kernel
theorem dX3_loneStitches_61 : decode cX3_loneStitches 61 = .ok (.ireturn, 1) := by decide +kernel
theorem dX3_colorAfterMerging_0 : decode cX3_colorAfterMerging 0 = .ok (.aload_n 0, 1) := by decide +kernel
theorem dX3_colorAfterMerging_1 : decode cX3_colorAfterMerging 1 = .ok (.iload_n 1, 1) := by decide +kernel
theorem dX3_colorAfterMerging_2 : decode cX3_colorAfterMerging 2 = .ok (.iload_n 2, 1) := by decide +kernel
theorem dX3_colorAfterMerging_3 : decode cX3_colorAfterMerging 3 = .ok (.invokevirtual 33, 3) := by decide +kernel
theorem dX3_colorAfterMerging_6 : decode cX3_colorAfterMerging 6 = .ok (.istore_n 3, 1) := by decide +kernel
theorem dX3_colorAfterMerging_7 : decode cX3_colorAfterMerging 7 = .ok (.aload_n 0, 1) := by decide +kernel
theorem dX3_colorAfterMerging_8 : decode cX3_colorAfterMerging 8 = .ok (.iload_n 1, 1) := by decide +kernel
theorem dX3_colorAfterMerging_9 : decode cX3_colorAfterMerging 9 = .ok (.iload_n 2, 1) := by decide +kernel
theorem dX3_colorAfterMerging_10 : decode cX3_colorAfterMerging 10 = .ok (.invokevirtual 52, 3) := by decide +kernel
theorem dX3_colorAfterMerging_13 : decode cX3_colorAfterMerging 13 = .ok (.ifCond .ne 5, 3) := by decide +kernel
theorem dX3_colorAfterMerging_16 : decode cX3_colorAfterMerging 16 = .ok (.iload_n 3, 1) := by decide +kernel
theorem dX3_colorAfterMerging_17 : decode cX3_colorAfterMerging 17 = .ok (.ireturn, 1) := by decide +kernel
theorem dX3_colorAfterMerging_18 : decode cX3_colorAfterMerging 18 = .ok (.iconst 0, 1) := by decide +kernel
theorem dX3_colorAfterMerging_19 : decode cX3_colorAfterMerging 19 = .ok (.istore 4, 2) := by decide +kernel
theorem dX3_colorAfterMerging_21 : decode cX3_colorAfterMerging 21 = .ok (.iconst 1, 1) := by decide +kernel
theorem dX3_colorAfterMerging_22 : decode cX3_colorAfterMerging 22 = .ok (.istore 5, 2) := by decide +kernel
theorem dX3_colorAfterMerging_24 : decode cX3_colorAfterMerging 24 = .ok (.iload 5, 2) := by decide +kernel
theorem dX3_colorAfterMerging_26 : decode cX3_colorAfterMerging 26 = .ok (.bipush 6, 2) := by decide +kernel
theorem dX3_colorAfterMerging_28 : decode cX3_colorAfterMerging 28 = .ok (.if_icmp .gt 33, 3) := by decide +kernel
theorem dX3_colorAfterMerging_31 : decode cX3_colorAfterMerging 31 = .ok (.aload_n 0, 1) := by decide +kernel
theorem dX3_colorAfterMerging_32 : decode cX3_colorAfterMerging 32 = .ok (.iload_n 1, 1) := by decide +kernel
theorem dX3_colorAfterMerging_33 : decode cX3_colorAfterMerging 33 = .ok (.iload_n 2, 1) := by decide +kernel
theorem dX3_colorAfterMerging_34 : decode cX3_colorAfterMerging 34 = .ok (.iload 5, 2) := by decide +kernel
theorem dX3_colorAfterMerging_36 : decode cX3_colorAfterMerging 36 = .ok (.invokevirtual 49, 3) := by decide +kernel
theorem dX3_colorAfterMerging_39 : decode cX3_colorAfterMerging 39 = .ok (.istore 6, 2) := by decide +kernel
theorem dX3_colorAfterMerging_41 : decode cX3_colorAfterMerging 41 = .ok (.iload 6, 2) := by decide +kernel
theorem dX3_colorAfterMerging_43 : decode cX3_colorAfterMerging 43 = .ok (.iload 4, 2) := by decide +kernel
theorem dX3_colorAfterMerging_45 : decode cX3_colorAfterMerging 45 = .ok (.if_icmp .le 10, 3) := by decide +kernel
theorem dX3_colorAfterMerging_48 : decode cX3_colorAfterMerging 48 = .ok (.iload 6, 2) := by decide +kernel
theorem dX3_colorAfterMerging_50 : decode cX3_colorAfterMerging 50 = .ok (.istore 4, 2) := by decide +kernel
theorem dX3_colorAfterMerging_52 : decode cX3_colorAfterMerging 52 = .ok (.iload 5, 2) := by decide +kernel
theorem dX3_colorAfterMerging_54 : decode cX3_colorAfterMerging 54 = .ok (.istore_n 3, 1) := by decide +kernel
theorem dX3_colorAfterMerging_55 : decode cX3_colorAfterMerging 55 = .ok (.iinc 5 1, 3) := by decide +kernel
theorem dX3_colorAfterMerging_58 : decode cX3_colorAfterMerging 58 = .ok (.goto (-34), 3) := by decide +kernel
theorem dX3_colorAfterMerging_61 : decode cX3_colorAfterMerging 61 = .ok (.iload_n 3, 1) := by decide +kernel
theorem dX3_colorAfterMerging_62 : decode cX3_colorAfterMerging 62 = .ok (.ireturn, 1) := by decide +kernel
theorem dX3_mergeOnce_0 : decode cX3_mergeOnce 0 = .ok (.iconst 0, 1) := by decide +kernel
theorem dX3_mergeOnce_1 : decode cX3_mergeOnce 1 = .ok (.istore_n 1, 1) := by decide +kernel
theorem dX3_mergeOnce_2 : decode cX3_mergeOnce 2 = .ok (.iload_n 1, 1) := by decide +kernel
theorem dX3_mergeOnce_3 : decode cX3_mergeOnce 3 = .ok (.aload_n 0, 1) := by decide +kernel
theorem dX3_mergeOnce_4 : decode cX3_mergeOnce 4 = .ok (.getfield 15, 3) := by decide +kernel
theorem dX3_mergeOnce_7 : decode cX3_mergeOnce 7 = .ok (.if_icmp .ge 51, 3) := by decide +kernel
theorem dX3_mergeOnce_10 : decode cX3_mergeOnce 10 = .ok (.iconst 0, 1) := by decide +kernel
theorem dX3_mergeOnce_11 : decode cX3_mergeOnce 11 = .ok (.istore_n 2, 1) := by decide +kernel
theorem dX3_mergeOnce_12 : decode cX3_mergeOnce 12 = .ok (.iload_n 2, 1) := by decide +kernel
theorem dX3_mergeOnce_13 : decode cX3_mergeOnce 13 = .ok (.aload_n 0, 1) := by decide +kernel
theorem dX3_mergeOnce_14 : decode cX3_mergeOnce 14 = .ok (.getfield 9, 3) := by decide +kernel
theorem dX3_mergeOnce_17 : decode cX3_mergeOnce 17 = .ok (.if_icmp .ge 35, 3) := by decide +kernel
theorem dX3_mergeOnce_20 : decode cX3_mergeOnce 20 = .ok (.aload_n 0, 1) := by decide +kernel
theorem dX3_mergeOnce_21 : decode cX3_mergeOnce 21 = .ok (.iload_n 2, 1) := by decide +kernel
theorem dX3_mergeOnce_22 : decode cX3_mergeOnce 22 = .ok (.iload_n 1, 1) := by decide +kernel
theorem dX3_mergeOnce_23 : decode cX3_mergeOnce 23 = .ok (.invokevirtual 29, 3) := by decide +kernel
theorem dX3_mergeOnce_26 : decode cX3_mergeOnce 26 = .ok (.ifCond .eq 20, 3) := by decide +kernel
theorem dX3_mergeOnce_29 : decode cX3_mergeOnce 29 = .ok (.aload_n 0, 1) := by decide +kernel
theorem dX3_mergeOnce_30 : decode cX3_mergeOnce 30 = .ok (.getfield 26, 3) := by decide +kernel
theorem dX3_mergeOnce_33 : decode cX3_mergeOnce 33 = .ok (.iload_n 1, 1) := by decide +kernel
theorem dX3_mergeOnce_34 : decode cX3_mergeOnce 34 = .ok (.bipush 24, 2) := by decide +kernel
theorem dX3_mergeOnce_36 : decode cX3_mergeOnce 36 = .ok (.imul, 1) := by decide +kernel
theorem dX3_mergeOnce_37 : decode cX3_mergeOnce 37 = .ok (.iload_n 2, 1) := by decide +kernel
theorem dX3_mergeOnce_38 : decode cX3_mergeOnce 38 = .ok (.iadd, 1) := by decide +kernel
theorem dX3_mergeOnce_39 : decode cX3_mergeOnce 39 = .ok (.aload_n 0, 1) := by decide +kernel
theorem dX3_mergeOnce_40 : decode cX3_mergeOnce 40 = .ok (.iload_n 2, 1) := by decide +kernel
theorem dX3_mergeOnce_41 : decode cX3_mergeOnce 41 = .ok (.iload_n 1, 1) := by decide +kernel
theorem dX3_mergeOnce_42 : decode cX3_mergeOnce 42 = .ok (.invokevirtual 55, 3) := by decide +kernel
theorem dX3_mergeOnce_45 : decode cX3_mergeOnce 45 = .ok (.iastore, 1) := by decide +kernel
theorem dX3_mergeOnce_46 : decode cX3_mergeOnce 46 = .ok (.iinc 2 1, 3) := by decide +kernel
theorem dX3_mergeOnce_49 : decode cX3_mergeOnce 49 = .ok (.goto (-37), 3) := by decide +kernel
theorem dX3_mergeOnce_52 : decode cX3_mergeOnce 52 = .ok (.iinc 1 1, 3) := by decide +kernel
theorem dX3_mergeOnce_55 : decode cX3_mergeOnce 55 = .ok (.goto (-53), 3) := by decide +kernel
theorem dX3_mergeOnce_58 : decode cX3_mergeOnce 58 = .ok (.iconst 0, 1) := by decide +kernel
theorem dX3_mergeOnce_59 : decode cX3_mergeOnce 59 = .ok (.istore_n 1, 1) := by decide +kernel
theorem dX3_mergeOnce_60 : decode cX3_mergeOnce 60 = .ok (.iconst 0, 1) := by decide +kernel
theorem dX3_mergeOnce_61 : decode cX3_mergeOnce 61 = .ok (.istore_n 2, 1) := by decide +kernel
theorem dX3_mergeOnce_62 : decode cX3_mergeOnce 62 = .ok (.iload_n 2, 1) := by decide +kernel
theorem dX3_mergeOnce_63 : decode cX3_mergeOnce 63 = .ok (.aload_n 0, 1) := by decide +kernel
theorem dX3_mergeOnce_64 : decode cX3_mergeOnce 64 = .ok (.getfield 15, 3) := by decide +kernel
theorem dX3_mergeOnce_67 : decode cX3_mergeOnce 67 = .ok (.if_icmp .ge 54, 3) := by decide +kernel
theorem dX3_mergeOnce_70 : decode cX3_mergeOnce 70 = .ok (.iconst 0, 1) := by decide +kernel
theorem dX3_mergeOnce_71 : decode cX3_mergeOnce 71 = .ok (.istore_n 3, 1) := by decide +kernel
theorem dX3_mergeOnce_72 : decode cX3_mergeOnce 72 = .ok (.iload_n 3, 1) := by decide +kernel
theorem dX3_mergeOnce_73 : decode cX3_mergeOnce 73 = .ok (.aload_n 0, 1) := by decide +kernel
theorem dX3_mergeOnce_74 : decode cX3_mergeOnce 74 = .ok (.getfield 9, 3) := by decide +kernel
theorem dX3_mergeOnce_77 : decode cX3_mergeOnce 77 = .ok (.if_icmp .ge 38, 3) := by decide +kernel
theorem dX3_mergeOnce_80 : decode cX3_mergeOnce 80 = .ok (.aload_n 0, 1) := by decide +kernel
theorem dX3_mergeOnce_81 : decode cX3_mergeOnce 81 = .ok (.iload_n 3, 1) := by decide +kernel
theorem dX3_mergeOnce_82 : decode cX3_mergeOnce 82 = .ok (.iload_n 2, 1) := by decide +kernel
theorem dX3_mergeOnce_83 : decode cX3_mergeOnce 83 = .ok (.invokevirtual 29, 3) := by decide +kernel
theorem dX3_mergeOnce_86 : decode cX3_mergeOnce 86 = .ok (.ifCond .eq 23, 3) := by decide +kernel
theorem dX3_mergeOnce_89 : decode cX3_mergeOnce 89 = .ok (.iload_n 1, 1) := by decide +kernel
theorem dX3_mergeOnce_90 : decode cX3_mergeOnce 90 = .ok (.aload_n 0, 1) := by decide +kernel
theorem dX3_mergeOnce_91 : decode cX3_mergeOnce 91 = .ok (.iload_n 3, 1) := by decide +kernel
theorem dX3_mergeOnce_92 : decode cX3_mergeOnce 92 = .ok (.iload_n 2, 1) := by decide +kernel
theorem dX3_mergeOnce_93 : decode cX3_mergeOnce 93 = .ok (.aload_n 0, 1) := by decide +kernel
theorem dX3_mergeOnce_94 : decode cX3_mergeOnce 94 = .ok (.getfield 26, 3) := by decide +kernel
theorem dX3_mergeOnce_97 : decode cX3_mergeOnce 97 = .ok (.iload_n 2, 1) := by decide +kernel
theorem dX3_mergeOnce_98 : decode cX3_mergeOnce 98 = .ok (.bipush 24, 2) := by decide +kernel
theorem dX3_mergeOnce_100 : decode cX3_mergeOnce 100 = .ok (.imul, 1) := by decide +kernel
theorem dX3_mergeOnce_101 : decode cX3_mergeOnce 101 = .ok (.iload_n 3, 1) := by decide +kernel
theorem dX3_mergeOnce_102 : decode cX3_mergeOnce 102 = .ok (.iadd, 1) := by decide +kernel
theorem dX3_mergeOnce_103 : decode cX3_mergeOnce 103 = .ok (.iaload, 1) := by decide +kernel
theorem dX3_mergeOnce_104 : decode cX3_mergeOnce 104 = .ok (.invokevirtual 45, 3) := by decide +kernel
theorem dX3_mergeOnce_107 : decode cX3_mergeOnce 107 = .ok (.iadd, 1) := by decide +kernel
theorem dX3_mergeOnce_108 : decode cX3_mergeOnce 108 = .ok (.istore_n 1, 1) := by decide +kernel
theorem dX3_mergeOnce_109 : decode cX3_mergeOnce 109 = .ok (.iinc 3 1, 3) := by decide +kernel
theorem dX3_mergeOnce_112 : decode cX3_mergeOnce 112 = .ok (.goto (-40), 3) := by decide +kernel
theorem dX3_mergeOnce_115 : decode cX3_mergeOnce 115 = .ok (.iinc 2 1, 3) := by decide +kernel
theorem dX3_mergeOnce_118 : decode cX3_mergeOnce 118 = .ok (.goto (-56), 3) := by decide +kernel
theorem dX3_mergeOnce_121 : decode cX3_mergeOnce 121 = .ok (.iload_n 1, 1) := by decide +kernel
theorem dX3_mergeOnce_122 : decode cX3_mergeOnce 122 = .ok (.ireturn, 1) := by decide +kernel
theorem dX4_init_0 : decode cX4_init 0 = .ok (.aload_n 0, 1) := by decide +kernel
theorem dX4_init_1 : decode cX4_init 1 = .ok (.invokespecial 1, 3) := by decide +kernel
theorem dX4_init_4 : decode cX4_init 4 = .ok (.aload_n 0, 1) := by decide +kernel
theorem dX4_init_5 : decode cX4_init 5 = .ok (.bipush 8, 2) := by decide +kernel
theorem dX4_init_7 : decode cX4_init 7 = .ok (.putfield 7, 3) := by decide +kernel
theorem dX4_init_10 : decode cX4_init 10 = .ok (.aload_n 0, 1) := by decide +kernel
theorem dX4_init_11 : decode cX4_init 11 = .ok (.bipush 6, 2) := by decide +kernel
theorem dX4_init_13 : decode cX4_init 13 = .ok (.putfield 13, 3) := by decide +kernel
theorem dX4_init_16 : decode cX4_init 16 = .ok (.aload_n 0, 1) := by decide +kernel
theorem dX4_init_17 : decode cX4_init 17 = .ok (.iconst 1, 1) := by decide +kernel
theorem dX4_init_18 : decode cX4_init 18 = .ok (.putfield 16, 3) := by decide +kernel
theorem dX4_init_21 : decode cX4_init 21 = .ok (.aload_n 0, 1) := by decide +kernel
theorem dX4_init_22 : decode cX4_init 22 = .ok (.aload_n 1, 1) := by decide +kernel
theorem dX4_init_23 : decode cX4_init 23 = .ok (.putfield 19, 3) := by decide +kernel
theorem dX4_init_26 : decode cX4_init 26 = .ok (.return_, 1) := by decide +kernel
theorem dX4_step_0 : decode cX4_step 0 = .ok (.iload_n 1, 1) := by decide +kernel
theorem dX4_step_1 : decode cX4_step 1 = .ok (.aload_n 0, 1) := by decide +kernel
theorem dX4_step_2 : decode cX4_step 2 = .ok (.getfield 16, 3) := by decide +kernel
theorem dX4_step_5 : decode cX4_step 5 = .ok (.if_icmp .le 12, 3) := by decide +kernel
theorem dX4_step_8 : decode cX4_step 8 = .ok (.iload_n 1, 1) := by decide +kernel
theorem dX4_step_9 : decode cX4_step 9 = .ok (.aload_n 0, 1) := by decide +kernel
theorem dX4_step_10 : decode cX4_step 10 = .ok (.getfield 16, 3) := by decide +kernel
theorem dX4_step_13 : decode cX4_step 13 = .ok (.isub, 1) := by decide +kernel
theorem dX4_step_14 : decode cX4_step 14 = .ok (.goto 4, 3) := by decide +kernel
theorem dX4_step_17 : decode cX4_step 17 = .ok (.iconst 1, 1) := by decide +kernel
theorem dX4_step_18 : decode cX4_step 18 = .ok (.ireturn, 1) := by decide +kernel
theorem dX4_pagesAlong_0 : decode cX4_pagesAlong 0 = .ok (.iload_n 1, 1) := by decide +kernel
theorem dX4_pagesAlong_1 : decode cX4_pagesAlong 1 = .ok (.iload_n 2, 1) := by decide +kernel
theorem dX4_pagesAlong_2 : decode cX4_pagesAlong 2 = .ok (.if_icmp .gt 5, 3) := by decide +kernel
theorem dX4_pagesAlong_5 : decode cX4_pagesAlong 5 = .ok (.iconst 1, 1) := by decide +kernel
theorem dX4_pagesAlong_6 : decode cX4_pagesAlong 6 = .ok (.ireturn, 1) := by decide +kernel
theorem dX4_pagesAlong_7 : decode cX4_pagesAlong 7 = .ok (.aload_n 0, 1) := by decide +kernel
theorem dX4_pagesAlong_8 : decode cX4_pagesAlong 8 = .ok (.iload_n 2, 1) := by decide +kernel
theorem dX4_pagesAlong_9 : decode cX4_pagesAlong 9 = .ok (.invokevirtual 23, 3) := by decide +kernel
theorem dX4_pagesAlong_12 : decode cX4_pagesAlong 12 = .ok (.istore_n 3, 1) := by decide +kernel
theorem dX4_pagesAlong_13 : decode cX4_pagesAlong 13 = .ok (.iconst 1, 1) := by decide +kernel
theorem dX4_pagesAlong_14 : decode cX4_pagesAlong 14 = .ok (.iload_n 1, 1) := by decide +kernel
theorem dX4_pagesAlong_15 : decode cX4_pagesAlong 15 = .ok (.iload_n 2, 1) := by decide +kernel
theorem dX4_pagesAlong_16 : decode cX4_pagesAlong 16 = .ok (.isub, 1) := by decide +kernel
theorem dX4_pagesAlong_17 : decode cX4_pagesAlong 17 = .ok (.iload_n 3, 1) := by decide +kernel
theorem dX4_pagesAlong_18 : decode cX4_pagesAlong 18 = .ok (.iadd, 1) := by decide +kernel
theorem dX4_pagesAlong_19 : decode cX4_pagesAlong 19 = .ok (.iconst 1, 1) := by decide +kernel
theorem dX4_pagesAlong_20 : decode cX4_pagesAlong 20 = .ok (.isub, 1) := by decide +kernel
theorem dX4_pagesAlong_21 : decode cX4_pagesAlong 21 = .ok (.iload_n 3, 1) := by decide +kernel
theorem dX4_pagesAlong_22 : decode cX4_pagesAlong 22 = .ok (.idiv, 1) := by decide +kernel
theorem dX4_pagesAlong_23 : decode cX4_pagesAlong 23 = .ok (.iadd, 1) := by decide +kernel
theorem dX4_pagesAlong_24 : decode cX4_pagesAlong 24 = .ok (.ireturn, 1) := by decide +kernel
theorem dX4_pagesAcross_0 : decode cX4_pagesAcross 0 = .ok (.iconst 1, 1) := by decide +kernel
theorem dX4_pagesAcross_1 : decode cX4_pagesAcross 1 = .ok (.aload_n 0, 1) := by decide +kernel
theorem dX4_pagesAcross_2 : decode cX4_pagesAcross 2 = .ok (.aload_n 0, 1) := by decide +kernel
theorem dX4_pagesAcross_3 : decode cX4_pagesAcross 3 = .ok (.getfield 19, 3) := by decide +kernel
theorem dX4_pagesAcross_6 : decode cX4_pagesAcross 6 = .ok (.getfield 27, 3) := by decide +kernel
theorem dX4_pagesAcross_9 : decode cX4_pagesAcross 9 = .ok (.aload_n 0, 1) := by decide +kernel
theorem dX4_pagesAcross_10 : decode cX4_pagesAcross 10 = .ok (.getfield 7, 3) := by decide +kernel
theorem dX4_pagesAcross_13 : decode cX4_pagesAcross 13 = .ok (.invokevirtual 32, 3) := by decide +kernel
theorem dX4_pagesAcross_16 : decode cX4_pagesAcross 16 = .ok (.invokestatic 36, 3) := by decide +kernel
theorem dX4_pagesAcross_19 : decode cX4_pagesAcross 19 = .ok (.ireturn, 1) := by decide +kernel
theorem dX4_total_0 : decode cX4_total 0 = .ok (.aload_n 0, 1) := by decide +kernel
theorem dX4_total_1 : decode cX4_total 1 = .ok (.invokevirtual 41, 3) := by decide +kernel
theorem dX4_total_4 : decode cX4_total 4 = .ok (.aload_n 0, 1) := by decide +kernel
theorem dX4_total_5 : decode cX4_total 5 = .ok (.aload_n 0, 1) := by decide +kernel
theorem dX4_total_6 : decode cX4_total 6 = .ok (.getfield 19, 3) := by decide +kernel
theorem dX4_total_9 : decode cX4_total 9 = .ok (.getfield 45, 3) := by decide +kernel
theorem dX4_total_12 : decode cX4_total 12 = .ok (.aload_n 0, 1) := by decide +kernel
theorem dX4_total_13 : decode cX4_total 13 = .ok (.getfield 13, 3) := by decide +kernel
theorem dX4_total_16 : decode cX4_total 16 = .ok (.invokevirtual 32, 3) := by decide +kernel
theorem dX4_total_19 : decode cX4_total 19 = .ok (.imul, 1) := by decide +kernel
theorem dX4_total_20 : decode cX4_total 20 = .ok (.ireturn, 1) := by decide +kernel
theorem dX4_has_0 : decode cX4_has 0 = .ok (.iload_n 1, 1) := by decide +kernel
theorem dX4_has_1 : decode cX4_has 1 = .ok (.iconst 0, 1) := by decide +kernel
theorem dX4_has_2 : decode cX4_has 2 = .ok (.aload_n 0, 1) := by decide +kernel
theorem dX4_has_3 : decode cX4_has 3 = .ok (.invokevirtual 48, 3) := by decide +kernel
theorem dX4_has_6 : decode cX4_has 6 = .ok (.iconst 1, 1) := by decide +kernel
theorem dX4_has_7 : decode cX4_has 7 = .ok (.isub, 1) := by decide +kernel
theorem dX4_has_8 : decode cX4_has 8 = .ok (.invokestatic 51, 3) := by decide +kernel
theorem dX4_has_11 : decode cX4_has 11 = .ok (.ireturn, 1) := by decide +kernel
theorem dX4_left_0 : decode cX4_left 0 = .ok (.iload_n 1, 1) := by decide +kernel
theorem dX4_left_1 : decode cX4_left 1 = .ok (.aload_n 0, 1) := by decide +kernel
theorem dX4_left_2 : decode cX4_left 2 = .ok (.invokevirtual 41, 3) := by decide +kernel
theorem dX4_left_5 : decode cX4_left 5 = .ok (.irem, 1) := by decide +kernel
theorem dX4_left_6 : decode cX4_left 6 = .ok (.aload_n 0, 1) := by decide +kernel
theorem dX4_left_7 : decode cX4_left 7 = .ok (.aload_n 0, 1) := by decide +kernel
theorem dX4_left_8 : decode cX4_left 8 = .ok (.getfield 7, 3) := by decide +kernel
theorem dX4_left_11 : decode cX4_left 11 = .ok (.invokevirtual 23, 3) := by decide +kernel
theorem dX4_left_14 : decode cX4_left 14 = .ok (.imul, 1) := by decide +kernel
theorem dX4_left_15 : decode cX4_left 15 = .ok (.ireturn, 1) := by decide +kernel
theorem dX4_top_0 : decode cX4_top 0 = .ok (.iload_n 1, 1) := by decide +kernel
theorem dX4_top_1 : decode cX4_top 1 = .ok (.aload_n 0, 1) := by decide +kernel
theorem dX4_top_2 : decode cX4_top 2 = .ok (.invokevirtual 41, 3) := by decide +kernel
theorem dX4_top_5 : decode cX4_top 5 = .ok (.idiv, 1) := by decide +kernel
theorem dX4_top_6 : decode cX4_top 6 = .ok (.aload_n 0, 1) := by decide +kernel
theorem dX4_top_7 : decode cX4_top 7 = .ok (.aload_n 0, 1) := by decide +kernel
theorem dX4_top_8 : decode cX4_top 8 = .ok (.getfield 13, 3) := by decide +kernel
theorem dX4_top_11 : decode cX4_top 11 = .ok (.invokevirtual 23, 3) := by decide +kernel
theorem dX4_top_14 : decode cX4_top 14 = .ok (.imul, 1) := by decide +kernel
theorem dX4_top_15 : decode cX4_top 15 = .ok (.ireturn, 1) := by decide +kernel
theorem dX4_shownColumns_0 : decode cX4_shownColumns 0 = .ok (.aload_n 0, 1) := by decide +kernel
theorem dX4_shownColumns_1 : decode cX4_shownColumns 1 = .ok (.getfield 7, 3) := by decide +kernel
theorem dX4_shownColumns_4 : decode cX4_shownColumns 4 = .ok (.aload_n 0, 1) := by decide +kernel
theorem dX4_shownColumns_5 : decode cX4_shownColumns 5 = .ok (.getfield 19, 3) := by decide +kernel
theorem dX4_shownColumns_8 : decode cX4_shownColumns 8 = .ok (.getfield 27, 3) := by decide +kernel
theorem dX4_shownColumns_11 : decode cX4_shownColumns 11 = .ok (.aload_n 0, 1) := by decide +kernel
theorem dX4_shownColumns_12 : decode cX4_shownColumns 12 = .ok (.iload_n 1, 1) := by decide +kernel
theorem dX4_shownColumns_13 : decode cX4_shownColumns 13 = .ok (.invokevirtual 57, 3) := by decide +kernel
theorem dX4_shownColumns_16 : decode cX4_shownColumns 16 = .ok (.isub, 1) := by decide +kernel
theorem dX4_shownColumns_17 : decode cX4_shownColumns 17 = .ok (.invokestatic 60, 3) := by decide +kernel
theorem dX4_shownColumns_20 : decode cX4_shownColumns 20 = .ok (.ireturn, 1) := by decide +kernel
theorem dX4_shownLines_0 : decode cX4_shownLines 0 = .ok (.aload_n 0, 1) := by decide +kernel
theorem dX4_shownLines_1 : decode cX4_shownLines 1 = .ok (.getfield 13, 3) := by decide +kernel
theorem dX4_shownLines_4 : decode cX4_shownLines 4 = .ok (.aload_n 0, 1) := by decide +kernel
theorem dX4_shownLines_5 : decode cX4_shownLines 5 = .ok (.getfield 19, 3) := by decide +kernel
theorem dX4_shownLines_8 : decode cX4_shownLines 8 = .ok (.getfield 45, 3) := by decide +kernel
theorem dX4_shownLines_11 : decode cX4_shownLines 11 = .ok (.aload_n 0, 1) := by decide +kernel
theorem dX4_shownLines_12 : decode cX4_shownLines 12 = .ok (.iload_n 1, 1) := by decide +kernel
theorem dX4_shownLines_13 : decode cX4_shownLines 13 = .ok (.invokevirtual 63, 3) := by decide +kernel
theorem dX4_shownLines_16 : decode cX4_shownLines 16 = .ok (.isub, 1) := by decide +kernel
theorem dX4_shownLines_17 : decode cX4_shownLines 17 = .ok (.invokestatic 60, 3) := by decide +kernel
theorem dX4_shownLines_20 : decode cX4_shownLines 20 = .ok (.ireturn, 1) := by decide +kernel
theorem dX4_firstShowing_0 : decode cX4_firstShowing 0 = .ok (.iload_n 1, 1) := by decide +kernel
theorem dX4_firstShowing_1 : decode cX4_firstShowing 1 = .ok (.iload_n 2, 1) := by decide +kernel
theorem dX4_firstShowing_2 : decode cX4_firstShowing 2 = .ok (.if_icmp .ge 7, 3) := by decide +kernel
theorem dX4_firstShowing_5 : decode cX4_firstShowing 5 = .ok (.iconst 0, 1) := by decide +kernel
theorem dX4_firstShowing_6 : decode cX4_firstShowing 6 = .ok (.goto 14, 3) := by decide +kernel
theorem dX4_firstShowing_9 : decode cX4_firstShowing 9 = .ok (.iconst 1, 1) := by decide +kernel
theorem dX4_firstShowing_10 : decode cX4_firstShowing 10 = .ok (.iload_n 1, 1) := by decide +kernel
theorem dX4_firstShowing_11 : decode cX4_firstShowing 11 = .ok (.iload_n 2, 1) := by decide +kernel
theorem dX4_firstShowing_12 : decode cX4_firstShowing 12 = .ok (.isub, 1) := by decide +kernel
theorem dX4_firstShowing_13 : decode cX4_firstShowing 13 = .ok (.aload_n 0, 1) := by decide +kernel
theorem dX4_firstShowing_14 : decode cX4_firstShowing 14 = .ok (.iload_n 2, 1) := by decide +kernel
theorem dX4_firstShowing_15 : decode cX4_firstShowing 15 = .ok (.invokevirtual 23, 3) := by decide +kernel
theorem dX4_firstShowing_18 : decode cX4_firstShowing 18 = .ok (.idiv, 1) := by decide +kernel
theorem dX4_firstShowing_19 : decode cX4_firstShowing 19 = .ok (.iadd, 1) := by decide +kernel
theorem dX4_firstShowing_20 : decode cX4_firstShowing 20 = .ok (.ireturn, 1) := by decide +kernel
theorem dX4_owner_0 : decode cX4_owner 0 = .ok (.aload_n 0, 1) := by decide +kernel
theorem dX4_owner_1 : decode cX4_owner 1 = .ok (.iload_n 2, 1) := by decide +kernel
theorem dX4_owner_2 : decode cX4_owner 2 = .ok (.aload_n 0, 1) := by decide +kernel
theorem dX4_owner_3 : decode cX4_owner 3 = .ok (.getfield 13, 3) := by decide +kernel
theorem dX4_owner_6 : decode cX4_owner 6 = .ok (.invokevirtual 66, 3) := by decide +kernel
theorem dX4_owner_9 : decode cX4_owner 9 = .ok (.aload_n 0, 1) := by decide +kernel
theorem dX4_owner_10 : decode cX4_owner 10 = .ok (.invokevirtual 41, 3) := by decide +kernel
theorem dX4_owner_13 : decode cX4_owner 13 = .ok (.imul, 1) := by decide +kernel
theorem dX4_owner_14 : decode cX4_owner 14 = .ok (.aload_n 0, 1) := by decide +kernel
theorem dX4_owner_15 : decode cX4_owner 15 = .ok (.iload_n 1, 1) := by decide +kernel
theorem dX4_owner_16 : decode cX4_owner 16 = .ok (.aload_n 0, 1) := by decide +kernel
theorem dX4_owner_17 : decode cX4_owner 17 = .ok (.getfield 7, 3) := by decide +kernel
theorem dX4_owner_20 : decode cX4_owner 20 = .ok (.invokevirtual 66, 3) := by decide +kernel
theorem dX4_owner_23 : decode cX4_owner 23 = .ok (.iadd, 1) := by decide +kernel
theorem dX4_owner_24 : decode cX4_owner 24 = .ok (.ireturn, 1) := by decide +kernel
theorem dX4_tally_0 : decode cX4_tally 0 = .ok (.aload_n 0, 1) := by decide +kernel
theorem dX4_tally_1 : decode cX4_tally 1 = .ok (.iload_n 1, 1) := by decide +kernel
theorem dX4_tally_2 : decode cX4_tally 2 = .ok (.invokevirtual 57, 3) := by decide +kernel
theorem dX4_tally_5 : decode cX4_tally 5 = .ok (.istore 5, 2) := by decide +kernel
theorem dX4_tally_7 : decode cX4_tally 7 = .ok (.aload_n 0, 1) := by decide +kernel
theorem dX4_tally_8 : decode cX4_tally 8 = .ok (.iload_n 1, 1) := by decide +kernel
theorem dX4_tally_9 : decode cX4_tally 9 = .ok (.invokevirtual 63, 3) := by decide +kernel
theorem dX4_tally_12 : decode cX4_tally 12 = .ok (.istore 6, 2) := by decide +kernel
theorem dX4_tally_14 : decode cX4_tally 14 = .ok (.iload 5, 2) := by decide +kernel
theorem dX4_tally_16 : decode cX4_tally 16 = .ok (.aload_n 0, 1) := by decide +kernel
theorem dX4_tally_17 : decode cX4_tally 17 = .ok (.getfield 7, 3) := by decide +kernel
theorem dX4_tally_20 : decode cX4_tally 20 = .ok (.iadd, 1) := by decide +kernel
theorem dX4_tally_21 : decode cX4_tally 21 = .ok (.aload_n 0, 1) := by decide +kernel
theorem dX4_tally_22 : decode cX4_tally 22 = .ok (.getfield 19, 3) := by decide +kernel
theorem dX4_tally_25 : decode cX4_tally 25 = .ok (.getfield 27, 3) := by decide +kernel
theorem dX4_tally_28 : decode cX4_tally 28 = .ok (.invokestatic 60, 3) := by decide +kernel
theorem dX4_tally_31 : decode cX4_tally 31 = .ok (.istore 7, 2) := by decide +kernel
theorem dX4_tally_33 : decode cX4_tally 33 = .ok (.iload 6, 2) := by decide +kernel
theorem dX4_tally_35 : decode cX4_tally 35 = .ok (.aload_n 0, 1) := by decide +kernel
theorem dX4_tally_36 : decode cX4_tally 36 = .ok (.getfield 13, 3) := by decide +kernel
theorem dX4_tally_39 : decode cX4_tally 39 = .ok (.iadd, 1) := by decide +kernel
theorem dX4_tally_40 : decode cX4_tally 40 = .ok (.aload_n 0, 1) := by decide +kernel
theorem dX4_tally_41 : decode cX4_tally 41 = .ok (.getfield 19, 3) := by decide +kernel
theorem dX4_tally_44 : decode cX4_tally 44 = .ok (.getfield 45, 3) := by decide +kernel
theorem dX4_tally_47 : decode cX4_tally 47 = .ok (.invokestatic 60, 3) := by decide +kernel
theorem dX4_tally_50 : decode cX4_tally 50 = .ok (.istore 8, 2) := by decide +kernel
theorem dX4_tally_52 : decode cX4_tally 52 = .ok (.iconst 0, 1) := by decide +kernel
theorem dX4_tally_53 : decode cX4_tally 53 = .ok (.istore 9, 2) := by decide +kernel
theorem dX4_tally_55 : decode cX4_tally 55 = .ok (.iload 6, 2) := by decide +kernel
theorem dX4_tally_57 : decode cX4_tally 57 = .ok (.istore 10, 2) := by decide +kernel
theorem dX4_tally_59 : decode cX4_tally 59 = .ok (.iload 10, 2) := by decide +kernel
theorem dX4_tally_61 : decode cX4_tally 61 = .ok (.iload 8, 2) := by decide +kernel
theorem dX4_tally_63 : decode cX4_tally 63 = .ok (.if_icmp .ge 74, 3) := by decide +kernel
theorem dX4_tally_66 : decode cX4_tally 66 = .ok (.iload 5, 2) := by decide +kernel
theorem dX4_tally_68 : decode cX4_tally 68 = .ok (.istore 11, 2) := by decide +kernel
theorem dX4_tally_70 : decode cX4_tally 70 = .ok (.iload 11, 2) := by decide +kernel
theorem dX4_tally_72 : decode cX4_tally 72 = .ok (.iload 7, 2) := by decide +kernel
theorem dX4_tally_74 : decode cX4_tally 74 = .ok (.if_icmp .ge 57, 3) := by decide +kernel
theorem dX4_tally_77 : decode cX4_tally 77 = .ok (.aload_n 0, 1) := by decide +kernel
theorem dX4_tally_78 : decode cX4_tally 78 = .ok (.iload 11, 2) := by decide +kernel
theorem dX4_tally_80 : decode cX4_tally 80 = .ok (.iload 10, 2) := by decide +kernel
theorem dX4_tally_82 : decode cX4_tally 82 = .ok (.invokevirtual 69, 3) := by decide +kernel
theorem dX4_tally_85 : decode cX4_tally 85 = .ok (.iload_n 1, 1) := by decide +kernel
theorem dX4_tally_86 : decode cX4_tally 86 = .ok (.if_icmp .ne 7, 3) := by decide +kernel
theorem dX4_tally_89 : decode cX4_tally 89 = .ok (.iconst 1, 1) := by decide +kernel
theorem dX4_tally_90 : decode cX4_tally 90 = .ok (.goto 4, 3) := by decide +kernel
theorem dX4_tally_93 : decode cX4_tally 93 = .ok (.iconst 0, 1) := by decide +kernel
theorem dX4_tally_94 : decode cX4_tally 94 = .ok (.istore 12, 2) := by decide +kernel
theorem dX4_tally_96 : decode cX4_tally 96 = .ok (.iload 12, 2) := by decide +kernel
theorem dX4_tally_98 : decode cX4_tally 98 = .ok (.iload_n 2, 1) := by decide +kernel
theorem dX4_tally_99 : decode cX4_tally 99 = .ok (.if_icmp .ne 26, 3) := by decide +kernel
theorem dX4_tally_102 : decode cX4_tally 102 = .ok (.aload_n 0, 1) := by decide +kernel
theorem dX4_tally_103 : decode cX4_tally 103 = .ok (.getfield 19, 3) := by decide +kernel
theorem dX4_tally_106 : decode cX4_tally 106 = .ok (.iload 11, 2) := by decide +kernel
theorem dX4_tally_108 : decode cX4_tally 108 = .ok (.iload 10, 2) := by decide +kernel
theorem dX4_tally_110 : decode cX4_tally 110 = .ok (.invokevirtual 72, 3) := by decide +kernel
theorem dX4_tally_113 : decode cX4_tally 113 = .ok (.iload_n 3, 1) := by decide +kernel
theorem dX4_tally_114 : decode cX4_tally 114 = .ok (.iload 4, 2) := by decide +kernel
theorem dX4_tally_116 : decode cX4_tally 116 = .ok (.invokestatic 51, 3) := by decide +kernel
theorem dX4_tally_119 : decode cX4_tally 119 = .ok (.ifCond .eq 6, 3) := by decide +kernel
theorem dX4_tally_122 : decode cX4_tally 122 = .ok (.iinc 9 1, 3) := by decide +kernel
theorem dX4_tally_125 : decode cX4_tally 125 = .ok (.iinc 11 1, 3) := by decide +kernel
theorem dX4_tally_128 : decode cX4_tally 128 = .ok (.goto (-58), 3) := by decide +kernel
theorem dX4_tally_131 : decode cX4_tally 131 = .ok (.iinc 10 1, 3) := by decide +kernel
theorem dX4_tally_134 : decode cX4_tally 134 = .ok (.goto (-75), 3) := by decide +kernel
theorem dX4_tally_137 : decode cX4_tally 137 = .ok (.iload 9, 2) := by decide +kernel
theorem dX4_tally_139 : decode cX4_tally 139 = .ok (.ireturn, 1) := by decide +kernel
theorem dX5_init_0 : decode cX5_init 0 = .ok (.aload_n 0, 1) := by decide +kernel
theorem dX5_init_1 : decode cX5_init 1 = .ok (.invokespecial 1, 3) := by decide +kernel
theorem dX5_init_4 : decode cX5_init 4 = .ok (.aload_n 0, 1) := by decide +kernel
theorem dX5_init_5 : decode cX5_init 5 = .ok (.bipush 60, 2) := by decide +kernel
theorem dX5_init_7 : decode cX5_init 7 = .ok (.putfield 7, 3) := by decide +kernel
theorem dX5_init_10 : decode cX5_init 10 = .ok (.aload_n 0, 1) := by decide +kernel
theorem dX5_init_11 : decode cX5_init 11 = .ok (.bipush 30, 2) := by decide +kernel
theorem dX5_init_13 : decode cX5_init 13 = .ok (.putfield 13, 3) := by decide +kernel
theorem dX5_init_16 : decode cX5_init 16 = .ok (.return_, 1) := by decide +kernel
theorem dX5_carries_0 : decode cX5_carries 0 = .ok (.iload_n 1, 1) := by decide +kernel
theorem dX5_carries_1 : decode cX5_carries 1 = .ok (.aload_n 0, 1) := by decide +kernel
theorem dX5_carries_2 : decode cX5_carries 2 = .ok (.getfield 7, 3) := by decide +kernel
theorem dX5_carries_5 : decode cX5_carries 5 = .ok (.if_icmp .gt 7, 3) := by decide +kernel
theorem dX5_carries_8 : decode cX5_carries 8 = .ok (.iconst 1, 1) := by decide +kernel
theorem dX5_carries_9 : decode cX5_carries 9 = .ok (.goto 4, 3) := by decide +kernel
theorem dX5_carries_12 : decode cX5_carries 12 = .ok (.iconst 0, 1) := by decide +kernel
theorem dX5_carries_13 : decode cX5_carries 13 = .ok (.ireturn, 1) := by decide +kernel
theorem dX5_cost_0 : decode cX5_cost 0 = .ok (.aload_n 0, 1) := by decide +kernel
theorem dX5_cost_1 : decode cX5_cost 1 = .ok (.iload_n 1, 1) := by decide +kernel
theorem dX5_cost_2 : decode cX5_cost 2 = .ok (.invokevirtual 16, 3) := by decide +kernel
theorem dX5_cost_5 : decode cX5_cost 5 = .ok (.ifCond .eq 7, 3) := by decide +kernel
theorem dX5_cost_8 : decode cX5_cost 8 = .ok (.iload_n 1, 1) := by decide +kernel
theorem dX5_cost_9 : decode cX5_cost 9 = .ok (.goto 9, 3) := by decide +kernel
theorem dX5_cost_12 : decode cX5_cost 12 = .ok (.iconst 2, 1) := by decide +kernel
theorem dX5_cost_13 : decode cX5_cost 13 = .ok (.aload_n 0, 1) := by decide +kernel
theorem dX5_cost_14 : decode cX5_cost 14 = .ok (.getfield 13, 3) := by decide +kernel
theorem dX5_cost_17 : decode cX5_cost 17 = .ok (.imul, 1) := by decide +kernel
theorem dX5_cost_18 : decode cX5_cost 18 = .ok (.ireturn, 1) := by decide +kernel
theorem dX6_init_0 : decode cX6_init 0 = .ok (.aload_n 0, 1) := by decide +kernel
theorem dX6_init_1 : decode cX6_init 1 = .ok (.invokespecial 1, 3) := by decide +kernel
theorem dX6_init_4 : decode cX6_init 4 = .ok (.aload_n 0, 1) := by decide +kernel
theorem dX6_init_5 : decode cX6_init 5 = .ok (.new 7, 3) := by decide +kernel
theorem dX6_init_8 : decode cX6_init 8 = .ok (.dup, 1) := by decide +kernel
theorem dX6_init_9 : decode cX6_init 9 = .ok (.invokespecial 9, 3) := by decide +kernel
theorem dX6_init_12 : decode cX6_init 12 = .ok (.putfield 10, 3) := by decide +kernel
theorem dX6_init_15 : decode cX6_init 15 = .ok (.aload_n 0, 1) := by decide +kernel
theorem dX6_init_16 : decode cX6_init 16 = .ok (.new 16, 3) := by decide +kernel
theorem dX6_init_19 : decode cX6_init 19 = .ok (.dup, 1) := by decide +kernel
theorem dX6_init_20 : decode cX6_init 20 = .ok (.invokespecial 18, 3) := by decide +kernel
theorem dX6_init_23 : decode cX6_init 23 = .ok (.putfield 19, 3) := by decide +kernel
theorem dX6_init_26 : decode cX6_init 26 = .ok (.aload_n 0, 1) := by decide +kernel
theorem dX6_init_27 : decode cX6_init 27 = .ok (.bipush 6, 2) := by decide +kernel
theorem dX6_init_29 : decode cX6_init 29 = .ok (.anewarray 23, 3) := by decide +kernel
theorem dX6_init_32 : decode cX6_init 32 = .ok (.putfield 25, 3) := by decide +kernel
theorem dX6_init_35 : decode cX6_init 35 = .ok (.iconst 0, 1) := by decide +kernel
theorem dX6_init_36 : decode cX6_init 36 = .ok (.istore_n 1, 1) := by decide +kernel
theorem dX6_init_37 : decode cX6_init 37 = .ok (.iload_n 1, 1) := by decide +kernel
theorem dX6_init_38 : decode cX6_init 38 = .ok (.bipush 6, 2) := by decide +kernel
theorem dX6_init_40 : decode cX6_init 40 = .ok (.if_icmp .ge 33, 3) := by decide +kernel
theorem dX6_init_43 : decode cX6_init 43 = .ok (.aload_n 0, 1) := by decide +kernel
theorem dX6_init_44 : decode cX6_init 44 = .ok (.getfield 25, 3) := by decide +kernel
theorem dX6_init_47 : decode cX6_init 47 = .ok (.iload_n 1, 1) := by decide +kernel
theorem dX6_init_48 : decode cX6_init 48 = .ok (.new 23, 3) := by decide +kernel
theorem dX6_init_51 : decode cX6_init 51 = .ok (.dup, 1) := by decide +kernel
theorem dX6_init_52 : decode cX6_init 52 = .ok (.aload_n 0, 1) := by decide +kernel
theorem dX6_init_53 : decode cX6_init 53 = .ok (.getfield 10, 3) := by decide +kernel
theorem dX6_init_56 : decode cX6_init 56 = .ok (.aload_n 0, 1) := by decide +kernel
theorem dX6_init_57 : decode cX6_init 57 = .ok (.getfield 19, 3) := by decide +kernel
theorem dX6_init_60 : decode cX6_init 60 = .ok (.iload_n 1, 1) := by decide +kernel
theorem dX6_init_61 : decode cX6_init 61 = .ok (.iconst 1, 1) := by decide +kernel
theorem dX6_init_62 : decode cX6_init 62 = .ok (.iadd, 1) := by decide +kernel
theorem dX6_init_63 : decode cX6_init 63 = .ok (.invokespecial 29, 3) := by decide +kernel
theorem dX6_init_66 : decode cX6_init 66 = .ok (.aastore, 1) := by decide +kernel
theorem dX6_init_67 : decode cX6_init 67 = .ok (.iinc 1 1, 3) := by decide +kernel
theorem dX6_init_70 : decode cX6_init 70 = .ok (.goto (-33), 3) := by decide +kernel
theorem dX6_init_73 : decode cX6_init 73 = .ok (.aload_n 0, 1) := by decide +kernel
theorem dX6_init_74 : decode cX6_init 74 = .ok (.new 32, 3) := by decide +kernel
theorem dX6_init_77 : decode cX6_init 77 = .ok (.dup, 1) := by decide +kernel
theorem dX6_init_78 : decode cX6_init 78 = .ok (.aload_n 0, 1) := by decide +kernel
theorem dX6_init_79 : decode cX6_init 79 = .ok (.getfield 10, 3) := by decide +kernel
theorem dX6_init_82 : decode cX6_init 82 = .ok (.invokespecial 34, 3) := by decide +kernel
theorem dX6_init_85 : decode cX6_init 85 = .ok (.putfield 37, 3) := by decide +kernel
theorem dX6_init_88 : decode cX6_init 88 = .ok (.aload_n 0, 1) := by decide +kernel
theorem dX6_init_89 : decode cX6_init 89 = .ok (.new 41, 3) := by decide +kernel
theorem dX6_init_92 : decode cX6_init 92 = .ok (.dup, 1) := by decide +kernel
theorem dX6_init_93 : decode cX6_init 93 = .ok (.aload_n 0, 1) := by decide +kernel
theorem dX6_init_94 : decode cX6_init 94 = .ok (.getfield 10, 3) := by decide +kernel
theorem dX6_init_97 : decode cX6_init 97 = .ok (.invokespecial 43, 3) := by decide +kernel
theorem dX6_init_100 : decode cX6_init 100 = .ok (.putfield 44, 3) := by decide +kernel
theorem dX6_init_103 : decode cX6_init 103 = .ok (.aload_n 0, 1) := by decide +kernel
theorem dX6_init_104 : decode cX6_init 104 = .ok (.new 48, 3) := by decide +kernel
theorem dX6_init_107 : decode cX6_init 107 = .ok (.dup, 1) := by decide +kernel
theorem dX6_init_108 : decode cX6_init 108 = .ok (.invokespecial 50, 3) := by decide +kernel
theorem dX6_init_111 : decode cX6_init 111 = .ok (.putfield 51, 3) := by decide +kernel
theorem dX6_init_114 : decode cX6_init 114 = .ok (.return_, 1) := by decide +kernel
theorem dX6_reset_0 : decode cX6_reset 0 = .ok (.iload_n 1, 1) := by decide +kernel
theorem dX6_reset_1 : decode cX6_reset 1 = .ok (.iconst 1, 1) := by decide +kernel
theorem dX6_reset_2 : decode cX6_reset 2 = .ok (.bipush 24, 2) := by decide +kernel
theorem dX6_reset_4 : decode cX6_reset 4 = .ok (.invokestatic 55, 3) := by decide +kernel
theorem dX6_reset_7 : decode cX6_reset 7 = .ok (.ifCond .eq 13, 3) := by decide +kernel
theorem dX6_reset_10 : decode cX6_reset 10 = .ok (.iload_n 2, 1) := by decide +kernel
theorem dX6_reset_11 : decode cX6_reset 11 = .ok (.iconst 1, 1) := by decide +kernel
theorem dX6_reset_12 : decode cX6_reset 12 = .ok (.bipush 24, 2) := by decide +kernel
theorem dX6_reset_14 : decode cX6_reset 14 = .ok (.invokestatic 55, 3) := by decide +kernel
theorem dX6_reset_17 : decode cX6_reset 17 = .ok (.ifCond .ne 6, 3) := by decide +kernel
theorem dX6_reset_20 : decode cX6_reset 20 = .ok (.bipush (-2), 2) := by decide +kernel
theorem dX6_reset_22 : decode cX6_reset 22 = .ok (.ireturn, 1) := by decide +kernel
theorem dX6_reset_23 : decode cX6_reset 23 = .ok (.aload_n 0, 1) := by decide +kernel
theorem dX6_reset_24 : decode cX6_reset 24 = .ok (.getfield 10, 3) := by decide +kernel
theorem dX6_reset_27 : decode cX6_reset 27 = .ok (.iload_n 1, 1) := by decide +kernel
theorem dX6_reset_28 : decode cX6_reset 28 = .ok (.iload_n 2, 1) := by decide +kernel
theorem dX6_reset_29 : decode cX6_reset 29 = .ok (.invokevirtual 59, 3) := by decide +kernel
theorem dX6_reset_32 : decode cX6_reset 32 = .ok (.aload_n 0, 1) := by decide +kernel
theorem dX6_reset_33 : decode cX6_reset 33 = .ok (.getfield 37, 3) := by decide +kernel
theorem dX6_reset_36 : decode cX6_reset 36 = .ok (.invokevirtual 63, 3) := by decide +kernel
theorem dX6_reset_39 : decode cX6_reset 39 = .ok (.iload_n 1, 1) := by decide +kernel
theorem dX6_reset_40 : decode cX6_reset 40 = .ok (.iload_n 2, 1) := by decide +kernel
theorem dX6_reset_41 : decode cX6_reset 41 = .ok (.imul, 1) := by decide +kernel
theorem dX6_reset_42 : decode cX6_reset 42 = .ok (.ireturn, 1) := by decide +kernel
theorem dX6_type_0 : decode cX6_type 0 = .ok (.aload_n 0, 1) := by decide +kernel
theorem dX6_type_1 : decode cX6_type 1 = .ok (.getfield 51, 3) := by decide +kernel
theorem dX6_type_4 : decode cX6_type 4 = .ok (.iload_n 1, 1) := by decide +kernel
theorem dX6_type_5 : decode cX6_type 5 = .ok (.invokevirtual 66, 3) := by decide +kernel
theorem dX6_type_8 : decode cX6_type 8 = .ok (.ifCond .eq 13, 3) := by decide +kernel
theorem dX6_type_11 : decode cX6_type 11 = .ok (.aload_n 0, 1) := by decide +kernel
theorem dX6_type_12 : decode cX6_type 12 = .ok (.getfield 51, 3) := by decide +kernel
theorem dX6_type_15 : decode cX6_type 15 = .ok (.getfield 70, 3) := by decide +kernel
theorem dX6_type_18 : decode cX6_type 18 = .ok (.goto 5, 3) := by decide +kernel
theorem dX6_type_21 : decode cX6_type 21 = .ok (.bipush (-3), 2) := by decide +kernel
theorem dX6_type_23 : decode cX6_type 23 = .ok (.ireturn, 1) := by decide +kernel
theorem dX6_clearText_0 : decode cX6_clearText 0 = .ok (.aload_n 0, 1) := by decide +kernel
theorem dX6_clearText_1 : decode cX6_clearText 1 = .ok (.getfield 51, 3) := by decide +kernel
theorem dX6_clearText_4 : decode cX6_clearText 4 = .ok (.getfield 70, 3) := by decide +kernel
theorem dX6_clearText_7 : decode cX6_clearText 7 = .ok (.istore_n 1, 1) := by decide +kernel
theorem dX6_clearText_8 : decode cX6_clearText 8 = .ok (.aload_n 0, 1) := by decide +kernel
theorem dX6_clearText_9 : decode cX6_clearText 9 = .ok (.getfield 51, 3) := by decide +kernel
theorem dX6_clearText_12 : decode cX6_clearText 12 = .ok (.iconst 0, 1) := by decide +kernel
theorem dX6_clearText_13 : decode cX6_clearText 13 = .ok (.putfield 70, 3) := by decide +kernel
theorem dX6_clearText_16 : decode cX6_clearText 16 = .ok (.iload_n 1, 1) := by decide +kernel
theorem dX6_clearText_17 : decode cX6_clearText 17 = .ok (.ireturn, 1) := by decide +kernel
theorem dX6_readChart_0 : decode cX6_readChart 0 = .ok (.aload_n 0, 1) := by decide +kernel
theorem dX6_readChart_1 : decode cX6_readChart 1 = .ok (.getfield 51, 3) := by decide +kernel
theorem dX6_readChart_4 : decode cX6_readChart 4 = .ok (.aload_n 0, 1) := by decide +kernel
theorem dX6_readChart_5 : decode cX6_readChart 5 = .ok (.getfield 10, 3) := by decide +kernel
theorem dX6_readChart_8 : decode cX6_readChart 8 = .ok (.getfield 74, 3) := by decide +kernel
theorem dX6_readChart_11 : decode cX6_readChart 11 = .ok (.aload_n 0, 1) := by decide +kernel
theorem dX6_readChart_12 : decode cX6_readChart 12 = .ok (.getfield 10, 3) := by decide +kernel
theorem dX6_readChart_15 : decode cX6_readChart 15 = .ok (.getfield 77, 3) := by decide +kernel
theorem dX6_readChart_18 : decode cX6_readChart 18 = .ok (.invokevirtual 80, 3) := by decide +kernel
theorem dX6_readChart_21 : decode cX6_readChart 21 = .ok (.istore_n 1, 1) := by decide +kernel
theorem dX6_readChart_22 : decode cX6_readChart 22 = .ok (.iload_n 1, 1) := by decide +kernel
theorem dX6_readChart_23 : decode cX6_readChart 23 = .ok (.iconst (-1), 1) := by decide +kernel
theorem dX6_readChart_24 : decode cX6_readChart 24 = .ok (.if_icmp .ne 17, 3) := by decide +kernel
theorem dX6_readChart_27 : decode cX6_readChart 27 = .ok (.aload_n 0, 1) := by decide +kernel
theorem dX6_readChart_28 : decode cX6_readChart 28 = .ok (.getfield 51, 3) := by decide +kernel
theorem dX6_readChart_31 : decode cX6_readChart 31 = .ok (.aload_n 0, 1) := by decide +kernel
theorem dX6_readChart_32 : decode cX6_readChart 32 = .ok (.getfield 10, 3) := by decide +kernel
theorem dX6_readChart_35 : decode cX6_readChart 35 = .ok (.invokevirtual 84, 3) := by decide +kernel
theorem dX6_readChart_38 : decode cX6_readChart 38 = .ok (.goto 7, 3) := by decide +kernel
theorem dX6_readChart_41 : decode cX6_readChart 41 = .ok (.bipush (-100), 2) := by decide +kernel
theorem dX6_readChart_43 : decode cX6_readChart 43 = .ok (.iload_n 1, 1) := by decide +kernel
theorem dX6_readChart_44 : decode cX6_readChart 44 = .ok (.isub, 1) := by decide +kernel
theorem dX6_readChart_45 : decode cX6_readChart 45 = .ok (.ireturn, 1) := by decide +kernel
theorem dX6_setCell_0 : decode cX6_setCell 0 = .ok (.aload_n 0, 1) := by decide +kernel
theorem dX6_setCell_1 : decode cX6_setCell 1 = .ok (.getfield 10, 3) := by decide +kernel
theorem dX6_setCell_4 : decode cX6_setCell 4 = .ok (.iload_n 1, 1) := by decide +kernel
theorem dX6_setCell_5 : decode cX6_setCell 5 = .ok (.iload_n 2, 1) := by decide +kernel
theorem dX6_setCell_6 : decode cX6_setCell 6 = .ok (.invokevirtual 88, 3) := by decide +kernel
theorem dX6_setCell_9 : decode cX6_setCell 9 = .ok (.ifCond .ne 5, 3) := by decide +kernel
theorem dX6_setCell_12 : decode cX6_setCell 12 = .ok (.iconst (-1), 1) := by decide +kernel
theorem dX6_setCell_13 : decode cX6_setCell 13 = .ok (.ireturn, 1) := by decide +kernel
theorem dX6_setCell_14 : decode cX6_setCell 14 = .ok (.iload_n 3, 1) := by decide +kernel
theorem dX6_setCell_15 : decode cX6_setCell 15 = .ok (.iconst 0, 1) := by decide +kernel
theorem dX6_setCell_16 : decode cX6_setCell 16 = .ok (.bipush 6, 2) := by decide +kernel
theorem dX6_setCell_18 : decode cX6_setCell 18 = .ok (.invokestatic 55, 3) := by decide +kernel
theorem dX6_setCell_21 : decode cX6_setCell 21 = .ok (.ifCond .ne 6, 3) := by decide +kernel
theorem dX6_setCell_24 : decode cX6_setCell 24 = .ok (.bipush (-2), 2) := by decide +kernel
theorem dX6_setCell_26 : decode cX6_setCell 26 = .ok (.ireturn, 1) := by decide +kernel
theorem dX6_setCell_27 : decode cX6_setCell 27 = .ok (.aload_n 0, 1) := by decide +kernel
theorem dX6_setCell_28 : decode cX6_setCell 28 = .ok (.getfield 10, 3) := by decide +kernel
theorem dX6_setCell_31 : decode cX6_setCell 31 = .ok (.iload_n 1, 1) := by decide +kernel
theorem dX6_setCell_32 : decode cX6_setCell 32 = .ok (.iload_n 2, 1) := by decide +kernel
theorem dX6_setCell_33 : decode cX6_setCell 33 = .ok (.invokevirtual 92, 3) := by decide +kernel
theorem dX6_setCell_36 : decode cX6_setCell 36 = .ok (.istore 4, 2) := by decide +kernel
theorem dX6_setCell_38 : decode cX6_setCell 38 = .ok (.aload_n 0, 1) := by decide +kernel
theorem dX6_setCell_39 : decode cX6_setCell 39 = .ok (.getfield 10, 3) := by decide +kernel
theorem dX6_setCell_42 : decode cX6_setCell 42 = .ok (.iload_n 1, 1) := by decide +kernel
theorem dX6_setCell_43 : decode cX6_setCell 43 = .ok (.iload_n 2, 1) := by decide +kernel
theorem dX6_setCell_44 : decode cX6_setCell 44 = .ok (.iload_n 3, 1) := by decide +kernel
theorem dX6_setCell_45 : decode cX6_setCell 45 = .ok (.invokevirtual 95, 3) := by decide +kernel
theorem dX6_setCell_48 : decode cX6_setCell 48 = .ok (.pop, 1) := by decide +kernel
theorem dX6_setCell_49 : decode cX6_setCell 49 = .ok (.iload 4, 2) := by decide +kernel
theorem dX6_setCell_51 : decode cX6_setCell 51 = .ok (.ireturn, 1) := by decide +kernel
theorem dX6_fill_0 : decode cX6_fill 0 = .ok (.aload_n 0, 1) := by decide +kernel
theorem dX6_fill_1 : decode cX6_fill 1 = .ok (.getfield 10, 3) := by decide +kernel
theorem dX6_fill_4 : decode cX6_fill 4 = .ok (.iload_n 1, 1) := by decide +kernel
theorem dX6_fill_5 : decode cX6_fill 5 = .ok (.iload_n 2, 1) := by decide +kernel
theorem dX6_fill_6 : decode cX6_fill 6 = .ok (.invokevirtual 88, 3) := by decide +kernel
theorem dX6_fill_9 : decode cX6_fill 9 = .ok (.ifCond .ne 5, 3) := by decide +kernel
theorem dX6_fill_12 : decode cX6_fill 12 = .ok (.iconst (-1), 1) := by decide +kernel
theorem dX6_fill_13 : decode cX6_fill 13 = .ok (.ireturn, 1) := by decide +kernel
theorem dX6_fill_14 : decode cX6_fill 14 = .ok (.iload_n 3, 1) := by decide +kernel
theorem dX6_fill_15 : decode cX6_fill 15 = .ok (.iconst 1, 1) := by decide +kernel
theorem dX6_fill_16 : decode cX6_fill 16 = .ok (.aload_n 0, 1) := by decide +kernel
theorem dX6_fill_17 : decode cX6_fill 17 = .ok (.getfield 10, 3) := by decide +kernel
theorem dX6_fill_20 : decode cX6_fill 20 = .ok (.getfield 74, 3) := by decide +kernel
theorem dX6_fill_23 : decode cX6_fill 23 = .ok (.iload_n 1, 1) := by decide +kernel
theorem dX6_fill_24 : decode cX6_fill 24 = .ok (.isub, 1) := by decide +kernel
theorem dX6_fill_25 : decode cX6_fill 25 = .ok (.invokestatic 55, 3) := by decide +kernel
theorem dX6_fill_28 : decode cX6_fill 28 = .ok (.ifCond .eq 32, 3) := by decide +kernel
theorem dX6_fill_31 : decode cX6_fill 31 = .ok (.iload 4, 2) := by decide +kernel
theorem dX6_fill_33 : decode cX6_fill 33 = .ok (.iconst 1, 1) := by decide +kernel
theorem dX6_fill_34 : decode cX6_fill 34 = .ok (.aload_n 0, 1) := by decide +kernel
theorem dX6_fill_35 : decode cX6_fill 35 = .ok (.getfield 10, 3) := by decide +kernel
theorem dX6_fill_38 : decode cX6_fill 38 = .ok (.getfield 77, 3) := by decide +kernel
theorem dX6_fill_41 : decode cX6_fill 41 = .ok (.iload_n 2, 1) := by decide +kernel
theorem dX6_fill_42 : decode cX6_fill 42 = .ok (.isub, 1) := by decide +kernel
theorem dX6_fill_43 : decode cX6_fill 43 = .ok (.invokestatic 55, 3) := by decide +kernel
theorem dX6_fill_46 : decode cX6_fill 46 = .ok (.ifCond .eq 14, 3) := by decide +kernel
theorem dX6_fill_49 : decode cX6_fill 49 = .ok (.iload 5, 2) := by decide +kernel
theorem dX6_fill_51 : decode cX6_fill 51 = .ok (.iconst 0, 1) := by decide +kernel
theorem dX6_fill_52 : decode cX6_fill 52 = .ok (.bipush 6, 2) := by decide +kernel
theorem dX6_fill_54 : decode cX6_fill 54 = .ok (.invokestatic 55, 3) := by decide +kernel
theorem dX6_fill_57 : decode cX6_fill 57 = .ok (.ifCond .ne 6, 3) := by decide +kernel
theorem dX6_fill_60 : decode cX6_fill 60 = .ok (.bipush (-2), 2) := by decide +kernel
theorem dX6_fill_62 : decode cX6_fill 62 = .ok (.ireturn, 1) := by decide +kernel
theorem dX6_fill_63 : decode cX6_fill 63 = .ok (.iconst 0, 1) := by decide +kernel
theorem dX6_fill_64 : decode cX6_fill 64 = .ok (.istore 6, 2) := by decide +kernel
theorem dX6_fill_66 : decode cX6_fill 66 = .ok (.iconst 0, 1) := by decide +kernel
theorem dX6_fill_67 : decode cX6_fill 67 = .ok (.istore 7, 2) := by decide +kernel
theorem dX6_fill_69 : decode cX6_fill 69 = .ok (.iload 7, 2) := by decide +kernel
theorem dX6_fill_71 : decode cX6_fill 71 = .ok (.iload 4, 2) := by decide +kernel
theorem dX6_fill_73 : decode cX6_fill 73 = .ok (.if_icmp .ge 29, 3) := by decide +kernel
theorem dX6_fill_76 : decode cX6_fill 76 = .ok (.iload 6, 2) := by decide +kernel
theorem dX6_fill_78 : decode cX6_fill 78 = .ok (.aload_n 0, 1) := by decide +kernel
theorem dX6_fill_79 : decode cX6_fill 79 = .ok (.getfield 10, 3) := by decide +kernel
theorem dX6_fill_82 : decode cX6_fill 82 = .ok (.iload_n 1, 1) := by decide +kernel
theorem dX6_fill_83 : decode cX6_fill 83 = .ok (.iload_n 2, 1) := by decide +kernel
theorem dX6_fill_84 : decode cX6_fill 84 = .ok (.iload 7, 2) := by decide +kernel
theorem dX6_fill_86 : decode cX6_fill 86 = .ok (.iadd, 1) := by decide +kernel
theorem dX6_fill_87 : decode cX6_fill 87 = .ok (.iload_n 3, 1) := by decide +kernel
theorem dX6_fill_88 : decode cX6_fill 88 = .ok (.iload 5, 2) := by decide +kernel
theorem dX6_fill_90 : decode cX6_fill 90 = .ok (.invokevirtual 99, 3) := by decide +kernel
theorem dX6_fill_93 : decode cX6_fill 93 = .ok (.iadd, 1) := by decide +kernel
theorem dX6_fill_94 : decode cX6_fill 94 = .ok (.istore 6, 2) := by decide +kernel
theorem dX6_fill_96 : decode cX6_fill 96 = .ok (.iinc 7 1, 3) := by decide +kernel
theorem dX6_fill_99 : decode cX6_fill 99 = .ok (.goto (-30), 3) := by decide +kernel
theorem dX6_fill_102 : decode cX6_fill 102 = .ok (.iload 6, 2) := by decide +kernel
theorem dX6_fill_104 : decode cX6_fill 104 = .ok (.ireturn, 1) := by decide +kernel
theorem dX6_cell_0 : decode cX6_cell 0 = .ok (.aload_n 0, 1) := by decide +kernel
theorem dX6_cell_1 : decode cX6_cell 1 = .ok (.getfield 10, 3) := by decide +kernel
theorem dX6_cell_4 : decode cX6_cell 4 = .ok (.iload_n 1, 1) := by decide +kernel
theorem dX6_cell_5 : decode cX6_cell 5 = .ok (.iload_n 2, 1) := by decide +kernel
theorem dX6_cell_6 : decode cX6_cell 6 = .ok (.invokevirtual 88, 3) := by decide +kernel
theorem dX6_cell_9 : decode cX6_cell 9 = .ok (.ifCond .eq 15, 3) := by decide +kernel
theorem dX6_cell_12 : decode cX6_cell 12 = .ok (.aload_n 0, 1) := by decide +kernel
theorem dX6_cell_13 : decode cX6_cell 13 = .ok (.getfield 10, 3) := by decide +kernel
theorem dX6_cell_16 : decode cX6_cell 16 = .ok (.iload_n 1, 1) := by decide +kernel
theorem dX6_cell_17 : decode cX6_cell 17 = .ok (.iload_n 2, 1) := by decide +kernel
theorem dX6_cell_18 : decode cX6_cell 18 = .ok (.invokevirtual 92, 3) := by decide +kernel
theorem dX6_cell_21 : decode cX6_cell 21 = .ok (.goto 4, 3) := by decide +kernel
theorem dX6_cell_24 : decode cX6_cell 24 = .ok (.iconst (-1), 1) := by decide +kernel
theorem dX6_cell_25 : decode cX6_cell 25 = .ok (.ireturn, 1) := by decide +kernel
theorem dX6_count_0 : decode cX6_count 0 = .ok (.iload_n 1, 1) := by decide +kernel
theorem dX6_count_1 : decode cX6_count 1 = .ok (.iconst 0, 1) := by decide +kernel
theorem dX6_count_2 : decode cX6_count 2 = .ok (.bipush 6, 2) := by decide +kernel
theorem dX6_count_4 : decode cX6_count 4 = .ok (.invokestatic 55, 3) := by decide +kernel
theorem dX6_count_7 : decode cX6_count 7 = .ok (.ifCond .eq 12, 3) := by decide +kernel
theorem dX6_count_10 : decode cX6_count 10 = .ok (.iload_n 2, 1) := by decide +kernel
theorem dX6_count_11 : decode cX6_count 11 = .ok (.iconst 0, 1) := by decide +kernel
theorem dX6_count_12 : decode cX6_count 12 = .ok (.iconst 4, 1) := by decide +kernel
theorem dX6_count_13 : decode cX6_count 13 = .ok (.invokestatic 55, 3) := by decide +kernel
theorem dX6_count_16 : decode cX6_count 16 = .ok (.ifCond .ne 6, 3) := by decide +kernel
theorem dX6_count_19 : decode cX6_count 19 = .ok (.bipush (-2), 2) := by decide +kernel
theorem dX6_count_21 : decode cX6_count 21 = .ok (.ireturn, 1) := by decide +kernel
theorem dX6_count_22 : decode cX6_count 22 = .ok (.iconst 0, 1) := by decide +kernel
theorem dX6_count_23 : decode cX6_count 23 = .ok (.istore_n 3, 1) := by decide +kernel
theorem dX6_count_24 : decode cX6_count 24 = .ok (.iconst 1, 1) := by decide +kernel
theorem dX6_count_25 : decode cX6_count 25 = .ok (.istore 4, 2) := by decide +kernel
theorem dX6_count_27 : decode cX6_count 27 = .ok (.iload 4, 2) := by decide +kernel
theorem dX6_count_29 : decode cX6_count 29 = .ok (.bipush 6, 2) := by decide +kernel
theorem dX6_count_31 : decode cX6_count 31 = .ok (.if_icmp .gt 29, 3) := by decide +kernel
theorem dX6_count_34 : decode cX6_count 34 = .ok (.iload_n 1, 1) := by decide +kernel
theorem dX6_count_35 : decode cX6_count 35 = .ok (.ifCond .eq 9, 3) := by decide +kernel
theorem dX6_count_38 : decode cX6_count 38 = .ok (.iload_n 1, 1) := by decide +kernel
theorem dX6_count_39 : decode cX6_count 39 = .ok (.iload 4, 2) := by decide +kernel
theorem dX6_count_41 : decode cX6_count 41 = .ok (.if_icmp .ne 13, 3) := by decide +kernel
theorem dX6_count_44 : decode cX6_count 44 = .ok (.iload_n 3, 1) := by decide +kernel
theorem dX6_count_45 : decode cX6_count 45 = .ok (.aload_n 0, 1) := by decide +kernel
theorem dX6_count_46 : decode cX6_count 46 = .ok (.iload 4, 2) := by decide +kernel
theorem dX6_count_48 : decode cX6_count 48 = .ok (.iload_n 2, 1) := by decide +kernel
theorem dX6_count_49 : decode cX6_count 49 = .ok (.invokevirtual 103, 3) := by decide +kernel
theorem dX6_count_52 : decode cX6_count 52 = .ok (.iadd, 1) := by decide +kernel
theorem dX6_count_53 : decode cX6_count 53 = .ok (.istore_n 3, 1) := by decide +kernel
theorem dX6_count_54 : decode cX6_count 54 = .ok (.iinc 4 1, 3) := by decide +kernel
theorem dX6_count_57 : decode cX6_count 57 = .ok (.goto (-30), 3) := by decide +kernel
theorem dX6_count_60 : decode cX6_count 60 = .ok (.iload_n 3, 1) := by decide +kernel
theorem dX6_count_61 : decode cX6_count 61 = .ok (.ireturn, 1) := by decide +kernel
theorem dX6_isLone_0 : decode cX6_isLone 0 = .ok (.aload_n 0, 1) := by decide +kernel
theorem dX6_isLone_1 : decode cX6_isLone 1 = .ok (.getfield 10, 3) := by decide +kernel
theorem dX6_isLone_4 : decode cX6_isLone 4 = .ok (.iload_n 1, 1) := by decide +kernel
theorem dX6_isLone_5 : decode cX6_isLone 5 = .ok (.iload_n 2, 1) := by decide +kernel
theorem dX6_isLone_6 : decode cX6_isLone 6 = .ok (.invokevirtual 88, 3) := by decide +kernel
theorem dX6_isLone_9 : decode cX6_isLone 9 = .ok (.ifCond .ne 5, 3) := by decide +kernel
theorem dX6_isLone_12 : decode cX6_isLone 12 = .ok (.iconst (-1), 1) := by decide +kernel
theorem dX6_isLone_13 : decode cX6_isLone 13 = .ok (.ireturn, 1) := by decide +kernel
theorem dX6_isLone_14 : decode cX6_isLone 14 = .ok (.aload_n 0, 1) := by decide +kernel
theorem dX6_isLone_15 : decode cX6_isLone 15 = .ok (.getfield 10, 3) := by decide +kernel
theorem dX6_isLone_18 : decode cX6_isLone 18 = .ok (.iload_n 1, 1) := by decide +kernel
theorem dX6_isLone_19 : decode cX6_isLone 19 = .ok (.iload_n 2, 1) := by decide +kernel
theorem dX6_isLone_20 : decode cX6_isLone 20 = .ok (.invokevirtual 106, 3) := by decide +kernel
theorem dX6_isLone_23 : decode cX6_isLone 23 = .ok (.ifCond .eq 7, 3) := by decide +kernel
theorem dX6_isLone_26 : decode cX6_isLone 26 = .ok (.iconst 1, 1) := by decide +kernel
theorem dX6_isLone_27 : decode cX6_isLone 27 = .ok (.goto 4, 3) := by decide +kernel
theorem dX6_isLone_30 : decode cX6_isLone 30 = .ok (.iconst 0, 1) := by decide +kernel
theorem dX6_isLone_31 : decode cX6_isLone 31 = .ok (.ireturn, 1) := by decide +kernel
theorem dX6_merge_0 : decode cX6_merge 0 = .ok (.iload_n 1, 1) := by decide +kernel
theorem dX6_merge_1 : decode cX6_merge 1 = .ok (.iconst 1, 1) := by decide +kernel
theorem dX6_merge_2 : decode cX6_merge 2 = .ok (.bipush 20, 2) := by decide +kernel
theorem dX6_merge_4 : decode cX6_merge 4 = .ok (.invokestatic 55, 3) := by decide +kernel
theorem dX6_merge_7 : decode cX6_merge 7 = .ok (.ifCond .ne 6, 3) := by decide +kernel
theorem dX6_merge_10 : decode cX6_merge 10 = .ok (.bipush (-2), 2) := by decide +kernel
theorem dX6_merge_12 : decode cX6_merge 12 = .ok (.ireturn, 1) := by decide +kernel
theorem dX6_merge_13 : decode cX6_merge 13 = .ok (.iconst 0, 1) := by decide +kernel
theorem dX6_merge_14 : decode cX6_merge 14 = .ok (.istore_n 2, 1) := by decide +kernel
theorem dX6_merge_15 : decode cX6_merge 15 = .ok (.iconst 0, 1) := by decide +kernel
theorem dX6_merge_16 : decode cX6_merge 16 = .ok (.istore_n 3, 1) := by decide +kernel
theorem dX6_merge_17 : decode cX6_merge 17 = .ok (.iload_n 3, 1) := by decide +kernel
theorem dX6_merge_18 : decode cX6_merge 18 = .ok (.iload_n 1, 1) := by decide +kernel
theorem dX6_merge_19 : decode cX6_merge 19 = .ok (.if_icmp .ge 31, 3) := by decide +kernel
theorem dX6_merge_22 : decode cX6_merge 22 = .ok (.aload_n 0, 1) := by decide +kernel
theorem dX6_merge_23 : decode cX6_merge 23 = .ok (.getfield 10, 3) := by decide +kernel
theorem dX6_merge_26 : decode cX6_merge 26 = .ok (.invokevirtual 109, 3) := by decide +kernel
theorem dX6_merge_29 : decode cX6_merge 29 = .ok (.istore 4, 2) := by decide +kernel
theorem dX6_merge_31 : decode cX6_merge 31 = .ok (.iload 4, 2) := by decide +kernel
theorem dX6_merge_33 : decode cX6_merge 33 = .ok (.ifCond .ne 6, 3) := by decide +kernel
theorem dX6_merge_36 : decode cX6_merge 36 = .ok (.goto 14, 3) := by decide +kernel
theorem dX6_merge_39 : decode cX6_merge 39 = .ok (.iload_n 2, 1) := by decide +kernel
theorem dX6_merge_40 : decode cX6_merge 40 = .ok (.iload 4, 2) := by decide +kernel
theorem dX6_merge_42 : decode cX6_merge 42 = .ok (.iadd, 1) := by decide +kernel
theorem dX6_merge_43 : decode cX6_merge 43 = .ok (.istore_n 2, 1) := by decide +kernel
theorem dX6_merge_44 : decode cX6_merge 44 = .ok (.iinc 3 1, 3) := by decide +kernel
theorem dX6_merge_47 : decode cX6_merge 47 = .ok (.goto (-30), 3) := by decide +kernel
theorem dX6_merge_50 : decode cX6_merge 50 = .ok (.iload_n 2, 1) := by decide +kernel
theorem dX6_merge_51 : decode cX6_merge 51 = .ok (.ireturn, 1) := by decide +kernel
theorem dX6_run_0 : decode cX6_run 0 = .ok (.iload_n 1, 1) := by decide +kernel
theorem dX6_run_1 : decode cX6_run 1 = .ok (.invokestatic 113, 3) := by decide +kernel
theorem dX6_run_4 : decode cX6_run 4 = .ok (.ifCond .ne 6, 3) := by decide +kernel
theorem dX6_run_7 : decode cX6_run 7 = .ok (.bipush (-2), 2) := by decide +kernel
theorem dX6_run_9 : decode cX6_run 9 = .ok (.ireturn, 1) := by decide +kernel
theorem dX6_run_10 : decode cX6_run 10 = .ok (.aload_n 0, 1) := by decide +kernel
theorem dX6_run_11 : decode cX6_run 11 = .ok (.iload_n 1, 1) := by decide +kernel
theorem dX6_run_12 : decode cX6_run 12 = .ok (.invokevirtual 117, 3) := by decide +kernel
theorem dX6_run_15 : decode cX6_run 15 = .ok (.astore 4, 2) := by decide +kernel
theorem dX6_run_17 : decode cX6_run 17 = .ok (.aload 4, 2) := by decide +kernel
theorem dX6_run_19 : decode cX6_run 19 = .ok (.iload_n 2, 1) := by decide +kernel
theorem dX6_run_20 : decode cX6_run 20 = .ok (.invokevirtual 121, 3) := by decide +kernel
theorem dX6_run_23 : decode cX6_run 23 = .ok (.ifCond .ne 5, 3) := by decide +kernel
theorem dX6_run_26 : decode cX6_run 26 = .ok (.iconst (-1), 1) := by decide +kernel
theorem dX6_run_27 : decode cX6_run 27 = .ok (.ireturn, 1) := by decide +kernel
theorem dX6_run_28 : decode cX6_run 28 = .ok (.iload_n 3, 1) := by decide +kernel
theorem dX6_run_29 : decode cX6_run 29 = .ok (.tableswitch 63 0 3 #[31, 39, 47, 55], 31) := by decide +kernel
theorem dX6_run_60 : decode cX6_run 60 = .ok (.aload 4, 2) := by decide +kernel
theorem dX6_run_62 : decode cX6_run 62 = .ok (.getfield 123, 3) := by decide +kernel
theorem dX6_run_65 : decode cX6_run 65 = .ok (.iload_n 2, 1) := by decide +kernel
theorem dX6_run_66 : decode cX6_run 66 = .ok (.iaload, 1) := by decide +kernel
theorem dX6_run_67 : decode cX6_run 67 = .ok (.ireturn, 1) := by decide +kernel
theorem dX6_run_68 : decode cX6_run 68 = .ok (.aload 4, 2) := by decide +kernel
theorem dX6_run_70 : decode cX6_run 70 = .ok (.getfield 127, 3) := by decide +kernel
theorem dX6_run_73 : decode cX6_run 73 = .ok (.iload_n 2, 1) := by decide +kernel
theorem dX6_run_74 : decode cX6_run 74 = .ok (.iaload, 1) := by decide +kernel
theorem dX6_run_75 : decode cX6_run 75 = .ok (.ireturn, 1) := by decide +kernel
theorem dX6_run_76 : decode cX6_run 76 = .ok (.aload 4, 2) := by decide +kernel
theorem dX6_run_78 : decode cX6_run 78 = .ok (.getfield 130, 3) := by decide +kernel
theorem dX6_run_81 : decode cX6_run 81 = .ok (.iload_n 2, 1) := by decide +kernel
theorem dX6_run_82 : decode cX6_run 82 = .ok (.iaload, 1) := by decide +kernel
theorem dX6_run_83 : decode cX6_run 83 = .ok (.ireturn, 1) := by decide +kernel
theorem dX6_run_84 : decode cX6_run 84 = .ok (.aload 4, 2) := by decide +kernel
theorem dX6_run_86 : decode cX6_run 86 = .ok (.getfield 133, 3) := by decide +kernel
theorem dX6_run_89 : decode cX6_run 89 = .ok (.iload_n 2, 1) := by decide +kernel
theorem dX6_run_90 : decode cX6_run 90 = .ok (.iaload, 1) := by decide +kernel
theorem dX6_run_91 : decode cX6_run 91 = .ok (.ireturn, 1) := by decide +kernel
theorem dX6_run_92 : decode cX6_run 92 = .ok (.bipush (-2), 2) := by decide +kernel
theorem dX6_run_94 : decode cX6_run 94 = .ok (.ireturn, 1) := by decide +kernel
theorem dX6_runAt_0 : decode cX6_runAt 0 = .ok (.iload_n 1, 1) := by decide +kernel
theorem dX6_runAt_1 : decode cX6_runAt 1 = .ok (.invokestatic 113, 3) := by decide +kernel
theorem dX6_runAt_4 : decode cX6_runAt 4 = .ok (.ifCond .eq 7, 3) := by decide +kernel
theorem dX6_runAt_7 : decode cX6_runAt 7 = .ok (.iload_n 2, 1) := by decide +kernel
theorem dX6_runAt_8 : decode cX6_runAt 8 = .ok (.ifCond .ge 6, 3) := by decide +kernel
theorem dX6_runAt_11 : decode cX6_runAt 11 = .ok (.bipush (-2), 2) := by decide +kernel
theorem dX6_runAt_13 : decode cX6_runAt 13 = .ok (.ireturn, 1) := by decide +kernel
theorem dX6_runAt_14 : decode cX6_runAt 14 = .ok (.aload_n 0, 1) := by decide +kernel
theorem dX6_runAt_15 : decode cX6_runAt 15 = .ok (.iload_n 1, 1) := by decide +kernel
theorem dX6_runAt_16 : decode cX6_runAt 16 = .ok (.invokevirtual 117, 3) := by decide +kernel
theorem dX6_runAt_19 : decode cX6_runAt 19 = .ok (.astore_n 3, 1) := by decide +kernel
theorem dX6_runAt_20 : decode cX6_runAt 20 = .ok (.aload_n 3, 1) := by decide +kernel
theorem dX6_runAt_21 : decode cX6_runAt 21 = .ok (.iload_n 2, 1) := by decide +kernel
theorem dX6_runAt_22 : decode cX6_runAt 22 = .ok (.invokevirtual 121, 3) := by decide +kernel
theorem dX6_runAt_25 : decode cX6_runAt 25 = .ok (.ifCond .eq 12, 3) := by decide +kernel
theorem dX6_runAt_28 : decode cX6_runAt 28 = .ok (.aload_n 3, 1) := by decide +kernel
theorem dX6_runAt_29 : decode cX6_runAt 29 = .ok (.getfield 136, 3) := by decide +kernel
theorem dX6_runAt_32 : decode cX6_runAt 32 = .ok (.iload_n 2, 1) := by decide +kernel
theorem dX6_runAt_33 : decode cX6_runAt 33 = .ok (.iaload, 1) := by decide +kernel
theorem dX6_runAt_34 : decode cX6_runAt 34 = .ok (.goto 5, 3) := by decide +kernel
theorem dX6_runAt_37 : decode cX6_runAt 37 = .ok (.bipush (-4), 2) := by decide +kernel
theorem dX6_runAt_39 : decode cX6_runAt 39 = .ok (.ireturn, 1) := by decide +kernel
theorem dX6_moveRun_0 : decode cX6_moveRun 0 = .ok (.iload_n 1, 1) := by decide +kernel
theorem dX6_moveRun_1 : decode cX6_moveRun 1 = .ok (.invokestatic 113, 3) := by decide +kernel
theorem dX6_moveRun_4 : decode cX6_moveRun 4 = .ok (.ifCond .ne 6, 3) := by decide +kernel
theorem dX6_moveRun_7 : decode cX6_moveRun 7 = .ok (.bipush (-2), 2) := by decide +kernel
theorem dX6_moveRun_9 : decode cX6_moveRun 9 = .ok (.ireturn, 1) := by decide +kernel
theorem dX6_moveRun_10 : decode cX6_moveRun 10 = .ok (.aload_n 0, 1) := by decide +kernel
theorem dX6_moveRun_11 : decode cX6_moveRun 11 = .ok (.iload_n 1, 1) := by decide +kernel
theorem dX6_moveRun_12 : decode cX6_moveRun 12 = .ok (.invokevirtual 117, 3) := by decide +kernel
theorem dX6_moveRun_15 : decode cX6_moveRun 15 = .ok (.astore 4, 2) := by decide +kernel
theorem dX6_moveRun_17 : decode cX6_moveRun 17 = .ok (.aload 4, 2) := by decide +kernel
theorem dX6_moveRun_19 : decode cX6_moveRun 19 = .ok (.iload_n 2, 1) := by decide +kernel
theorem dX6_moveRun_20 : decode cX6_moveRun 20 = .ok (.invokevirtual 121, 3) := by decide +kernel
theorem dX6_moveRun_23 : decode cX6_moveRun 23 = .ok (.ifCond .eq 12, 3) := by decide +kernel
theorem dX6_moveRun_26 : decode cX6_moveRun 26 = .ok (.aload 4, 2) := by decide +kernel
theorem dX6_moveRun_28 : decode cX6_moveRun 28 = .ok (.iload_n 3, 1) := by decide +kernel
theorem dX6_moveRun_29 : decode cX6_moveRun 29 = .ok (.invokevirtual 121, 3) := by decide +kernel
theorem dX6_moveRun_32 : decode cX6_moveRun 32 = .ok (.ifCond .ne 6, 3) := by decide +kernel
theorem dX6_moveRun_35 : decode cX6_moveRun 35 = .ok (.bipush (-2), 2) := by decide +kernel
theorem dX6_moveRun_37 : decode cX6_moveRun 37 = .ok (.ireturn, 1) := by decide +kernel
theorem dX6_moveRun_38 : decode cX6_moveRun 38 = .ok (.aload 4, 2) := by decide +kernel
theorem dX6_moveRun_40 : decode cX6_moveRun 40 = .ok (.iload_n 2, 1) := by decide +kernel
theorem dX6_moveRun_41 : decode cX6_moveRun 41 = .ok (.iload_n 3, 1) := by decide +kernel
theorem dX6_moveRun_42 : decode cX6_moveRun 42 = .ok (.invokevirtual 139, 3) := by decide +kernel
theorem dX6_moveRun_45 : decode cX6_moveRun 45 = .ok (.aload 4, 2) := by decide +kernel
theorem dX6_moveRun_47 : decode cX6_moveRun 47 = .ok (.invokevirtual 142, 3) := by decide +kernel
theorem dX6_moveRun_50 : decode cX6_moveRun 50 = .ok (.ireturn, 1) := by decide +kernel
theorem dX6_firstOrder_0 : decode cX6_firstOrder 0 = .ok (.iload_n 1, 1) := by decide +kernel
theorem dX6_firstOrder_1 : decode cX6_firstOrder 1 = .ok (.invokestatic 113, 3) := by decide +kernel
theorem dX6_firstOrder_4 : decode cX6_firstOrder 4 = .ok (.ifCond .ne 6, 3) := by decide +kernel
theorem dX6_firstOrder_7 : decode cX6_firstOrder 7 = .ok (.bipush (-2), 2) := by decide +kernel
theorem dX6_firstOrder_9 : decode cX6_firstOrder 9 = .ok (.ireturn, 1) := by decide +kernel
theorem dX6_firstOrder_10 : decode cX6_firstOrder 10 = .ok (.aload_n 0, 1) := by decide +kernel
theorem dX6_firstOrder_11 : decode cX6_firstOrder 11 = .ok (.iload_n 1, 1) := by decide +kernel
theorem dX6_firstOrder_12 : decode cX6_firstOrder 12 = .ok (.invokevirtual 117, 3) := by decide +kernel
theorem dX6_firstOrder_15 : decode cX6_firstOrder 15 = .ok (.astore_n 2, 1) := by decide +kernel
theorem dX6_firstOrder_16 : decode cX6_firstOrder 16 = .ok (.aload_n 2, 1) := by decide +kernel
theorem dX6_firstOrder_17 : decode cX6_firstOrder 17 = .ok (.invokevirtual 145, 3) := by decide +kernel
theorem dX6_firstOrder_20 : decode cX6_firstOrder 20 = .ok (.aload_n 2, 1) := by decide +kernel
theorem dX6_firstOrder_21 : decode cX6_firstOrder 21 = .ok (.invokevirtual 142, 3) := by decide +kernel
theorem dX6_firstOrder_24 : decode cX6_firstOrder 24 = .ok (.ireturn, 1) := by decide +kernel
theorem dX6_shorten_0 : decode cX6_shorten 0 = .ok (.iload_n 1, 1) := by decide +kernel
theorem dX6_shorten_1 : decode cX6_shorten 1 = .ok (.invokestatic 113, 3) := by decide +kernel
theorem dX6_shorten_4 : decode cX6_shorten 4 = .ok (.ifCond .eq 14, 3) := by decide +kernel
theorem dX6_shorten_7 : decode cX6_shorten 7 = .ok (.aload_n 0, 1) := by decide +kernel
theorem dX6_shorten_8 : decode cX6_shorten 8 = .ok (.iload_n 1, 1) := by decide +kernel
theorem dX6_shorten_9 : decode cX6_shorten 9 = .ok (.invokevirtual 117, 3) := by decide +kernel
theorem dX6_shorten_12 : decode cX6_shorten 12 = .ok (.invokevirtual 148, 3) := by decide +kernel
theorem dX6_shorten_15 : decode cX6_shorten 15 = .ok (.goto 5, 3) := by decide +kernel
theorem dX6_shorten_18 : decode cX6_shorten 18 = .ok (.bipush (-2), 2) := by decide +kernel
theorem dX6_shorten_20 : decode cX6_shorten 20 = .ok (.ireturn, 1) := by decide +kernel
theorem dX6_setThread_0 : decode cX6_setThread 0 = .ok (.iload_n 1, 1) := by decide +kernel
theorem dX6_setThread_1 : decode cX6_setThread 1 = .ok (.iconst 0, 1) := by decide +kernel
theorem dX6_setThread_2 : decode cX6_setThread 2 = .ok (.sipush 1000, 3) := by decide +kernel
theorem dX6_setThread_5 : decode cX6_setThread 5 = .ok (.invokestatic 55, 3) := by decide +kernel
theorem dX6_setThread_8 : decode cX6_setThread 8 = .ok (.ifCond .eq 14, 3) := by decide +kernel
theorem dX6_setThread_11 : decode cX6_setThread 11 = .ok (.iload_n 2, 1) := by decide +kernel
theorem dX6_setThread_12 : decode cX6_setThread 12 = .ok (.iconst 0, 1) := by decide +kernel
theorem dX6_setThread_13 : decode cX6_setThread 13 = .ok (.sipush 200, 3) := by decide +kernel
theorem dX6_setThread_16 : decode cX6_setThread 16 = .ok (.invokestatic 55, 3) := by decide +kernel
theorem dX6_setThread_19 : decode cX6_setThread 19 = .ok (.ifCond .ne 6, 3) := by decide +kernel
theorem dX6_setThread_22 : decode cX6_setThread 22 = .ok (.bipush (-2), 2) := by decide +kernel
theorem dX6_setThread_24 : decode cX6_setThread 24 = .ok (.ireturn, 1) := by decide +kernel
theorem dX6_setThread_25 : decode cX6_setThread 25 = .ok (.sipush 1000, 3) := by decide +kernel
theorem dX6_setThread_28 : decode cX6_setThread 28 = .ok (.aload_n 0, 1) := by decide +kernel
theorem dX6_setThread_29 : decode cX6_setThread 29 = .ok (.getfield 19, 3) := by decide +kernel
theorem dX6_setThread_32 : decode cX6_setThread 32 = .ok (.getfield 151, 3) := by decide +kernel
theorem dX6_setThread_35 : decode cX6_setThread 35 = .ok (.imul, 1) := by decide +kernel
theorem dX6_setThread_36 : decode cX6_setThread 36 = .ok (.aload_n 0, 1) := by decide +kernel
theorem dX6_setThread_37 : decode cX6_setThread 37 = .ok (.getfield 19, 3) := by decide +kernel
theorem dX6_setThread_40 : decode cX6_setThread 40 = .ok (.getfield 154, 3) := by decide +kernel
theorem dX6_setThread_43 : decode cX6_setThread 43 = .ok (.iadd, 1) := by decide +kernel
theorem dX6_setThread_44 : decode cX6_setThread 44 = .ok (.istore_n 3, 1) := by decide +kernel
theorem dX6_setThread_45 : decode cX6_setThread 45 = .ok (.aload_n 0, 1) := by decide +kernel
theorem dX6_setThread_46 : decode cX6_setThread 46 = .ok (.getfield 19, 3) := by decide +kernel
theorem dX6_setThread_49 : decode cX6_setThread 49 = .ok (.iload_n 1, 1) := by decide +kernel
theorem dX6_setThread_50 : decode cX6_setThread 50 = .ok (.putfield 154, 3) := by decide +kernel
theorem dX6_setThread_53 : decode cX6_setThread 53 = .ok (.aload_n 0, 1) := by decide +kernel
theorem dX6_setThread_54 : decode cX6_setThread 54 = .ok (.getfield 19, 3) := by decide +kernel
theorem dX6_setThread_57 : decode cX6_setThread 57 = .ok (.iload_n 2, 1) := by decide +kernel
theorem dX6_setThread_58 : decode cX6_setThread 58 = .ok (.putfield 151, 3) := by decide +kernel
theorem dX6_setThread_61 : decode cX6_setThread 61 = .ok (.iload_n 3, 1) := by decide +kernel
theorem dX6_setThread_62 : decode cX6_setThread 62 = .ok (.ireturn, 1) := by decide +kernel
theorem dX6_setBack_0 : decode cX6_setBack 0 = .ok (.aload_n 0, 1) := by decide +kernel
theorem dX6_setBack_1 : decode cX6_setBack 1 = .ok (.getfield 37, 3) := by decide +kernel
theorem dX6_setBack_4 : decode cX6_setBack 4 = .ok (.iload_n 1, 1) := by decide +kernel
theorem dX6_setBack_5 : decode cX6_setBack 5 = .ok (.iload_n 2, 1) := by decide +kernel
theorem dX6_setBack_6 : decode cX6_setBack 6 = .ok (.iload_n 3, 1) := by decide +kernel
theorem dX6_setBack_7 : decode cX6_setBack 7 = .ok (.invokevirtual 157, 3) := by decide +kernel
theorem dX6_setBack_10 : decode cX6_setBack 10 = .ok (.ifCond .eq 18, 3) := by decide +kernel
theorem dX6_setBack_13 : decode cX6_setBack 13 = .ok (.aload_n 0, 1) := by decide +kernel
theorem dX6_setBack_14 : decode cX6_setBack 14 = .ok (.getfield 37, 3) := by decide +kernel
theorem dX6_setBack_17 : decode cX6_setBack 17 = .ok (.iload_n 1, 1) := by decide +kernel
theorem dX6_setBack_18 : decode cX6_setBack 18 = .ok (.iload_n 2, 1) := by decide +kernel
theorem dX6_setBack_19 : decode cX6_setBack 19 = .ok (.iload_n 3, 1) := by decide +kernel
theorem dX6_setBack_20 : decode cX6_setBack 20 = .ok (.iload 4, 2) := by decide +kernel
theorem dX6_setBack_22 : decode cX6_setBack 22 = .ok (.invokevirtual 161, 3) := by decide +kernel
theorem dX6_setBack_25 : decode cX6_setBack 25 = .ok (.goto 4, 3) := by decide +kernel
theorem dX6_setBack_28 : decode cX6_setBack 28 = .ok (.iconst (-1), 1) := by decide +kernel
theorem dX6_setBack_29 : decode cX6_setBack 29 = .ok (.ireturn, 1) := by decide +kernel
theorem dX6_back_0 : decode cX6_back 0 = .ok (.aload_n 0, 1) := by decide +kernel
theorem dX6_back_1 : decode cX6_back 1 = .ok (.getfield 37, 3) := by decide +kernel
theorem dX6_back_4 : decode cX6_back 4 = .ok (.iload_n 1, 1) := by decide +kernel
theorem dX6_back_5 : decode cX6_back 5 = .ok (.iload_n 2, 1) := by decide +kernel
theorem dX6_back_6 : decode cX6_back 6 = .ok (.iload_n 3, 1) := by decide +kernel
theorem dX6_back_7 : decode cX6_back 7 = .ok (.invokevirtual 157, 3) := by decide +kernel
theorem dX6_back_10 : decode cX6_back 10 = .ok (.ifCond .eq 16, 3) := by decide +kernel
theorem dX6_back_13 : decode cX6_back 13 = .ok (.aload_n 0, 1) := by decide +kernel
theorem dX6_back_14 : decode cX6_back 14 = .ok (.getfield 37, 3) := by decide +kernel
theorem dX6_back_17 : decode cX6_back 17 = .ok (.iload_n 1, 1) := by decide +kernel
theorem dX6_back_18 : decode cX6_back 18 = .ok (.iload_n 2, 1) := by decide +kernel
theorem dX6_back_19 : decode cX6_back 19 = .ok (.iload_n 3, 1) := by decide +kernel
theorem dX6_back_20 : decode cX6_back 20 = .ok (.invokevirtual 164, 3) := by decide +kernel
theorem dX6_back_23 : decode cX6_back 23 = .ok (.goto 4, 3) := by decide +kernel
theorem dX6_back_26 : decode cX6_back 26 = .ok (.iconst (-1), 1) := by decide +kernel
theorem dX6_back_27 : decode cX6_back 27 = .ok (.ireturn, 1) := by decide +kernel
theorem dX6_outline_0 : decode cX6_outline 0 = .ok (.iload_n 1, 1) := by decide +kernel
theorem dX6_outline_1 : decode cX6_outline 1 = .ok (.invokestatic 113, 3) := by decide +kernel
theorem dX6_outline_4 : decode cX6_outline 4 = .ok (.ifCond .eq 14, 3) := by decide +kernel
theorem dX6_outline_7 : decode cX6_outline 7 = .ok (.aload_n 0, 1) := by decide +kernel
theorem dX6_outline_8 : decode cX6_outline 8 = .ok (.getfield 37, 3) := by decide +kernel
theorem dX6_outline_11 : decode cX6_outline 11 = .ok (.iload_n 1, 1) := by decide +kernel
theorem dX6_outline_12 : decode cX6_outline 12 = .ok (.invokevirtual 168, 3) := by decide +kernel
theorem dX6_outline_15 : decode cX6_outline 15 = .ok (.goto 5, 3) := by decide +kernel
theorem dX6_outline_18 : decode cX6_outline 18 = .ok (.bipush (-2), 2) := by decide +kernel
theorem dX6_outline_20 : decode cX6_outline 20 = .ok (.ireturn, 1) := by decide +kernel
theorem dX6_clearBack_0 : decode cX6_clearBack 0 = .ok (.aload_n 0, 1) := by decide +kernel
theorem dX6_clearBack_1 : decode cX6_clearBack 1 = .ok (.getfield 37, 3) := by decide +kernel
theorem dX6_clearBack_4 : decode cX6_clearBack 4 = .ok (.invokevirtual 172, 3) := by decide +kernel
theorem dX6_clearBack_7 : decode cX6_clearBack 7 = .ok (.istore_n 1, 1) := by decide +kernel
theorem dX6_clearBack_8 : decode cX6_clearBack 8 = .ok (.aload_n 0, 1) := by decide +kernel
theorem dX6_clearBack_9 : decode cX6_clearBack 9 = .ok (.getfield 37, 3) := by decide +kernel
theorem dX6_clearBack_12 : decode cX6_clearBack 12 = .ok (.invokevirtual 63, 3) := by decide +kernel
theorem dX6_clearBack_15 : decode cX6_clearBack 15 = .ok (.iload_n 1, 1) := by decide +kernel
theorem dX6_clearBack_16 : decode cX6_clearBack 16 = .ok (.ireturn, 1) := by decide +kernel
theorem dX6_backs_0 : decode cX6_backs 0 = .ok (.iload_n 1, 1) := by decide +kernel
theorem dX6_backs_1 : decode cX6_backs 1 = .ok (.tableswitch 96 0 4 #[35, 43, 51, 59, 88], 35) := by decide +kernel
theorem dX6_backs_36 : decode cX6_backs 36 = .ok (.aload_n 0, 1) := by decide +kernel
theorem dX6_backs_37 : decode cX6_backs 37 = .ok (.getfield 37, 3) := by decide +kernel
theorem dX6_backs_40 : decode cX6_backs 40 = .ok (.invokevirtual 172, 3) := by decide +kernel
theorem dX6_backs_43 : decode cX6_backs 43 = .ok (.ireturn, 1) := by decide +kernel
theorem dX6_backs_44 : decode cX6_backs 44 = .ok (.aload_n 0, 1) := by decide +kernel
theorem dX6_backs_45 : decode cX6_backs 45 = .ok (.getfield 37, 3) := by decide +kernel
theorem dX6_backs_48 : decode cX6_backs 48 = .ok (.invokevirtual 175, 3) := by decide +kernel
theorem dX6_backs_51 : decode cX6_backs 51 = .ok (.ireturn, 1) := by decide +kernel
theorem dX6_backs_52 : decode cX6_backs 52 = .ok (.aload_n 0, 1) := by decide +kernel
theorem dX6_backs_53 : decode cX6_backs 53 = .ok (.getfield 37, 3) := by decide +kernel
theorem dX6_backs_56 : decode cX6_backs 56 = .ok (.invokevirtual 178, 3) := by decide +kernel
theorem dX6_backs_59 : decode cX6_backs 59 = .ok (.ireturn, 1) := by decide +kernel
theorem dX6_backs_60 : decode cX6_backs 60 = .ok (.bipush 20, 2) := by decide +kernel
theorem dX6_backs_62 : decode cX6_backs 62 = .ok (.aload_n 0, 1) := by decide +kernel
theorem dX6_backs_63 : decode cX6_backs 63 = .ok (.getfield 37, 3) := by decide +kernel
theorem dX6_backs_66 : decode cX6_backs 66 = .ok (.invokevirtual 172, 3) := by decide +kernel
theorem dX6_backs_69 : decode cX6_backs 69 = .ok (.imul, 1) := by decide +kernel
theorem dX6_backs_70 : decode cX6_backs 70 = .ok (.iconst 2, 1) := by decide +kernel
theorem dX6_backs_71 : decode cX6_backs 71 = .ok (.aload_n 0, 1) := by decide +kernel
theorem dX6_backs_72 : decode cX6_backs 72 = .ok (.getfield 19, 3) := by decide +kernel
theorem dX6_backs_75 : decode cX6_backs 75 = .ok (.getfield 151, 3) := by decide +kernel
theorem dX6_backs_78 : decode cX6_backs 78 = .ok (.imul, 1) := by decide +kernel
theorem dX6_backs_79 : decode cX6_backs 79 = .ok (.aload_n 0, 1) := by decide +kernel
theorem dX6_backs_80 : decode cX6_backs 80 = .ok (.getfield 37, 3) := by decide +kernel
theorem dX6_backs_83 : decode cX6_backs 83 = .ok (.invokevirtual 178, 3) := by decide +kernel
theorem dX6_backs_86 : decode cX6_backs 86 = .ok (.imul, 1) := by decide +kernel
theorem dX6_backs_87 : decode cX6_backs 87 = .ok (.iadd, 1) := by decide +kernel
theorem dX6_backs_88 : decode cX6_backs 88 = .ok (.ireturn, 1) := by decide +kernel
theorem dX6_backs_89 : decode cX6_backs 89 = .ok (.aload_n 0, 1) := by decide +kernel
theorem dX6_backs_90 : decode cX6_backs 90 = .ok (.getfield 37, 3) := by decide +kernel
theorem dX6_backs_93 : decode cX6_backs 93 = .ok (.invokevirtual 181, 3) := by decide +kernel
theorem dX6_backs_96 : decode cX6_backs 96 = .ok (.ireturn, 1) := by decide +kernel
theorem dX6_backs_97 : decode cX6_backs 97 = .ok (.bipush (-2), 2) := by decide +kernel
theorem dX6_backs_99 : decode cX6_backs 99 = .ok (.ireturn, 1) := by decide +kernel
theorem dX6_setPages_0 : decode cX6_setPages 0 = .ok (.iload_n 1, 1) := by decide +kernel
theorem dX6_setPages_1 : decode cX6_setPages 1 = .ok (.iconst 4, 1) := by decide +kernel
theorem dX6_setPages_2 : decode cX6_setPages 2 = .ok (.bipush 24, 2) := by decide +kernel
theorem dX6_setPages_4 : decode cX6_setPages 4 = .ok (.invokestatic 55, 3) := by decide +kernel
theorem dX6_setPages_7 : decode cX6_setPages 7 = .ok (.ifCond .eq 22, 3) := by decide +kernel
theorem dX6_setPages_10 : decode cX6_setPages 10 = .ok (.iload_n 2, 1) := by decide +kernel
theorem dX6_setPages_11 : decode cX6_setPages 11 = .ok (.iconst 4, 1) := by decide +kernel
theorem dX6_setPages_12 : decode cX6_setPages 12 = .ok (.bipush 24, 2) := by decide +kernel
theorem dX6_setPages_14 : decode cX6_setPages 14 = .ok (.invokestatic 55, 3) := by decide +kernel
theorem dX6_setPages_17 : decode cX6_setPages 17 = .ok (.ifCond .eq 12, 3) := by decide +kernel
theorem dX6_setPages_20 : decode cX6_setPages 20 = .ok (.iload_n 3, 1) := by decide +kernel
theorem dX6_setPages_21 : decode cX6_setPages 21 = .ok (.iconst 0, 1) := by decide +kernel
theorem dX6_setPages_22 : decode cX6_setPages 22 = .ok (.iconst 3, 1) := by decide +kernel
theorem dX6_setPages_23 : decode cX6_setPages 23 = .ok (.invokestatic 55, 3) := by decide +kernel
theorem dX6_setPages_26 : decode cX6_setPages 26 = .ok (.ifCond .ne 6, 3) := by decide +kernel
theorem dX6_setPages_29 : decode cX6_setPages 29 = .ok (.bipush (-2), 2) := by decide +kernel
theorem dX6_setPages_31 : decode cX6_setPages 31 = .ok (.ireturn, 1) := by decide +kernel
theorem dX6_setPages_32 : decode cX6_setPages 32 = .ok (.aload_n 0, 1) := by decide +kernel
theorem dX6_setPages_33 : decode cX6_setPages 33 = .ok (.getfield 44, 3) := by decide +kernel
theorem dX6_setPages_36 : decode cX6_setPages 36 = .ok (.iload_n 1, 1) := by decide +kernel
theorem dX6_setPages_37 : decode cX6_setPages 37 = .ok (.putfield 184, 3) := by decide +kernel
theorem dX6_setPages_40 : decode cX6_setPages 40 = .ok (.aload_n 0, 1) := by decide +kernel
theorem dX6_setPages_41 : decode cX6_setPages 41 = .ok (.getfield 44, 3) := by decide +kernel
theorem dX6_setPages_44 : decode cX6_setPages 44 = .ok (.iload_n 2, 1) := by decide +kernel
theorem dX6_setPages_45 : decode cX6_setPages 45 = .ok (.putfield 187, 3) := by decide +kernel
theorem dX6_setPages_48 : decode cX6_setPages 48 = .ok (.aload_n 0, 1) := by decide +kernel
theorem dX6_setPages_49 : decode cX6_setPages 49 = .ok (.getfield 44, 3) := by decide +kernel
theorem dX6_setPages_52 : decode cX6_setPages 52 = .ok (.iload_n 3, 1) := by decide +kernel
theorem dX6_setPages_53 : decode cX6_setPages 53 = .ok (.putfield 190, 3) := by decide +kernel
theorem dX6_setPages_56 : decode cX6_setPages 56 = .ok (.aload_n 0, 1) := by decide +kernel
theorem dX6_setPages_57 : decode cX6_setPages 57 = .ok (.getfield 44, 3) := by decide +kernel
theorem dX6_setPages_60 : decode cX6_setPages 60 = .ok (.invokevirtual 193, 3) := by decide +kernel
theorem dX6_setPages_63 : decode cX6_setPages 63 = .ok (.ireturn, 1) := by decide +kernel
theorem dX6_page_0 : decode cX6_page 0 = .ok (.aload_n 0, 1) := by decide +kernel
theorem dX6_page_1 : decode cX6_page 1 = .ok (.getfield 44, 3) := by decide +kernel
theorem dX6_page_4 : decode cX6_page 4 = .ok (.iload_n 1, 1) := by decide +kernel
theorem dX6_page_5 : decode cX6_page 5 = .ok (.invokevirtual 196, 3) := by decide +kernel
theorem dX6_page_8 : decode cX6_page 8 = .ok (.ifCond .ne 5, 3) := by decide +kernel
theorem dX6_page_11 : decode cX6_page 11 = .ok (.iconst (-1), 1) := by decide +kernel
theorem dX6_page_12 : decode cX6_page 12 = .ok (.ireturn, 1) := by decide +kernel
theorem dX6_page_13 : decode cX6_page 13 = .ok (.iload_n 2, 1) := by decide +kernel
theorem dX6_page_14 : decode cX6_page 14 = .ok (.tableswitch 100 0 5 #[38, 47, 56, 65, 74, 87], 38) := by decide +kernel
theorem dX6_page_52 : decode cX6_page 52 = .ok (.aload_n 0, 1) := by decide +kernel
theorem dX6_page_53 : decode cX6_page 53 = .ok (.getfield 44, 3) := by decide +kernel
theorem dX6_page_56 : decode cX6_page 56 = .ok (.iload_n 1, 1) := by decide +kernel
theorem dX6_page_57 : decode cX6_page 57 = .ok (.invokevirtual 197, 3) := by decide +kernel
theorem dX6_page_60 : decode cX6_page 60 = .ok (.ireturn, 1) := by decide +kernel
theorem dX6_page_61 : decode cX6_page 61 = .ok (.aload_n 0, 1) := by decide +kernel
theorem dX6_page_62 : decode cX6_page 62 = .ok (.getfield 44, 3) := by decide +kernel
theorem dX6_page_65 : decode cX6_page 65 = .ok (.iload_n 1, 1) := by decide +kernel
theorem dX6_page_66 : decode cX6_page 66 = .ok (.invokevirtual 200, 3) := by decide +kernel
theorem dX6_page_69 : decode cX6_page 69 = .ok (.ireturn, 1) := by decide +kernel
theorem dX6_page_70 : decode cX6_page 70 = .ok (.aload_n 0, 1) := by decide +kernel
theorem dX6_page_71 : decode cX6_page 71 = .ok (.getfield 44, 3) := by decide +kernel
theorem dX6_page_74 : decode cX6_page 74 = .ok (.iload_n 1, 1) := by decide +kernel
theorem dX6_page_75 : decode cX6_page 75 = .ok (.invokevirtual 203, 3) := by decide +kernel
theorem dX6_page_78 : decode cX6_page 78 = .ok (.ireturn, 1) := by decide +kernel
theorem dX6_page_79 : decode cX6_page 79 = .ok (.aload_n 0, 1) := by decide +kernel
theorem dX6_page_80 : decode cX6_page 80 = .ok (.getfield 44, 3) := by decide +kernel
theorem dX6_page_83 : decode cX6_page 83 = .ok (.iload_n 1, 1) := by decide +kernel
theorem dX6_page_84 : decode cX6_page 84 = .ok (.invokevirtual 206, 3) := by decide +kernel
theorem dX6_page_87 : decode cX6_page 87 = .ok (.ireturn, 1) := by decide +kernel
theorem dX6_page_88 : decode cX6_page 88 = .ok (.aload_n 0, 1) := by decide +kernel
theorem dX6_page_89 : decode cX6_page 89 = .ok (.getfield 44, 3) := by decide +kernel
theorem dX6_page_92 : decode cX6_page 92 = .ok (.iload_n 1, 1) := by decide +kernel
theorem dX6_page_93 : decode cX6_page 93 = .ok (.iconst 1, 1) := by decide +kernel
theorem dX6_page_94 : decode cX6_page 94 = .ok (.iconst 0, 1) := by decide +kernel
theorem dX6_page_95 : decode cX6_page 95 = .ok (.bipush 6, 2) := by decide +kernel
theorem dX6_page_97 : decode cX6_page 97 = .ok (.invokevirtual 209, 3) := by decide +kernel
theorem dX6_page_100 : decode cX6_page 100 = .ok (.ireturn, 1) := by decide +kernel
theorem dX6_page_101 : decode cX6_page 101 = .ok (.aload_n 0, 1) := by decide +kernel
theorem dX6_page_102 : decode cX6_page 102 = .ok (.getfield 44, 3) := by decide +kernel
theorem dX6_page_105 : decode cX6_page 105 = .ok (.iload_n 1, 1) := by decide +kernel
theorem dX6_page_106 : decode cX6_page 106 = .ok (.iconst 0, 1) := by decide +kernel
theorem dX6_page_107 : decode cX6_page 107 = .ok (.iconst 1, 1) := by decide +kernel
theorem dX6_page_108 : decode cX6_page 108 = .ok (.bipush 6, 2) := by decide +kernel
theorem dX6_page_110 : decode cX6_page 110 = .ok (.invokevirtual 209, 3) := by decide +kernel
theorem dX6_page_113 : decode cX6_page 113 = .ok (.ireturn, 1) := by decide +kernel
theorem dX6_page_114 : decode cX6_page 114 = .ok (.bipush (-2), 2) := by decide +kernel
theorem dX6_page_116 : decode cX6_page 116 = .ok (.ireturn, 1) := by decide +kernel
theorem dX6_onPage_0 : decode cX6_onPage 0 = .ok (.aload_n 0, 1) := by decide +kernel
theorem dX6_onPage_1 : decode cX6_onPage 1 = .ok (.getfield 44, 3) := by decide +kernel
theorem dX6_onPage_4 : decode cX6_onPage 4 = .ok (.iload_n 1, 1) := by decide +kernel
theorem dX6_onPage_5 : decode cX6_onPage 5 = .ok (.invokevirtual 196, 3) := by decide +kernel
theorem dX6_onPage_8 : decode cX6_onPage 8 = .ok (.ifCond .ne 5, 3) := by decide +kernel
theorem dX6_onPage_11 : decode cX6_onPage 11 = .ok (.iconst (-1), 1) := by decide +kernel
theorem dX6_onPage_12 : decode cX6_onPage 12 = .ok (.ireturn, 1) := by decide +kernel
theorem dX6_onPage_13 : decode cX6_onPage 13 = .ok (.iload_n 2, 1) := by decide +kernel
theorem dX6_onPage_14 : decode cX6_onPage 14 = .ok (.iconst 0, 1) := by decide +kernel
theorem dX6_onPage_15 : decode cX6_onPage 15 = .ok (.bipush 6, 2) := by decide +kernel
theorem dX6_onPage_17 : decode cX6_onPage 17 = .ok (.invokestatic 55, 3) := by decide +kernel
theorem dX6_onPage_20 : decode cX6_onPage 20 = .ok (.ifCond .eq 12, 3) := by decide +kernel
theorem dX6_onPage_23 : decode cX6_onPage 23 = .ok (.iload_n 3, 1) := by decide +kernel
theorem dX6_onPage_24 : decode cX6_onPage 24 = .ok (.iconst 0, 1) := by decide +kernel
theorem dX6_onPage_25 : decode cX6_onPage 25 = .ok (.iconst 2, 1) := by decide +kernel
theorem dX6_onPage_26 : decode cX6_onPage 26 = .ok (.invokestatic 55, 3) := by decide +kernel
theorem dX6_onPage_29 : decode cX6_onPage 29 = .ok (.ifCond .ne 6, 3) := by decide +kernel
theorem dX6_onPage_32 : decode cX6_onPage 32 = .ok (.bipush (-2), 2) := by decide +kernel
theorem dX6_onPage_34 : decode cX6_onPage 34 = .ok (.ireturn, 1) := by decide +kernel
theorem dX6_onPage_35 : decode cX6_onPage 35 = .ok (.iconst 0, 1) := by decide +kernel
theorem dX6_onPage_36 : decode cX6_onPage 36 = .ok (.istore 4, 2) := by decide +kernel
theorem dX6_onPage_38 : decode cX6_onPage 38 = .ok (.iconst 1, 1) := by decide +kernel
theorem dX6_onPage_39 : decode cX6_onPage 39 = .ok (.istore 5, 2) := by decide +kernel
theorem dX6_onPage_41 : decode cX6_onPage 41 = .ok (.iload 5, 2) := by decide +kernel
theorem dX6_onPage_43 : decode cX6_onPage 43 = .ok (.bipush 6, 2) := by decide +kernel
theorem dX6_onPage_45 : decode cX6_onPage 45 = .ok (.if_icmp .gt 32, 3) := by decide +kernel
theorem dX6_onPage_48 : decode cX6_onPage 48 = .ok (.iload_n 2, 1) := by decide +kernel
theorem dX6_onPage_49 : decode cX6_onPage 49 = .ok (.ifCond .eq 9, 3) := by decide +kernel
theorem dX6_onPage_52 : decode cX6_onPage 52 = .ok (.iload_n 2, 1) := by decide +kernel
theorem dX6_onPage_53 : decode cX6_onPage 53 = .ok (.iload 5, 2) := by decide +kernel
theorem dX6_onPage_55 : decode cX6_onPage 55 = .ok (.if_icmp .ne 16, 3) := by decide +kernel
theorem dX6_onPage_58 : decode cX6_onPage 58 = .ok (.iload 4, 2) := by decide +kernel
theorem dX6_onPage_60 : decode cX6_onPage 60 = .ok (.aload_n 0, 1) := by decide +kernel
theorem dX6_onPage_61 : decode cX6_onPage 61 = .ok (.iload_n 1, 1) := by decide +kernel
theorem dX6_onPage_62 : decode cX6_onPage 62 = .ok (.iload 5, 2) := by decide +kernel
theorem dX6_onPage_64 : decode cX6_onPage 64 = .ok (.iload_n 3, 1) := by decide +kernel
theorem dX6_onPage_65 : decode cX6_onPage 65 = .ok (.invokevirtual 213, 3) := by decide +kernel
theorem dX6_onPage_68 : decode cX6_onPage 68 = .ok (.iadd, 1) := by decide +kernel
theorem dX6_onPage_69 : decode cX6_onPage 69 = .ok (.istore 4, 2) := by decide +kernel
theorem dX6_onPage_71 : decode cX6_onPage 71 = .ok (.iinc 5 1, 3) := by decide +kernel
theorem dX6_onPage_74 : decode cX6_onPage 74 = .ok (.goto (-33), 3) := by decide +kernel
theorem dX6_onPage_77 : decode cX6_onPage 77 = .ok (.iload 4, 2) := by decide +kernel
theorem dX6_onPage_79 : decode cX6_onPage 79 = .ok (.ireturn, 1) := by decide +kernel
theorem dX6_pages_0 : decode cX6_pages 0 = .ok (.aload_n 0, 1) := by decide +kernel
theorem dX6_pages_1 : decode cX6_pages 1 = .ok (.getfield 44, 3) := by decide +kernel
theorem dX6_pages_4 : decode cX6_pages 4 = .ok (.invokevirtual 193, 3) := by decide +kernel
theorem dX6_pages_7 : decode cX6_pages 7 = .ok (.ireturn, 1) := by decide +kernel
theorem dX6_pageOf_0 : decode cX6_pageOf 0 = .ok (.aload_n 0, 1) := by decide +kernel
theorem dX6_pageOf_1 : decode cX6_pageOf 1 = .ok (.getfield 10, 3) := by decide +kernel
theorem dX6_pageOf_4 : decode cX6_pageOf 4 = .ok (.iload_n 1, 1) := by decide +kernel
theorem dX6_pageOf_5 : decode cX6_pageOf 5 = .ok (.iload_n 2, 1) := by decide +kernel
theorem dX6_pageOf_6 : decode cX6_pageOf 6 = .ok (.invokevirtual 88, 3) := by decide +kernel
theorem dX6_pageOf_9 : decode cX6_pageOf 9 = .ok (.ifCond .eq 15, 3) := by decide +kernel
theorem dX6_pageOf_12 : decode cX6_pageOf 12 = .ok (.aload_n 0, 1) := by decide +kernel
theorem dX6_pageOf_13 : decode cX6_pageOf 13 = .ok (.getfield 44, 3) := by decide +kernel
theorem dX6_pageOf_16 : decode cX6_pageOf 16 = .ok (.iload_n 1, 1) := by decide +kernel
theorem dX6_pageOf_17 : decode cX6_pageOf 17 = .ok (.iload_n 2, 1) := by decide +kernel
theorem dX6_pageOf_18 : decode cX6_pageOf 18 = .ok (.invokevirtual 216, 3) := by decide +kernel
theorem dX6_pageOf_21 : decode cX6_pageOf 21 = .ok (.goto 4, 3) := by decide +kernel
theorem dX6_pageOf_24 : decode cX6_pageOf 24 = .ok (.iconst (-1), 1) := by decide +kernel
theorem dX6_pageOf_25 : decode cX6_pageOf 25 = .ok (.ireturn, 1) := by decide +kernel
theorem dX6_isWithin_0 : decode cX6_isWithin 0 = .ok (.iload_n 0, 1) := by decide +kernel
theorem dX6_isWithin_1 : decode cX6_isWithin 1 = .ok (.iload_n 1, 1) := by decide +kernel
theorem dX6_isWithin_2 : decode cX6_isWithin 2 = .ok (.if_icmp .lt 12, 3) := by decide +kernel
theorem dX6_isWithin_5 : decode cX6_isWithin 5 = .ok (.iload_n 0, 1) := by decide +kernel
theorem dX6_isWithin_6 : decode cX6_isWithin 6 = .ok (.iload_n 2, 1) := by decide +kernel
theorem dX6_isWithin_7 : decode cX6_isWithin 7 = .ok (.if_icmp .gt 7, 3) := by decide +kernel
theorem dX6_isWithin_10 : decode cX6_isWithin 10 = .ok (.iconst 1, 1) := by decide +kernel
theorem dX6_isWithin_11 : decode cX6_isWithin 11 = .ok (.goto 4, 3) := by decide +kernel
theorem dX6_isWithin_14 : decode cX6_isWithin 14 = .ok (.iconst 0, 1) := by decide +kernel
theorem dX6_isWithin_15 : decode cX6_isWithin 15 = .ok (.ireturn, 1) := by decide +kernel
theorem dX6_isColor_0 : decode cX6_isColor 0 = .ok (.iload_n 0, 1) := by decide +kernel
theorem dX6_isColor_1 : decode cX6_isColor 1 = .ok (.iconst 1, 1) := by decide +kernel
theorem dX6_isColor_2 : decode cX6_isColor 2 = .ok (.bipush 6, 2) := by decide +kernel
theorem dX6_isColor_4 : decode cX6_isColor 4 = .ok (.invokestatic 55, 3) := by decide +kernel
theorem dX6_isColor_7 : decode cX6_isColor 7 = .ok (.ireturn, 1) := by decide +kernel
theorem dX6_runsOf_0 : decode cX6_runsOf 0 = .ok (.iload_n 1, 1) := by decide +kernel
theorem dX6_runsOf_1 : decode cX6_runsOf 1 = .ok (.invokestatic 113, 3) := by decide +kernel
theorem dX6_runsOf_4 : decode cX6_runsOf 4 = .ok (.ifCond .eq 9, 3) := by decide +kernel
theorem dX6_runsOf_7 : decode cX6_runsOf 7 = .ok (.iload_n 1, 1) := by decide +kernel
theorem dX6_runsOf_8 : decode cX6_runsOf 8 = .ok (.iconst 1, 1) := by decide +kernel
theorem dX6_runsOf_9 : decode cX6_runsOf 9 = .ok (.isub, 1) := by decide +kernel
theorem dX6_runsOf_10 : decode cX6_runsOf 10 = .ok (.goto 4, 3) := by decide +kernel
theorem dX6_runsOf_13 : decode cX6_runsOf 13 = .ok (.iconst 0, 1) := by decide +kernel
theorem dX6_runsOf_14 : decode cX6_runsOf 14 = .ok (.istore_n 2, 1) := by decide +kernel
theorem dX6_runsOf_15 : decode cX6_runsOf 15 = .ok (.aload_n 0, 1) := by decide +kernel
theorem dX6_runsOf_16 : decode cX6_runsOf 16 = .ok (.getfield 25, 3) := by decide +kernel
theorem dX6_runsOf_19 : decode cX6_runsOf 19 = .ok (.iload_n 2, 1) := by decide +kernel
theorem dX6_runsOf_20 : decode cX6_runsOf 20 = .ok (.aaload, 1) := by decide +kernel
theorem dX6_runsOf_21 : decode cX6_runsOf 21 = .ok (.astore_n 3, 1) := by decide +kernel
theorem dX6_runsOf_22 : decode cX6_runsOf 22 = .ok (.aload_n 0, 1) := by decide +kernel
theorem dX6_runsOf_23 : decode cX6_runsOf 23 = .ok (.getfield 10, 3) := by decide +kernel
theorem dX6_runsOf_26 : decode cX6_runsOf 26 = .ok (.getfield 219, 3) := by decide +kernel
theorem dX6_runsOf_29 : decode cX6_runsOf 29 = .ok (.iload_n 2, 1) := by decide +kernel
theorem dX6_runsOf_30 : decode cX6_runsOf 30 = .ok (.iconst 1, 1) := by decide +kernel
theorem dX6_runsOf_31 : decode cX6_runsOf 31 = .ok (.iadd, 1) := by decide +kernel
theorem dX6_runsOf_32 : decode cX6_runsOf 32 = .ok (.baload, 1) := by decide +kernel
theorem dX6_runsOf_33 : decode cX6_runsOf 33 = .ok (.ifCond .eq 23, 3) := by decide +kernel
theorem dX6_runsOf_36 : decode cX6_runsOf 36 = .ok (.aload_n 0, 1) := by decide +kernel
theorem dX6_runsOf_37 : decode cX6_runsOf 37 = .ok (.getfield 10, 3) := by decide +kernel
theorem dX6_runsOf_40 : decode cX6_runsOf 40 = .ok (.getfield 219, 3) := by decide +kernel
theorem dX6_runsOf_43 : decode cX6_runsOf 43 = .ok (.iload_n 2, 1) := by decide +kernel
theorem dX6_runsOf_44 : decode cX6_runsOf 44 = .ok (.iconst 1, 1) := by decide +kernel
theorem dX6_runsOf_45 : decode cX6_runsOf 45 = .ok (.iadd, 1) := by decide +kernel
theorem dX6_runsOf_46 : decode cX6_runsOf 46 = .ok (.iconst 0, 1) := by decide +kernel
theorem dX6_runsOf_47 : decode cX6_runsOf 47 = .ok (.bastore, 1) := by decide +kernel
theorem dX6_runsOf_48 : decode cX6_runsOf 48 = .ok (.aload_n 3, 1) := by decide +kernel
theorem dX6_runsOf_49 : decode cX6_runsOf 49 = .ok (.invokevirtual 223, 3) := by decide +kernel
theorem dX6_runsOf_52 : decode cX6_runsOf 52 = .ok (.aload_n 3, 1) := by decide +kernel
theorem dX6_runsOf_53 : decode cX6_runsOf 53 = .ok (.invokevirtual 145, 3) := by decide +kernel
theorem dX6_runsOf_56 : decode cX6_runsOf 56 = .ok (.aload_n 3, 1) := by decide +kernel
theorem dX6_runsOf_57 : decode cX6_runsOf 57 = .ok (.areturn, 1) := by decide +kernel
theorem dX6_countOfColor_0 : decode cX6_countOfColor 0 = .ok (.iload_n 2, 1) := by decide +kernel
theorem dX6_countOfColor_1 : decode cX6_countOfColor 1 = .ok (.tableswitch 80 0 4 #[35, 44, 53, 62, 71], 35) := by decide +kernel
theorem dX6_countOfColor_36 : decode cX6_countOfColor 36 = .ok (.aload_n 0, 1) := by decide +kernel
theorem dX6_countOfColor_37 : decode cX6_countOfColor 37 = .ok (.iload_n 1, 1) := by decide +kernel
theorem dX6_countOfColor_38 : decode cX6_countOfColor 38 = .ok (.invokevirtual 117, 3) := by decide +kernel
theorem dX6_countOfColor_41 : decode cX6_countOfColor 41 = .ok (.invokevirtual 226, 3) := by decide +kernel
theorem dX6_countOfColor_44 : decode cX6_countOfColor 44 = .ok (.ireturn, 1) := by decide +kernel
theorem dX6_countOfColor_45 : decode cX6_countOfColor 45 = .ok (.aload_n 0, 1) := by decide +kernel
theorem dX6_countOfColor_46 : decode cX6_countOfColor 46 = .ok (.getfield 10, 3) := by decide +kernel
theorem dX6_countOfColor_49 : decode cX6_countOfColor 49 = .ok (.iload_n 1, 1) := by decide +kernel
theorem dX6_countOfColor_50 : decode cX6_countOfColor 50 = .ok (.invokevirtual 229, 3) := by decide +kernel
theorem dX6_countOfColor_53 : decode cX6_countOfColor 53 = .ok (.ireturn, 1) := by decide +kernel
theorem dX6_countOfColor_54 : decode cX6_countOfColor 54 = .ok (.aload_n 0, 1) := by decide +kernel
theorem dX6_countOfColor_55 : decode cX6_countOfColor 55 = .ok (.iload_n 1, 1) := by decide +kernel
theorem dX6_countOfColor_56 : decode cX6_countOfColor 56 = .ok (.invokevirtual 117, 3) := by decide +kernel
theorem dX6_countOfColor_59 : decode cX6_countOfColor 59 = .ok (.getfield 232, 3) := by decide +kernel
theorem dX6_countOfColor_62 : decode cX6_countOfColor 62 = .ok (.ireturn, 1) := by decide +kernel
theorem dX6_countOfColor_63 : decode cX6_countOfColor 63 = .ok (.aload_n 0, 1) := by decide +kernel
theorem dX6_countOfColor_64 : decode cX6_countOfColor 64 = .ok (.iload_n 1, 1) := by decide +kernel
theorem dX6_countOfColor_65 : decode cX6_countOfColor 65 = .ok (.invokevirtual 117, 3) := by decide +kernel
theorem dX6_countOfColor_68 : decode cX6_countOfColor 68 = .ok (.invokevirtual 142, 3) := by decide +kernel
theorem dX6_countOfColor_71 : decode cX6_countOfColor 71 = .ok (.ireturn, 1) := by decide +kernel
theorem dX6_countOfColor_72 : decode cX6_countOfColor 72 = .ok (.aload_n 0, 1) := by decide +kernel
theorem dX6_countOfColor_73 : decode cX6_countOfColor 73 = .ok (.iload_n 1, 1) := by decide +kernel
theorem dX6_countOfColor_74 : decode cX6_countOfColor 74 = .ok (.invokevirtual 117, 3) := by decide +kernel
theorem dX6_countOfColor_77 : decode cX6_countOfColor 77 = .ok (.invokevirtual 235, 3) := by decide +kernel
theorem dX6_countOfColor_80 : decode cX6_countOfColor 80 = .ok (.ireturn, 1) := by decide +kernel
theorem dX6_countOfColor_81 : decode cX6_countOfColor 81 = .ok (.iconst 0, 1) := by decide +kernel
theorem dX6_countOfColor_82 : decode cX6_countOfColor 82 = .ok (.ireturn, 1) := by decide +kernel
theorem dX6_countOfColorOnPage_0 : decode cX6_countOfColorOnPage 0 = .ok (.aload_n 0, 1) := by decide +kernel
theorem dX6_countOfColorOnPage_1 : decode cX6_countOfColorOnPage 1 = .ok (.getfield 44, 3) := by decide +kernel
theorem dX6_countOfColorOnPage_4 : decode cX6_countOfColorOnPage 4 = .ok (.iload_n 1, 1) := by decide +kernel
theorem dX6_countOfColorOnPage_5 : decode cX6_countOfColorOnPage 5 = .ok (.iconst 1, 1) := by decide +kernel
theorem dX6_countOfColorOnPage_6 : decode cX6_countOfColorOnPage 6 = .ok (.iload_n 2, 1) := by decide +kernel
theorem dX6_countOfColorOnPage_7 : decode cX6_countOfColorOnPage 7 = .ok (.iload_n 2, 1) := by decide +kernel
theorem dX6_countOfColorOnPage_8 : decode cX6_countOfColorOnPage 8 = .ok (.invokevirtual 209, 3) := by decide +kernel
theorem dX6_countOfColorOnPage_11 : decode cX6_countOfColorOnPage 11 = .ok (.istore 4, 2) := by decide +kernel
theorem dX6_countOfColorOnPage_13 : decode cX6_countOfColorOnPage 13 = .ok (.iload_n 3, 1) := by decide +kernel
theorem dX6_countOfColorOnPage_14 : decode cX6_countOfColorOnPage 14 = .ok (.tableswitch 63 0 2 #[26, 29, 43], 26) := by decide +kernel
theorem dX6_countOfColorOnPage_40 : decode cX6_countOfColorOnPage 40 = .ok (.iload 4, 2) := by decide +kernel
theorem dX6_countOfColorOnPage_42 : decode cX6_countOfColorOnPage 42 = .ok (.ireturn, 1) := by decide +kernel
theorem dX6_countOfColorOnPage_43 : decode cX6_countOfColorOnPage 43 = .ok (.aload_n 0, 1) := by decide +kernel
theorem dX6_countOfColorOnPage_44 : decode cX6_countOfColorOnPage 44 = .ok (.iload_n 2, 1) := by decide +kernel
theorem dX6_countOfColorOnPage_45 : decode cX6_countOfColorOnPage 45 = .ok (.invokevirtual 117, 3) := by decide +kernel
theorem dX6_countOfColorOnPage_48 : decode cX6_countOfColorOnPage 48 = .ok (.aload_n 0, 1) := by decide +kernel
theorem dX6_countOfColorOnPage_49 : decode cX6_countOfColorOnPage 49 = .ok (.getfield 44, 3) := by decide +kernel
theorem dX6_countOfColorOnPage_52 : decode cX6_countOfColorOnPage 52 = .ok (.iload_n 1, 1) := by decide +kernel
theorem dX6_countOfColorOnPage_53 : decode cX6_countOfColorOnPage 53 = .ok (.invokevirtual 238, 3) := by decide +kernel
theorem dX6_countOfColorOnPage_56 : decode cX6_countOfColorOnPage 56 = .ok (.ireturn, 1) := by decide +kernel
theorem dX6_countOfColorOnPage_57 : decode cX6_countOfColorOnPage 57 = .ok (.bipush 48, 2) := by decide +kernel
theorem dX6_countOfColorOnPage_59 : decode cX6_countOfColorOnPage 59 = .ok (.iload 4, 2) := by decide +kernel
theorem dX6_countOfColorOnPage_61 : decode cX6_countOfColorOnPage 61 = .ok (.imul, 1) := by decide +kernel
theorem dX6_countOfColorOnPage_62 : decode cX6_countOfColorOnPage 62 = .ok (.aload_n 0, 1) := by decide +kernel
theorem dX6_countOfColorOnPage_63 : decode cX6_countOfColorOnPage 63 = .ok (.iload_n 2, 1) := by decide +kernel
theorem dX6_countOfColorOnPage_64 : decode cX6_countOfColorOnPage 64 = .ok (.invokevirtual 117, 3) := by decide +kernel
theorem dX6_countOfColorOnPage_67 : decode cX6_countOfColorOnPage 67 = .ok (.aload_n 0, 1) := by decide +kernel
theorem dX6_countOfColorOnPage_68 : decode cX6_countOfColorOnPage 68 = .ok (.getfield 44, 3) := by decide +kernel
theorem dX6_countOfColorOnPage_71 : decode cX6_countOfColorOnPage 71 = .ok (.iload_n 1, 1) := by decide +kernel
theorem dX6_countOfColorOnPage_72 : decode cX6_countOfColorOnPage 72 = .ok (.invokevirtual 242, 3) := by decide +kernel
theorem dX6_countOfColorOnPage_75 : decode cX6_countOfColorOnPage 75 = .ok (.iadd, 1) := by decide +kernel
theorem dX6_countOfColorOnPage_76 : decode cX6_countOfColorOnPage 76 = .ok (.ireturn, 1) := by decide +kernel
theorem dX6_countOfColorOnPage_77 : decode cX6_countOfColorOnPage 77 = .ok (.iconst 0, 1) := by decide +kernel
theorem dX6_countOfColorOnPage_78 : decode cX6_countOfColorOnPage 78 = .ok (.ireturn, 1) := by decide +kernel
theorem dX7_init_0 : decode cX7_init 0 = .ok (.aload_n 0, 1) := by decide +kernel
theorem dX7_init_1 : decode cX7_init 1 = .ok (.invokespecial 1, 3) := by decide +kernel
theorem dX7_init_4 : decode cX7_init 4 = .ok (.aload_n 0, 1) := by decide +kernel
theorem dX7_init_5 : decode cX7_init 5 = .ok (.bipush 60, 2) := by decide +kernel
theorem dX7_init_7 : decode cX7_init 7 = .ok (.putfield 7, 3) := by decide +kernel
theorem dX7_init_10 : decode cX7_init 10 = .ok (.aload_n 0, 1) := by decide +kernel
theorem dX7_init_11 : decode cX7_init 11 = .ok (.bipush 30, 2) := by decide +kernel
theorem dX7_init_13 : decode cX7_init 13 = .ok (.putfield 13, 3) := by decide +kernel
theorem dX7_init_16 : decode cX7_init 16 = .ok (.aload_n 0, 1) := by decide +kernel
theorem dX7_init_17 : decode cX7_init 17 = .ok (.bipush 8, 2) := by decide +kernel
theorem dX7_init_19 : decode cX7_init 19 = .ok (.putfield 16, 3) := by decide +kernel
theorem dX7_init_22 : decode cX7_init 22 = .ok (.aload_n 0, 1) := by decide +kernel
theorem dX7_init_23 : decode cX7_init 23 = .ok (.bipush 6, 2) := by decide +kernel
theorem dX7_init_25 : decode cX7_init 25 = .ok (.putfield 19, 3) := by decide +kernel
theorem dX7_init_28 : decode cX7_init 28 = .ok (.aload_n 0, 1) := by decide +kernel
theorem dX7_init_29 : decode cX7_init 29 = .ok (.iconst 1, 1) := by decide +kernel
theorem dX7_init_30 : decode cX7_init 30 = .ok (.putfield 22, 3) := by decide +kernel
theorem dX7_init_33 : decode cX7_init 33 = .ok (.aload_n 0, 1) := by decide +kernel
theorem dX7_init_34 : decode cX7_init 34 = .ok (.sipush 576, 3) := by decide +kernel
theorem dX7_init_37 : decode cX7_init 37 = .ok (.newarray .int, 2) := by decide +kernel
theorem dX7_init_39 : decode cX7_init 39 = .ok (.putfield 25, 3) := by decide +kernel
theorem dX7_init_42 : decode cX7_init 42 = .ok (.aload_n 0, 1) := by decide +kernel
theorem dX7_init_43 : decode cX7_init 43 = .ok (.sipush 576, 3) := by decide +kernel
theorem dX7_init_46 : decode cX7_init 46 = .ok (.newarray .int, 2) := by decide +kernel
theorem dX7_init_48 : decode cX7_init 48 = .ok (.putfield 29, 3) := by decide +kernel
theorem dX7_init_51 : decode cX7_init 51 = .ok (.aload_n 0, 1) := by decide +kernel
theorem dX7_init_52 : decode cX7_init 52 = .ok (.sipush 625, 3) := by decide +kernel
theorem dX7_init_55 : decode cX7_init 55 = .ok (.newarray .boolean, 2) := by decide +kernel
theorem dX7_init_57 : decode cX7_init 57 = .ok (.putfield 32, 3) := by decide +kernel
theorem dX7_init_60 : decode cX7_init 60 = .ok (.aload_n 0, 1) := by decide +kernel
theorem dX7_init_61 : decode cX7_init 61 = .ok (.sipush 625, 3) := by decide +kernel
theorem dX7_init_64 : decode cX7_init 64 = .ok (.newarray .boolean, 2) := by decide +kernel
theorem dX7_init_66 : decode cX7_init 66 = .ok (.putfield 36, 3) := by decide +kernel
theorem dX7_init_69 : decode cX7_init 69 = .ok (.aload_n 0, 1) := by decide +kernel
theorem dX7_init_70 : decode cX7_init 70 = .ok (.bipush 7, 2) := by decide +kernel
theorem dX7_init_72 : decode cX7_init 72 = .ok (.newarray .int, 2) := by decide +kernel
theorem dX7_init_74 : decode cX7_init 74 = .ok (.putfield 39, 3) := by decide +kernel
theorem dX7_init_77 : decode cX7_init 77 = .ok (.aload_n 0, 1) := by decide +kernel
theorem dX7_init_78 : decode cX7_init 78 = .ok (.sipush 2016, 3) := by decide +kernel
theorem dX7_init_81 : decode cX7_init 81 = .ok (.newarray .int, 2) := by decide +kernel
theorem dX7_init_83 : decode cX7_init 83 = .ok (.putfield 42, 3) := by decide +kernel
theorem dX7_init_86 : decode cX7_init 86 = .ok (.aload_n 0, 1) := by decide +kernel
theorem dX7_init_87 : decode cX7_init 87 = .ok (.sipush 2016, 3) := by decide +kernel
theorem dX7_init_90 : decode cX7_init 90 = .ok (.newarray .int, 2) := by decide +kernel
theorem dX7_init_92 : decode cX7_init 92 = .ok (.putfield 45, 3) := by decide +kernel
theorem dX7_init_95 : decode cX7_init 95 = .ok (.aload_n 0, 1) := by decide +kernel
theorem dX7_init_96 : decode cX7_init 96 = .ok (.sipush 2016, 3) := by decide +kernel
theorem dX7_init_99 : decode cX7_init 99 = .ok (.newarray .int, 2) := by decide +kernel
theorem dX7_init_101 : decode cX7_init 101 = .ok (.putfield 48, 3) := by decide +kernel
theorem dX7_init_104 : decode cX7_init 104 = .ok (.aload_n 0, 1) := by decide +kernel
theorem dX7_init_105 : decode cX7_init 105 = .ok (.sipush 2016, 3) := by decide +kernel
theorem dX7_init_108 : decode cX7_init 108 = .ok (.newarray .int, 2) := by decide +kernel
theorem dX7_init_110 : decode cX7_init 110 = .ok (.putfield 51, 3) := by decide +kernel
theorem dX7_init_113 : decode cX7_init 113 = .ok (.aload_n 0, 1) := by decide +kernel
theorem dX7_init_114 : decode cX7_init 114 = .ok (.sipush 288, 3) := by decide +kernel
theorem dX7_init_117 : decode cX7_init 117 = .ok (.newarray .boolean, 2) := by decide +kernel
theorem dX7_init_119 : decode cX7_init 119 = .ok (.putfield 54, 3) := by decide +kernel
theorem dX7_init_122 : decode cX7_init 122 = .ok (.aload_n 0, 1) := by decide +kernel
theorem dX7_init_123 : decode cX7_init 123 = .ok (.bipush 120, 2) := by decide +kernel
theorem dX7_init_125 : decode cX7_init 125 = .ok (.newarray .char, 2) := by decide +kernel
theorem dX7_init_127 : decode cX7_init 127 = .ok (.putfield 57, 3) := by decide +kernel
theorem dX7_init_130 : decode cX7_init 130 = .ok (.aload_n 0, 1) := by decide +kernel
theorem dX7_init_131 : decode cX7_init 131 = .ok (.sipush 625, 3) := by decide +kernel
theorem dX7_init_134 : decode cX7_init 134 = .ok (.newarray .boolean, 2) := by decide +kernel
theorem dX7_init_136 : decode cX7_init 136 = .ok (.putfield 61, 3) := by decide +kernel
theorem dX7_init_139 : decode cX7_init 139 = .ok (.aload_n 0, 1) := by decide +kernel
theorem dX7_init_140 : decode cX7_init 140 = .ok (.sipush 625, 3) := by decide +kernel
theorem dX7_init_143 : decode cX7_init 143 = .ok (.newarray .int, 2) := by decide +kernel
theorem dX7_init_145 : decode cX7_init 145 = .ok (.putfield 64, 3) := by decide +kernel
theorem dX7_init_148 : decode cX7_init 148 = .ok (.aload_n 0, 1) := by decide +kernel
theorem dX7_init_149 : decode cX7_init 149 = .ok (.bipush 10, 2) := by decide +kernel
theorem dX7_init_151 : decode cX7_init 151 = .ok (.bipush 8, 2) := by decide +kernel
theorem dX7_init_153 : decode cX7_init 153 = .ok (.invokevirtual 67, 3) := by decide +kernel
theorem dX7_init_156 : decode cX7_init 156 = .ok (.return_, 1) := by decide +kernel
theorem dX7_in_0 : decode cX7_in 0 = .ok (.iload_n 0, 1) := by decide +kernel
theorem dX7_in_1 : decode cX7_in 1 = .ok (.iload_n 1, 1) := by decide +kernel
theorem dX7_in_2 : decode cX7_in 2 = .ok (.if_icmp .lt 12, 3) := by decide +kernel
theorem dX7_in_5 : decode cX7_in 5 = .ok (.iload_n 0, 1) := by decide +kernel
theorem dX7_in_6 : decode cX7_in 6 = .ok (.iload_n 2, 1) := by decide +kernel
theorem dX7_in_7 : decode cX7_in 7 = .ok (.if_icmp .gt 7, 3) := by decide +kernel
theorem dX7_in_10 : decode cX7_in 10 = .ok (.iconst 1, 1) := by decide +kernel
theorem dX7_in_11 : decode cX7_in 11 = .ok (.goto 4, 3) := by decide +kernel
theorem dX7_in_14 : decode cX7_in 14 = .ok (.iconst 0, 1) := by decide +kernel
theorem dX7_in_15 : decode cX7_in 15 = .ok (.ireturn, 1) := by decide +kernel
theorem dX7_begin_0 : decode cX7_begin 0 = .ok (.aload_n 0, 1) := by decide +kernel
theorem dX7_begin_1 : decode cX7_begin 1 = .ok (.iload_n 1, 1) := by decide +kernel
theorem dX7_begin_2 : decode cX7_begin 2 = .ok (.putfield 71, 3) := by decide +kernel
theorem dX7_begin_5 : decode cX7_begin 5 = .ok (.aload_n 0, 1) := by decide +kernel
theorem dX7_begin_6 : decode cX7_begin 6 = .ok (.iload_n 2, 1) := by decide +kernel
theorem dX7_begin_7 : decode cX7_begin 7 = .ok (.putfield 74, 3) := by decide +kernel
theorem dX7_begin_10 : decode cX7_begin 10 = .ok (.iconst 0, 1) := by decide +kernel
theorem dX7_begin_11 : decode cX7_begin 11 = .ok (.istore_n 3, 1) := by decide +kernel
theorem dX7_begin_12 : decode cX7_begin 12 = .ok (.iload_n 3, 1) := by decide +kernel
theorem dX7_begin_13 : decode cX7_begin 13 = .ok (.sipush 576, 3) := by decide +kernel
theorem dX7_begin_16 : decode cX7_begin 16 = .ok (.if_icmp .ge 16, 3) := by decide +kernel
theorem dX7_begin_19 : decode cX7_begin 19 = .ok (.aload_n 0, 1) := by decide +kernel
theorem dX7_begin_20 : decode cX7_begin 20 = .ok (.getfield 25, 3) := by decide +kernel
theorem dX7_begin_23 : decode cX7_begin 23 = .ok (.iload_n 3, 1) := by decide +kernel
theorem dX7_begin_24 : decode cX7_begin 24 = .ok (.iconst 0, 1) := by decide +kernel
theorem dX7_begin_25 : decode cX7_begin 25 = .ok (.iastore, 1) := by decide +kernel
theorem dX7_begin_26 : decode cX7_begin 26 = .ok (.iinc 3 1, 3) := by decide +kernel
theorem dX7_begin_29 : decode cX7_begin 29 = .ok (.goto (-17), 3) := by decide +kernel
theorem dX7_begin_32 : decode cX7_begin 32 = .ok (.iconst 0, 1) := by decide +kernel
theorem dX7_begin_33 : decode cX7_begin 33 = .ok (.istore_n 3, 1) := by decide +kernel
theorem dX7_begin_34 : decode cX7_begin 34 = .ok (.iload_n 3, 1) := by decide +kernel
theorem dX7_begin_35 : decode cX7_begin 35 = .ok (.sipush 625, 3) := by decide +kernel
theorem dX7_begin_38 : decode cX7_begin 38 = .ok (.if_icmp .ge 23, 3) := by decide +kernel
theorem dX7_begin_41 : decode cX7_begin 41 = .ok (.aload_n 0, 1) := by decide +kernel
theorem dX7_begin_42 : decode cX7_begin 42 = .ok (.getfield 32, 3) := by decide +kernel
theorem dX7_begin_45 : decode cX7_begin 45 = .ok (.iload_n 3, 1) := by decide +kernel
theorem dX7_begin_46 : decode cX7_begin 46 = .ok (.iconst 0, 1) := by decide +kernel
theorem dX7_begin_47 : decode cX7_begin 47 = .ok (.bastore, 1) := by decide +kernel
theorem dX7_begin_48 : decode cX7_begin 48 = .ok (.aload_n 0, 1) := by decide +kernel
theorem dX7_begin_49 : decode cX7_begin 49 = .ok (.getfield 36, 3) := by decide +kernel
theorem dX7_begin_52 : decode cX7_begin 52 = .ok (.iload_n 3, 1) := by decide +kernel
theorem dX7_begin_53 : decode cX7_begin 53 = .ok (.iconst 0, 1) := by decide +kernel
theorem dX7_begin_54 : decode cX7_begin 54 = .ok (.bastore, 1) := by decide +kernel
theorem dX7_begin_55 : decode cX7_begin 55 = .ok (.iinc 3 1, 3) := by decide +kernel
theorem dX7_begin_58 : decode cX7_begin 58 = .ok (.goto (-24), 3) := by decide +kernel
theorem dX7_begin_61 : decode cX7_begin 61 = .ok (.aload_n 0, 1) := by decide +kernel
theorem dX7_begin_62 : decode cX7_begin 62 = .ok (.bipush 127, 2) := by decide +kernel
theorem dX7_begin_64 : decode cX7_begin 64 = .ok (.invokevirtual 77, 3) := by decide +kernel
theorem dX7_begin_67 : decode cX7_begin 67 = .ok (.return_, 1) := by decide +kernel
theorem dX7_reset_0 : decode cX7_reset 0 = .ok (.iload_n 1, 1) := by decide +kernel
theorem dX7_reset_1 : decode cX7_reset 1 = .ok (.iconst 1, 1) := by decide +kernel
theorem dX7_reset_2 : decode cX7_reset 2 = .ok (.bipush 24, 2) := by decide +kernel
theorem dX7_reset_4 : decode cX7_reset 4 = .ok (.invokestatic 81, 3) := by decide +kernel
theorem dX7_reset_7 : decode cX7_reset 7 = .ok (.ifCond .eq 13, 3) := by decide +kernel
theorem dX7_reset_10 : decode cX7_reset 10 = .ok (.iload_n 2, 1) := by decide +kernel
theorem dX7_reset_11 : decode cX7_reset 11 = .ok (.iconst 1, 1) := by decide +kernel
theorem dX7_reset_12 : decode cX7_reset 12 = .ok (.bipush 24, 2) := by decide +kernel
theorem dX7_reset_14 : decode cX7_reset 14 = .ok (.invokestatic 81, 3) := by decide +kernel
theorem dX7_reset_17 : decode cX7_reset 17 = .ok (.ifCond .ne 6, 3) := by decide +kernel
theorem dX7_reset_20 : decode cX7_reset 20 = .ok (.bipush (-2), 2) := by decide +kernel
theorem dX7_reset_22 : decode cX7_reset 22 = .ok (.ireturn, 1) := by decide +kernel
theorem dX7_reset_23 : decode cX7_reset 23 = .ok (.aload_n 0, 1) := by decide +kernel
theorem dX7_reset_24 : decode cX7_reset 24 = .ok (.iload_n 1, 1) := by decide +kernel
theorem dX7_reset_25 : decode cX7_reset 25 = .ok (.iload_n 2, 1) := by decide +kernel
theorem dX7_reset_26 : decode cX7_reset 26 = .ok (.invokevirtual 67, 3) := by decide +kernel
theorem dX7_reset_29 : decode cX7_reset 29 = .ok (.iload_n 1, 1) := by decide +kernel
theorem dX7_reset_30 : decode cX7_reset 30 = .ok (.iload_n 2, 1) := by decide +kernel
theorem dX7_reset_31 : decode cX7_reset 31 = .ok (.imul, 1) := by decide +kernel
theorem dX7_reset_32 : decode cX7_reset 32 = .ok (.ireturn, 1) := by decide +kernel
theorem dX7_isCell_0 : decode cX7_isCell 0 = .ok (.iload_n 1, 1) := by decide +kernel
theorem dX7_isCell_1 : decode cX7_isCell 1 = .ok (.iconst 0, 1) := by decide +kernel
theorem dX7_isCell_2 : decode cX7_isCell 2 = .ok (.aload_n 0, 1) := by decide +kernel
theorem dX7_isCell_3 : decode cX7_isCell 3 = .ok (.getfield 71, 3) := by decide +kernel
theorem dX7_isCell_6 : decode cX7_isCell 6 = .ok (.iconst 1, 1) := by decide +kernel
theorem dX7_isCell_7 : decode cX7_isCell 7 = .ok (.isub, 1) := by decide +kernel
theorem dX7_isCell_8 : decode cX7_isCell 8 = .ok (.invokestatic 81, 3) := by decide +kernel
theorem dX7_isCell_11 : decode cX7_isCell 11 = .ok (.ifCond .eq 21, 3) := by decide +kernel
theorem dX7_isCell_14 : decode cX7_isCell 14 = .ok (.iload_n 2, 1) := by decide +kernel
theorem dX7_isCell_15 : decode cX7_isCell 15 = .ok (.iconst 0, 1) := by decide +kernel
theorem dX7_isCell_16 : decode cX7_isCell 16 = .ok (.aload_n 0, 1) := by decide +kernel
theorem dX7_isCell_17 : decode cX7_isCell 17 = .ok (.getfield 74, 3) := by decide +kernel
theorem dX7_isCell_20 : decode cX7_isCell 20 = .ok (.iconst 1, 1) := by decide +kernel
theorem dX7_isCell_21 : decode cX7_isCell 21 = .ok (.isub, 1) := by decide +kernel
theorem dX7_isCell_22 : decode cX7_isCell 22 = .ok (.invokestatic 81, 3) := by decide +kernel
theorem dX7_isCell_25 : decode cX7_isCell 25 = .ok (.ifCond .eq 7, 3) := by decide +kernel
theorem dX7_isCell_28 : decode cX7_isCell 28 = .ok (.iconst 1, 1) := by decide +kernel
theorem dX7_isCell_29 : decode cX7_isCell 29 = .ok (.goto 4, 3) := by decide +kernel
theorem dX7_isCell_32 : decode cX7_isCell 32 = .ok (.iconst 0, 1) := by decide +kernel
theorem dX7_isCell_33 : decode cX7_isCell 33 = .ok (.ireturn, 1) := by decide +kernel
theorem dX7_at_0 : decode cX7_at 0 = .ok (.aload_n 0, 1) := by decide +kernel
theorem dX7_at_1 : decode cX7_at 1 = .ok (.iload_n 1, 1) := by decide +kernel
theorem dX7_at_2 : decode cX7_at 2 = .ok (.iload_n 2, 1) := by decide +kernel
theorem dX7_at_3 : decode cX7_at 3 = .ok (.invokevirtual 85, 3) := by decide +kernel
theorem dX7_at_6 : decode cX7_at 6 = .ok (.ifCond .eq 17, 3) := by decide +kernel
theorem dX7_at_9 : decode cX7_at 9 = .ok (.aload_n 0, 1) := by decide +kernel
theorem dX7_at_10 : decode cX7_at 10 = .ok (.getfield 25, 3) := by decide +kernel
theorem dX7_at_13 : decode cX7_at 13 = .ok (.bipush 24, 2) := by decide +kernel
theorem dX7_at_15 : decode cX7_at 15 = .ok (.iload_n 2, 1) := by decide +kernel
theorem dX7_at_16 : decode cX7_at 16 = .ok (.imul, 1) := by decide +kernel
theorem dX7_at_17 : decode cX7_at 17 = .ok (.iload_n 1, 1) := by decide +kernel
theorem dX7_at_18 : decode cX7_at 18 = .ok (.iadd, 1) := by decide +kernel
theorem dX7_at_19 : decode cX7_at 19 = .ok (.iaload, 1) := by decide +kernel
theorem dX7_at_20 : decode cX7_at 20 = .ok (.goto 5, 3) := by decide +kernel
theorem dX7_at_23 : decode cX7_at 23 = .ok (.bipush (-4), 2) := by decide +kernel
theorem dX7_at_25 : decode cX7_at 25 = .ok (.ireturn, 1) := by decide +kernel
theorem dX7_lay_0 : decode cX7_lay 0 = .ok (.iconst 1, 1) := by decide +kernel
theorem dX7_lay_1 : decode cX7_lay 1 = .ok (.istore_n 2, 1) := by decide +kernel
theorem dX7_lay_2 : decode cX7_lay 2 = .ok (.iload_n 2, 1) := by decide +kernel
theorem dX7_lay_3 : decode cX7_lay 3 = .ok (.bipush 6, 2) := by decide +kernel
theorem dX7_lay_5 : decode cX7_lay 5 = .ok (.if_icmp .gt 16, 3) := by decide +kernel
theorem dX7_lay_8 : decode cX7_lay 8 = .ok (.aload_n 0, 1) := by decide +kernel
theorem dX7_lay_9 : decode cX7_lay 9 = .ok (.getfield 39, 3) := by decide +kernel
theorem dX7_lay_12 : decode cX7_lay 12 = .ok (.iload_n 2, 1) := by decide +kernel
theorem dX7_lay_13 : decode cX7_lay 13 = .ok (.iconst 0, 1) := by decide +kernel
theorem dX7_lay_14 : decode cX7_lay 14 = .ok (.iastore, 1) := by decide +kernel
theorem dX7_lay_15 : decode cX7_lay 15 = .ok (.iinc 2 1, 3) := by decide +kernel
theorem dX7_lay_18 : decode cX7_lay 18 = .ok (.goto (-16), 3) := by decide +kernel
theorem dX7_lay_21 : decode cX7_lay 21 = .ok (.iconst 0, 1) := by decide +kernel
theorem dX7_lay_22 : decode cX7_lay 22 = .ok (.istore_n 2, 1) := by decide +kernel
theorem dX7_lay_23 : decode cX7_lay 23 = .ok (.iload_n 2, 1) := by decide +kernel
theorem dX7_lay_24 : decode cX7_lay 24 = .ok (.aload_n 0, 1) := by decide +kernel
theorem dX7_lay_25 : decode cX7_lay 25 = .ok (.getfield 74, 3) := by decide +kernel
theorem dX7_lay_28 : decode cX7_lay 28 = .ok (.if_icmp .ge 132, 3) := by decide +kernel
theorem dX7_lay_31 : decode cX7_lay 31 = .ok (.iconst 0, 1) := by decide +kernel
theorem dX7_lay_32 : decode cX7_lay 32 = .ok (.istore_n 3, 1) := by decide +kernel
theorem dX7_lay_33 : decode cX7_lay 33 = .ok (.iload_n 3, 1) := by decide +kernel
theorem dX7_lay_34 : decode cX7_lay 34 = .ok (.aload_n 0, 1) := by decide +kernel
theorem dX7_lay_35 : decode cX7_lay 35 = .ok (.getfield 71, 3) := by decide +kernel
theorem dX7_lay_38 : decode cX7_lay 38 = .ok (.if_icmp .ge 116, 3) := by decide +kernel
theorem dX7_lay_41 : decode cX7_lay 41 = .ok (.aload_n 0, 1) := by decide +kernel
theorem dX7_lay_42 : decode cX7_lay 42 = .ok (.iload_n 3, 1) := by decide +kernel
theorem dX7_lay_43 : decode cX7_lay 43 = .ok (.iload_n 2, 1) := by decide +kernel
theorem dX7_lay_44 : decode cX7_lay 44 = .ok (.invokevirtual 89, 3) := by decide +kernel
theorem dX7_lay_47 : decode cX7_lay 47 = .ok (.istore 4, 2) := by decide +kernel
theorem dX7_lay_49 : decode cX7_lay 49 = .ok (.iload 4, 2) := by decide +kernel
theorem dX7_lay_51 : decode cX7_lay 51 = .ok (.ifCond .le 67, 3) := by decide +kernel
theorem dX7_lay_54 : decode cX7_lay 54 = .ok (.aload_n 0, 1) := by decide +kernel
theorem dX7_lay_55 : decode cX7_lay 55 = .ok (.iload_n 3, 1) := by decide +kernel
theorem dX7_lay_56 : decode cX7_lay 56 = .ok (.iconst 1, 1) := by decide +kernel
theorem dX7_lay_57 : decode cX7_lay 57 = .ok (.isub, 1) := by decide +kernel
theorem dX7_lay_58 : decode cX7_lay 58 = .ok (.iload_n 2, 1) := by decide +kernel
theorem dX7_lay_59 : decode cX7_lay 59 = .ok (.invokevirtual 89, 3) := by decide +kernel
theorem dX7_lay_62 : decode cX7_lay 62 = .ok (.iload 4, 2) := by decide +kernel
theorem dX7_lay_64 : decode cX7_lay 64 = .ok (.if_icmp .eq 54, 3) := by decide +kernel
theorem dX7_lay_67 : decode cX7_lay 67 = .ok (.sipush 288, 3) := by decide +kernel
theorem dX7_lay_70 : decode cX7_lay 70 = .ok (.iload 4, 2) := by decide +kernel
theorem dX7_lay_72 : decode cX7_lay 72 = .ok (.imul, 1) := by decide +kernel
theorem dX7_lay_73 : decode cX7_lay 73 = .ok (.aload_n 0, 1) := by decide +kernel
theorem dX7_lay_74 : decode cX7_lay 74 = .ok (.getfield 39, 3) := by decide +kernel
theorem dX7_lay_77 : decode cX7_lay 77 = .ok (.iload 4, 2) := by decide +kernel
theorem dX7_lay_79 : decode cX7_lay 79 = .ok (.iaload, 1) := by decide +kernel
theorem dX7_lay_80 : decode cX7_lay 80 = .ok (.iadd, 1) := by decide +kernel
theorem dX7_lay_81 : decode cX7_lay 81 = .ok (.istore 5, 2) := by decide +kernel
theorem dX7_lay_83 : decode cX7_lay 83 = .ok (.aload_n 0, 1) := by decide +kernel
theorem dX7_lay_84 : decode cX7_lay 84 = .ok (.getfield 42, 3) := by decide +kernel
theorem dX7_lay_87 : decode cX7_lay 87 = .ok (.iload 5, 2) := by decide +kernel
theorem dX7_lay_89 : decode cX7_lay 89 = .ok (.iload_n 3, 1) := by decide +kernel
theorem dX7_lay_90 : decode cX7_lay 90 = .ok (.iastore, 1) := by decide +kernel
theorem dX7_lay_91 : decode cX7_lay 91 = .ok (.aload_n 0, 1) := by decide +kernel
theorem dX7_lay_92 : decode cX7_lay 92 = .ok (.getfield 45, 3) := by decide +kernel
theorem dX7_lay_95 : decode cX7_lay 95 = .ok (.iload 5, 2) := by decide +kernel
theorem dX7_lay_97 : decode cX7_lay 97 = .ok (.iload_n 2, 1) := by decide +kernel
theorem dX7_lay_98 : decode cX7_lay 98 = .ok (.iastore, 1) := by decide +kernel
theorem dX7_lay_99 : decode cX7_lay 99 = .ok (.aload_n 0, 1) := by decide +kernel
theorem dX7_lay_100 : decode cX7_lay 100 = .ok (.getfield 48, 3) := by decide +kernel
theorem dX7_lay_103 : decode cX7_lay 103 = .ok (.iload 5, 2) := by decide +kernel
theorem dX7_lay_105 : decode cX7_lay 105 = .ok (.iconst 0, 1) := by decide +kernel
theorem dX7_lay_106 : decode cX7_lay 106 = .ok (.iastore, 1) := by decide +kernel
theorem dX7_lay_107 : decode cX7_lay 107 = .ok (.aload_n 0, 1) := by decide +kernel
theorem dX7_lay_108 : decode cX7_lay 108 = .ok (.getfield 39, 3) := by decide +kernel
theorem dX7_lay_111 : decode cX7_lay 111 = .ok (.iload 4, 2) := by decide +kernel
theorem dX7_lay_113 : decode cX7_lay 113 = .ok (.dup2, 1) := by decide +kernel
theorem dX7_lay_114 : decode cX7_lay 114 = .ok (.iaload, 1) := by decide +kernel
theorem dX7_lay_115 : decode cX7_lay 115 = .ok (.iconst 1, 1) := by decide +kernel
theorem dX7_lay_116 : decode cX7_lay 116 = .ok (.iadd, 1) := by decide +kernel
theorem dX7_lay_117 : decode cX7_lay 117 = .ok (.iastore, 1) := by decide +kernel
theorem dX7_lay_118 : decode cX7_lay 118 = .ok (.iload 4, 2) := by decide +kernel
theorem dX7_lay_120 : decode cX7_lay 120 = .ok (.ifCond .le 28, 3) := by decide +kernel
theorem dX7_lay_123 : decode cX7_lay 123 = .ok (.aload_n 0, 1) := by decide +kernel
theorem dX7_lay_124 : decode cX7_lay 124 = .ok (.getfield 48, 3) := by decide +kernel
theorem dX7_lay_127 : decode cX7_lay 127 = .ok (.sipush 288, 3) := by decide +kernel
theorem dX7_lay_130 : decode cX7_lay 130 = .ok (.iload 4, 2) := by decide +kernel
theorem dX7_lay_132 : decode cX7_lay 132 = .ok (.imul, 1) := by decide +kernel
theorem dX7_lay_133 : decode cX7_lay 133 = .ok (.aload_n 0, 1) := by decide +kernel
theorem dX7_lay_134 : decode cX7_lay 134 = .ok (.getfield 39, 3) := by decide +kernel
theorem dX7_lay_137 : decode cX7_lay 137 = .ok (.iload 4, 2) := by decide +kernel
theorem dX7_lay_139 : decode cX7_lay 139 = .ok (.iaload, 1) := by decide +kernel
theorem dX7_lay_140 : decode cX7_lay 140 = .ok (.iadd, 1) := by decide +kernel
theorem dX7_lay_141 : decode cX7_lay 141 = .ok (.iconst 1, 1) := by decide +kernel
theorem dX7_lay_142 : decode cX7_lay 142 = .ok (.isub, 1) := by decide +kernel
theorem dX7_lay_143 : decode cX7_lay 143 = .ok (.dup2, 1) := by decide +kernel
theorem dX7_lay_144 : decode cX7_lay 144 = .ok (.iaload, 1) := by decide +kernel
