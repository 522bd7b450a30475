theorem dX6_setThread_46 : decode cX6_setThread 46 = .ok (.getfield 19, 3) := by decide +kernel
theorem dX6_setThread_49 : decode cX6_setThread 49 = .ok (.iload_n 1, 1) := by decide +kernel
theorem dX6_setThread_50 : decode cX6_setThread 50 = .ok (.putfield 154, 3) := by decide +kernel
theorem dX6_setThread_53 : decode cX6_setThread 53 = .ok (.aload_n 0, 1) := by decide +kernel
theorem dX6_setThread_54 : decode cX6_setThread 54 = .ok (.getfield 19, 3) := by decide +kernel
theorem dX6_setThread_57 : decode cX6_setThread 57 = .ok (.iload_n 2, 1) := by decide +kernel
theorem dX6_setThread_58 : decode cX6_setThread 58 = .ok (.putfield 151, 3) := by decide +kernel
theorem dX6_setThread_61 : decode cX6_setThread 61 = .ok (.iload_n 3, 1) := by decide +kernel
theorem dX6_setThread_62 : decode cX6_setThread 62 = .ok (.ireturn, 1) := by decide +kernel
theorem dX6_setBack_0 : decode cX6_setBack 0 = .ok (.aload_n 0, 1) := by decide +kernel
theorem dX6_setBack_1 : decode cX6_setBack 1 = .ok (.getfield 37, 3) := by decide +kernel
theorem dX6_setBack_4 : decode cX6_setBack 4 = .ok (.iload_n 1, 1) := by decide +kernel
theorem dX6_setBack_5 : decode cX6_setBack 5 = .ok (.iload_n 2, 1) := by decide +kernel
theorem dX6_setBack_6 : decode cX6_setBack 6 = .ok (.iload_n 3, 1) := by decide +kernel
theorem dX6_setBack_7 : decode cX6_setBack 7 = .ok (.invokevirtual 157, 3) := by decide +kernel
theorem dX6_setBack_10 : decode cX6_setBack 10 = .ok (.ifCond .eq 18, 3) := by decide +kernel
theorem dX6_setBack_13 : decode cX6_setBack 13 = .ok (.aload_n 0, 1) := by decide +kernel
theorem dX6_setBack_14 : decode cX6_setBack 14 = .ok (.getfield 37, 3) := by decide +kernel
theorem dX6_setBack_17 : decode cX6_setBack 17 = .ok (.iload_n 1, 1) := by decide +kernel
theorem dX6_setBack_18 : decode cX6_setBack 18 = .ok (.iload_n 2, 1) := by decide +kernel
theorem dX6_setBack_19 : decode cX6_setBack 19 = .ok (.iload_n 3, 1) := by decide +kernel
theorem dX6_setBack_20 : decode cX6_setBack 20 = .ok (.iload 4, 2) := by decide +kernel
theorem dX6_setBack_22 : decode cX6_setBack 22 = .ok (.invokevirtual 161, 3) := by decide +kernel
theorem dX6_setBack_25 : decode cX6_setBack 25 = .ok (.goto 4, 3) := by decide +kernel
theorem dX6_setBack_28 : decode cX6_setBack 28 = .ok (.iconst (-1), 1) := by decide +kernel
theorem dX6_setBack_29 : decode cX6_setBack 29 = .ok (.ireturn, 1) := by decide +kernel
theorem dX6_back_0 : decode cX6_back 0 = .ok (.aload_n 0, 1) := by decide +kernel
theorem dX6_back_1 : decode cX6_back 1 = .ok (.getfield 37, 3) := by decide +kernel
theorem dX6_back_4 : decode cX6_back 4 = .ok (.iload_n 1, 1) := by decide +kernel
theorem dX6_back_5 : decode cX6_back 5 = .ok (.iload_n 2, 1) := by decide +kernel
theorem dX6_back_6 : decode cX6_back 6 = .ok (.iload_n 3, 1) := by decide +kernel
theorem dX6_back_7 : decode cX6_back 7 = .ok (.invokevirtual 157, 3) := by decide +kernel
theorem dX6_back_10 : decode cX6_back 10 = .ok (.ifCond .eq 16, 3) := by decide +kernel
theorem dX6_back_13 : decode cX6_back 13 = .ok (.aload_n 0, 1) := by decide +kernel
theorem dX6_back_14 : decode cX6_back 14 = .ok (.getfield 37, 3) := by decide +kernel
theorem dX6_back_17 : decode cX6_back 17 = .ok (.iload_n 1, 1) := by decide +kernel
theorem dX6_back_18 : decode cX6_back 18 = .ok (.iload_n 2, 1) := by decide +kernel
theorem dX6_back_19 : decode cX6_back 19 = .ok (.iload_n 3, 1) := by decide +kernel
theorem dX6_back_20 : decode cX6_back 20 = .ok (.invokevirtual 164, 3) := by decide +kernel
theorem dX6_back_23 : decode cX6_back 23 = .ok (.goto 4, 3) := by decide +kernel
theorem dX6_back_26 : decode cX6_back 26 = .ok (.iconst (-1), 1) := by decide +kernel
theorem dX6_back_27 : decode cX6_back 27 = .ok (.ireturn, 1) := by decide +kernel
theorem dX6_outline_0 : decode cX6_outline 0 = .ok (.iload_n 1, 1) := by decide +kernel
theorem dX6_outline_1 : decode cX6_outline 1 = .ok (.invokestatic 113, 3) := by decide +kernel
theorem dX6_outline_4 : decode cX6_outline 4 = .ok (.ifCond .eq 14, 3) := by decide +kernel
theorem dX6_outline_7 : decode cX6_outline 7 = .ok (.aload_n 0, 1) := by decide +kernel
theorem dX6_outline_8 : decode cX6_outline 8 = .ok (.getfield 37, 3) := by decide +kernel
theorem dX6_outline_11 : decode cX6_outline 11 = .ok (.iload_n 1, 1) := by decide +kernel
theorem dX6_outline_12 : decode cX6_outline 12 = .ok (.invokevirtual 168, 3) := by decide +kernel
theorem dX6_outline_15 : decode cX6_outline 15 = .ok (.goto 5, 3) := by decide +kernel
theorem dX6_outline_18 : decode cX6_outline 18 = .ok (.bipush (-2), 2) := by decide +kernel
theorem dX6_outline_20 : decode cX6_outline 20 = .ok (.ireturn, 1) := by decide +kernel
theorem dX6_clearBack_0 : decode cX6_clearBack 0 = .ok (.aload_n 0, 1) := by decide +kernel
theorem dX6_clearBack_1 : decode cX6_clearBack 1 = .ok (.getfield 37, 3) := by decide +kernel
theorem dX6_clearBack_4 : decode cX6_clearBack 4 = .ok (.invokevirtual 172, 3) := by decide +kernel
theorem dX6_clearBack_7 : decode cX6_clearBack 7 = .ok (.istore_n 1, 1) := by decide +kernel
theorem dX6_clearBack_8 : decode cX6_clearBack 8 = .ok (.aload_n 0, 1) := by decide +kernel
theorem dX6_clearBack_9 : decode cX6_clearBack 9 = .ok (.getfield 37, 3) := by decide +kernel
theorem dX6_clearBack_12 : decode cX6_clearBack 12 = .ok (.invokevirtual 63, 3) := by decide +kernel
theorem dX6_clearBack_15 : decode cX6_clearBack 15 = .ok (.iload_n 1, 1) := by decide +kernel
theorem dX6_clearBack_16 : decode cX6_clearBack 16 = .ok (.ireturn, 1) := by decide +kernel
theorem dX6_backs_0 : decode cX6_backs 0 = .ok (.iload_n 1, 1) := by decide +kernel
theorem dX6_backs_1 : decode cX6_backs 1 = .ok (.tableswitch 96 0 4 #[35, 43, 51, 59, 88], 35) := by decide +kernel
theorem dX6_backs_36 : decode cX6_backs 36 = .ok (.aload_n 0, 1) := by decide +kernel
theorem dX6_backs_37 : decode cX6_backs 37 = .ok (.getfield 37, 3) := by decide +kernel
theorem dX6_backs_40 : decode cX6_backs 40 = .ok (.invokevirtual 172, 3) := by decide +kernel
theorem dX6_backs_43 : decode cX6_backs 43 = .ok (.ireturn, 1) := by decide +kernel
theorem dX6_backs_44 : decode cX6_backs 44 = .ok (.aload_n 0, 1) := by decide +kernel
theorem dX6_backs_45 : decode cX6_backs 45 = .ok (.getfield 37, 3) := by decide +kernel
theorem dX6_backs_48 : decode cX6_backs 48 = .ok (.invokevirtual 175, 3) := by decide +kernel
theorem dX6_backs_51 : decode cX6_backs 51 = .ok (.ireturn, 1) := by decide +kernel
theorem dX6_backs_52 : decode cX6_backs 52 = .ok (.aload_n 0, 1) := by decide +kernel
theorem dX6_backs_53 : decode cX6_backs 53 = .ok (.getfield 37, 3) := by decide +kernel
theorem dX6_backs_56 : decode cX6_backs 56 = .ok (.invokevirtual 178, 3) := by decide +kernel
theorem dX6_backs_59 : decode cX6_backs 59 = .ok (.ireturn, 1) := by decide +kernel
theorem dX6_backs_60 : decode cX6_backs 60 = .ok (.bipush 20, 2) := by decide +kernel
theorem dX6_backs_62 : decode cX6_backs 62 = .ok (.aload_n 0, 1) := by decide +kernel
theorem dX6_backs_63 : decode cX6_backs 63 = .ok (.getfield 37, 3) := by decide +kernel
theorem dX6_backs_66 : decode cX6_backs 66 = .ok (.invokevirtual 172, 3) := by decide +kernel
theorem dX6_backs_69 : decode cX6_backs 69 = .ok (.imul, 1) := by decide +kernel
theorem dX6_backs_70 : decode cX6_backs 70 = .ok (.iconst 2, 1) := by decide +kernel
theorem dX6_backs_71 : decode cX6_backs 71 = .ok (.aload_n 0, 1) := by decide +kernel
theorem dX6_backs_72 : decode cX6_backs 72 = .ok (.getfield 19, 3) := by decide +kernel
theorem dX6_backs_75 : decode cX6_backs 75 = .ok (.getfield 151, 3) := by decide +kernel
theorem dX6_backs_78 : decode cX6_backs 78 = .ok (.imul, 1) := by decide +kernel
theorem dX6_backs_79 : decode cX6_backs 79 = .ok (.aload_n 0, 1) := by decide +kernel
theorem dX6_backs_80 : decode cX6_backs 80 = .ok (.getfield 37, 3) := by decide +kernel
theorem dX6_backs_83 : decode cX6_backs 83 = .ok (.invokevirtual 178, 3) := by decide +kernel
theorem dX6_backs_86 : decode cX6_backs 86 = .ok (.imul, 1) := by decide +kernel
theorem dX6_backs_87 : decode cX6_backs 87 = .ok (.iadd, 1) := by decide +kernel
theorem dX6_backs_88 : decode cX6_backs 88 = .ok (.ireturn, 1) := by decide +kernel
theorem dX6_backs_89 : decode cX6_backs 89 = .ok (.aload_n 0, 1) := by decide +kernel
theorem dX6_backs_90 : decode cX6_backs 90 = .ok (.getfield 37, 3) := by decide +kernel
theorem dX6_backs_93 : decode cX6_backs 93 = .ok (.invokevirtual 181, 3) := by decide +kernel
theorem dX6_backs_96 : decode cX6_backs 96 = .ok (.ireturn, 1) := by decide +kernel
theorem dX6_backs_97 : decode cX6_backs 97 = .ok (.bipush (-2), 2) := by decide +kernel
theorem dX6_backs_99 : decode cX6_backs 99 = .ok (.ireturn, 1) := by decide +kernel
theorem dX6_setPages_0 : decode cX6_setPages 0 = .ok (.iload_n 1, 1) := by decide +kernel
theorem dX6_setPages_1 : decode cX6_setPages 1 = .ok (.iconst 4, 1) := by decide +kernel
theorem dX6_setPages_2 : decode cX6_setPages 2 = .ok (.bipush 24, 2) := by decide +kernel
theorem dX6_setPages_4 : decode cX6_setPages 4 = .ok (.invokestatic 55, 3) := by decide +kernel
theorem dX6_setPages_7 : decode cX6_setPages 7 = .ok (.ifCond .eq 22, 3) := by decide +kernel
theorem dX6_setPages_10 : decode cX6_setPages 10 = .ok (.iload_n 2, 1) := by decide +kernel
theorem dX6_setPages_11 : decode cX6_setPages 11 = .ok (.iconst 4, 1) := by decide +kernel
theorem dX6_setPages_12 : decode cX6_setPages 12 = .ok (.bipush 24, 2) := by decide +kernel
theorem dX6_setPages_14 : decode cX6_setPages 14 = .ok (.invokestatic 55, 3) := by decide +kernel
theorem dX6_setPages_17 : decode cX6_setPages 17 = .ok (.ifCond .eq 12, 3) := by decide +kernel
theorem dX6_setPages_20 : decode cX6_setPages 20 = .ok (.iload_n 3, 1) := by decide +kernel
theorem dX6_setPages_21 : decode cX6_setPages 21 = .ok (.iconst 0, 1) := by decide +kernel
theorem dX6_setPages_22 : decode cX6_setPages 22 = .ok (.iconst 3, 1) := by decide +kernel
theorem dX6_setPages_23 : decode cX6_setPages 23 = .ok (.invokestatic 55, 3) := by decide +kernel
theorem dX6_setPages_26 : decode cX6_setPages 26 = .ok (.ifCond .ne 6, 3) := by decide +kernel
theorem dX6_setPages_29 : decode cX6_setPages 29 = .ok (.bipush (-2), 2) := by decide +kernel
theorem dX6_setPages_31 : decode cX6_setPages 31 = .ok (.ireturn, 1) := by decide +kernel
theorem dX6_setPages_32 : decode cX6_setPages 32 = .ok (.aload_n 0, 1) := by decide +kernel
theorem dX6_setPages_33 : decode cX6_setPages 33 = .ok (.getfield 44, 3) := by decide +kernel
theorem dX6_setPages_36 : decode cX6_setPages 36 = .ok (.iload_n 1, 1) := by decide +kernel
theorem dX6_setPages_37 : decode cX6_setPages 37 = .ok (.putfield 184, 3) := by decide +kernel
theorem dX6_setPages_40 : decode cX6_setPages 40 = .ok (.aload_n 0, 1) := by decide +kernel
theorem dX6_setPages_41 : decode cX6_setPages 41 = .ok (.getfield 44, 3) := by decide +kernel
theorem dX6_setPages_44 : decode cX6_setPages 44 = .ok (.iload_n 2, 1) := by decide +kernel
theorem dX6_setPages_45 : decode cX6_setPages 45 = .ok (.putfield 187, 3) := by decide +kernel
theorem dX6_setPages_48 : decode cX6_setPages 48 = .ok (.aload_n 0, 1) := by decide +kernel
theorem dX6_setPages_49 : decode cX6_setPages 49 = .ok (.getfield 44, 3) := by decide +kernel
theorem dX6_setPages_52 : decode cX6_setPages 52 = .ok (.iload_n 3, 1) := by decide +kernel
theorem dX6_setPages_53 : decode cX6_setPages 53 = .ok (.putfield 190, 3) := by decide +kernel
theorem dX6_setPages_56 : decode cX6_setPages 56 = .ok (.aload_n 0, 1) := by decide +kernel
theorem dX6_setPages_57 : decode cX6_setPages 57 = .ok (.getfield 44, 3) := by decide +kernel
theorem dX6_setPages_60 : decode cX6_setPages 60 = .ok (.invokevirtual 193, 3) := by decide +kernel
theorem dX6_setPages_63 : decode cX6_setPages 63 = .ok (.ireturn, 1) := by decide +kernel
theorem dX6_page_0 : decode cX6_page 0 = .ok (.aload_n 0, 1) := by decide +kernel
theorem dX6_page_1 : decode cX6_page 1 = .ok (.getfield 44, 3) := by decide +kernel
theorem dX6_page_4 : decode cX6_page 4 = .ok (.iload_n 1, 1) := by decide +kernel
theorem dX6_page_5 : decode cX6_page 5 = .ok (.invokevirtual 196, 3) := by decide +kernel
theorem dX6_page_8 : decode cX6_page 8 = .ok (.ifCond .ne 5, 3) := by decide +kernel
theorem dX6_page_11 : decode cX6_page 11 = .ok (.iconst (-1), 1) := by decide +kernel
theorem dX6_page_12 : decode cX6_page 12 = .ok (.ireturn, 1) := by decide +kernel
theorem dX6_page_13 : decode cX6_page 13 = .ok (.iload_n 2, 1) := by decide +kernel
theorem dX6_page_14 : decode cX6_page 14 = .ok (.tableswitch 100 0 5 #[38, 47, 56, 65, 74, 87], 38) := by decide +kernel
theorem dX6_page_52 : decode cX6_page 52 = .ok (.aload_n 0, 1) := by decide +kernel
theorem dX6_page_53 : decode cX6_page 53 = .ok (.getfield 44, 3) := by decide +kernel
theorem dX6_page_56 : decode cX6_page 56 = .ok (.iload_n 1, 1) := by decide +kernel
theorem dX6_page_57 : decode cX6_page 57 = .ok (.invokevirtual 197, 3) := by decide +kernel
theorem dX6_page_60 : decode cX6_page 60 = .ok (.ireturn, 1) := by decide +kernel
theorem dX6_page_61 : decode cX6_page 61 = .ok (.aload_n 0, 1) := by decide +kernel
theorem dX6_page_62 : decode cX6_page 62 = .ok (.getfield 44, 3) := by decide +kernel
theorem dX6_page_65 : decode cX6_page 65 = .ok (.iload_n 1, 1) := by decide +kernel
theorem dX6_page_66 : decode cX6_page 66 = .ok (.invokevirtual 200, 3) := by decide +kernel
theorem dX6_page_69 : decode cX6_page 69 = .ok (.ireturn, 1) := by decide +kernel
theorem dX6_page_70 : decode cX6_page 70 = .ok (.aload_n 0, 1) := by decide +kernel
theorem dX6_page_71 : decode cX6_page 71 = .ok (.getfield 44, 3) := by decide +kernel
theorem dX6_page_74 : decode cX6_page 74 = .ok (.iload_n 1, 1) := by decide +kernel
theorem dX6_page_75 : decode cX6_page 75 = .ok (.invokevirtual 203, 3) := by decide +kernel
theorem dX6_page_78 : decode cX6_page 78 = .ok (.ireturn, 1) := by decide +kernel
theorem dX6_page_79 : decode cX6_page 79 = .ok (.aload_n 0, 1) := by decide +kernel
theorem dX6_page_80 : decode cX6_page 80 = .ok (.getfield 44, 3) := by decide +kernel
theorem dX6_page_83 : decode cX6_page 83 = .ok (.iload_n 1, 1) := by decide +kernel
theorem dX6_page_84 : decode cX6_page 84 = .ok (.invokevirtual 206, 3) := by decide +kernel
theorem dX6_page_87 : decode cX6_page 87 = .ok (.ireturn, 1) := by decide +kernel
theorem dX6_page_88 : decode cX6_page 88 = .ok (.aload_n 0, 1) := by decide +kernel
theorem dX6_page_89 : decode cX6_page 89 = .ok (.getfield 44, 3) := by decide +kernel
theorem dX6_page_92 : decode cX6_page 92 = .ok (.iload_n 1, 1) := by decide +kernel
theorem dX6_page_93 : decode cX6_page 93 = .ok (.iconst 1, 1) := by decide +kernel
theorem dX6_page_94 : decode cX6_page 94 = .ok (.iconst 0, 1) := by decide +kernel
theorem dX6_page_95 : decode cX6_page 95 = .ok (.bipush 6, 2) := by decide +kernel
theorem dX6_page_97 : decode cX6_page 97 = .ok (.invokevirtual 209, 3) := by decide +kernel
theorem dX6_page_100 : decode cX6_page 100 = .ok (.ireturn, 1) := by decide +kernel
theorem dX6_page_101 : decode cX6_page 101 = .ok (.aload_n 0, 1) := by decide +kernel
theorem dX6_page_102 : decode cX6_page 102 = .ok (.getfield 44, 3) := by decide +kernel
theorem dX6_page_105 : decode cX6_page 105 = .ok (.iload_n 1, 1) := by decide +kernel
theorem dX6_page_106 : decode cX6_page 106 = .ok (.iconst 0, 1) := by decide +kernel
theorem dX6_page_107 : decode cX6_page 107 = .ok (.iconst 1, 1) := by decide +kernel
theorem dX6_page_108 : decode cX6_page 108 = .ok (.bipush 6, 2) := by decide +kernel
theorem dX6_page_110 : decode cX6_page 110 = .ok (.invokevirtual 209, 3) := by decide +kernel
theorem dX6_page_113 : decode cX6_page 113 = .ok (.ireturn, 1) := by decide +kernel
theorem dX6_page_114 : decode cX6_page 114 = .ok (.bipush (-2), 2) := by decide +kernel
theorem dX6_page_116 : decode cX6_page 116 = .ok (.ireturn, 1) := by decide +kernel
theorem dX6_onPage_0 : decode cX6_onPage 0 = .ok (.aload_n 0, 1) := by decide +kernel
theorem dX6_onPage_1 : decode cX6_onPage 1 = .ok (.getfield 44, 3) := by decide +kernel
theorem dX6_onPage_4 : decode cX6_onPage 4 = .ok (.iload_n 1, 1) := by decide +kernel
theorem dX6_onPage_5 : decode cX6_onPage 5 = .ok (.invokevirtual 196, 3) := by decide +kernel
theorem dX6_onPage_8 : decode cX6_onPage 8 = .ok (.ifCond .ne 5, 3) := by decide +kernel
theorem dX6_onPage_11 : decode cX6_onPage 11 = .ok (.iconst (-1), 1) := by decide +kernel
theorem dX6_onPage_12 : decode cX6_onPage 12 = .ok (.ireturn, 1) := by decide +kernel
theorem dX6_onPage_13 : decode cX6_onPage 13 = .ok (.iload_n 2, 1) := by decide +kernel
theorem dX6_onPage_14 : decode cX6_onPage 14 = .ok (.iconst 0, 1) := by decide +kernel
theorem dX6_onPage_15 : decode cX6_onPage 15 = .ok (.bipush 6, 2) := by decide +kernel
theorem dX6_onPage_17 : decode cX6_onPage 17 = .ok (.invokestatic 55, 3) := by decide +kernel
theorem dX6_onPage_20 : decode cX6_onPage 20 = .ok (.ifCond .eq 12, 3) := by decide +kernel
theorem dX6_onPage_23 : decode cX6_onPage 23 = .ok (.iload_n 3, 1) := by decide +kernel
theorem dX6_onPage_24 : decode cX6_onPage 24 = .ok (.iconst 0, 1) := by decide +kernel
theorem dX6_onPage_25 : decode cX6_onPage 25 = .ok (.iconst 2, 1) := by decide +kernel
theorem dX6_onPage_26 : decode cX6_onPage 26 = .ok (.invokestatic 55, 3) := by decide +kernel
theorem dX6_onPage_29 : decode cX6_onPage 29 = .ok (.ifCond .ne 6, 3) := by decide +kernel
theorem dX6_onPage_32 : decode cX6_onPage 32 = .ok (.bipush (-2), 2) := by decide +kernel
theorem dX6_onPage_34 : decode cX6_onPage 34 = .ok (.ireturn, 1) := by decide +kernel
theorem dX6_onPage_35 : decode cX6_onPage 35 = .ok (.iconst 0, 1) := by decide +kernel
theorem dX6_onPage_36 : decode cX6_onPage 36 = .ok (.istore 4, 2) := by decide +kernel
theorem dX6_onPage_38 : decode cX6_onPage 38 = .ok (.iconst 1, 1) := by decide +kernel
theorem dX6_onPage_39 : decode cX6_onPage 39 = .ok (.istore 5, 2) := by decide +kernel
theorem dX6_onPage_41 : decode cX6_onPage 41 = .ok (.iload 5, 2) := by decide +kernel
theorem dX6_onPage_43 : decode cX6_onPage 43 = .ok (.bipush 6, 2) := by decide +kernel
theorem dX6_onPage_45 : decode cX6_onPage 45 = .ok (.if_icmp .gt 32, 3) := by decide +kernel
theorem dX6_onPage_48 : decode cX6_onPage 48 = .ok (.iload_n 2, 1) := by decide +kernel
theorem dX6_onPage_49 : decode cX6_onPage 49 = .ok (.ifCond .eq 9, 3) := by decide +kernel
theorem dX6_onPage_52 : decode cX6_onPage 52 = .ok (.iload_n 2, 1) := by decide +kernel
theorem dX6_onPage_53 : decode cX6_onPage 53 = .ok (.iload 5, 2) := by decide +kernel
theorem dX6_onPage_55 : decode cX6_onPage 55 = .ok (.if_icmp .ne 16, 3) := by decide +kernel
theorem dX6_onPage_58 : decode cX6_onPage 58 = .ok (.iload 4, 2) := by decide +kernel
theorem dX6_onPage_60 : decode cX6_onPage 60 = .ok (.aload_n 0, 1) := by decide +kernel
theorem dX6_onPage_61 : decode cX6_onPage 61 = .ok (.iload_n 1, 1) := by decide +kernel
theorem dX6_onPage_62 : decode cX6_onPage 62 = .ok (.iload 5, 2) := by decide +kernel
theorem dX6_onPage_64 : decode cX6_onPage 64 = .ok (.iload_n 3, 1) := by decide +kernel
theorem dX6_onPage_65 : decode cX6_onPage 65 = .ok (.invokevirtual 213, 3) := by decide +kernel
theorem dX6_onPage_68 : decode cX6_onPage 68 = .ok (.iadd, 1) := by decide +kernel
theorem dX6_onPage_69 : decode cX6_onPage 69 = .ok (.istore 4, 2) := by decide +kernel
theorem dX6_onPage_71 : decode cX6_onPage 71 = .ok (.iinc 5 1, 3) := by decide +kernel
theorem dX6_onPage_74 : decode cX6_onPage 74 = .ok (.goto (-33), 3) := by decide +kernel
theorem dX6_onPage_77 : decode cX6_onPage 77 = .ok (.iload 4, 2) := by decide +kernel
theorem dX6_onPage_79 : decode cX6_onPage 79 = .ok (.ireturn, 1) := by decide +kernel
theorem dX6_pages_0 : decode cX6_pages 0 = .ok (.aload_n 0, 1) := by decide +kernel
theorem dX6_pages_1 : decode cX6_pages 1 = .ok (.getfield 44, 3) := by decide +kernel
theorem dX6_pages_4 : decode cX6_pages 4 = .ok (.invokevirtual 193, 3) := by decide +kernel
theorem dX6_pages_7 : decode cX6_pages 7 = .ok (.ireturn, 1) := by decide +kernel
theorem dX6_pageOf_0 : decode cX6_pageOf 0 = .ok (.aload_n 0, 1) := by decide +kernel
theorem dX6_pageOf_1 : decode cX6_pageOf 1 = .ok (.getfield 10, 3) := by decide +kernel
theorem dX6_pageOf_4 : decode cX6_pageOf 4 = .ok (.iload_n 1, 1) := by decide +kernel
theorem dX6_pageOf_5 : decode cX6_pageOf 5 = .ok (.iload_n 2, 1) := by decide +kernel
theorem dX6_pageOf_6 : decode cX6_pageOf 6 = .ok (.invokevirtual 88, 3) := by decide +kernel
theorem dX6_pageOf_9 : decode cX6_pageOf 9 = .ok (.ifCond .eq 15, 3) := by decide +kernel
theorem dX6_pageOf_12 : decode cX6_pageOf 12 = .ok (.aload_n 0, 1) := by decide +kernel
theorem dX6_pageOf_13 : decode cX6_pageOf 13 = .ok (.getfield 44, 3) := by decide +kernel
theorem dX6_pageOf_16 : decode cX6_pageOf 16 = .ok (.iload_n 1, 1) := by decide +kernel
theorem dX6_pageOf_17 : decode cX6_pageOf 17 = .ok (.iload_n 2, 1) := by decide +kernel
theorem dX6_pageOf_18 : decode cX6_pageOf 18 = .ok (.invokevirtual 216, 3) := by decide +kernel
theorem dX6_pageOf_21 : decode cX6_pageOf 21 = .ok (.goto 4, 3) := by decide +kernel
theorem dX6_pageOf_24 : decode cX6_pageOf 24 = .ok (.iconst (-1), 1) := by decide +kernel
theorem dX6_pageOf_25 : decode cX6_pageOf 25 = .ok (.ireturn, 1) := by decide +kernel
theorem dX6_isWithin_0 : decode cX6_isWithin 0 = .ok (.iload_n 0, 1) := by decide +kernel
theorem dX6_isWithin_1 : decode cX6_isWithin 1 = .ok (.iload_n 1, 1) := by decide +kernel
theorem dX6_isWithin_2 : decode cX6_isWithin 2 = .ok (.if_icmp .lt 12, 3) := by decide +kernel
theorem dX6_isWithin_5 : decode cX6_isWithin 5 = .ok (.iload_n 0, 1) := by decide +kernel
theorem dX6_isWithin_6 : decode cX6_isWithin 6 = .ok (.iload_n 2, 1) := by decide +kernel
theorem dX6_isWithin_7 : decode cX6_isWithin 7 = .ok (.if_icmp .gt 7, 3) := by decide +kernel
theorem dX6_isWithin_10 : decode cX6_isWithin 10 = .ok (.iconst 1, 1) := by decide +kernel
theorem dX6_isWithin_11 : decode cX6_isWithin 11 = .ok (.goto 4, 3) := by decide +kernel
theorem dX6_isWithin_14 : decode cX6_isWithin 14 = .ok (.iconst 0, 1) := by decide +kernel
theorem dX6_isWithin_15 : decode cX6_isWithin 15 = .ok (.ireturn, 1) := by decide +kernel
theorem dX6_isColor_0 : decode cX6_isColor 0 = .ok (.iload_n 0, 1) := by decide +kernel
theorem dX6_isColor_1 : decode cX6_isColor 1 = .ok (.iconst 1, 1) := by decide +kernel
theorem dX6_isColor_2 : decode cX6_isColor 2 = .ok (.bipush 6, 2) := by decide +kernel
theorem dX6_isColor_4 : decode cX6_isColor 4 = .ok (.invokestatic 55, 3) := by decide +kernel
theorem dX6_isColor_7 : decode cX6_isColor 7 = .ok (.ireturn, 1) := by decide +kernel
theorem dX6_runsOf_0 : decode cX6_runsOf 0 = .ok (.iload_n 1, 1) := by decide +kernel
theorem dX6_runsOf_1 : decode cX6_runsOf 1 = .ok (.invokestatic 113, 3) := by decide +kernel
theorem dX6_runsOf_4 : decode cX6_runsOf 4 = .ok (.ifCond .eq 9, 3) := by decide +kernel
theorem dX6_runsOf_7 : decode cX6_runsOf 7 = .ok (.iload_n 1, 1) := by decide +kernel
theorem dX6_runsOf_8 : decode cX6_runsOf 8 = .ok (.iconst 1, 1) := by decide +kernel
theorem dX6_runsOf_9 : decode cX6_runsOf 9 = .ok (.isub, 1) := by decide +kernel
theorem dX6_runsOf_10 : decode cX6_runsOf 10 = .ok (.goto 4, 3) := by decide +kernel
theorem dX6_runsOf_13 : decode cX6_runsOf 13 = .ok (.iconst 0, 1) := by decide +kernel
theorem dX6_runsOf_14 : decode cX6_runsOf 14 = .ok (.istore_n 2, 1) := by decide +kernel
theorem dX6_runsOf_15 : decode cX6_runsOf 15 = .ok (.aload_n 0, 1) := by decide +kernel
theorem dX6_runsOf_16 : decode cX6_runsOf 16 = .ok (.getfield 25, 3) := by decide +kernel
theorem dX6_runsOf_19 : decode cX6_runsOf 19 = .ok (.iload_n 2, 1) := by decide +kernel
theorem dX6_runsOf_20 : decode cX6_runsOf 20 = .ok (.aaload, 1) := by decide +kernel
theorem dX6_runsOf_21 : decode cX6_runsOf 21 = .ok (.astore_n 3, 1) := by decide +kernel
theorem dX6_runsOf_22 : decode cX6_runsOf 22 = .ok (.aload_n 0, 1) := by decide +kernel
theorem dX6_runsOf_23 : decode cX6_runsOf 23 = .ok (.getfield 10, 3) := by decide +kernel
theorem dX6_runsOf_26 : decode cX6_runsOf 26 = .ok (.getfield 219, 3) := by decide +kernel
theorem dX6_runsOf_29 : decode cX6_runsOf 29 = .ok (.iload_n 2, 1) := by decide +kernel
theorem dX6_runsOf_30 : decode cX6_runsOf 30 = .ok (.iconst 1, 1) := by decide +kernel
theorem dX6_runsOf_31 : decode cX6_runsOf 31 = .ok (.iadd, 1) := by decide +kernel
theorem dX6_runsOf_32 : decode cX6_runsOf 32 = .ok (.baload, 1) := by decide +kernel
theorem dX6_runsOf_33 : decode cX6_runsOf 33 = .ok (.ifCond .eq 23, 3) := by decide +kernel
theorem dX6_runsOf_36 : decode cX6_runsOf 36 = .ok (.aload_n 0, 1) := by decide +kernel
theorem dX6_runsOf_37 : decode cX6_runsOf 37 = .ok (.getfield 10, 3) := by decide +kernel
theorem dX6_runsOf_40 : decode cX6_runsOf 40 = .ok (.getfield 219, 3) := by decide +kernel
theorem dX6_runsOf_43 : decode cX6_runsOf 43 = .ok (.iload_n 2, 1) := by decide +kernel
theorem dX6_runsOf_44 : decode cX6_runsOf 44 = .ok (.iconst 1, 1) := by decide +kernel
theorem dX6_runsOf_45 : decode cX6_runsOf 45 = .ok (.iadd, 1) := by decide +kernel
theorem dX6_runsOf_46 : decode cX6_runsOf 46 = .ok (.iconst 0, 1) := by decide +kernel
theorem dX6_runsOf_47 : decode cX6_runsOf 47 = .ok (.bastore, 1) := by decide +kernel
theorem dX6_runsOf_48 : decode cX6_runsOf 48 = .ok (.aload_n 3, 1) := by decide +kernel
theorem dX6_runsOf_49 : decode cX6_runsOf 49 = .ok (.invokevirtual 223, 3) := by decide +kernel
theorem dX6_runsOf_52 : decode cX6_runsOf 52 = .ok (.aload_n 3, 1) := by decide +kernel
theorem dX6_runsOf_53 : decode cX6_runsOf 53 = .ok (.invokevirtual 145, 3) := by decide +kernel
theorem dX6_runsOf_56 : decode cX6_runsOf 56 = .ok (.aload_n 3, 1) := by decide +kernel
theorem dX6_runsOf_57 : decode cX6_runsOf 57 = .ok (.areturn, 1) := by decide +kernel
theorem dX6_countOfColor_0 : decode cX6_countOfColor 0 = .ok (.iload_n 2, 1) := by decide +kernel
theorem dX6_countOfColor_1 : decode cX6_countOfColor 1 = .ok (.tableswitch 80 0 4 #[35, 44, 53, 62, 71], 35) := by decide +kernel
theorem dX6_countOfColor_36 : decode cX6_countOfColor 36 = .ok (.aload_n 0, 1) := by decide +kernel
theorem dX6_countOfColor_37 : decode cX6_countOfColor 37 = .ok (.iload_n 1, 1) := by decide +kernel
theorem dX6_countOfColor_38 : decode cX6_countOfColor 38 = .ok (.invokevirtual 117, 3) := by decide +kernel
theorem dX6_countOfColor_41 : decode cX6_countOfColor 41 = .ok (.invokevirtual 226, 3) := by decide +kernel
theorem dX6_countOfColor_44 : decode cX6_countOfColor 44 = .ok (.ireturn, 1) := by decide +kernel
theorem dX6_countOfColor_45 : decode cX6_countOfColor 45 = .ok (.aload_n 0, 1) := by decide +kernel
theorem dX6_countOfColor_46 : decode cX6_countOfColor 46 = .ok (.getfield 10, 3) := by decide +kernel
theorem dX6_countOfColor_49 : decode cX6_countOfColor 49 = .ok (.iload_n 1, 1) := by decide +kernel
theorem dX6_countOfColor_50 : decode cX6_countOfColor 50 = .ok (.invokevirtual 229, 3) := by decide +kernel
theorem dX6_countOfColor_53 : decode cX6_countOfColor 53 = .ok (.ireturn, 1) := by decide +kernel
theorem dX6_countOfColor_54 : decode cX6_countOfColor 54 = .ok (.aload_n 0, 1) := by decide +kernel
theorem dX6_countOfColor_55 : decode cX6_countOfColor 55 = .ok (.iload_n 1, 1) := by decide +kernel
theorem dX6_countOfColor_56 : decode cX6_countOfColor 56 = .ok (.invokevirtual 117, 3) := by decide +kernel
theorem dX6_countOfColor_59 : decode cX6_countOfColor 59 = .ok (.getfield 232, 3) := by decide +kernel
theorem dX6_countOfColor_62 : decode cX6_countOfColor 62 = .ok (.ireturn, 1) := by decide +kernel
theorem dX6_countOfColor_63 : decode cX6_countOfColor 63 = .ok (.aload_n 0, 1) := by decide +kernel
theorem dX6_countOfColor_64 : decode cX6_countOfColor 64 = .ok (.iload_n 1, 1) := by decide +kernel
theorem dX6_countOfColor_65 : decode cX6_countOfColor 65 = .ok (.invokevirtual 117, 3) := by decide +kernel
theorem dX6_countOfColor_68 : decode cX6_countOfColor 68 = .ok (.invokevirtual 142, 3) := by decide +kernel
theorem dX6_countOfColor_71 : decode cX6_countOfColor 71 = .ok (.ireturn, 1) := by decide +kernel
theorem dX6_countOfColor_72 : decode cX6_countOfColor 72 = .ok (.aload_n 0, 1) := by decide +kernel
theorem dX6_countOfColor_73 : decode cX6_countOfColor 73 = .ok (.iload_n 1, 1) := by decide +kernel
theorem dX6_countOfColor_74 : decode cX6_countOfColor 74 = .ok (.invokevirtual 117, 3) := by decide +kernel
theorem dX6_countOfColor_77 : decode cX6_countOfColor 77 = .ok (.invokevirtual 235, 3) := by decide +kernel
theorem dX6_countOfColor_80 : decode cX6_countOfColor 80 = .ok (.ireturn, 1) := by decide +kernel
theorem dX6_countOfColor_81 : decode cX6_countOfColor 81 = .ok (.iconst 0, 1) := by decide +kernel
theorem dX6_countOfColor_82 : decode cX6_countOfColor 82 = .ok (.ireturn, 1) := by decide +kernel
theorem dX6_countOfColorOnPage_0 : decode cX6_countOfColorOnPage 0 = .ok (.aload_n 0, 1) := by decide +kernel
theorem dX6_countOfColorOnPage_1 : decode cX6_countOfColorOnPage 1 = .ok (.getfield 44, 3) := by decide +kernel
theorem dX6_countOfColorOnPage_4 : decode cX6_countOfColorOnPage 4 = .ok (.iload_n 1, 1) := by decide +kernel
theorem dX6_countOfColorOnPage_5 : decode cX6_countOfColorOnPage 5 = .ok (.iconst 1, 1) := by decide +kernel
theorem dX6_countOfColorOnPage_6 : decode cX6_countOfColorOnPage 6 = .ok (.iload_n 2, 1) := by decide +kernel
theorem dX6_countOfColorOnPage_7 : decode cX6_countOfColorOnPage 7 = .ok (.iload_n 2, 1) := by decide +kernel
theorem dX6_countOfColorOnPage_8 : decode cX6_countOfColorOnPage 8 = .ok (.invokevirtual 209, 3) := by decide +kernel
theorem dX6_countOfColorOnPage_11 : decode cX6_countOfColorOnPage 11 = .ok (.istore 4, 2) := by decide +kernel
theorem dX6_countOfColorOnPage_13 : decode cX6_countOfColorOnPage 13 = .ok (.iload_n 3, 1) := by decide +kernel
theorem dX6_countOfColorOnPage_14 : decode cX6_countOfColorOnPage 14 = .ok (.tableswitch 63 0 2 #[26, 29, 43], 26) := by decide +kernel
theorem dX6_countOfColorOnPage_40 : decode cX6_countOfColorOnPage 40 = .ok (.iload 4, 2) := by decide +kernel
theorem dX6_countOfColorOnPage_42 : decode cX6_countOfColorOnPage 42 = .ok (.ireturn, 1) := by decide +kernel
theorem dX6_countOfColorOnPage_43 : decode cX6_countOfColorOnPage 43 = .ok (.aload_n 0, 1) := by decide +kernel
theorem dX6_countOfColorOnPage_44 : decode cX6_countOfColorOnPage 44 = .ok (.iload_n 2, 1) := by decide +kernel
theorem dX6_countOfColorOnPage_45 : decode cX6_countOfColorOnPage 45 = .ok (.invokevirtual 117, 3) := by decide +kernel
theorem dX6_countOfColorOnPage_48 : decode cX6_countOfColorOnPage 48 = .ok (.aload_n 0, 1) := by decide +kernel
theorem dX6_countOfColorOnPage_49 : decode cX6_countOfColorOnPage 49 = .ok (.getfield 44, 3) := by decide +kernel
theorem dX6_countOfColorOnPage_52 : decode cX6_countOfColorOnPage 52 = .ok (.iload_n 1, 1) := by decide +kernel
theorem dX6_countOfColorOnPage_53 : decode cX6_countOfColorOnPage 53 = .ok (.invokevirtual 238, 3) := by decide +kernel
theorem dX6_countOfColorOnPage_56 : decode cX6_countOfColorOnPage 56 = .ok (.ireturn, 1) := by decide +kernel
theorem dX6_countOfColorOnPage_57 : decode cX6_countOfColorOnPage 57 = .ok (.bipush 48, 2) := by decide +kernel
theorem dX6_countOfColorOnPage_59 : decode cX6_countOfColorOnPage 59 = .ok (.iload 4, 2) := by decide +kernel
theorem dX6_countOfColorOnPage_61 : decode cX6_countOfColorOnPage 61 = .ok (.imul, 1) := by decide +kernel
theorem dX6_countOfColorOnPage_62 : decode cX6_countOfColorOnPage 62 = .ok (.aload_n 0, 1) := by decide +kernel
theorem dX6_countOfColorOnPage_63 : decode cX6_countOfColorOnPage 63 = .ok (.iload_n 2, 1) := by decide +kernel
theorem dX6_countOfColorOnPage_64 : decode cX6_countOfColorOnPage 64 = .ok (.invokevirtual 117, 3) := by decide +kernel
theorem dX6_countOfColorOnPage_67 : decode cX6_countOfColorOnPage 67 = .ok (.aload_n 0, 1) := by decide +kernel
theorem dX6_countOfColorOnPage_68 : decode cX6_countOfColorOnPage 68 = .ok (.getfield 44, 3) := by decide +kernel
theorem dX6_countOfColorOnPage_71 : decode cX6_countOfColorOnPage 71 = .ok (.iload_n 1, 1) := by decide +kernel
theorem dX6_countOfColorOnPage_72 : decode cX6_countOfColorOnPage 72 = .ok (.invokevirtual 242, 3) := by decide +kernel
theorem dX6_countOfColorOnPage_75 : decode cX6_countOfColorOnPage 75 = .ok (.iadd, 1) := by decide +kernel
theorem dX6_countOfColorOnPage_76 : decode cX6_countOfColorOnPage 76 = .ok (.ireturn, 1) := by decide +kernel
theorem dX6_countOfColorOnPage_77 : decode cX6_countOfColorOnPage 77 = .ok (.iconst 0, 1) := by decide +kernel
theorem dX6_countOfColorOnPage_78 : decode cX6_countOfColorOnPage 78 = .ok (.ireturn, 1) := by decide +kernel
theorem dJ9_abs_0f7a4_0 : decode cJ9_abs_0f7a4 0 = .ok (.iload_n 0, 1) := by decide +kernel
theorem dJ9_abs_0f7a4_1 : decode cJ9_abs_0f7a4 1 = .ok (.ifCond .ge 8, 3) := by decide +kernel
theorem dJ9_abs_0f7a4_4 : decode cJ9_abs_0f7a4 4 = .ok (.iload_n 0, 1) := by decide +kernel
theorem dJ9_abs_0f7a4_5 : decode cJ9_abs_0f7a4 5 = .ok (.ineg, 1) := by decide +kernel
theorem dJ9_abs_0f7a4_6 : decode cJ9_abs_0f7a4 6 = .ok (.goto 4, 3) := by decide +kernel
theorem dJ9_abs_0f7a4_9 : decode cJ9_abs_0f7a4 9 = .ok (.iload_n 0, 1) := by decide +kernel
theorem dJ9_abs_0f7a4_10 : decode cJ9_abs_0f7a4 10 = .ok (.ireturn, 1) := by decide +kernel
theorem dJ9_max_7cf53_0 : decode cJ9_max_7cf53 0 = .ok (.iload_n 0, 1) := by decide +kernel
theorem dJ9_max_7cf53_1 : decode cJ9_max_7cf53 1 = .ok (.iload_n 1, 1) := by decide +kernel
theorem dJ9_max_7cf53_2 : decode cJ9_max_7cf53 2 = .ok (.if_icmp .lt 7, 3) := by decide +kernel
theorem dJ9_max_7cf53_5 : decode cJ9_max_7cf53 5 = .ok (.iload_n 0, 1) := by decide +kernel
theorem dJ9_max_7cf53_6 : decode cJ9_max_7cf53 6 = .ok (.goto 4, 3) := by decide +kernel
theorem dJ9_max_7cf53_9 : decode cJ9_max_7cf53 9 = .ok (.iload_n 1, 1) := by decide +kernel
theorem dJ9_max_7cf53_10 : decode cJ9_max_7cf53 10 = .ok (.ireturn, 1) := by decide +kernel
theorem dJ9_min_7cf53_0 : decode cJ9_min_7cf53 0 = .ok (.iload_n 0, 1) := by decide +kernel
theorem dJ9_min_7cf53_1 : decode cJ9_min_7cf53 1 = .ok (.iload_n 1, 1) := by decide +kernel
theorem dJ9_min_7cf53_2 : decode cJ9_min_7cf53 2 = .ok (.if_icmp .gt 7, 3) := by decide +kernel
theorem dJ9_min_7cf53_5 : decode cJ9_min_7cf53 5 = .ok (.iload_n 0, 1) := by decide +kernel
theorem dJ9_min_7cf53_6 : decode cJ9_min_7cf53 6 = .ok (.goto 4, 3) := by decide +kernel
theorem dJ9_min_7cf53_9 : decode cJ9_min_7cf53 9 = .ok (.iload_n 1, 1) := by decide +kernel
theorem dJ9_min_7cf53_10 : decode cJ9_min_7cf53 10 = .ok (.ireturn, 1) := by decide +kernel
theorem dL_cell_0 : decode cL_cell 0 = .ok (.iload_n 1, 1) := by decide +kernel
theorem dL_cell_1 : decode cL_cell 1 = .ok (.aload_n 0, 1) := by decide +kernel
theorem dL_cell_2 : decode cL_cell 2 = .ok (.arraylength, 1) := by decide +kernel
theorem dL_cell_3 : decode cL_cell 3 = .ok (.if_icmp .ge 9, 3) := by decide +kernel
theorem dL_cell_6 : decode cL_cell 6 = .ok (.aload_n 0, 1) := by decide +kernel
theorem dL_cell_7 : decode cL_cell 7 = .ok (.iload_n 1, 1) := by decide +kernel
theorem dL_cell_8 : decode cL_cell 8 = .ok (.iaload, 1) := by decide +kernel
theorem dL_cell_9 : decode cL_cell 9 = .ok (.goto 11, 3) := by decide +kernel
theorem dL_cell_12 : decode cL_cell 12 = .ok (.ldc 7, 2) := by decide +kernel
theorem dL_cell_14 : decode cL_cell 14 = .ok (.iload_n 1, 1) := by decide +kernel
theorem dL_cell_15 : decode cL_cell 15 = .ok (.imul, 1) := by decide +kernel
theorem dL_cell_16 : decode cL_cell 16 = .ok (.sipush 2203, 3) := by decide +kernel
theorem dL_cell_19 : decode cL_cell 19 = .ok (.iadd, 1) := by decide +kernel
theorem dL_cell_20 : decode cL_cell 20 = .ok (.ireturn, 1) := by decide +kernel
theorem dL_low_0 : decode cL_low 0 = .ok (.iload_n 0, 1) := by decide +kernel
theorem dL_low_1 : decode cL_low 1 = .ok (.ldc 8, 2) := by decide +kernel
theorem dL_low_3 : decode cL_low 3 = .ok (.iand, 1) := by decide +kernel
theorem dL_low_4 : decode cL_low 4 = .ok (.iload_n 1, 1) := by decide +kernel
theorem dL_low_5 : decode cL_low 5 = .ok (.irem, 1) := by decide +kernel
theorem dL_low_6 : decode cL_low 6 = .ok (.ireturn, 1) := by decide +kernel
theorem dL_size_0 : decode cL_size 0 = .ok (.iload_n 0, 1) := by decide +kernel
theorem dL_size_1 : decode cL_size 1 = .ok (.ifCond .ge 8, 3) := by decide +kernel
theorem dL_size_4 : decode cL_size 4 = .ok (.iload_n 0, 1) := by decide +kernel
theorem dL_size_5 : decode cL_size 5 = .ok (.ineg, 1) := by decide +kernel
theorem dL_size_6 : decode cL_size 6 = .ok (.goto 4, 3) := by decide +kernel
theorem dL_size_9 : decode cL_size 9 = .ok (.iload_n 0, 1) := by decide +kernel
theorem dL_size_10 : decode cL_size 10 = .ok (.ireturn, 1) := by decide +kernel
theorem dL_runs_0 : decode cL_runs 0 = .ok (.iconst 0, 1) := by decide +kernel
theorem dL_runs_1 : decode cL_runs 1 = .ok (.istore 5, 2) := by decide +kernel
theorem dL_runs_3 : decode cL_runs 3 = .ok (.iconst 0, 1) := by decide +kernel
theorem dL_runs_4 : decode cL_runs 4 = .ok (.istore 6, 2) := by decide +kernel
theorem dL_runs_6 : decode cL_runs 6 = .ok (.iconst 0, 1) := by decide +kernel
theorem dL_runs_7 : decode cL_runs 7 = .ok (.istore 7, 2) := by decide +kernel
theorem dL_runs_9 : decode cL_runs 9 = .ok (.iconst 0, 1) := by decide +kernel
theorem dL_runs_10 : decode cL_runs 10 = .ok (.istore 8, 2) := by decide +kernel
theorem dL_runs_12 : decode cL_runs 12 = .ok (.iconst 1, 1) := by decide +kernel
theorem dL_runs_13 : decode cL_runs 13 = .ok (.istore 9, 2) := by decide +kernel
theorem dL_runs_15 : decode cL_runs 15 = .ok (.iload 9, 2) := by decide +kernel
theorem dL_runs_17 : decode cL_runs 17 = .ok (.bipush 7, 2) := by decide +kernel
theorem dL_runs_19 : decode cL_runs 19 = .ok (.if_icmp .ge 477, 3) := by decide +kernel
theorem dL_runs_22 : decode cL_runs 22 = .ok (.aload_n 0, 1) := by decide +kernel
theorem dL_runs_23 : decode cL_runs 23 = .ok (.iload 9, 2) := by decide +kernel
theorem dL_runs_25 : decode cL_runs 25 = .ok (.iconst 2, 1) := by decide +kernel
theorem dL_runs_26 : decode cL_runs 26 = .ok (.invokevirtual 9, 3) := by decide +kernel
theorem dL_runs_29 : decode cL_runs 29 = .ok (.istore 10, 2) := by decide +kernel
theorem dL_runs_31 : decode cL_runs 31 = .ok (.iconst 0, 1) := by decide +kernel
theorem dL_runs_32 : decode cL_runs 32 = .ok (.istore 11, 2) := by decide +kernel
theorem dL_runs_34 : decode cL_runs 34 = .ok (.iconst 0, 1) := by decide +kernel
theorem dL_runs_35 : decode cL_runs 35 = .ok (.istore 12, 2) := by decide +kernel
theorem dL_runs_37 : decode cL_runs 37 = .ok (.iconst 0, 1) := by decide +kernel
theorem dL_runs_38 : decode cL_runs 38 = .ok (.istore 13, 2) := by decide +kernel
theorem dL_runs_40 : decode cL_runs 40 = .ok (.iload 13, 2) := by decide +kernel
theorem dL_runs_42 : decode cL_runs 42 = .ok (.iload_n 2, 1) := by decide +kernel
theorem dL_runs_43 : decode cL_runs 43 = .ok (.if_icmp .ge 178, 3) := by decide +kernel
theorem dL_runs_46 : decode cL_runs 46 = .ok (.iconst 0, 1) := by decide +kernel
theorem dL_runs_47 : decode cL_runs 47 = .ok (.istore 14, 2) := by decide +kernel
theorem dL_runs_49 : decode cL_runs 49 = .ok (.iload 14, 2) := by decide +kernel
theorem dL_runs_51 : decode cL_runs 51 = .ok (.iload_n 1, 1) := by decide +kernel
theorem dL_runs_52 : decode cL_runs 52 = .ok (.if_icmp .ge 163, 3) := by decide +kernel
theorem dL_runs_55 : decode cL_runs 55 = .ok (.aload_n 0, 1) := by decide +kernel
theorem dL_runs_56 : decode cL_runs 56 = .ok (.iload 14, 2) := by decide +kernel
theorem dL_runs_58 : decode cL_runs 58 = .ok (.iload 13, 2) := by decide +kernel
theorem dL_runs_60 : decode cL_runs 60 = .ok (.invokevirtual 15, 3) := by decide +kernel
theorem dL_runs_63 : decode cL_runs 63 = .ok (.iload 9, 2) := by decide +kernel
theorem dL_runs_65 : decode cL_runs 65 = .ok (.if_icmp .ne 7, 3) := by decide +kernel
theorem dL_runs_68 : decode cL_runs 68 = .ok (.iconst 1, 1) := by decide +kernel
theorem dL_runs_69 : decode cL_runs 69 = .ok (.goto 4, 3) := by decide +kernel
theorem dL_runs_72 : decode cL_runs 72 = .ok (.iconst 0, 1) := by decide +kernel
theorem dL_runs_73 : decode cL_runs 73 = .ok (.istore 15, 2) := by decide +kernel
theorem dL_runs_75 : decode cL_runs 75 = .ok (.iload 12, 2) := by decide +kernel
theorem dL_runs_77 : decode cL_runs 77 = .ok (.iload 15, 2) := by decide +kernel
theorem dL_runs_79 : decode cL_runs 79 = .ok (.ifCond .eq 7, 3) := by decide +kernel
theorem dL_runs_82 : decode cL_runs 82 = .ok (.iconst 1, 1) := by decide +kernel
theorem dL_runs_83 : decode cL_runs 83 = .ok (.goto 4, 3) := by decide +kernel
theorem dL_runs_86 : decode cL_runs 86 = .ok (.iconst 0, 1) := by decide +kernel
theorem dL_runs_87 : decode cL_runs 87 = .ok (.iadd, 1) := by decide +kernel
theorem dL_runs_88 : decode cL_runs 88 = .ok (.istore 12, 2) := by decide +kernel
theorem dL_runs_90 : decode cL_runs 90 = .ok (.iload 15, 2) := by decide +kernel
theorem dL_runs_92 : decode cL_runs 92 = .ok (.ifCond .eq 117, 3) := by decide +kernel
theorem dL_runs_95 : decode cL_runs 95 = .ok (.aload_n 0, 1) := by decide +kernel
theorem dL_runs_96 : decode cL_runs 96 = .ok (.iload 14, 2) := by decide +kernel
theorem dL_runs_98 : decode cL_runs 98 = .ok (.iconst 1, 1) := by decide +kernel
theorem dL_runs_99 : decode cL_runs 99 = .ok (.isub, 1) := by decide +kernel
theorem dL_runs_100 : decode cL_runs 100 = .ok (.iload 13, 2) := by decide +kernel
theorem dL_runs_102 : decode cL_runs 102 = .ok (.invokevirtual 15, 3) := by decide +kernel
theorem dL_runs_105 : decode cL_runs 105 = .ok (.iload 9, 2) := by decide +kernel
theorem dL_runs_107 : decode cL_runs 107 = .ok (.if_icmp .eq 102, 3) := by decide +kernel
theorem dL_runs_110 : decode cL_runs 110 = .ok (.iconst 0, 1) := by decide +kernel
theorem dL_runs_111 : decode cL_runs 111 = .ok (.istore 16, 2) := by decide +kernel
theorem dL_runs_113 : decode cL_runs 113 = .ok (.aload_n 0, 1) := by decide +kernel
theorem dL_runs_114 : decode cL_runs 114 = .ok (.iload 14, 2) := by decide +kernel
theorem dL_runs_116 : decode cL_runs 116 = .ok (.iload 16, 2) := by decide +kernel
theorem dL_runs_118 : decode cL_runs 118 = .ok (.iadd, 1) := by decide +kernel
theorem dL_runs_119 : decode cL_runs 119 = .ok (.iload 13, 2) := by decide +kernel
theorem dL_runs_121 : decode cL_runs 121 = .ok (.invokevirtual 15, 3) := by decide +kernel
theorem dL_runs_124 : decode cL_runs 124 = .ok (.iload 9, 2) := by decide +kernel
theorem dL_runs_126 : decode cL_runs 126 = .ok (.if_icmp .ne 9, 3) := by decide +kernel
theorem dL_runs_129 : decode cL_runs 129 = .ok (.iinc 16 1, 3) := by decide +kernel
theorem dL_runs_132 : decode cL_runs 132 = .ok (.goto (-19), 3) := by decide +kernel
theorem dL_runs_135 : decode cL_runs 135 = .ok (.iload 11, 2) := by decide +kernel
theorem dL_runs_137 : decode cL_runs 137 = .ok (.iload 10, 2) := by decide +kernel
theorem dL_runs_139 : decode cL_runs 139 = .ok (.if_icmp .ge 65, 3) := by decide +kernel
theorem dL_runs_142 : decode cL_runs 142 = .ok (.aload_n 0, 1) := by decide +kernel
theorem dL_runs_143 : decode cL_runs 143 = .ok (.iload 9, 2) := by decide +kernel
theorem dL_runs_145 : decode cL_runs 145 = .ok (.iload 11, 2) := by decide +kernel
theorem dL_runs_147 : decode cL_runs 147 = .ok (.iconst 0, 1) := by decide +kernel
theorem dL_runs_148 : decode cL_runs 148 = .ok (.invokevirtual 18, 3) := by decide +kernel
theorem dL_runs_151 : decode cL_runs 151 = .ok (.iload 14, 2) := by decide +kernel
theorem dL_runs_153 : decode cL_runs 153 = .ok (.if_icmp .ne 51, 3) := by decide +kernel
theorem dL_runs_156 : decode cL_runs 156 = .ok (.aload_n 0, 1) := by decide +kernel
theorem dL_runs_157 : decode cL_runs 157 = .ok (.iload 9, 2) := by decide +kernel
theorem dL_runs_159 : decode cL_runs 159 = .ok (.iload 11, 2) := by decide +kernel
theorem dL_runs_161 : decode cL_runs 161 = .ok (.iconst 1, 1) := by decide +kernel
theorem dL_runs_162 : decode cL_runs 162 = .ok (.invokevirtual 18, 3) := by decide +kernel
theorem dL_runs_165 : decode cL_runs 165 = .ok (.iload 13, 2) := by decide +kernel
theorem dL_runs_167 : decode cL_runs 167 = .ok (.if_icmp .ne 37, 3) := by decide +kernel
theorem dL_runs_170 : decode cL_runs 170 = .ok (.aload_n 0, 1) := by decide +kernel
theorem dL_runs_171 : decode cL_runs 171 = .ok (.iload 9, 2) := by decide +kernel
theorem dL_runs_173 : decode cL_runs 173 = .ok (.iload 11, 2) := by decide +kernel
theorem dL_runs_175 : decode cL_runs 175 = .ok (.iconst 2, 1) := by decide +kernel
theorem dL_runs_176 : decode cL_runs 176 = .ok (.invokevirtual 18, 3) := by decide +kernel
theorem dL_runs_179 : decode cL_runs 179 = .ok (.iload 16, 2) := by decide +kernel
theorem dL_runs_181 : decode cL_runs 181 = .ok (.if_icmp .ne 23, 3) := by decide +kernel
theorem dL_runs_184 : decode cL_runs 184 = .ok (.aload_n 0, 1) := by decide +kernel
theorem dL_runs_185 : decode cL_runs 185 = .ok (.iload 9, 2) := by decide +kernel
theorem dL_runs_187 : decode cL_runs 187 = .ok (.aload_n 0, 1) := by decide +kernel
theorem dL_runs_188 : decode cL_runs 188 = .ok (.iload 9, 2) := by decide +kernel
theorem dL_runs_190 : decode cL_runs 190 = .ok (.iload 11, 2) := by decide +kernel
theorem dL_runs_192 : decode cL_runs 192 = .ok (.iconst 3, 1) := by decide +kernel
theorem dL_runs_193 : decode cL_runs 193 = .ok (.invokevirtual 18, 3) := by decide +kernel
theorem dL_runs_196 : decode cL_runs 196 = .ok (.invokevirtual 22, 3) := by decide +kernel
theorem dL_runs_199 : decode cL_runs 199 = .ok (.iload 11, 2) := by decide +kernel
theorem dL_runs_201 : decode cL_runs 201 = .ok (.if_icmp .eq 5, 3) := by decide +kernel
theorem dL_runs_204 : decode cL_runs 204 = .ok (.iconst 0, 1) := by decide +kernel
theorem dL_runs_205 : decode cL_runs 205 = .ok (.ireturn, 1) := by decide +kernel
theorem dL_runs_206 : decode cL_runs 206 = .ok (.iinc 11 1, 3) := by decide +kernel
theorem dL_runs_209 : decode cL_runs 209 = .ok (.iinc 14 1, 3) := by decide +kernel
theorem dL_runs_212 : decode cL_runs 212 = .ok (.goto (-163), 3) := by decide +kernel
theorem dL_runs_215 : decode cL_runs 215 = .ok (.iinc 13 1, 3) := by decide +kernel
theorem dL_runs_218 : decode cL_runs 218 = .ok (.goto (-178), 3) := by decide +kernel
theorem dL_runs_221 : decode cL_runs 221 = .ok (.iload 10, 2) := by decide +kernel
theorem dL_runs_223 : decode cL_runs 223 = .ok (.ifCond .ne 7, 3) := by decide +kernel
theorem dL_runs_226 : decode cL_runs 226 = .ok (.iconst 0, 1) := by decide +kernel
theorem dL_runs_227 : decode cL_runs 227 = .ok (.goto 13, 3) := by decide +kernel
theorem dL_runs_230 : decode cL_runs 230 = .ok (.iconst 2, 1) := by decide +kernel
theorem dL_runs_231 : decode cL_runs 231 = .ok (.iload 4, 2) := by decide +kernel
theorem dL_runs_233 : decode cL_runs 233 = .ok (.imul, 1) := by decide +kernel
theorem dL_runs_234 : decode cL_runs 234 = .ok (.bipush 48, 2) := by decide +kernel
theorem dL_runs_236 : decode cL_runs 236 = .ok (.iload 12, 2) := by decide +kernel
theorem dL_runs_238 : decode cL_runs 238 = .ok (.imul, 1) := by decide +kernel
theorem dL_runs_239 : decode cL_runs 239 = .ok (.iadd, 1) := by decide +kernel
theorem dL_runs_240 : decode cL_runs 240 = .ok (.istore 13, 2) := by decide +kernel
theorem dL_runs_242 : decode cL_runs 242 = .ok (.iload 10, 2) := by decide +kernel
theorem dL_runs_244 : decode cL_runs 244 = .ok (.ifCond .ne 7, 3) := by decide +kernel
theorem dL_runs_247 : decode cL_runs 247 = .ok (.iconst 0, 1) := by decide +kernel
theorem dL_runs_248 : decode cL_runs 248 = .ok (.goto 4, 3) := by decide +kernel
theorem dL_runs_251 : decode cL_runs 251 = .ok (.iconst 1, 1) := by decide +kernel
theorem dL_runs_252 : decode cL_runs 252 = .ok (.istore 14, 2) := by decide +kernel
theorem dL_runs_254 : decode cL_runs 254 = .ok (.iconst 1, 1) := by decide +kernel
theorem dL_runs_255 : decode cL_runs 255 = .ok (.istore 15, 2) := by decide +kernel
theorem dL_runs_257 : decode cL_runs 257 = .ok (.iload 15, 2) := by decide +kernel
theorem dL_runs_259 : decode cL_runs 259 = .ok (.iload 10, 2) := by decide +kernel
theorem dL_runs_261 : decode cL_runs 261 = .ok (.if_icmp .ge 117, 3) := by decide +kernel
theorem dL_runs_264 : decode cL_runs 264 = .ok (.aload_n 0, 1) := by decide +kernel
theorem dL_runs_265 : decode cL_runs 265 = .ok (.iload 9, 2) := by decide +kernel
theorem dL_runs_267 : decode cL_runs 267 = .ok (.iload 15, 2) := by decide +kernel
theorem dL_runs_269 : decode cL_runs 269 = .ok (.iconst 1, 1) := by decide +kernel
theorem dL_runs_270 : decode cL_runs 270 = .ok (.isub, 1) := by decide +kernel
theorem dL_runs_271 : decode cL_runs 271 = .ok (.invokevirtual 22, 3) := by decide +kernel
theorem dL_runs_274 : decode cL_runs 274 = .ok (.istore 16, 2) := by decide +kernel
theorem dL_runs_276 : decode cL_runs 276 = .ok (.aload_n 0, 1) := by decide +kernel
theorem dL_runs_277 : decode cL_runs 277 = .ok (.iload 9, 2) := by decide +kernel
theorem dL_runs_279 : decode cL_runs 279 = .ok (.iload 15, 2) := by decide +kernel
theorem dL_runs_281 : decode cL_runs 281 = .ok (.invokevirtual 22, 3) := by decide +kernel
theorem dL_runs_284 : decode cL_runs 284 = .ok (.istore 17, 2) := by decide +kernel
theorem dL_runs_286 : decode cL_runs 286 = .ok (.bipush 10, 2) := by decide +kernel
theorem dL_runs_288 : decode cL_runs 288 = .ok (.aload_n 0, 1) := by decide +kernel
theorem dL_runs_289 : decode cL_runs 289 = .ok (.iload 9, 2) := by decide +kernel
theorem dL_runs_291 : decode cL_runs 291 = .ok (.iload 16, 2) := by decide +kernel
theorem dL_runs_293 : decode cL_runs 293 = .ok (.iconst 0, 1) := by decide +kernel
theorem dL_runs_294 : decode cL_runs 294 = .ok (.invokevirtual 18, 3) := by decide +kernel
theorem dL_runs_297 : decode cL_runs 297 = .ok (.aload_n 0, 1) := by decide +kernel
theorem dL_runs_298 : decode cL_runs 298 = .ok (.iload 9, 2) := by decide +kernel
theorem dL_runs_300 : decode cL_runs 300 = .ok (.iload 17, 2) := by decide +kernel
theorem dL_runs_302 : decode cL_runs 302 = .ok (.iconst 0, 1) := by decide +kernel
theorem dL_runs_303 : decode cL_runs 303 = .ok (.invokevirtual 18, 3) := by decide +kernel
theorem dL_runs_306 : decode cL_runs 306 = .ok (.isub, 1) := by decide +kernel
theorem dL_runs_307 : decode cL_runs 307 = .ok (.invokestatic 25, 3) := by decide +kernel
theorem dL_runs_310 : decode cL_runs 310 = .ok (.aload_n 0, 1) := by decide +kernel
theorem dL_runs_311 : decode cL_runs 311 = .ok (.iload 9, 2) := by decide +kernel
theorem dL_runs_313 : decode cL_runs 313 = .ok (.iload 16, 2) := by decide +kernel
theorem dL_runs_315 : decode cL_runs 315 = .ok (.iconst 1, 1) := by decide +kernel
theorem dL_runs_316 : decode cL_runs 316 = .ok (.invokevirtual 18, 3) := by decide +kernel
theorem dL_runs_319 : decode cL_runs 319 = .ok (.aload_n 0, 1) := by decide +kernel
theorem dL_runs_320 : decode cL_runs 320 = .ok (.iload 9, 2) := by decide +kernel
theorem dL_runs_322 : decode cL_runs 322 = .ok (.iload 17, 2) := by decide +kernel
theorem dL_runs_324 : decode cL_runs 324 = .ok (.iconst 1, 1) := by decide +kernel
theorem dL_runs_325 : decode cL_runs 325 = .ok (.invokevirtual 18, 3) := by decide +kernel
theorem dL_runs_328 : decode cL_runs 328 = .ok (.isub, 1) := by decide +kernel
theorem dL_runs_329 : decode cL_runs 329 = .ok (.invokestatic 25, 3) := by decide +kernel
theorem dL_runs_332 : decode cL_runs 332 = .ok (.iadd, 1) := by decide +kernel
theorem dL_runs_333 : decode cL_runs 333 = .ok (.imul, 1) := by decide +kernel
theorem dL_runs_334 : decode cL_runs 334 = .ok (.istore 18, 2) := by decide +kernel
theorem dL_runs_336 : decode cL_runs 336 = .ok (.iload 13, 2) := by decide +kernel
theorem dL_runs_338 : decode cL_runs 338 = .ok (.iload 18, 2) := by decide +kernel
theorem dL_runs_340 : decode cL_runs 340 = .ok (.iload_n 3, 1) := by decide +kernel
theorem dL_runs_341 : decode cL_runs 341 = .ok (.if_icmp .gt 8, 3) := by decide +kernel
theorem dL_runs_344 : decode cL_runs 344 = .ok (.iload 18, 2) := by decide +kernel
theorem dL_runs_346 : decode cL_runs 346 = .ok (.goto 7, 3) := by decide +kernel
theorem dL_runs_349 : decode cL_runs 349 = .ok (.iconst 2, 1) := by decide +kernel
theorem dL_runs_350 : decode cL_runs 350 = .ok (.iload 4, 2) := by decide +kernel
theorem dL_runs_352 : decode cL_runs 352 = .ok (.imul, 1) := by decide +kernel
theorem dL_runs_353 : decode cL_runs 353 = .ok (.iadd, 1) := by decide +kernel
theorem dL_runs_354 : decode cL_runs 354 = .ok (.istore 13, 2) := by decide +kernel
theorem dL_runs_356 : decode cL_runs 356 = .ok (.iload 14, 2) := by decide +kernel
theorem dL_runs_358 : decode cL_runs 358 = .ok (.iload 18, 2) := by decide +kernel
theorem dL_runs_360 : decode cL_runs 360 = .ok (.iload_n 3, 1) := by decide +kernel
theorem dL_runs_361 : decode cL_runs 361 = .ok (.if_icmp .gt 7, 3) := by decide +kernel
theorem dL_runs_364 : decode cL_runs 364 = .ok (.iconst 0, 1) := by decide +kernel
theorem dL_runs_365 : decode cL_runs 365 = .ok (.goto 4, 3) := by decide +kernel
theorem dL_runs_368 : decode cL_runs 368 = .ok (.iconst 1, 1) := by decide +kernel
theorem dL_runs_369 : decode cL_runs 369 = .ok (.iadd, 1) := by decide +kernel
theorem dL_runs_370 : decode cL_runs 370 = .ok (.istore 14, 2) := by decide +kernel
theorem dL_runs_372 : decode cL_runs 372 = .ok (.iinc 15 1, 3) := by decide +kernel
theorem dL_runs_375 : decode cL_runs 375 = .ok (.goto (-118), 3) := by decide +kernel
theorem dL_runs_378 : decode cL_runs 378 = .ok (.iload 11, 2) := by decide +kernel
theorem dL_runs_380 : decode cL_runs 380 = .ok (.iload 10, 2) := by decide +kernel
theorem dL_runs_382 : decode cL_runs 382 = .ok (.if_icmp .ne 78, 3) := by decide +kernel
theorem dL_runs_385 : decode cL_runs 385 = .ok (.aload_n 0, 1) := by decide +kernel
theorem dL_runs_386 : decode cL_runs 386 = .ok (.iload 9, 2) := by decide +kernel
theorem dL_runs_388 : decode cL_runs 388 = .ok (.iconst 0, 1) := by decide +kernel
theorem dL_runs_389 : decode cL_runs 389 = .ok (.invokevirtual 9, 3) := by decide +kernel
theorem dL_runs_392 : decode cL_runs 392 = .ok (.iload 12, 2) := by decide +kernel
theorem dL_runs_394 : decode cL_runs 394 = .ok (.if_icmp .ne 66, 3) := by decide +kernel
theorem dL_runs_397 : decode cL_runs 397 = .ok (.aload_n 0, 1) := by decide +kernel
theorem dL_runs_398 : decode cL_runs 398 = .ok (.iload 9, 2) := by decide +kernel
theorem dL_runs_400 : decode cL_runs 400 = .ok (.iconst 3, 1) := by decide +kernel
theorem dL_runs_401 : decode cL_runs 401 = .ok (.invokevirtual 9, 3) := by decide +kernel
theorem dL_runs_404 : decode cL_runs 404 = .ok (.iload 13, 2) := by decide +kernel
theorem dL_runs_406 : decode cL_runs 406 = .ok (.if_icmp .ne 54, 3) := by decide +kernel
theorem dL_runs_409 : decode cL_runs 409 = .ok (.aload_n 0, 1) := by decide +kernel
theorem dL_runs_410 : decode cL_runs 410 = .ok (.iload 9, 2) := by decide +kernel
theorem dL_runs_412 : decode cL_runs 412 = .ok (.iconst 4, 1) := by decide +kernel
theorem dL_runs_413 : decode cL_runs 413 = .ok (.invokevirtual 9, 3) := by decide +kernel
theorem dL_runs_416 : decode cL_runs 416 = .ok (.iload 14, 2) := by decide +kernel
theorem dL_runs_418 : decode cL_runs 418 = .ok (.if_icmp .ne 42, 3) := by decide +kernel
theorem dL_runs_421 : decode cL_runs 421 = .ok (.aload_n 0, 1) := by decide +kernel
theorem dL_runs_422 : decode cL_runs 422 = .ok (.iload 9, 2) := by decide +kernel
theorem dL_runs_424 : decode cL_runs 424 = .ok (.iload 10, 2) := by decide +kernel
theorem dL_runs_426 : decode cL_runs 426 = .ok (.invokevirtual 22, 3) := by decide +kernel
theorem dL_runs_429 : decode cL_runs 429 = .ok (.bipush (-4), 2) := by decide +kernel
theorem dL_runs_431 : decode cL_runs 431 = .ok (.if_icmp .ne 29, 3) := by decide +kernel
theorem dL_runs_434 : decode cL_runs 434 = .ok (.aload_n 0, 1) := by decide +kernel
theorem dL_runs_435 : decode cL_runs 435 = .ok (.iload 9, 2) := by decide +kernel
theorem dL_runs_437 : decode cL_runs 437 = .ok (.iconst (-1), 1) := by decide +kernel
theorem dL_runs_438 : decode cL_runs 438 = .ok (.invokevirtual 22, 3) := by decide +kernel
theorem dL_runs_441 : decode cL_runs 441 = .ok (.bipush (-2), 2) := by decide +kernel
theorem dL_runs_443 : decode cL_runs 443 = .ok (.if_icmp .ne 17, 3) := by decide +kernel
theorem dL_runs_446 : decode cL_runs 446 = .ok (.aload_n 0, 1) := by decide +kernel
theorem dL_runs_447 : decode cL_runs 447 = .ok (.iload 9, 2) := by decide +kernel
theorem dL_runs_449 : decode cL_runs 449 = .ok (.iload 10, 2) := by decide +kernel
theorem dL_runs_451 : decode cL_runs 451 = .ok (.bipush 9, 2) := by decide +kernel
theorem dL_runs_453 : decode cL_runs 453 = .ok (.invokevirtual 18, 3) := by decide +kernel
theorem dL_runs_456 : decode cL_runs 456 = .ok (.iconst (-1), 1) := by decide +kernel
theorem dL_runs_457 : decode cL_runs 457 = .ok (.if_icmp .eq 5, 3) := by decide +kernel
theorem dL_runs_460 : decode cL_runs 460 = .ok (.iconst 0, 1) := by decide +kernel
theorem dL_runs_461 : decode cL_runs 461 = .ok (.ireturn, 1) := by decide +kernel
theorem dL_runs_462 : decode cL_runs 462 = .ok (.iload 5, 2) := by decide +kernel
theorem dL_runs_464 : decode cL_runs 464 = .ok (.iload 12, 2) := by decide +kernel
theorem dL_runs_466 : decode cL_runs 466 = .ok (.iadd, 1) := by decide +kernel
theorem dL_runs_467 : decode cL_runs 467 = .ok (.istore 5, 2) := by decide +kernel
theorem dL_runs_469 : decode cL_runs 469 = .ok (.iload 6, 2) := by decide +kernel
theorem dL_runs_471 : decode cL_runs 471 = .ok (.iload 10, 2) := by decide +kernel
theorem dL_runs_473 : decode cL_runs 473 = .ok (.iadd, 1) := by decide +kernel
theorem dL_runs_474 : decode cL_runs 474 = .ok (.istore 6, 2) := by decide +kernel
theorem dL_runs_476 : decode cL_runs 476 = .ok (.iload 7, 2) := by decide +kernel
theorem dL_runs_478 : decode cL_runs 478 = .ok (.iload 13, 2) := by decide +kernel
theorem dL_runs_480 : decode cL_runs 480 = .ok (.iadd, 1) := by decide +kernel
theorem dL_runs_481 : decode cL_runs 481 = .ok (.istore 7, 2) := by decide +kernel
theorem dL_runs_483 : decode cL_runs 483 = .ok (.iload 8, 2) := by decide +kernel
theorem dL_runs_485 : decode cL_runs 485 = .ok (.iload 14, 2) := by decide +kernel
theorem dL_runs_487 : decode cL_runs 487 = .ok (.iadd, 1) := by decide +kernel
theorem dL_runs_488 : decode cL_runs 488 = .ok (.istore 8, 2) := by decide +kernel
theorem dL_runs_490 : decode cL_runs 490 = .ok (.iinc 9 1, 3) := by decide +kernel
theorem dL_runs_493 : decode cL_runs 493 = .ok (.goto (-478), 3) := by decide +kernel
theorem dL_runs_496 : decode cL_runs 496 = .ok (.aload_n 0, 1) := by decide +kernel
theorem dL_runs_497 : decode cL_runs 497 = .ok (.iconst 0, 1) := by decide +kernel
theorem dL_runs_498 : decode cL_runs 498 = .ok (.iconst 0, 1) := by decide +kernel
theorem dL_runs_499 : decode cL_runs 499 = .ok (.invokevirtual 9, 3) := by decide +kernel
theorem dL_runs_502 : decode cL_runs 502 = .ok (.iload 5, 2) := by decide +kernel
theorem dL_runs_504 : decode cL_runs 504 = .ok (.if_icmp .ne 63, 3) := by decide +kernel
theorem dL_runs_507 : decode cL_runs 507 = .ok (.aload_n 0, 1) := by decide +kernel
theorem dL_runs_508 : decode cL_runs 508 = .ok (.iconst 0, 1) := by decide +kernel
theorem dL_runs_509 : decode cL_runs 509 = .ok (.iconst 2, 1) := by decide +kernel
theorem dL_runs_510 : decode cL_runs 510 = .ok (.invokevirtual 9, 3) := by decide +kernel
theorem dL_runs_513 : decode cL_runs 513 = .ok (.iload 6, 2) := by decide +kernel
theorem dL_runs_515 : decode cL_runs 515 = .ok (.if_icmp .ne 52, 3) := by decide +kernel
theorem dL_runs_518 : decode cL_runs 518 = .ok (.aload_n 0, 1) := by decide +kernel
theorem dL_runs_519 : decode cL_runs 519 = .ok (.iconst 0, 1) := by decide +kernel
theorem dL_runs_520 : decode cL_runs 520 = .ok (.iconst 3, 1) := by decide +kernel
theorem dL_runs_521 : decode cL_runs 521 = .ok (.invokevirtual 9, 3) := by decide +kernel
theorem dL_runs_524 : decode cL_runs 524 = .ok (.iload 7, 2) := by decide +kernel
theorem dL_runs_526 : decode cL_runs 526 = .ok (.if_icmp .ne 41, 3) := by decide +kernel
theorem dL_runs_529 : decode cL_runs 529 = .ok (.aload_n 0, 1) := by decide +kernel
theorem dL_runs_530 : decode cL_runs 530 = .ok (.iconst 0, 1) := by decide +kernel
theorem dL_runs_531 : decode cL_runs 531 = .ok (.iconst 4, 1) := by decide +kernel
theorem dL_runs_532 : decode cL_runs 532 = .ok (.invokevirtual 9, 3) := by decide +kernel
theorem dL_runs_535 : decode cL_runs 535 = .ok (.iload 8, 2) := by decide +kernel
theorem dL_runs_537 : decode cL_runs 537 = .ok (.if_icmp .ne 30, 3) := by decide +kernel
theorem dL_runs_540 : decode cL_runs 540 = .ok (.aload_n 0, 1) := by decide +kernel
theorem dL_runs_541 : decode cL_runs 541 = .ok (.bipush 7, 2) := by decide +kernel
theorem dL_runs_543 : decode cL_runs 543 = .ok (.iconst 0, 1) := by decide +kernel
theorem dL_runs_544 : decode cL_runs 544 = .ok (.invokevirtual 9, 3) := by decide +kernel
theorem dL_runs_547 : decode cL_runs 547 = .ok (.bipush (-2), 2) := by decide +kernel
theorem dL_runs_549 : decode cL_runs 549 = .ok (.if_icmp .ne 18, 3) := by decide +kernel
theorem dL_runs_552 : decode cL_runs 552 = .ok (.aload_n 0, 1) := by decide +kernel
theorem dL_runs_553 : decode cL_runs 553 = .ok (.iconst 0, 1) := by decide +kernel
theorem dL_runs_554 : decode cL_runs 554 = .ok (.iconst 5, 1) := by decide +kernel
theorem dL_runs_555 : decode cL_runs 555 = .ok (.invokevirtual 9, 3) := by decide +kernel
theorem dL_runs_558 : decode cL_runs 558 = .ok (.bipush (-2), 2) := by decide +kernel
theorem dL_runs_560 : decode cL_runs 560 = .ok (.if_icmp .ne 7, 3) := by decide +kernel
theorem dL_runs_563 : decode cL_runs 563 = .ok (.iconst 1, 1) := by decide +kernel
theorem dL_runs_564 : decode cL_runs 564 = .ok (.goto 4, 3) := by decide +kernel
theorem dL_runs_567 : decode cL_runs 567 = .ok (.iconst 0, 1) := by decide +kernel
theorem dL_runs_568 : decode cL_runs 568 = .ok (.ireturn, 1) := by decide +kernel
theorem dL_nearest_0 : decode cL_nearest 0 = .ok (.aload_n 0, 1) := by decide +kernel
theorem dL_nearest_1 : decode cL_nearest 1 = .ok (.iload_n 1, 1) := by decide +kernel
theorem dL_nearest_2 : decode cL_nearest 2 = .ok (.iconst 2, 1) := by decide +kernel
theorem dL_nearest_3 : decode cL_nearest 3 = .ok (.invokevirtual 9, 3) := by decide +kernel
theorem dL_nearest_6 : decode cL_nearest 6 = .ok (.istore_n 2, 1) := by decide +kernel
theorem dL_nearest_7 : decode cL_nearest 7 = .ok (.iload_n 2, 1) := by decide +kernel
theorem dL_nearest_8 : decode cL_nearest 8 = .ok (.bipush 40, 2) := by decide +kernel
theorem dL_nearest_10 : decode cL_nearest 10 = .ok (.if_icmp .le 5, 3) := by decide +kernel
theorem dL_nearest_13 : decode cL_nearest 13 = .ok (.iconst 1, 1) := by decide +kernel
theorem dL_nearest_14 : decode cL_nearest 14 = .ok (.ireturn, 1) := by decide +kernel
theorem dL_nearest_15 : decode cL_nearest 15 = .ok (.iconst 0, 1) := by decide +kernel
theorem dL_nearest_16 : decode cL_nearest 16 = .ok (.istore_n 3, 1) := by decide +kernel
theorem dL_nearest_17 : decode cL_nearest 17 = .ok (.iload_n 3, 1) := by decide +kernel
theorem dL_nearest_18 : decode cL_nearest 18 = .ok (.iload_n 2, 1) := by decide +kernel
theorem dL_nearest_19 : decode cL_nearest 19 = .ok (.if_icmp .ge 185, 3) := by decide +kernel
theorem dL_nearest_22 : decode cL_nearest 22 = .ok (.aload_n 0, 1) := by decide +kernel
theorem dL_nearest_23 : decode cL_nearest 23 = .ok (.iload_n 1, 1) := by decide +kernel
theorem dL_nearest_24 : decode cL_nearest 24 = .ok (.iload_n 3, 1) := by decide +kernel
theorem dL_nearest_25 : decode cL_nearest 25 = .ok (.ifCond .ne 7, 3) := by decide +kernel
theorem dL_nearest_28 : decode cL_nearest 28 = .ok (.iconst 0, 1) := by decide +kernel
theorem dL_nearest_29 : decode cL_nearest 29 = .ok (.goto 6, 3) := by decide +kernel
theorem dL_nearest_32 : decode cL_nearest 32 = .ok (.iload_n 3, 1) := by decide +kernel
theorem dL_nearest_33 : decode cL_nearest 33 = .ok (.iconst 1, 1) := by decide +kernel
theorem dL_nearest_34 : decode cL_nearest 34 = .ok (.isub, 1) := by decide +kernel
theorem dL_nearest_35 : decode cL_nearest 35 = .ok (.invokevirtual 22, 3) := by decide +kernel
theorem dL_nearest_38 : decode cL_nearest 38 = .ok (.istore 4, 2) := by decide +kernel
theorem dL_nearest_40 : decode cL_nearest 40 = .ok (.aload_n 0, 1) := by decide +kernel
theorem dL_nearest_41 : decode cL_nearest 41 = .ok (.iload_n 1, 1) := by decide +kernel
theorem dL_nearest_42 : decode cL_nearest 42 = .ok (.iload_n 3, 1) := by decide +kernel
theorem dL_nearest_43 : decode cL_nearest 43 = .ok (.invokevirtual 22, 3) := by decide +kernel
theorem dL_nearest_46 : decode cL_nearest 46 = .ok (.istore 5, 2) := by decide +kernel
theorem dL_nearest_48 : decode cL_nearest 48 = .ok (.aload_n 0, 1) := by decide +kernel
theorem dL_nearest_49 : decode cL_nearest 49 = .ok (.iload_n 1, 1) := by decide +kernel
theorem dL_nearest_50 : decode cL_nearest 50 = .ok (.iload 4, 2) := by decide +kernel
theorem dL_nearest_52 : decode cL_nearest 52 = .ok (.iconst 0, 1) := by decide +kernel
theorem dL_nearest_53 : decode cL_nearest 53 = .ok (.invokevirtual 18, 3) := by decide +kernel
theorem dL_nearest_56 : decode cL_nearest 56 = .ok (.aload_n 0, 1) := by decide +kernel
theorem dL_nearest_57 : decode cL_nearest 57 = .ok (.iload_n 1, 1) := by decide +kernel
theorem dL_nearest_58 : decode cL_nearest 58 = .ok (.iload 5, 2) := by decide +kernel
theorem dL_nearest_60 : decode cL_nearest 60 = .ok (.iconst 0, 1) := by decide +kernel
theorem dL_nearest_61 : decode cL_nearest 61 = .ok (.invokevirtual 18, 3) := by decide +kernel
theorem dL_nearest_64 : decode cL_nearest 64 = .ok (.isub, 1) := by decide +kernel
theorem dL_nearest_65 : decode cL_nearest 65 = .ok (.invokestatic 25, 3) := by decide +kernel
theorem dL_nearest_68 : decode cL_nearest 68 = .ok (.aload_n 0, 1) := by decide +kernel
theorem dL_nearest_69 : decode cL_nearest 69 = .ok (.iload_n 1, 1) := by decide +kernel
theorem dL_nearest_70 : decode cL_nearest 70 = .ok (.iload 4, 2) := by decide +kernel
theorem dL_nearest_72 : decode cL_nearest 72 = .ok (.iconst 1, 1) := by decide +kernel
theorem dL_nearest_73 : decode cL_nearest 73 = .ok (.invokevirtual 18, 3) := by decide +kernel
theorem dL_nearest_76 : decode cL_nearest 76 = .ok (.aload_n 0, 1) := by decide +kernel
theorem dL_nearest_77 : decode cL_nearest 77 = .ok (.iload_n 1, 1) := by decide +kernel
theorem dL_nearest_78 : decode cL_nearest 78 = .ok (.iload 5, 2) := by decide +kernel
theorem dL_nearest_80 : decode cL_nearest 80 = .ok (.iconst 1, 1) := by decide +kernel
theorem dL_nearest_81 : decode cL_nearest 81 = .ok (.invokevirtual 18, 3) := by decide +kernel
theorem dL_nearest_84 : decode cL_nearest 84 = .ok (.isub, 1) := by decide +kernel
theorem dL_nearest_85 : decode cL_nearest 85 = .ok (.invokestatic 25, 3) := by decide +kernel
theorem dL_nearest_88 : decode cL_nearest 88 = .ok (.iadd, 1) := by decide +kernel
theorem dL_nearest_89 : decode cL_nearest 89 = .ok (.istore 6, 2) := by decide +kernel
theorem dL_nearest_91 : decode cL_nearest 91 = .ok (.iload_n 3, 1) := by decide +kernel
theorem dL_nearest_92 : decode cL_nearest 92 = .ok (.ifCond .ne 10, 3) := by decide +kernel
theorem dL_nearest_95 : decode cL_nearest 95 = .ok (.iload 5, 2) := by decide +kernel
theorem dL_nearest_97 : decode cL_nearest 97 = .ok (.ifCond .eq 5, 3) := by decide +kernel
theorem dL_nearest_100 : decode cL_nearest 100 = .ok (.iconst 0, 1) := by decide +kernel
theorem dL_nearest_101 : decode cL_nearest 101 = .ok (.ireturn, 1) := by decide +kernel
theorem dL_nearest_102 : decode cL_nearest 102 = .ok (.iload_n 3, 1) := by decide +kernel
theorem dL_nearest_103 : decode cL_nearest 103 = .ok (.iconst 1, 1) := by decide +kernel
theorem dL_nearest_104 : decode cL_nearest 104 = .ok (.iadd, 1) := by decide +kernel
theorem dL_nearest_105 : decode cL_nearest 105 = .ok (.istore 7, 2) := by decide +kernel
theorem dL_nearest_107 : decode cL_nearest 107 = .ok (.iload 7, 2) := by decide +kernel
theorem dL_nearest_109 : decode cL_nearest 109 = .ok (.iload_n 2, 1) := by decide +kernel
theorem dL_nearest_110 : decode cL_nearest 110 = .ok (.if_icmp .ge 88, 3) := by decide +kernel
theorem dL_nearest_113 : decode cL_nearest 113 = .ok (.iload_n 3, 1) := by decide +kernel
theorem dL_nearest_114 : decode cL_nearest 114 = .ok (.ifCond .le 84, 3) := by decide +kernel
theorem dL_nearest_117 : decode cL_nearest 117 = .ok (.aload_n 0, 1) := by decide +kernel
theorem dL_nearest_118 : decode cL_nearest 118 = .ok (.iload_n 1, 1) := by decide +kernel
theorem dL_nearest_119 : decode cL_nearest 119 = .ok (.iload 7, 2) := by decide +kernel
theorem dL_nearest_121 : decode cL_nearest 121 = .ok (.invokevirtual 22, 3) := by decide +kernel
theorem dL_nearest_124 : decode cL_nearest 124 = .ok (.istore 8, 2) := by decide +kernel
theorem dL_nearest_126 : decode cL_nearest 126 = .ok (.aload_n 0, 1) := by decide +kernel
theorem dL_nearest_127 : decode cL_nearest 127 = .ok (.iload_n 1, 1) := by decide +kernel
theorem dL_nearest_128 : decode cL_nearest 128 = .ok (.iload 4, 2) := by decide +kernel
theorem dL_nearest_130 : decode cL_nearest 130 = .ok (.iconst 0, 1) := by decide +kernel
theorem dL_nearest_131 : decode cL_nearest 131 = .ok (.invokevirtual 18, 3) := by decide +kernel
theorem dL_nearest_134 : decode cL_nearest 134 = .ok (.aload_n 0, 1) := by decide +kernel
theorem dL_nearest_135 : decode cL_nearest 135 = .ok (.iload_n 1, 1) := by decide +kernel
theorem dL_nearest_136 : decode cL_nearest 136 = .ok (.iload 8, 2) := by decide +kernel
theorem dL_nearest_138 : decode cL_nearest 138 = .ok (.iconst 0, 1) := by decide +kernel
theorem dL_nearest_139 : decode cL_nearest 139 = .ok (.invokevirtual 18, 3) := by decide +kernel
theorem dL_nearest_142 : decode cL_nearest 142 = .ok (.isub, 1) := by decide +kernel
theorem dL_nearest_143 : decode cL_nearest 143 = .ok (.invokestatic 25, 3) := by decide +kernel
theorem dL_nearest_146 : decode cL_nearest 146 = .ok (.aload_n 0, 1) := by decide +kernel
theorem dL_nearest_147 : decode cL_nearest 147 = .ok (.iload_n 1, 1) := by decide +kernel
theorem dL_nearest_148 : decode cL_nearest 148 = .ok (.iload 4, 2) := by decide +kernel
theorem dL_nearest_150 : decode cL_nearest 150 = .ok (.iconst 1, 1) := by decide +kernel
theorem dL_nearest_151 : decode cL_nearest 151 = .ok (.invokevirtual 18, 3) := by decide +kernel
theorem dL_nearest_154 : decode cL_nearest 154 = .ok (.aload_n 0, 1) := by decide +kernel
theorem dL_nearest_155 : decode cL_nearest 155 = .ok (.iload_n 1, 1) := by decide +kernel
theorem dL_nearest_156 : decode cL_nearest 156 = .ok (.iload 8, 2) := by decide +kernel
theorem dL_nearest_158 : decode cL_nearest 158 = .ok (.iconst 1, 1) := by decide +kernel
theorem dL_nearest_159 : decode cL_nearest 159 = .ok (.invokevirtual 18, 3) := by decide +kernel
theorem dL_nearest_162 : decode cL_nearest 162 = .ok (.isub, 1) := by decide +kernel
theorem dL_nearest_163 : decode cL_nearest 163 = .ok (.invokestatic 25, 3) := by decide +kernel
theorem dL_nearest_166 : decode cL_nearest 166 = .ok (.iadd, 1) := by decide +kernel
theorem dL_nearest_167 : decode cL_nearest 167 = .ok (.istore 9, 2) := by decide +kernel
theorem dL_nearest_169 : decode cL_nearest 169 = .ok (.iload 9, 2) := by decide +kernel
theorem dL_nearest_171 : decode cL_nearest 171 = .ok (.iload 6, 2) := by decide +kernel
theorem dL_nearest_173 : decode cL_nearest 173 = .ok (.if_icmp .lt 17, 3) := by decide +kernel
theorem dL_nearest_176 : decode cL_nearest 176 = .ok (.iload 9, 2) := by decide +kernel
theorem dL_nearest_178 : decode cL_nearest 178 = .ok (.iload 6, 2) := by decide +kernel
theorem dL_nearest_180 : decode cL_nearest 180 = .ok (.if_icmp .ne 12, 3) := by decide +kernel
theorem dL_nearest_183 : decode cL_nearest 183 = .ok (.iload 8, 2) := by decide +kernel
theorem dL_nearest_185 : decode cL_nearest 185 = .ok (.iload 5, 2) := by decide +kernel
theorem dL_nearest_187 : decode cL_nearest 187 = .ok (.if_icmp .ge 5, 3) := by decide +kernel
theorem dL_nearest_190 : decode cL_nearest 190 = .ok (.iconst 0, 1) := by decide +kernel
theorem dL_nearest_191 : decode cL_nearest 191 = .ok (.ireturn, 1) := by decide +kernel
theorem dL_nearest_192 : decode cL_nearest 192 = .ok (.iinc 7 1, 3) := by decide +kernel
theorem dL_nearest_195 : decode cL_nearest 195 = .ok (.goto (-88), 3) := by decide +kernel
theorem dL_nearest_198 : decode cL_nearest 198 = .ok (.iinc 3 1, 3) := by decide +kernel
theorem dL_nearest_201 : decode cL_nearest 201 = .ok (.goto (-184), 3) := by decide +kernel
theorem dL_nearest_204 : decode cL_nearest 204 = .ok (.iconst 1, 1) := by decide +kernel
theorem dL_nearest_205 : decode cL_nearest 205 = .ok (.ireturn, 1) := by decide +kernel
theorem dL_lone_0 : decode cL_lone 0 = .ok (.aload_n 0, 1) := by decide +kernel
theorem dL_lone_1 : decode cL_lone 1 = .ok (.iload_n 1, 1) := by decide +kernel
theorem dL_lone_2 : decode cL_lone 2 = .ok (.iload_n 2, 1) := by decide +kernel
theorem dL_lone_3 : decode cL_lone 3 = .ok (.invokevirtual 15, 3) := by decide +kernel
theorem dL_lone_6 : decode cL_lone 6 = .ok (.istore_n 3, 1) := by decide +kernel
theorem dL_lone_7 : decode cL_lone 7 = .ok (.iconst 0, 1) := by decide +kernel
theorem dL_lone_8 : decode cL_lone 8 = .ok (.istore 4, 2) := by decide +kernel
theorem dL_lone_10 : decode cL_lone 10 = .ok (.iload 4, 2) := by decide +kernel
theorem dL_lone_12 : decode cL_lone 12 = .ok (.bipush 9, 2) := by decide +kernel
theorem dL_lone_14 : decode cL_lone 14 = .ok (.if_icmp .ge 45, 3) := by decide +kernel
theorem dL_lone_17 : decode cL_lone 17 = .ok (.iload 4, 2) := by decide +kernel
theorem dL_lone_19 : decode cL_lone 19 = .ok (.iconst 4, 1) := by decide +kernel
theorem dL_lone_20 : decode cL_lone 20 = .ok (.if_icmp .eq 33, 3) := by decide +kernel
theorem dL_lone_23 : decode cL_lone 23 = .ok (.iload_n 3, 1) := by decide +kernel
theorem dL_lone_24 : decode cL_lone 24 = .ok (.ifCond .le 29, 3) := by decide +kernel
theorem dL_lone_27 : decode cL_lone 27 = .ok (.aload_n 0, 1) := by decide +kernel
theorem dL_lone_28 : decode cL_lone 28 = .ok (.iload_n 1, 1) := by decide +kernel
theorem dL_lone_29 : decode cL_lone 29 = .ok (.iload 4, 2) := by decide +kernel
theorem dL_lone_31 : decode cL_lone 31 = .ok (.iconst 3, 1) := by decide +kernel
theorem dL_lone_32 : decode cL_lone 32 = .ok (.irem, 1) := by decide +kernel
theorem dL_lone_33 : decode cL_lone 33 = .ok (.iadd, 1) := by decide +kernel
theorem dL_lone_34 : decode cL_lone 34 = .ok (.iconst 1, 1) := by decide +kernel
theorem dL_lone_35 : decode cL_lone 35 = .ok (.isub, 1) := by decide +kernel
theorem dL_lone_36 : decode cL_lone 36 = .ok (.iload_n 2, 1) := by decide +kernel
theorem dL_lone_37 : decode cL_lone 37 = .ok (.iload 4, 2) := by decide +kernel
theorem dL_lone_39 : decode cL_lone 39 = .ok (.iconst 3, 1) := by decide +kernel
theorem dL_lone_40 : decode cL_lone 40 = .ok (.idiv, 1) := by decide +kernel
theorem dL_lone_41 : decode cL_lone 41 = .ok (.iadd, 1) := by decide +kernel
theorem dL_lone_42 : decode cL_lone 42 = .ok (.iconst 1, 1) := by decide +kernel
theorem dL_lone_43 : decode cL_lone 43 = .ok (.isub, 1) := by decide +kernel
theorem dL_lone_44 : decode cL_lone 44 = .ok (.invokevirtual 15, 3) := by decide +kernel
theorem dL_lone_47 : decode cL_lone 47 = .ok (.iload_n 3, 1) := by decide +kernel
theorem dL_lone_48 : decode cL_lone 48 = .ok (.if_icmp .ne 5, 3) := by decide +kernel
theorem dL_lone_51 : decode cL_lone 51 = .ok (.iconst 0, 1) := by decide +kernel
theorem dL_lone_52 : decode cL_lone 52 = .ok (.ireturn, 1) := by decide +kernel
theorem dL_lone_53 : decode cL_lone 53 = .ok (.iinc 4 1, 3) := by decide +kernel
theorem dL_lone_56 : decode cL_lone 56 = .ok (.goto (-46), 3) := by decide +kernel
theorem dL_lone_59 : decode cL_lone 59 = .ok (.iload_n 3, 1) := by decide +kernel
theorem dL_lone_60 : decode cL_lone 60 = .ok (.ifCond .le 7, 3) := by decide +kernel
theorem dL_lone_63 : decode cL_lone 63 = .ok (.iconst 1, 1) := by decide +kernel
theorem dL_lone_64 : decode cL_lone 64 = .ok (.goto 4, 3) := by decide +kernel
theorem dL_lone_67 : decode cL_lone 67 = .ok (.iconst 0, 1) := by decide +kernel
theorem dL_lone_68 : decode cL_lone 68 = .ok (.ireturn, 1) := by decide +kernel
theorem dL_alone_0 : decode cL_alone 0 = .ok (.bipush 7, 2) := by decide +kernel
theorem dL_alone_2 : decode cL_alone 2 = .ok (.newarray .int, 2) := by decide +kernel
theorem dL_alone_4 : decode cL_alone 4 = .ok (.astore_n 3, 1) := by decide +kernel
theorem dL_alone_5 : decode cL_alone 5 = .ok (.iconst 0, 1) := by decide +kernel
theorem dL_alone_6 : decode cL_alone 6 = .ok (.istore 4, 2) := by decide +kernel
theorem dL_alone_8 : decode cL_alone 8 = .ok (.iload 4, 2) := by decide +kernel
theorem dL_alone_10 : decode cL_alone 10 = .ok (.iload_n 2, 1) := by decide +kernel
theorem dL_alone_11 : decode cL_alone 11 = .ok (.if_icmp .ge 64, 3) := by decide +kernel
theorem dL_alone_14 : decode cL_alone 14 = .ok (.iconst 0, 1) := by decide +kernel
theorem dL_alone_15 : decode cL_alone 15 = .ok (.istore 5, 2) := by decide +kernel
theorem dL_alone_17 : decode cL_alone 17 = .ok (.iload 5, 2) := by decide +kernel
theorem dL_alone_19 : decode cL_alone 19 = .ok (.iload_n 1, 1) := by decide +kernel
theorem dL_alone_20 : decode cL_alone 20 = .ok (.if_icmp .ge 49, 3) := by decide +kernel
theorem dL_alone_23 : decode cL_alone 23 = .ok (.aload_n 0, 1) := by decide +kernel
theorem dL_alone_24 : decode cL_alone 24 = .ok (.iload 5, 2) := by decide +kernel
theorem dL_alone_26 : decode cL_alone 26 = .ok (.iload 4, 2) := by decide +kernel
theorem dL_alone_28 : decode cL_alone 28 = .ok (.invokestatic 31, 3) := by decide +kernel
theorem dL_alone_31 : decode cL_alone 31 = .ok (.istore 6, 2) := by decide +kernel
theorem dL_alone_33 : decode cL_alone 33 = .ok (.aload_n 0, 1) := by decide +kernel
theorem dL_alone_34 : decode cL_alone 34 = .ok (.iload 5, 2) := by decide +kernel
theorem dL_alone_36 : decode cL_alone 36 = .ok (.iload 4, 2) := by decide +kernel
theorem dL_alone_38 : decode cL_alone 38 = .ok (.invokevirtual 35, 3) := by decide +kernel
theorem dL_alone_41 : decode cL_alone 41 = .ok (.iload 6, 2) := by decide +kernel
theorem dL_alone_43 : decode cL_alone 43 = .ok (.if_icmp .eq 5, 3) := by decide +kernel
theorem dL_alone_46 : decode cL_alone 46 = .ok (.iconst 0, 1) := by decide +kernel
theorem dL_alone_47 : decode cL_alone 47 = .ok (.ireturn, 1) := by decide +kernel
theorem dL_alone_48 : decode cL_alone 48 = .ok (.aload_n 3, 1) := by decide +kernel
theorem dL_alone_49 : decode cL_alone 49 = .ok (.aload_n 0, 1) := by decide +kernel
theorem dL_alone_50 : decode cL_alone 50 = .ok (.iload 5, 2) := by decide +kernel
theorem dL_alone_52 : decode cL_alone 52 = .ok (.iload 4, 2) := by decide +kernel
theorem dL_alone_54 : decode cL_alone 54 = .ok (.invokevirtual 15, 3) := by decide +kernel
theorem dL_alone_57 : decode cL_alone 57 = .ok (.dup2, 1) := by decide +kernel
theorem dL_alone_58 : decode cL_alone 58 = .ok (.iaload, 1) := by decide +kernel
theorem dL_alone_59 : decode cL_alone 59 = .ok (.iload 6, 2) := by decide +kernel
theorem dL_alone_61 : decode cL_alone 61 = .ok (.iadd, 1) := by decide +kernel
theorem dL_alone_62 : decode cL_alone 62 = .ok (.iastore, 1) := by decide +kernel
theorem dL_alone_63 : decode cL_alone 63 = .ok (.iinc 5 1, 3) := by decide +kernel
theorem dL_alone_66 : decode cL_alone 66 = .ok (.goto (-49), 3) := by decide +kernel
theorem dL_alone_69 : decode cL_alone 69 = .ok (.iinc 4 1, 3) := by decide +kernel
theorem dL_alone_72 : decode cL_alone 72 = .ok (.goto (-64), 3) := by decide +kernel
theorem dL_alone_75 : decode cL_alone 75 = .ok (.iconst 0, 1) := by decide +kernel
theorem dL_alone_76 : decode cL_alone 76 = .ok (.istore 4, 2) := by decide +kernel
theorem dL_alone_78 : decode cL_alone 78 = .ok (.iconst 1, 1) := by decide +kernel
theorem dL_alone_79 : decode cL_alone 79 = .ok (.istore 5, 2) := by decide +kernel
theorem dL_alone_81 : decode cL_alone 81 = .ok (.iload 5, 2) := by decide +kernel
theorem dL_alone_83 : decode cL_alone 83 = .ok (.bipush 7, 2) := by decide +kernel
theorem dL_alone_85 : decode cL_alone 85 = .ok (.if_icmp .ge 34, 3) := by decide +kernel
theorem dL_alone_88 : decode cL_alone 88 = .ok (.iload 4, 2) := by decide +kernel
theorem dL_alone_90 : decode cL_alone 90 = .ok (.aload_n 3, 1) := by decide +kernel
theorem dL_alone_91 : decode cL_alone 91 = .ok (.iload 5, 2) := by decide +kernel
theorem dL_alone_93 : decode cL_alone 93 = .ok (.iaload, 1) := by decide +kernel
theorem dL_alone_94 : decode cL_alone 94 = .ok (.iadd, 1) := by decide +kernel
theorem dL_alone_95 : decode cL_alone 95 = .ok (.istore 4, 2) := by decide +kernel
theorem dL_alone_97 : decode cL_alone 97 = .ok (.aload_n 0, 1) := by decide +kernel
theorem dL_alone_98 : decode cL_alone 98 = .ok (.iload 5, 2) := by decide +kernel
theorem dL_alone_100 : decode cL_alone 100 = .ok (.iconst 1, 1) := by decide +kernel
theorem dL_alone_101 : decode cL_alone 101 = .ok (.invokevirtual 9, 3) := by decide +kernel
theorem dL_alone_104 : decode cL_alone 104 = .ok (.aload_n 3, 1) := by decide +kernel
theorem dL_alone_105 : decode cL_alone 105 = .ok (.iload 5, 2) := by decide +kernel
theorem dL_alone_107 : decode cL_alone 107 = .ok (.iaload, 1) := by decide +kernel
theorem dL_alone_108 : decode cL_alone 108 = .ok (.if_icmp .eq 5, 3) := by decide +kernel
theorem dL_alone_111 : decode cL_alone 111 = .ok (.iconst 0, 1) := by decide +kernel
theorem dL_alone_112 : decode cL_alone 112 = .ok (.ireturn, 1) := by decide +kernel
theorem dL_alone_113 : decode cL_alone 113 = .ok (.iinc 5 1, 3) := by decide +kernel
theorem dL_alone_116 : decode cL_alone 116 = .ok (.goto (-35), 3) := by decide +kernel
theorem dL_alone_119 : decode cL_alone 119 = .ok (.aload_n 0, 1) := by decide +kernel
theorem dL_alone_120 : decode cL_alone 120 = .ok (.iconst 0, 1) := by decide +kernel
theorem dL_alone_121 : decode cL_alone 121 = .ok (.iconst 1, 1) := by decide +kernel
theorem dL_alone_122 : decode cL_alone 122 = .ok (.invokevirtual 9, 3) := by decide +kernel
theorem dL_alone_125 : decode cL_alone 125 = .ok (.iload 4, 2) := by decide +kernel
theorem dL_alone_127 : decode cL_alone 127 = .ok (.if_icmp .ne 27, 3) := by decide +kernel
theorem dL_alone_130 : decode cL_alone 130 = .ok (.aload_n 0, 1) := by decide +kernel
theorem dL_alone_131 : decode cL_alone 131 = .ok (.iload_n 1, 1) := by decide +kernel
theorem dL_alone_132 : decode cL_alone 132 = .ok (.iconst 0, 1) := by decide +kernel
theorem dL_alone_133 : decode cL_alone 133 = .ok (.invokevirtual 35, 3) := by decide +kernel
theorem dL_alone_136 : decode cL_alone 136 = .ok (.iconst (-1), 1) := by decide +kernel
theorem dL_alone_137 : decode cL_alone 137 = .ok (.if_icmp .ne 17, 3) := by decide +kernel
theorem dL_alone_140 : decode cL_alone 140 = .ok (.aload_n 0, 1) := by decide +kernel
theorem dL_alone_141 : decode cL_alone 141 = .ok (.iconst 0, 1) := by decide +kernel
theorem dL_alone_142 : decode cL_alone 142 = .ok (.iload_n 2, 1) := by decide +kernel
theorem dL_alone_143 : decode cL_alone 143 = .ok (.invokevirtual 15, 3) := by decide +kernel
theorem dL_alone_146 : decode cL_alone 146 = .ok (.iconst (-1), 1) := by decide +kernel
theorem dL_alone_147 : decode cL_alone 147 = .ok (.if_icmp .ne 7, 3) := by decide +kernel
theorem dL_alone_150 : decode cL_alone 150 = .ok (.iconst 1, 1) := by decide +kernel
theorem dL_alone_151 : decode cL_alone 151 = .ok (.goto 4, 3) := by decide +kernel
theorem dL_alone_154 : decode cL_alone 154 = .ok (.iconst 0, 1) := by decide +kernel
theorem dL_alone_155 : decode cL_alone 155 = .ok (.ireturn, 1) := by decide +kernel
theorem dL_merges_0 : decode cL_merges 0 = .ok (.bipush 64, 2) := by decide +kernel
theorem dL_merges_2 : decode cL_merges 2 = .ok (.newarray .int, 2) := by decide +kernel
theorem dL_merges_4 : decode cL_merges 4 = .ok (.astore_n 3, 1) := by decide +kernel
theorem dL_merges_5 : decode cL_merges 5 = .ok (.bipush 64, 2) := by decide +kernel
theorem dL_merges_7 : decode cL_merges 7 = .ok (.newarray .int, 2) := by decide +kernel
theorem dL_merges_9 : decode cL_merges 9 = .ok (.astore 4, 2) := by decide +kernel
theorem dL_merges_11 : decode cL_merges 11 = .ok (.iconst 0, 1) := by decide +kernel
theorem dL_merges_12 : decode cL_merges 12 = .ok (.istore 5, 2) := by decide +kernel
theorem dL_merges_14 : decode cL_merges 14 = .ok (.iload_n 1, 1) := by decide +kernel
theorem dL_merges_15 : decode cL_merges 15 = .ok (.iload_n 2, 1) := by decide +kernel
theorem dL_merges_16 : decode cL_merges 16 = .ok (.imul, 1) := by decide +kernel
theorem dL_merges_17 : decode cL_merges 17 = .ok (.bipush 64, 2) := by decide +kernel
theorem dL_merges_19 : decode cL_merges 19 = .ok (.if_icmp .le 30, 3) := by decide +kernel
theorem dL_merges_22 : decode cL_merges 22 = .ok (.aload_n 0, 1) := by decide +kernel
theorem dL_merges_23 : decode cL_merges 23 = .ok (.iconst 0, 1) := by decide +kernel
theorem dL_merges_24 : decode cL_merges 24 = .ok (.invokevirtual 38, 3) := by decide +kernel
theorem dL_merges_27 : decode cL_merges 27 = .ok (.bipush (-2), 2) := by decide +kernel
theorem dL_merges_29 : decode cL_merges 29 = .ok (.if_icmp .ne 18, 3) := by decide +kernel
theorem dL_merges_32 : decode cL_merges 32 = .ok (.aload_n 0, 1) := by decide +kernel
theorem dL_merges_33 : decode cL_merges 33 = .ok (.bipush 21, 2) := by decide +kernel
theorem dL_merges_35 : decode cL_merges 35 = .ok (.invokevirtual 38, 3) := by decide +kernel
theorem dL_merges_38 : decode cL_merges 38 = .ok (.bipush (-2), 2) := by decide +kernel
theorem dL_merges_40 : decode cL_merges 40 = .ok (.if_icmp .ne 7, 3) := by decide +kernel
theorem dL_merges_43 : decode cL_merges 43 = .ok (.iconst 1, 1) := by decide +kernel
theorem dL_merges_44 : decode cL_merges 44 = .ok (.goto 4, 3) := by decide +kernel
theorem dL_merges_47 : decode cL_merges 47 = .ok (.iconst 0, 1) := by decide +kernel
theorem dL_merges_48 : decode cL_merges 48 = .ok (.ireturn, 1) := by decide +kernel
theorem dL_merges_49 : decode cL_merges 49 = .ok (.iconst 0, 1) := by decide +kernel
theorem dL_merges_50 : decode cL_merges 50 = .ok (.istore 6, 2) := by decide +kernel
theorem dL_merges_52 : decode cL_merges 52 = .ok (.iload 6, 2) := by decide +kernel
theorem dL_merges_54 : decode cL_merges 54 = .ok (.iload_n 1, 1) := by decide +kernel
theorem dL_merges_55 : decode cL_merges 55 = .ok (.iload_n 2, 1) := by decide +kernel
theorem dL_merges_56 : decode cL_merges 56 = .ok (.imul, 1) := by decide +kernel
theorem dL_merges_57 : decode cL_merges 57 = .ok (.if_icmp .ge 195, 3) := by decide +kernel
theorem dL_merges_60 : decode cL_merges 60 = .ok (.iload 6, 2) := by decide +kernel
theorem dL_merges_62 : decode cL_merges 62 = .ok (.iload_n 1, 1) := by decide +kernel
theorem dL_merges_63 : decode cL_merges 63 = .ok (.irem, 1) := by decide +kernel
theorem dL_merges_64 : decode cL_merges 64 = .ok (.istore 7, 2) := by decide +kernel
theorem dL_merges_66 : decode cL_merges 66 = .ok (.iload 6, 2) := by decide +kernel
theorem dL_merges_68 : decode cL_merges 68 = .ok (.iload_n 1, 1) := by decide +kernel
theorem dL_merges_69 : decode cL_merges 69 = .ok (.idiv, 1) := by decide +kernel
theorem dL_merges_70 : decode cL_merges 70 = .ok (.istore 8, 2) := by decide +kernel
theorem dL_merges_72 : decode cL_merges 72 = .ok (.aload_n 3, 1) := by decide +kernel
theorem dL_merges_73 : decode cL_merges 73 = .ok (.iload 6, 2) := by decide +kernel
theorem dL_merges_75 : decode cL_merges 75 = .ok (.aload_n 0, 1) := by decide +kernel
theorem dL_merges_76 : decode cL_merges 76 = .ok (.iload 7, 2) := by decide +kernel
theorem dL_merges_78 : decode cL_merges 78 = .ok (.iload 8, 2) := by decide +kernel
theorem dL_merges_80 : decode cL_merges 80 = .ok (.invokevirtual 15, 3) := by decide +kernel
theorem dL_merges_83 : decode cL_merges 83 = .ok (.iastore, 1) := by decide +kernel
theorem dL_merges_84 : decode cL_merges 84 = .ok (.aload 4, 2) := by decide +kernel
theorem dL_merges_86 : decode cL_merges 86 = .ok (.iload 6, 2) := by decide +kernel
theorem dL_merges_88 : decode cL_merges 88 = .ok (.aload_n 3, 1) := by decide +kernel
theorem dL_merges_89 : decode cL_merges 89 = .ok (.iload 6, 2) := by decide +kernel
theorem dL_merges_91 : decode cL_merges 91 = .ok (.iaload, 1) := by decide +kernel
theorem dL_merges_92 : decode cL_merges 92 = .ok (.iastore, 1) := by decide +kernel
theorem dL_merges_93 : decode cL_merges 93 = .ok (.iconst 0, 1) := by decide +kernel
theorem dL_merges_94 : decode cL_merges 94 = .ok (.istore 9, 2) := by decide +kernel
theorem dL_merges_96 : decode cL_merges 96 = .ok (.iconst 1, 1) := by decide +kernel
theorem dL_merges_97 : decode cL_merges 97 = .ok (.istore 10, 2) := by decide +kernel
theorem dL_merges_99 : decode cL_merges 99 = .ok (.iload 10, 2) := by decide +kernel
theorem dL_merges_101 : decode cL_merges 101 = .ok (.bipush 7, 2) := by decide +kernel
theorem dL_merges_103 : decode cL_merges 103 = .ok (.if_icmp .ge 121, 3) := by decide +kernel
theorem dL_merges_106 : decode cL_merges 106 = .ok (.aload_n 0, 1) := by decide +kernel
theorem dL_merges_107 : decode cL_merges 107 = .ok (.iload 7, 2) := by decide +kernel
theorem dL_merges_109 : decode cL_merges 109 = .ok (.iload 8, 2) := by decide +kernel
theorem dL_merges_111 : decode cL_merges 111 = .ok (.invokestatic 31, 3) := by decide +kernel
theorem dL_merges_114 : decode cL_merges 114 = .ok (.iconst 1, 1) := by decide +kernel
theorem dL_merges_115 : decode cL_merges 115 = .ok (.if_icmp .ne 109, 3) := by decide +kernel
theorem dL_merges_118 : decode cL_merges 118 = .ok (.iconst 0, 1) := by decide +kernel
theorem dL_merges_119 : decode cL_merges 119 = .ok (.istore 11, 2) := by decide +kernel
theorem dL_merges_121 : decode cL_merges 121 = .ok (.iconst 0, 1) := by decide +kernel
theorem dL_merges_122 : decode cL_merges 122 = .ok (.istore 12, 2) := by decide +kernel
theorem dL_merges_124 : decode cL_merges 124 = .ok (.iload 12, 2) := by decide +kernel
theorem dL_merges_126 : decode cL_merges 126 = .ok (.bipush 9, 2) := by decide +kernel
theorem dL_merges_128 : decode cL_merges 128 = .ok (.if_icmp .ge 52, 3) := by decide +kernel
theorem dL_merges_131 : decode cL_merges 131 = .ok (.iload 11, 2) := by decide +kernel
theorem dL_merges_133 : decode cL_merges 133 = .ok (.iload 12, 2) := by decide +kernel
theorem dL_merges_135 : decode cL_merges 135 = .ok (.iconst 4, 1) := by decide +kernel
theorem dL_merges_136 : decode cL_merges 136 = .ok (.if_icmp .eq 34, 3) := by decide +kernel
theorem dL_merges_139 : decode cL_merges 139 = .ok (.aload_n 0, 1) := by decide +kernel
theorem dL_merges_140 : decode cL_merges 140 = .ok (.iload 7, 2) := by decide +kernel
theorem dL_merges_142 : decode cL_merges 142 = .ok (.iload 12, 2) := by decide +kernel
theorem dL_merges_144 : decode cL_merges 144 = .ok (.iconst 3, 1) := by decide +kernel
theorem dL_merges_145 : decode cL_merges 145 = .ok (.irem, 1) := by decide +kernel
theorem dL_merges_146 : decode cL_merges 146 = .ok (.iadd, 1) := by decide +kernel
theorem dL_merges_147 : decode cL_merges 147 = .ok (.iconst 1, 1) := by decide +kernel
theorem dL_merges_148 : decode cL_merges 148 = .ok (.isub, 1) := by decide +kernel
theorem dL_merges_149 : decode cL_merges 149 = .ok (.iload 8, 2) := by decide +kernel
theorem dL_merges_151 : decode cL_merges 151 = .ok (.iload 12, 2) := by decide +kernel
theorem dL_merges_153 : decode cL_merges 153 = .ok (.iconst 3, 1) := by decide +kernel
theorem dL_merges_154 : decode cL_merges 154 = .ok (.idiv, 1) := by decide +kernel
theorem dL_merges_155 : decode cL_merges 155 = .ok (.iadd, 1) := by decide +kernel
theorem dL_merges_156 : decode cL_merges 156 = .ok (.iconst 1, 1) := by decide +kernel
theorem dL_merges_157 : decode cL_merges 157 = .ok (.isub, 1) := by decide +kernel
theorem dL_merges_158 : decode cL_merges 158 = .ok (.invokevirtual 15, 3) := by decide +kernel
theorem dL_merges_161 : decode cL_merges 161 = .ok (.iload 10, 2) := by decide +kernel
theorem dL_merges_163 : decode cL_merges 163 = .ok (.if_icmp .ne 7, 3) := by decide +kernel
theorem dL_merges_166 : decode cL_merges 166 = .ok (.iconst 1, 1) := by decide +kernel
theorem dL_merges_167 : decode cL_merges 167 = .ok (.goto 4, 3) := by decide +kernel
theorem dL_merges_170 : decode cL_merges 170 = .ok (.iconst 0, 1) := by decide +kernel
theorem dL_merges_171 : decode cL_merges 171 = .ok (.iadd, 1) := by decide +kernel
theorem dL_merges_172 : decode cL_merges 172 = .ok (.istore 11, 2) := by decide +kernel
theorem dL_merges_174 : decode cL_merges 174 = .ok (.iinc 12 1, 3) := by decide +kernel
theorem dL_merges_177 : decode cL_merges 177 = .ok (.goto (-53), 3) := by decide +kernel
theorem dL_merges_180 : decode cL_merges 180 = .ok (.aload 4, 2) := by decide +kernel
theorem dL_merges_182 : decode cL_merges 182 = .ok (.iload 6, 2) := by decide +kernel
theorem dL_merges_184 : decode cL_merges 184 = .ok (.iload 11, 2) := by decide +kernel
theorem dL_merges_186 : decode cL_merges 186 = .ok (.iload 9, 2) := by decide +kernel
theorem dL_merges_188 : decode cL_merges 188 = .ok (.if_icmp .le 8, 3) := by decide +kernel
theorem dL_merges_191 : decode cL_merges 191 = .ok (.iload 10, 2) := by decide +kernel
theorem dL_merges_193 : decode cL_merges 193 = .ok (.goto 8, 3) := by decide +kernel
theorem dL_merges_196 : decode cL_merges 196 = .ok (.aload 4, 2) := by decide +kernel
theorem dL_merges_198 : decode cL_merges 198 = .ok (.iload 6, 2) := by decide +kernel
theorem dL_merges_200 : decode cL_merges 200 = .ok (.iaload, 1) := by decide +kernel
theorem dL_merges_201 : decode cL_merges 201 = .ok (.iastore, 1) := by decide +kernel
theorem dL_merges_202 : decode cL_merges 202 = .ok (.iload 11, 2) := by decide +kernel
theorem dL_merges_204 : decode cL_merges 204 = .ok (.iload 9, 2) := by decide +kernel
theorem dL_merges_206 : decode cL_merges 206 = .ok (.if_icmp .le 8, 3) := by decide +kernel
theorem dL_merges_209 : decode cL_merges 209 = .ok (.iload 11, 2) := by decide +kernel
theorem dL_merges_211 : decode cL_merges 211 = .ok (.goto 5, 3) := by decide +kernel
theorem dL_merges_214 : decode cL_merges 214 = .ok (.iload 9, 2) := by decide +kernel
theorem dL_merges_216 : decode cL_merges 216 = .ok (.istore 9, 2) := by decide +kernel
theorem dL_merges_218 : decode cL_merges 218 = .ok (.iinc 10 1, 3) := by decide +kernel
theorem dL_merges_221 : decode cL_merges 221 = .ok (.goto (-122), 3) := by decide +kernel
theorem dL_merges_224 : decode cL_merges 224 = .ok (.iload 5, 2) := by decide +kernel
theorem dL_merges_226 : decode cL_merges 226 = .ok (.aload 4, 2) := by decide +kernel
theorem dL_merges_228 : decode cL_merges 228 = .ok (.iload 6, 2) := by decide +kernel
theorem dL_merges_230 : decode cL_merges 230 = .ok (.iaload, 1) := by decide +kernel
theorem dL_merges_231 : decode cL_merges 231 = .ok (.aload_n 3, 1) := by decide +kernel
theorem dL_merges_232 : decode cL_merges 232 = .ok (.iload 6, 2) := by decide +kernel
theorem dL_merges_234 : decode cL_merges 234 = .ok (.iaload, 1) := by decide +kernel
theorem dL_merges_235 : decode cL_merges 235 = .ok (.if_icmp .ne 7, 3) := by decide +kernel
theorem dL_merges_238 : decode cL_merges 238 = .ok (.iconst 0, 1) := by decide +kernel
theorem dL_merges_239 : decode cL_merges 239 = .ok (.goto 4, 3) := by decide +kernel
theorem dL_merges_242 : decode cL_merges 242 = .ok (.iconst 1, 1) := by decide +kernel
theorem dL_merges_243 : decode cL_merges 243 = .ok (.iadd, 1) := by decide +kernel
theorem dL_merges_244 : decode cL_merges 244 = .ok (.istore 5, 2) := by decide +kernel
theorem dL_merges_246 : decode cL_merges 246 = .ok (.iinc 6 1, 3) := by decide +kernel
theorem dL_merges_249 : decode cL_merges 249 = .ok (.goto (-197), 3) := by decide +kernel
theorem dL_merges_252 : decode cL_merges 252 = .ok (.aload_n 0, 1) := by decide +kernel
theorem dL_merges_253 : decode cL_merges 253 = .ok (.iconst 1, 1) := by decide +kernel
theorem dL_merges_254 : decode cL_merges 254 = .ok (.invokevirtual 38, 3) := by decide +kernel
theorem dL_merges_257 : decode cL_merges 257 = .ok (.iload 5, 2) := by decide +kernel
theorem dL_merges_259 : decode cL_merges 259 = .ok (.if_icmp .eq 5, 3) := by decide +kernel
theorem dL_merges_262 : decode cL_merges 262 = .ok (.iconst 0, 1) := by decide +kernel
theorem dL_merges_263 : decode cL_merges 263 = .ok (.ireturn, 1) := by decide +kernel
theorem dL_merges_264 : decode cL_merges 264 = .ok (.iconst 0, 1) := by decide +kernel
theorem dL_merges_265 : decode cL_merges 265 = .ok (.istore 6, 2) := by decide +kernel
theorem dL_merges_267 : decode cL_merges 267 = .ok (.iload 6, 2) := by decide +kernel
theorem dL_merges_269 : decode cL_merges 269 = .ok (.iload_n 1, 1) := by decide +kernel
theorem dL_merges_270 : decode cL_merges 270 = .ok (.iload_n 2, 1) := by decide +kernel
theorem dL_merges_271 : decode cL_merges 271 = .ok (.imul, 1) := by decide +kernel
theorem dL_merges_272 : decode cL_merges 272 = .ok (.if_icmp .ge 31, 3) := by decide +kernel
theorem dL_merges_275 : decode cL_merges 275 = .ok (.aload_n 0, 1) := by decide +kernel
theorem dL_merges_276 : decode cL_merges 276 = .ok (.iload 6, 2) := by decide +kernel
theorem dL_merges_278 : decode cL_merges 278 = .ok (.iload_n 1, 1) := by decide +kernel
theorem dL_merges_279 : decode cL_merges 279 = .ok (.irem, 1) := by decide +kernel
theorem dL_merges_280 : decode cL_merges 280 = .ok (.iload 6, 2) := by decide +kernel
theorem dL_merges_282 : decode cL_merges 282 = .ok (.iload_n 1, 1) := by decide +kernel
theorem dL_merges_283 : decode cL_merges 283 = .ok (.idiv, 1) := by decide +kernel
theorem dL_merges_284 : decode cL_merges 284 = .ok (.invokevirtual 15, 3) := by decide +kernel
theorem dL_merges_287 : decode cL_merges 287 = .ok (.aload 4, 2) := by decide +kernel
theorem dL_merges_289 : decode cL_merges 289 = .ok (.iload 6, 2) := by decide +kernel
theorem dL_merges_291 : decode cL_merges 291 = .ok (.iaload, 1) := by decide +kernel
theorem dL_merges_292 : decode cL_merges 292 = .ok (.if_icmp .eq 5, 3) := by decide +kernel
theorem dL_merges_295 : decode cL_merges 295 = .ok (.iconst 0, 1) := by decide +kernel
theorem dL_merges_296 : decode cL_merges 296 = .ok (.ireturn, 1) := by decide +kernel
theorem dL_merges_297 : decode cL_merges 297 = .ok (.iinc 6 1, 3) := by decide +kernel
theorem dL_merges_300 : decode cL_merges 300 = .ok (.goto (-33), 3) := by decide +kernel
theorem dL_merges_303 : decode cL_merges 303 = .ok (.iconst 1, 1) := by decide +kernel
theorem dL_merges_304 : decode cL_merges 304 = .ok (.ireturn, 1) := by decide +kernel
theorem dL_at_0 : decode cL_at 0 = .ok (.aload_n 0, 1) := by decide +kernel
theorem dL_at_1 : decode cL_at 1 = .ok (.iload_n 1, 1) := by decide +kernel
theorem dL_at_2 : decode cL_at 2 = .ok (.iload_n 2, 1) := by decide +kernel
theorem dL_at_3 : decode cL_at 3 = .ok (.iconst 1, 1) := by decide +kernel
theorem dL_at_4 : decode cL_at 4 = .ok (.invokevirtual 41, 3) := by decide +kernel
theorem dL_at_7 : decode cL_at 7 = .ok (.iconst 1, 1) := by decide +kernel
theorem dL_at_8 : decode cL_at 8 = .ok (.if_icmp .ne 7, 3) := by decide +kernel
theorem dL_at_11 : decode cL_at 11 = .ok (.iconst 1, 1) := by decide +kernel
theorem dL_at_12 : decode cL_at 12 = .ok (.goto 4, 3) := by decide +kernel
theorem dL_at_15 : decode cL_at 15 = .ok (.iconst 0, 1) := by decide +kernel
theorem dL_at_16 : decode cL_at 16 = .ok (.istore_n 3, 1) := by decide +kernel
theorem dL_at_17 : decode cL_at 17 = .ok (.iload_n 3, 1) := by decide +kernel
theorem dL_at_18 : decode cL_at 18 = .ok (.aload_n 0, 1) := by decide +kernel
theorem dL_at_19 : decode cL_at 19 = .ok (.iload_n 1, 1) := by decide +kernel
theorem dL_at_20 : decode cL_at 20 = .ok (.iload_n 2, 1) := by decide +kernel
theorem dL_at_21 : decode cL_at 21 = .ok (.iconst 0, 1) := by decide +kernel
theorem dL_at_22 : decode cL_at 22 = .ok (.invokevirtual 41, 3) := by decide +kernel
theorem dL_at_25 : decode cL_at 25 = .ok (.iconst 1, 1) := by decide +kernel
theorem dL_at_26 : decode cL_at 26 = .ok (.if_icmp .ne 7, 3) := by decide +kernel
theorem dL_at_29 : decode cL_at 29 = .ok (.iconst 1, 1) := by decide +kernel
theorem dL_at_30 : decode cL_at 30 = .ok (.goto 4, 3) := by decide +kernel
theorem dL_at_33 : decode cL_at 33 = .ok (.iconst 0, 1) := by decide +kernel
theorem dL_at_34 : decode cL_at 34 = .ok (.iadd, 1) := by decide +kernel
theorem dL_at_35 : decode cL_at 35 = .ok (.istore_n 3, 1) := by decide +kernel
theorem dL_at_36 : decode cL_at 36 = .ok (.iload_n 3, 1) := by decide +kernel
theorem dL_at_37 : decode cL_at 37 = .ok (.aload_n 0, 1) := by decide +kernel
theorem dL_at_38 : decode cL_at 38 = .ok (.iload_n 1, 1) := by decide +kernel
theorem dL_at_39 : decode cL_at 39 = .ok (.iload_n 2, 1) := by decide +kernel
theorem dL_at_40 : decode cL_at 40 = .ok (.iconst 1, 1) := by decide +kernel
theorem dL_at_41 : decode cL_at 41 = .ok (.isub, 1) := by decide +kernel
theorem dL_at_42 : decode cL_at 42 = .ok (.iconst 1, 1) := by decide +kernel
theorem dL_at_43 : decode cL_at 43 = .ok (.invokevirtual 41, 3) := by decide +kernel
theorem dL_at_46 : decode cL_at 46 = .ok (.iconst 1, 1) := by decide +kernel
theorem dL_at_47 : decode cL_at 47 = .ok (.if_icmp .ne 7, 3) := by decide +kernel
theorem dL_at_50 : decode cL_at 50 = .ok (.iconst 1, 1) := by decide +kernel
theorem dL_at_51 : decode cL_at 51 = .ok (.goto 4, 3) := by decide +kernel
theorem dL_at_54 : decode cL_at 54 = .ok (.iconst 0, 1) := by decide +kernel
theorem dL_at_55 : decode cL_at 55 = .ok (.iadd, 1) := by decide +kernel
theorem dL_at_56 : decode cL_at 56 = .ok (.istore_n 3, 1) := by decide +kernel
theorem dL_at_57 : decode cL_at 57 = .ok (.iload_n 3, 1) := by decide +kernel
theorem dL_at_58 : decode cL_at 58 = .ok (.aload_n 0, 1) := by decide +kernel
theorem dL_at_59 : decode cL_at 59 = .ok (.iload_n 1, 1) := by decide +kernel
theorem dL_at_60 : decode cL_at 60 = .ok (.iconst 1, 1) := by decide +kernel
theorem dL_at_61 : decode cL_at 61 = .ok (.isub, 1) := by decide +kernel
theorem dL_at_62 : decode cL_at 62 = .ok (.iload_n 2, 1) := by decide +kernel
theorem dL_at_63 : decode cL_at 63 = .ok (.iconst 0, 1) := by decide +kernel
theorem dL_at_64 : decode cL_at 64 = .ok (.invokevirtual 41, 3) := by decide +kernel
theorem dL_at_67 : decode cL_at 67 = .ok (.iconst 1, 1) := by decide +kernel
theorem dL_at_68 : decode cL_at 68 = .ok (.if_icmp .ne 7, 3) := by decide +kernel
theorem dL_at_71 : decode cL_at 71 = .ok (.iconst 1, 1) := by decide +kernel
theorem dL_at_72 : decode cL_at 72 = .ok (.goto 4, 3) := by decide +kernel
theorem dL_at_75 : decode cL_at 75 = .ok (.iconst 0, 1) := by decide +kernel
theorem dL_at_76 : decode cL_at 76 = .ok (.iadd, 1) := by decide +kernel
theorem dL_at_77 : decode cL_at 77 = .ok (.ireturn, 1) := by decide +kernel
theorem dL_backs_0 : decode cL_backs 0 = .ok (.iconst 0, 1) := by decide +kernel
theorem dL_backs_1 : decode cL_backs 1 = .ok (.istore 4, 2) := by decide +kernel
theorem dL_backs_3 : decode cL_backs 3 = .ok (.iconst 0, 1) := by decide +kernel
theorem dL_backs_4 : decode cL_backs 4 = .ok (.istore 5, 2) := by decide +kernel
theorem dL_backs_6 : decode cL_backs 6 = .ok (.iconst 0, 1) := by decide +kernel
theorem dL_backs_7 : decode cL_backs 7 = .ok (.istore 6, 2) := by decide +kernel
theorem dL_backs_9 : decode cL_backs 9 = .ok (.iconst 0, 1) := by decide +kernel
theorem dL_backs_10 : decode cL_backs 10 = .ok (.istore 7, 2) := by decide +kernel
theorem dL_backs_12 : decode cL_backs 12 = .ok (.iload 7, 2) := by decide +kernel
theorem dL_backs_14 : decode cL_backs 14 = .ok (.iload_n 2, 1) := by decide +kernel
theorem dL_backs_15 : decode cL_backs 15 = .ok (.if_icmp .gt 102, 3) := by decide +kernel
theorem dL_backs_18 : decode cL_backs 18 = .ok (.iconst 0, 1) := by decide +kernel
theorem dL_backs_19 : decode cL_backs 19 = .ok (.istore 8, 2) := by decide +kernel
theorem dL_backs_21 : decode cL_backs 21 = .ok (.iload 8, 2) := by decide +kernel
theorem dL_backs_23 : decode cL_backs 23 = .ok (.iload_n 1, 1) := by decide +kernel
theorem dL_backs_24 : decode cL_backs 24 = .ok (.if_icmp .gt 87, 3) := by decide +kernel
theorem dL_backs_27 : decode cL_backs 27 = .ok (.iload 4, 2) := by decide +kernel
theorem dL_backs_29 : decode cL_backs 29 = .ok (.aload_n 0, 1) := by decide +kernel
theorem dL_backs_30 : decode cL_backs 30 = .ok (.iload 8, 2) := by decide +kernel
theorem dL_backs_32 : decode cL_backs 32 = .ok (.iload 7, 2) := by decide +kernel
theorem dL_backs_34 : decode cL_backs 34 = .ok (.iconst 1, 1) := by decide +kernel
theorem dL_backs_35 : decode cL_backs 35 = .ok (.invokevirtual 41, 3) := by decide +kernel
theorem dL_backs_38 : decode cL_backs 38 = .ok (.iconst 1, 1) := by decide +kernel
theorem dL_backs_39 : decode cL_backs 39 = .ok (.if_icmp .ne 7, 3) := by decide +kernel
theorem dL_backs_42 : decode cL_backs 42 = .ok (.iconst 1, 1) := by decide +kernel
theorem dL_backs_43 : decode cL_backs 43 = .ok (.goto 4, 3) := by decide +kernel
theorem dL_backs_46 : decode cL_backs 46 = .ok (.iconst 0, 1) := by decide +kernel
theorem dL_backs_47 : decode cL_backs 47 = .ok (.aload_n 0, 1) := by decide +kernel
theorem dL_backs_48 : decode cL_backs 48 = .ok (.iload 8, 2) := by decide +kernel
theorem dL_backs_50 : decode cL_backs 50 = .ok (.iload 7, 2) := by decide +kernel
theorem dL_backs_52 : decode cL_backs 52 = .ok (.iconst 0, 1) := by decide +kernel
theorem dL_backs_53 : decode cL_backs 53 = .ok (.invokevirtual 41, 3) := by decide +kernel
theorem dL_backs_56 : decode cL_backs 56 = .ok (.iconst 1, 1) := by decide +kernel
theorem dL_backs_57 : decode cL_backs 57 = .ok (.if_icmp .ne 7, 3) := by decide +kernel
theorem dL_backs_60 : decode cL_backs 60 = .ok (.iconst 1, 1) := by decide +kernel
theorem dL_backs_61 : decode cL_backs 61 = .ok (.goto 4, 3) := by decide +kernel
theorem dL_backs_64 : decode cL_backs 64 = .ok (.iconst 0, 1) := by decide +kernel
theorem dL_backs_65 : decode cL_backs 65 = .ok (.iadd, 1) := by decide +kernel
theorem dL_backs_66 : decode cL_backs 66 = .ok (.iadd, 1) := by decide +kernel
theorem dL_backs_67 : decode cL_backs 67 = .ok (.istore 4, 2) := by decide +kernel
theorem dL_backs_69 : decode cL_backs 69 = .ok (.iload 5, 2) := by decide +kernel
theorem dL_backs_71 : decode cL_backs 71 = .ok (.aload_n 0, 1) := by decide +kernel
theorem dL_backs_72 : decode cL_backs 72 = .ok (.iload 8, 2) := by decide +kernel
theorem dL_backs_74 : decode cL_backs 74 = .ok (.iload 7, 2) := by decide +kernel
theorem dL_backs_76 : decode cL_backs 76 = .ok (.invokestatic 45, 3) := by decide +kernel
theorem dL_backs_79 : decode cL_backs 79 = .ok (.iconst 2, 1) := by decide +kernel
theorem dL_backs_80 : decode cL_backs 80 = .ok (.irem, 1) := by decide +kernel
theorem dL_backs_81 : decode cL_backs 81 = .ok (.iadd, 1) := by decide +kernel
theorem dL_backs_82 : decode cL_backs 82 = .ok (.istore 5, 2) := by decide +kernel
theorem dL_backs_84 : decode cL_backs 84 = .ok (.iload 6, 2) := by decide +kernel
theorem dL_backs_86 : decode cL_backs 86 = .ok (.aload_n 0, 1) := by decide +kernel
theorem dL_backs_87 : decode cL_backs 87 = .ok (.iload 8, 2) := by decide +kernel
theorem dL_backs_89 : decode cL_backs 89 = .ok (.iload 7, 2) := by decide +kernel
theorem dL_backs_91 : decode cL_backs 91 = .ok (.invokestatic 45, 3) := by decide +kernel
theorem dL_backs_94 : decode cL_backs 94 = .ok (.ifCond .le 7, 3) := by decide +kernel
theorem dL_backs_97 : decode cL_backs 97 = .ok (.iconst 1, 1) := by decide +kernel
theorem dL_backs_98 : decode cL_backs 98 = .ok (.goto 4, 3) := by decide +kernel
theorem dL_backs_101 : decode cL_backs 101 = .ok (.iconst 0, 1) := by decide +kernel
theorem dL_backs_102 : decode cL_backs 102 = .ok (.iadd, 1) := by decide +kernel
theorem dL_backs_103 : decode cL_backs 103 = .ok (.istore 6, 2) := by decide +kernel
theorem dL_backs_105 : decode cL_backs 105 = .ok (.iinc 8 1, 3) := by decide +kernel
theorem dL_backs_108 : decode cL_backs 108 = .ok (.goto (-87), 3) := by decide +kernel
theorem dL_backs_111 : decode cL_backs 111 = .ok (.iinc 7 1, 3) := by decide +kernel
theorem dL_backs_114 : decode cL_backs 114 = .ok (.goto (-102), 3) := by decide +kernel
theorem dL_backs_117 : decode cL_backs 117 = .ok (.aload_n 0, 1) := by decide +kernel
theorem dL_backs_118 : decode cL_backs 118 = .ok (.iconst 1, 1) := by decide +kernel
theorem dL_backs_119 : decode cL_backs 119 = .ok (.invokevirtual 48, 3) := by decide +kernel
theorem dL_backs_122 : decode cL_backs 122 = .ok (.istore 7, 2) := by decide +kernel
theorem dL_backs_124 : decode cL_backs 124 = .ok (.aload_n 0, 1) := by decide +kernel
theorem dL_backs_125 : decode cL_backs 125 = .ok (.iconst 2, 1) := by decide +kernel
theorem dL_backs_126 : decode cL_backs 126 = .ok (.invokevirtual 48, 3) := by decide +kernel
theorem dL_backs_129 : decode cL_backs 129 = .ok (.istore 8, 2) := by decide +kernel
theorem dL_backs_131 : decode cL_backs 131 = .ok (.iload 7, 2) := by decide +kernel
theorem dL_backs_133 : decode cL_backs 133 = .ok (.iload 4, 2) := by decide +kernel
theorem dL_backs_135 : decode cL_backs 135 = .ok (.if_icmp .gt 68, 3) := by decide +kernel
theorem dL_backs_138 : decode cL_backs 138 = .ok (.iload 7, 2) := by decide +kernel
theorem dL_backs_140 : decode cL_backs 140 = .ok (.iload 6, 2) := by decide +kernel
theorem dL_backs_142 : decode cL_backs 142 = .ok (.iload 4, 2) := by decide +kernel
theorem dL_backs_144 : decode cL_backs 144 = .ok (.isub, 1) := by decide +kernel
theorem dL_backs_145 : decode cL_backs 145 = .ok (.if_icmp .lt 58, 3) := by decide +kernel
theorem dL_backs_148 : decode cL_backs 148 = .ok (.iload 8, 2) := by decide +kernel
theorem dL_backs_150 : decode cL_backs 150 = .ok (.iload 7, 2) := by decide +kernel
theorem dL_backs_152 : decode cL_backs 152 = .ok (.if_icmp .lt 51, 3) := by decide +kernel
theorem dL_backs_155 : decode cL_backs 155 = .ok (.iconst 2, 1) := by decide +kernel
theorem dL_backs_156 : decode cL_backs 156 = .ok (.iload 8, 2) := by decide +kernel
theorem dL_backs_158 : decode cL_backs 158 = .ok (.imul, 1) := by decide +kernel
theorem dL_backs_159 : decode cL_backs 159 = .ok (.iload 5, 2) := by decide +kernel
theorem dL_backs_161 : decode cL_backs 161 = .ok (.if_icmp .lt 42, 3) := by decide +kernel
theorem dL_backs_164 : decode cL_backs 164 = .ok (.iload 8, 2) := by decide +kernel
theorem dL_backs_166 : decode cL_backs 166 = .ok (.iload 5, 2) := by decide +kernel
theorem dL_backs_168 : decode cL_backs 168 = .ok (.iconst 2, 1) := by decide +kernel
theorem dL_backs_169 : decode cL_backs 169 = .ok (.idiv, 1) := by decide +kernel
theorem dL_backs_170 : decode cL_backs 170 = .ok (.iload 7, 2) := by decide +kernel
theorem dL_backs_172 : decode cL_backs 172 = .ok (.iadd, 1) := by decide +kernel
theorem dL_backs_173 : decode cL_backs 173 = .ok (.if_icmp .gt 30, 3) := by decide +kernel
theorem dL_backs_176 : decode cL_backs 176 = .ok (.iload 7, 2) := by decide +kernel
theorem dL_backs_178 : decode cL_backs 178 = .ok (.ifCond .ne 7, 3) := by decide +kernel
theorem dL_backs_181 : decode cL_backs 181 = .ok (.iconst 1, 1) := by decide +kernel
theorem dL_backs_182 : decode cL_backs 182 = .ok (.goto 4, 3) := by decide +kernel
