theorem drf_Md_raised_15 : decode rfb_Md_raised 15 = .ok (.aload_n 0, 1) := by decide +kernel
theorem drf_Md_raised_16 : decode rfb_Md_raised 16 = .ok (.getfield 43, 3) := by decide +kernel
theorem drf_Md_raised_19 : decode rfb_Md_raised 19 = .ok (.iload_n 1, 1) := by decide +kernel
theorem drf_Md_raised_20 : decode rfb_Md_raised 20 = .ok (.iaload, 1) := by decide +kernel
theorem drf_Md_raised_21 : decode rfb_Md_raised 21 = .ok (.goto 4, 3) := by decide +kernel
theorem drf_Md_raised_24 : decode rfb_Md_raised 24 = .ok (.iconst (-1), 1) := by decide +kernel
theorem drf_Md_raised_25 : decode rfb_Md_raised 25 = .ok (.ireturn, 1) := by decide +kernel
theorem drf_Md_isSame_0 : decode rfb_Md_isSame 0 = .ok (.iconst 1, 1) := by decide +kernel
theorem drf_Md_isSame_1 : decode rfb_Md_isSame 1 = .ok (.istore_n 2, 1) := by decide +kernel
theorem drf_Md_isSame_2 : decode rfb_Md_isSame 2 = .ok (.iconst 0, 1) := by decide +kernel
theorem drf_Md_isSame_3 : decode rfb_Md_isSame 3 = .ok (.istore_n 3, 1) := by decide +kernel
theorem drf_Md_isSame_4 : decode rfb_Md_isSame 4 = .ok (.iload_n 3, 1) := by decide +kernel
theorem drf_Md_isSame_5 : decode rfb_Md_isSame 5 = .ok (.aload_n 0, 1) := by decide +kernel
theorem drf_Md_isSame_6 : decode rfb_Md_isSame 6 = .ok (.getfield 71, 3) := by decide +kernel
theorem drf_Md_isSame_9 : decode rfb_Md_isSame 9 = .ok (.if_icmp .ge 38, 3) := by decide +kernel
theorem drf_Md_isSame_12 : decode rfb_Md_isSame 12 = .ok (.iload_n 2, 1) := by decide +kernel
theorem drf_Md_isSame_13 : decode rfb_Md_isSame 13 = .ok (.ifCond .eq 26, 3) := by decide +kernel
theorem drf_Md_isSame_16 : decode rfb_Md_isSame 16 = .ok (.aload_n 0, 1) := by decide +kernel
theorem drf_Md_isSame_17 : decode rfb_Md_isSame 17 = .ok (.getfield 61, 3) := by decide +kernel
theorem drf_Md_isSame_20 : decode rfb_Md_isSame 20 = .ok (.bipush 12, 2) := by decide +kernel
theorem drf_Md_isSame_22 : decode rfb_Md_isSame 22 = .ok (.iload_n 1, 1) := by decide +kernel
theorem drf_Md_isSame_23 : decode rfb_Md_isSame 23 = .ok (.imul, 1) := by decide +kernel
theorem drf_Md_isSame_24 : decode rfb_Md_isSame 24 = .ok (.iload_n 3, 1) := by decide +kernel
theorem drf_Md_isSame_25 : decode rfb_Md_isSame 25 = .ok (.iadd, 1) := by decide +kernel
theorem drf_Md_isSame_26 : decode rfb_Md_isSame 26 = .ok (.iaload, 1) := by decide +kernel
theorem drf_Md_isSame_27 : decode rfb_Md_isSame 27 = .ok (.aload_n 0, 1) := by decide +kernel
theorem drf_Md_isSame_28 : decode rfb_Md_isSame 28 = .ok (.iload_n 3, 1) := by decide +kernel
theorem drf_Md_isSame_29 : decode rfb_Md_isSame 29 = .ok (.invokevirtual 110, 3) := by decide +kernel
theorem drf_Md_isSame_32 : decode rfb_Md_isSame 32 = .ok (.if_icmp .ne 7, 3) := by decide +kernel
theorem drf_Md_isSame_35 : decode rfb_Md_isSame 35 = .ok (.iconst 1, 1) := by decide +kernel
theorem drf_Md_isSame_36 : decode rfb_Md_isSame 36 = .ok (.goto 4, 3) := by decide +kernel
theorem drf_Md_isSame_39 : decode rfb_Md_isSame 39 = .ok (.iconst 0, 1) := by decide +kernel
theorem drf_Md_isSame_40 : decode rfb_Md_isSame 40 = .ok (.istore_n 2, 1) := by decide +kernel
theorem drf_Md_isSame_41 : decode rfb_Md_isSame 41 = .ok (.iinc 3 1, 3) := by decide +kernel
theorem drf_Md_isSame_44 : decode rfb_Md_isSame 44 = .ok (.goto (-40), 3) := by decide +kernel
theorem drf_Md_isSame_47 : decode rfb_Md_isSame 47 = .ok (.iload_n 2, 1) := by decide +kernel
theorem drf_Md_isSame_48 : decode rfb_Md_isSame 48 = .ok (.ireturn, 1) := by decide +kernel
theorem drf_Md_fill_0 : decode rfb_Md_fill 0 = .ok (.iconst 0, 1) := by decide +kernel
theorem drf_Md_fill_1 : decode rfb_Md_fill 1 = .ok (.istore_n 2, 1) := by decide +kernel
theorem drf_Md_fill_2 : decode rfb_Md_fill 2 = .ok (.iload_n 2, 1) := by decide +kernel
theorem drf_Md_fill_3 : decode rfb_Md_fill 3 = .ok (.bipush 12, 2) := by decide +kernel
theorem drf_Md_fill_5 : decode rfb_Md_fill 5 = .ok (.if_icmp .ge 37, 3) := by decide +kernel
theorem drf_Md_fill_8 : decode rfb_Md_fill 8 = .ok (.aload_n 0, 1) := by decide +kernel
theorem drf_Md_fill_9 : decode rfb_Md_fill 9 = .ok (.getfield 61, 3) := by decide +kernel
theorem drf_Md_fill_12 : decode rfb_Md_fill 12 = .ok (.bipush 12, 2) := by decide +kernel
theorem drf_Md_fill_14 : decode rfb_Md_fill 14 = .ok (.iload_n 1, 1) := by decide +kernel
theorem drf_Md_fill_15 : decode rfb_Md_fill 15 = .ok (.imul, 1) := by decide +kernel
theorem drf_Md_fill_16 : decode rfb_Md_fill 16 = .ok (.iload_n 2, 1) := by decide +kernel
theorem drf_Md_fill_17 : decode rfb_Md_fill 17 = .ok (.iadd, 1) := by decide +kernel
theorem drf_Md_fill_18 : decode rfb_Md_fill 18 = .ok (.iload_n 2, 1) := by decide +kernel
theorem drf_Md_fill_19 : decode rfb_Md_fill 19 = .ok (.aload_n 0, 1) := by decide +kernel
theorem drf_Md_fill_20 : decode rfb_Md_fill 20 = .ok (.getfield 71, 3) := by decide +kernel
theorem drf_Md_fill_23 : decode rfb_Md_fill 23 = .ok (.if_icmp .ge 11, 3) := by decide +kernel
theorem drf_Md_fill_26 : decode rfb_Md_fill 26 = .ok (.aload_n 0, 1) := by decide +kernel
theorem drf_Md_fill_27 : decode rfb_Md_fill 27 = .ok (.iload_n 2, 1) := by decide +kernel
theorem drf_Md_fill_28 : decode rfb_Md_fill 28 = .ok (.invokevirtual 110, 3) := by decide +kernel
theorem drf_Md_fill_31 : decode rfb_Md_fill 31 = .ok (.goto 4, 3) := by decide +kernel
theorem drf_Md_fill_34 : decode rfb_Md_fill 34 = .ok (.iconst (-1), 1) := by decide +kernel
theorem drf_Md_fill_35 : decode rfb_Md_fill 35 = .ok (.iastore, 1) := by decide +kernel
theorem drf_Md_fill_36 : decode rfb_Md_fill 36 = .ok (.iinc 2 1, 3) := by decide +kernel
theorem drf_Md_fill_39 : decode rfb_Md_fill 39 = .ok (.goto (-37), 3) := by decide +kernel
theorem drf_Md_fill_42 : decode rfb_Md_fill 42 = .ok (.return_, 1) := by decide +kernel
theorem drf_Md_latest_0 : decode rfb_Md_latest 0 = .ok (.iconst (-1), 1) := by decide +kernel
theorem drf_Md_latest_1 : decode rfb_Md_latest 1 = .ok (.istore_n 3, 1) := by decide +kernel
theorem drf_Md_latest_2 : decode rfb_Md_latest 2 = .ok (.iconst 0, 1) := by decide +kernel
theorem drf_Md_latest_3 : decode rfb_Md_latest 3 = .ok (.istore 4, 2) := by decide +kernel
theorem drf_Md_latest_5 : decode rfb_Md_latest 5 = .ok (.iload 4, 2) := by decide +kernel
theorem drf_Md_latest_7 : decode rfb_Md_latest 7 = .ok (.aload_n 0, 1) := by decide +kernel
theorem drf_Md_latest_8 : decode rfb_Md_latest 8 = .ok (.getfield 113, 3) := by decide +kernel
theorem drf_Md_latest_11 : decode rfb_Md_latest 11 = .ok (.if_icmp .ge 38, 3) := by decide +kernel
theorem drf_Md_latest_14 : decode rfb_Md_latest 14 = .ok (.aload_n 0, 1) := by decide +kernel
theorem drf_Md_latest_15 : decode rfb_Md_latest 15 = .ok (.getfield 49, 3) := by decide +kernel
theorem drf_Md_latest_18 : decode rfb_Md_latest 18 = .ok (.iload 4, 2) := by decide +kernel
theorem drf_Md_latest_20 : decode rfb_Md_latest 20 = .ok (.iaload, 1) := by decide +kernel
theorem drf_Md_latest_21 : decode rfb_Md_latest 21 = .ok (.iload_n 1, 1) := by decide +kernel
theorem drf_Md_latest_22 : decode rfb_Md_latest 22 = .ok (.if_icmp .ne 19, 3) := by decide +kernel
theorem drf_Md_latest_25 : decode rfb_Md_latest 25 = .ok (.aload_n 0, 1) := by decide +kernel
theorem drf_Md_latest_26 : decode rfb_Md_latest 26 = .ok (.getfield 46, 3) := by decide +kernel
theorem drf_Md_latest_29 : decode rfb_Md_latest 29 = .ok (.iload 4, 2) := by decide +kernel
theorem drf_Md_latest_31 : decode rfb_Md_latest 31 = .ok (.iaload, 1) := by decide +kernel
theorem drf_Md_latest_32 : decode rfb_Md_latest 32 = .ok (.iload_n 2, 1) := by decide +kernel
theorem drf_Md_latest_33 : decode rfb_Md_latest 33 = .ok (.if_icmp .ne 8, 3) := by decide +kernel
theorem drf_Md_latest_36 : decode rfb_Md_latest 36 = .ok (.iload 4, 2) := by decide +kernel
theorem drf_Md_latest_38 : decode rfb_Md_latest 38 = .ok (.goto 4, 3) := by decide +kernel
theorem drf_Md_latest_41 : decode rfb_Md_latest 41 = .ok (.iload_n 3, 1) := by decide +kernel
theorem drf_Md_latest_42 : decode rfb_Md_latest 42 = .ok (.istore_n 3, 1) := by decide +kernel
theorem drf_Md_latest_43 : decode rfb_Md_latest 43 = .ok (.iinc 4 1, 3) := by decide +kernel
theorem drf_Md_latest_46 : decode rfb_Md_latest 46 = .ok (.goto (-41), 3) := by decide +kernel
theorem drf_Md_latest_49 : decode rfb_Md_latest 49 = .ok (.iload_n 3, 1) := by decide +kernel
theorem drf_Md_latest_50 : decode rfb_Md_latest 50 = .ok (.ireturn, 1) := by decide +kernel
theorem drf_Md_opens_0 : decode rfb_Md_opens 0 = .ok (.iconst 0, 1) := by decide +kernel
theorem drf_Md_opens_1 : decode rfb_Md_opens 1 = .ok (.istore_n 2, 1) := by decide +kernel
theorem drf_Md_opens_2 : decode rfb_Md_opens 2 = .ok (.iconst 0, 1) := by decide +kernel
theorem drf_Md_opens_3 : decode rfb_Md_opens 3 = .ok (.istore_n 3, 1) := by decide +kernel
theorem drf_Md_opens_4 : decode rfb_Md_opens 4 = .ok (.iload_n 3, 1) := by decide +kernel
theorem drf_Md_opens_5 : decode rfb_Md_opens 5 = .ok (.aload_n 0, 1) := by decide +kernel
theorem drf_Md_opens_6 : decode rfb_Md_opens 6 = .ok (.getfield 113, 3) := by decide +kernel
theorem drf_Md_opens_9 : decode rfb_Md_opens 9 = .ok (.if_icmp .ge 41, 3) := by decide +kernel
theorem drf_Md_opens_12 : decode rfb_Md_opens 12 = .ok (.iload_n 2, 1) := by decide +kernel
theorem drf_Md_opens_13 : decode rfb_Md_opens 13 = .ok (.aload_n 0, 1) := by decide +kernel
theorem drf_Md_opens_14 : decode rfb_Md_opens 14 = .ok (.getfield 46, 3) := by decide +kernel
theorem drf_Md_opens_17 : decode rfb_Md_opens 17 = .ok (.iload_n 3, 1) := by decide +kernel
theorem drf_Md_opens_18 : decode rfb_Md_opens 18 = .ok (.iaload, 1) := by decide +kernel
theorem drf_Md_opens_19 : decode rfb_Md_opens 19 = .ok (.ifCond .ne 22, 3) := by decide +kernel
theorem drf_Md_opens_22 : decode rfb_Md_opens 22 = .ok (.aload_n 0, 1) := by decide +kernel
theorem drf_Md_opens_23 : decode rfb_Md_opens 23 = .ok (.getfield 7, 3) := by decide +kernel
theorem drf_Md_opens_26 : decode rfb_Md_opens 26 = .ok (.aload_n 0, 1) := by decide +kernel
theorem drf_Md_opens_27 : decode rfb_Md_opens 27 = .ok (.getfield 49, 3) := by decide +kernel
theorem drf_Md_opens_30 : decode rfb_Md_opens 30 = .ok (.iload_n 3, 1) := by decide +kernel
theorem drf_Md_opens_31 : decode rfb_Md_opens 31 = .ok (.iaload, 1) := by decide +kernel
theorem drf_Md_opens_32 : decode rfb_Md_opens 32 = .ok (.iaload, 1) := by decide +kernel
theorem drf_Md_opens_33 : decode rfb_Md_opens 33 = .ok (.iload_n 1, 1) := by decide +kernel
theorem drf_Md_opens_34 : decode rfb_Md_opens 34 = .ok (.if_icmp .ne 7, 3) := by decide +kernel
theorem drf_Md_opens_37 : decode rfb_Md_opens 37 = .ok (.iconst 1, 1) := by decide +kernel
theorem drf_Md_opens_38 : decode rfb_Md_opens 38 = .ok (.goto 4, 3) := by decide +kernel
theorem drf_Md_opens_41 : decode rfb_Md_opens 41 = .ok (.iconst 0, 1) := by decide +kernel
theorem drf_Md_opens_42 : decode rfb_Md_opens 42 = .ok (.iadd, 1) := by decide +kernel
theorem drf_Md_opens_43 : decode rfb_Md_opens 43 = .ok (.istore_n 2, 1) := by decide +kernel
theorem drf_Md_opens_44 : decode rfb_Md_opens 44 = .ok (.iinc 3 1, 3) := by decide +kernel
theorem drf_Md_opens_47 : decode rfb_Md_opens 47 = .ok (.goto (-43), 3) := by decide +kernel
theorem drf_Md_opens_50 : decode rfb_Md_opens 50 = .ok (.iload_n 2, 1) := by decide +kernel
theorem drf_Md_opens_51 : decode rfb_Md_opens 51 = .ok (.ireturn, 1) := by decide +kernel
theorem drf_Md_isDue_0 : decode rfb_Md_isDue 0 = .ok (.aload_n 0, 1) := by decide +kernel
theorem drf_Md_isDue_1 : decode rfb_Md_isDue 1 = .ok (.getfield 31, 3) := by decide +kernel
theorem drf_Md_isDue_4 : decode rfb_Md_isDue 4 = .ok (.iload_n 1, 1) := by decide +kernel
theorem drf_Md_isDue_5 : decode rfb_Md_isDue 5 = .ok (.iaload, 1) := by decide +kernel
theorem drf_Md_isDue_6 : decode rfb_Md_isDue 6 = .ok (.iconst (-1), 1) := by decide +kernel
theorem drf_Md_isDue_7 : decode rfb_Md_isDue 7 = .ok (.if_icmp .ne 7, 3) := by decide +kernel
theorem drf_Md_isDue_10 : decode rfb_Md_isDue 10 = .ok (.iconst 1, 1) := by decide +kernel
theorem drf_Md_isDue_11 : decode rfb_Md_isDue 11 = .ok (.goto 4, 3) := by decide +kernel
theorem drf_Md_isDue_14 : decode rfb_Md_isDue 14 = .ok (.iconst 0, 1) := by decide +kernel
theorem drf_Md_isDue_15 : decode rfb_Md_isDue 15 = .ok (.istore_n 2, 1) := by decide +kernel
theorem drf_Md_isDue_16 : decode rfb_Md_isDue 16 = .ok (.sipush 1000, 3) := by decide +kernel
theorem drf_Md_isDue_19 : decode rfb_Md_isDue 19 = .ok (.istore_n 3, 1) := by decide +kernel
theorem drf_Md_isDue_20 : decode rfb_Md_isDue 20 = .ok (.iconst 0, 1) := by decide +kernel
theorem drf_Md_isDue_21 : decode rfb_Md_isDue 21 = .ok (.istore 4, 2) := by decide +kernel
theorem drf_Md_isDue_23 : decode rfb_Md_isDue 23 = .ok (.iload 4, 2) := by decide +kernel
theorem drf_Md_isDue_25 : decode rfb_Md_isDue 25 = .ok (.aload_n 0, 1) := by decide +kernel
theorem drf_Md_isDue_26 : decode rfb_Md_isDue 26 = .ok (.getfield 71, 3) := by decide +kernel
theorem drf_Md_isDue_29 : decode rfb_Md_isDue 29 = .ok (.if_icmp .ge 64, 3) := by decide +kernel
theorem drf_Md_isDue_32 : decode rfb_Md_isDue 32 = .ok (.aload_n 0, 1) := by decide +kernel
theorem drf_Md_isDue_33 : decode rfb_Md_isDue 33 = .ok (.iload 4, 2) := by decide +kernel
theorem drf_Md_isDue_35 : decode rfb_Md_isDue 35 = .ok (.iload_n 1, 1) := by decide +kernel
theorem drf_Md_isDue_36 : decode rfb_Md_isDue 36 = .ok (.invokevirtual 89, 3) := by decide +kernel
theorem drf_Md_isDue_39 : decode rfb_Md_isDue 39 = .ok (.ifCond .ne 6, 3) := by decide +kernel
theorem drf_Md_isDue_42 : decode rfb_Md_isDue 42 = .ok (.goto 45, 3) := by decide +kernel
theorem drf_Md_isDue_45 : decode rfb_Md_isDue 45 = .ok (.iload_n 2, 1) := by decide +kernel
theorem drf_Md_isDue_46 : decode rfb_Md_isDue 46 = .ok (.ifCond .ne 12, 3) := by decide +kernel
theorem drf_Md_isDue_49 : decode rfb_Md_isDue 49 = .ok (.aload_n 0, 1) := by decide +kernel
theorem drf_Md_isDue_50 : decode rfb_Md_isDue 50 = .ok (.iload 4, 2) := by decide +kernel
theorem drf_Md_isDue_52 : decode rfb_Md_isDue 52 = .ok (.invokevirtual 82, 3) := by decide +kernel
theorem drf_Md_isDue_55 : decode rfb_Md_isDue 55 = .ok (.ifCond .eq 7, 3) := by decide +kernel
theorem drf_Md_isDue_58 : decode rfb_Md_isDue 58 = .ok (.iconst 1, 1) := by decide +kernel
theorem drf_Md_isDue_59 : decode rfb_Md_isDue 59 = .ok (.goto 4, 3) := by decide +kernel
theorem drf_Md_isDue_62 : decode rfb_Md_isDue 62 = .ok (.iconst 0, 1) := by decide +kernel
theorem drf_Md_isDue_63 : decode rfb_Md_isDue 63 = .ok (.istore_n 2, 1) := by decide +kernel
theorem drf_Md_isDue_64 : decode rfb_Md_isDue 64 = .ok (.aload_n 0, 1) := by decide +kernel
theorem drf_Md_isDue_65 : decode rfb_Md_isDue 65 = .ok (.getfield 22, 3) := by decide +kernel
theorem drf_Md_isDue_68 : decode rfb_Md_isDue 68 = .ok (.iload 4, 2) := by decide +kernel
theorem drf_Md_isDue_70 : decode rfb_Md_isDue 70 = .ok (.iaload, 1) := by decide +kernel
theorem drf_Md_isDue_71 : decode rfb_Md_isDue 71 = .ok (.iload_n 3, 1) := by decide +kernel
theorem drf_Md_isDue_72 : decode rfb_Md_isDue 72 = .ok (.if_icmp .ge 13, 3) := by decide +kernel
theorem drf_Md_isDue_75 : decode rfb_Md_isDue 75 = .ok (.aload_n 0, 1) := by decide +kernel
theorem drf_Md_isDue_76 : decode rfb_Md_isDue 76 = .ok (.getfield 22, 3) := by decide +kernel
theorem drf_Md_isDue_79 : decode rfb_Md_isDue 79 = .ok (.iload 4, 2) := by decide +kernel
theorem drf_Md_isDue_81 : decode rfb_Md_isDue 81 = .ok (.iaload, 1) := by decide +kernel
theorem drf_Md_isDue_82 : decode rfb_Md_isDue 82 = .ok (.goto 4, 3) := by decide +kernel
theorem drf_Md_isDue_85 : decode rfb_Md_isDue 85 = .ok (.iload_n 3, 1) := by decide +kernel
theorem drf_Md_isDue_86 : decode rfb_Md_isDue 86 = .ok (.istore_n 3, 1) := by decide +kernel
theorem drf_Md_isDue_87 : decode rfb_Md_isDue 87 = .ok (.iinc 4 1, 3) := by decide +kernel
theorem drf_Md_isDue_90 : decode rfb_Md_isDue 90 = .ok (.goto (-67), 3) := by decide +kernel
theorem drf_Md_isDue_93 : decode rfb_Md_isDue 93 = .ok (.iload_n 2, 1) := by decide +kernel
theorem drf_Md_isDue_94 : decode rfb_Md_isDue 94 = .ok (.ifCond .ne 18, 3) := by decide +kernel
theorem drf_Md_isDue_97 : decode rfb_Md_isDue 97 = .ok (.aload_n 0, 1) := by decide +kernel
theorem drf_Md_isDue_98 : decode rfb_Md_isDue 98 = .ok (.getfield 106, 3) := by decide +kernel
theorem drf_Md_isDue_101 : decode rfb_Md_isDue 101 = .ok (.aload_n 0, 1) := by decide +kernel
theorem drf_Md_isDue_102 : decode rfb_Md_isDue 102 = .ok (.getfield 31, 3) := by decide +kernel
theorem drf_Md_isDue_105 : decode rfb_Md_isDue 105 = .ok (.iload_n 1, 1) := by decide +kernel
theorem drf_Md_isDue_106 : decode rfb_Md_isDue 106 = .ok (.iaload, 1) := by decide +kernel
theorem drf_Md_isDue_107 : decode rfb_Md_isDue 107 = .ok (.isub, 1) := by decide +kernel
theorem drf_Md_isDue_108 : decode rfb_Md_isDue 108 = .ok (.iload_n 3, 1) := by decide +kernel
theorem drf_Md_isDue_109 : decode rfb_Md_isDue 109 = .ok (.if_icmp .lt 7, 3) := by decide +kernel
theorem drf_Md_isDue_112 : decode rfb_Md_isDue 112 = .ok (.iconst 1, 1) := by decide +kernel
theorem drf_Md_isDue_113 : decode rfb_Md_isDue 113 = .ok (.goto 4, 3) := by decide +kernel
theorem drf_Md_isDue_116 : decode rfb_Md_isDue 116 = .ok (.iconst 0, 1) := by decide +kernel
theorem drf_Md_isDue_117 : decode rfb_Md_isDue 117 = .ok (.ireturn, 1) := by decide +kernel
theorem drf_Md_isUnitHit_0 : decode rfb_Md_isUnitHit 0 = .ok (.iconst 0, 1) := by decide +kernel
theorem drf_Md_isUnitHit_1 : decode rfb_Md_isUnitHit 1 = .ok (.istore_n 2, 1) := by decide +kernel
theorem drf_Md_isUnitHit_2 : decode rfb_Md_isUnitHit 2 = .ok (.iconst 0, 1) := by decide +kernel
theorem drf_Md_isUnitHit_3 : decode rfb_Md_isUnitHit 3 = .ok (.istore_n 3, 1) := by decide +kernel
theorem drf_Md_isUnitHit_4 : decode rfb_Md_isUnitHit 4 = .ok (.iload_n 3, 1) := by decide +kernel
theorem drf_Md_isUnitHit_5 : decode rfb_Md_isUnitHit 5 = .ok (.aload_n 0, 1) := by decide +kernel
theorem drf_Md_isUnitHit_6 : decode rfb_Md_isUnitHit 6 = .ok (.getfield 71, 3) := by decide +kernel
theorem drf_Md_isUnitHit_9 : decode rfb_Md_isUnitHit 9 = .ok (.if_icmp .ge 36, 3) := by decide +kernel
theorem drf_Md_isUnitHit_12 : decode rfb_Md_isUnitHit 12 = .ok (.iload_n 2, 1) := by decide +kernel
theorem drf_Md_isUnitHit_13 : decode rfb_Md_isUnitHit 13 = .ok (.ifCond .ne 20, 3) := by decide +kernel
theorem drf_Md_isUnitHit_16 : decode rfb_Md_isUnitHit 16 = .ok (.aload_n 0, 1) := by decide +kernel
theorem drf_Md_isUnitHit_17 : decode rfb_Md_isUnitHit 17 = .ok (.iload_n 3, 1) := by decide +kernel
theorem drf_Md_isUnitHit_18 : decode rfb_Md_isUnitHit 18 = .ok (.iload_n 1, 1) := by decide +kernel
theorem drf_Md_isUnitHit_19 : decode rfb_Md_isUnitHit 19 = .ok (.invokevirtual 89, 3) := by decide +kernel
theorem drf_Md_isUnitHit_22 : decode rfb_Md_isUnitHit 22 = .ok (.ifCond .eq 15, 3) := by decide +kernel
theorem drf_Md_isUnitHit_25 : decode rfb_Md_isUnitHit 25 = .ok (.aload_n 0, 1) := by decide +kernel
theorem drf_Md_isUnitHit_26 : decode rfb_Md_isUnitHit 26 = .ok (.iload_n 3, 1) := by decide +kernel
theorem drf_Md_isUnitHit_27 : decode rfb_Md_isUnitHit 27 = .ok (.invokevirtual 82, 3) := by decide +kernel
theorem drf_Md_isUnitHit_30 : decode rfb_Md_isUnitHit 30 = .ok (.ifCond .eq 7, 3) := by decide +kernel
theorem drf_Md_isUnitHit_33 : decode rfb_Md_isUnitHit 33 = .ok (.iconst 1, 1) := by decide +kernel
theorem drf_Md_isUnitHit_34 : decode rfb_Md_isUnitHit 34 = .ok (.goto 4, 3) := by decide +kernel
theorem drf_Md_isUnitHit_37 : decode rfb_Md_isUnitHit 37 = .ok (.iconst 0, 1) := by decide +kernel
theorem drf_Md_isUnitHit_38 : decode rfb_Md_isUnitHit 38 = .ok (.istore_n 2, 1) := by decide +kernel
theorem drf_Md_isUnitHit_39 : decode rfb_Md_isUnitHit 39 = .ok (.iinc 3 1, 3) := by decide +kernel
theorem drf_Md_isUnitHit_42 : decode rfb_Md_isUnitHit 42 = .ok (.goto (-38), 3) := by decide +kernel
theorem drf_Md_isUnitHit_45 : decode rfb_Md_isUnitHit 45 = .ok (.iload_n 2, 1) := by decide +kernel
theorem drf_Md_isUnitHit_46 : decode rfb_Md_isUnitHit 46 = .ok (.ireturn, 1) := by decide +kernel
theorem drf_Md_propose_0 : decode rfb_Md_propose 0 = .ok (.aload_n 0, 1) := by decide +kernel
theorem drf_Md_propose_1 : decode rfb_Md_propose 1 = .ok (.iload_n 1, 1) := by decide +kernel
theorem drf_Md_propose_2 : decode rfb_Md_propose 2 = .ok (.invokevirtual 102, 3) := by decide +kernel
theorem drf_Md_propose_5 : decode rfb_Md_propose 5 = .ok (.istore_n 2, 1) := by decide +kernel
theorem drf_Md_propose_6 : decode rfb_Md_propose 6 = .ok (.aload_n 0, 1) := by decide +kernel
theorem drf_Md_propose_7 : decode rfb_Md_propose 7 = .ok (.iload_n 1, 1) := by decide +kernel
theorem drf_Md_propose_8 : decode rfb_Md_propose 8 = .ok (.iconst 0, 1) := by decide +kernel
theorem drf_Md_propose_9 : decode rfb_Md_propose 9 = .ok (.invokevirtual 116, 3) := by decide +kernel
theorem drf_Md_propose_12 : decode rfb_Md_propose 12 = .ok (.istore_n 3, 1) := by decide +kernel
theorem drf_Md_propose_13 : decode rfb_Md_propose 13 = .ok (.iload_n 2, 1) := by decide +kernel
theorem drf_Md_propose_14 : decode rfb_Md_propose 14 = .ok (.ifCond .gt 17, 3) := by decide +kernel
theorem drf_Md_propose_17 : decode rfb_Md_propose 17 = .ok (.iload_n 3, 1) := by decide +kernel
theorem drf_Md_propose_18 : decode rfb_Md_propose 18 = .ok (.iconst (-1), 1) := by decide +kernel
theorem drf_Md_propose_19 : decode rfb_Md_propose 19 = .ok (.if_icmp .eq 10, 3) := by decide +kernel
theorem drf_Md_propose_22 : decode rfb_Md_propose 22 = .ok (.aload_n 0, 1) := by decide +kernel
theorem drf_Md_propose_23 : decode rfb_Md_propose 23 = .ok (.getfield 46, 3) := by decide +kernel
theorem drf_Md_propose_26 : decode rfb_Md_propose 26 = .ok (.iload_n 3, 1) := by decide +kernel
theorem drf_Md_propose_27 : decode rfb_Md_propose 27 = .ok (.iconst 3, 1) := by decide +kernel
theorem drf_Md_propose_28 : decode rfb_Md_propose 28 = .ok (.iastore, 1) := by decide +kernel
theorem drf_Md_propose_29 : decode rfb_Md_propose 29 = .ok (.iconst 0, 1) := by decide +kernel
theorem drf_Md_propose_30 : decode rfb_Md_propose 30 = .ok (.ireturn, 1) := by decide +kernel
theorem drf_Md_propose_31 : decode rfb_Md_propose 31 = .ok (.iload_n 3, 1) := by decide +kernel
theorem drf_Md_propose_32 : decode rfb_Md_propose 32 = .ok (.iconst (-1), 1) := by decide +kernel
theorem drf_Md_propose_33 : decode rfb_Md_propose 33 = .ok (.if_icmp .eq 13, 3) := by decide +kernel
theorem drf_Md_propose_36 : decode rfb_Md_propose 36 = .ok (.aload_n 0, 1) := by decide +kernel
theorem drf_Md_propose_37 : decode rfb_Md_propose 37 = .ok (.iload_n 3, 1) := by decide +kernel
theorem drf_Md_propose_38 : decode rfb_Md_propose 38 = .ok (.invokevirtual 120, 3) := by decide +kernel
theorem drf_Md_propose_41 : decode rfb_Md_propose 41 = .ok (.ifCond .eq 5, 3) := by decide +kernel
theorem drf_Md_propose_44 : decode rfb_Md_propose 44 = .ok (.iconst 0, 1) := by decide +kernel
theorem drf_Md_propose_45 : decode rfb_Md_propose 45 = .ok (.ireturn, 1) := by decide +kernel
theorem drf_Md_propose_46 : decode rfb_Md_propose 46 = .ok (.aload_n 0, 1) := by decide +kernel
theorem drf_Md_propose_47 : decode rfb_Md_propose 47 = .ok (.iload_n 1, 1) := by decide +kernel
theorem drf_Md_propose_48 : decode rfb_Md_propose 48 = .ok (.iconst 4, 1) := by decide +kernel
theorem drf_Md_propose_49 : decode rfb_Md_propose 49 = .ok (.invokevirtual 116, 3) := by decide +kernel
theorem drf_Md_propose_52 : decode rfb_Md_propose 52 = .ok (.istore 4, 2) := by decide +kernel
theorem drf_Md_propose_54 : decode rfb_Md_propose 54 = .ok (.iload 4, 2) := by decide +kernel
theorem drf_Md_propose_56 : decode rfb_Md_propose 56 = .ok (.iconst (-1), 1) := by decide +kernel
theorem drf_Md_propose_57 : decode rfb_Md_propose 57 = .ok (.if_icmp .eq 26, 3) := by decide +kernel
theorem drf_Md_propose_60 : decode rfb_Md_propose 60 = .ok (.aload_n 0, 1) := by decide +kernel
theorem drf_Md_propose_61 : decode rfb_Md_propose 61 = .ok (.iload 4, 2) := by decide +kernel
theorem drf_Md_propose_63 : decode rfb_Md_propose 63 = .ok (.invokevirtual 120, 3) := by decide +kernel
theorem drf_Md_propose_66 : decode rfb_Md_propose 66 = .ok (.ifCond .eq 17, 3) := by decide +kernel
theorem drf_Md_propose_69 : decode rfb_Md_propose 69 = .ok (.iload_n 3, 1) := by decide +kernel
theorem drf_Md_propose_70 : decode rfb_Md_propose 70 = .ok (.iconst (-1), 1) := by decide +kernel
theorem drf_Md_propose_71 : decode rfb_Md_propose 71 = .ok (.if_icmp .eq 10, 3) := by decide +kernel
theorem drf_Md_propose_74 : decode rfb_Md_propose 74 = .ok (.aload_n 0, 1) := by decide +kernel
theorem drf_Md_propose_75 : decode rfb_Md_propose 75 = .ok (.getfield 46, 3) := by decide +kernel
theorem drf_Md_propose_78 : decode rfb_Md_propose 78 = .ok (.iload_n 3, 1) := by decide +kernel
theorem drf_Md_propose_79 : decode rfb_Md_propose 79 = .ok (.iconst 3, 1) := by decide +kernel
theorem drf_Md_propose_80 : decode rfb_Md_propose 80 = .ok (.iastore, 1) := by decide +kernel
theorem drf_Md_propose_81 : decode rfb_Md_propose 81 = .ok (.iconst 0, 1) := by decide +kernel
theorem drf_Md_propose_82 : decode rfb_Md_propose 82 = .ok (.ireturn, 1) := by decide +kernel
theorem drf_Md_propose_83 : decode rfb_Md_propose 83 = .ok (.aload_n 0, 1) := by decide +kernel
theorem drf_Md_propose_84 : decode rfb_Md_propose 84 = .ok (.iload_n 1, 1) := by decide +kernel
theorem drf_Md_propose_85 : decode rfb_Md_propose 85 = .ok (.invokevirtual 123, 3) := by decide +kernel
theorem drf_Md_propose_88 : decode rfb_Md_propose 88 = .ok (.istore 5, 2) := by decide +kernel
theorem drf_Md_propose_90 : decode rfb_Md_propose 90 = .ok (.aload_n 0, 1) := by decide +kernel
theorem drf_Md_propose_91 : decode rfb_Md_propose 91 = .ok (.getfield 113, 3) := by decide +kernel
theorem drf_Md_propose_94 : decode rfb_Md_propose 94 = .ok (.bipush 60, 2) := by decide +kernel
theorem drf_Md_propose_96 : decode rfb_Md_propose 96 = .ok (.if_icmp .eq 30, 3) := by decide +kernel
theorem drf_Md_propose_99 : decode rfb_Md_propose 99 = .ok (.iload_n 3, 1) := by decide +kernel
theorem drf_Md_propose_100 : decode rfb_Md_propose 100 = .ok (.iconst (-1), 1) := by decide +kernel
theorem drf_Md_propose_101 : decode rfb_Md_propose 101 = .ok (.if_icmp .ne 27, 3) := by decide +kernel
theorem drf_Md_propose_104 : decode rfb_Md_propose 104 = .ok (.aload_n 0, 1) := by decide +kernel
theorem drf_Md_propose_105 : decode rfb_Md_propose 105 = .ok (.aload_n 0, 1) := by decide +kernel
theorem drf_Md_propose_106 : decode rfb_Md_propose 106 = .ok (.getfield 7, 3) := by decide +kernel
theorem drf_Md_propose_109 : decode rfb_Md_propose 109 = .ok (.iload_n 1, 1) := by decide +kernel
theorem drf_Md_propose_110 : decode rfb_Md_propose 110 = .ok (.iaload, 1) := by decide +kernel
theorem drf_Md_propose_111 : decode rfb_Md_propose 111 = .ok (.invokevirtual 126, 3) := by decide +kernel
theorem drf_Md_propose_114 : decode rfb_Md_propose 114 = .ok (.aload_n 0, 1) := by decide +kernel
theorem drf_Md_propose_115 : decode rfb_Md_propose 115 = .ok (.getfield 64, 3) := by decide +kernel
theorem drf_Md_propose_118 : decode rfb_Md_propose 118 = .ok (.if_icmp .lt 10, 3) := by decide +kernel
theorem drf_Md_propose_121 : decode rfb_Md_propose 121 = .ok (.iload 5, 2) := by decide +kernel
theorem drf_Md_propose_123 : decode rfb_Md_propose 123 = .ok (.ifCond .ne 5, 3) := by decide +kernel
theorem drf_Md_propose_126 : decode rfb_Md_propose 126 = .ok (.iconst (-1), 1) := by decide +kernel
theorem drf_Md_propose_127 : decode rfb_Md_propose 127 = .ok (.ireturn, 1) := by decide +kernel
theorem drf_Md_propose_128 : decode rfb_Md_propose 128 = .ok (.iload_n 3, 1) := by decide +kernel
theorem drf_Md_propose_129 : decode rfb_Md_propose 129 = .ok (.iconst (-1), 1) := by decide +kernel
theorem drf_Md_propose_130 : decode rfb_Md_propose 130 = .ok (.if_icmp .eq 10, 3) := by decide +kernel
theorem drf_Md_propose_133 : decode rfb_Md_propose 133 = .ok (.aload_n 0, 1) := by decide +kernel
theorem drf_Md_propose_134 : decode rfb_Md_propose 134 = .ok (.getfield 46, 3) := by decide +kernel
theorem drf_Md_propose_137 : decode rfb_Md_propose 137 = .ok (.iload_n 3, 1) := by decide +kernel
theorem drf_Md_propose_138 : decode rfb_Md_propose 138 = .ok (.iconst 2, 1) := by decide +kernel
theorem drf_Md_propose_139 : decode rfb_Md_propose 139 = .ok (.iastore, 1) := by decide +kernel
theorem drf_Md_propose_140 : decode rfb_Md_propose 140 = .ok (.aload_n 0, 1) := by decide +kernel
theorem drf_Md_propose_141 : decode rfb_Md_propose 141 = .ok (.getfield 46, 3) := by decide +kernel
theorem drf_Md_propose_144 : decode rfb_Md_propose 144 = .ok (.aload_n 0, 1) := by decide +kernel
theorem drf_Md_propose_145 : decode rfb_Md_propose 145 = .ok (.getfield 113, 3) := by decide +kernel
theorem drf_Md_propose_148 : decode rfb_Md_propose 148 = .ok (.iconst 0, 1) := by decide +kernel
theorem drf_Md_propose_149 : decode rfb_Md_propose 149 = .ok (.iastore, 1) := by decide +kernel
theorem drf_Md_propose_150 : decode rfb_Md_propose 150 = .ok (.aload_n 0, 1) := by decide +kernel
theorem drf_Md_propose_151 : decode rfb_Md_propose 151 = .ok (.getfield 49, 3) := by decide +kernel
theorem drf_Md_propose_154 : decode rfb_Md_propose 154 = .ok (.aload_n 0, 1) := by decide +kernel
theorem drf_Md_propose_155 : decode rfb_Md_propose 155 = .ok (.getfield 113, 3) := by decide +kernel
theorem drf_Md_propose_158 : decode rfb_Md_propose 158 = .ok (.iload_n 1, 1) := by decide +kernel
theorem drf_Md_propose_159 : decode rfb_Md_propose 159 = .ok (.iastore, 1) := by decide +kernel
theorem drf_Md_propose_160 : decode rfb_Md_propose 160 = .ok (.aload_n 0, 1) := by decide +kernel
theorem drf_Md_propose_161 : decode rfb_Md_propose 161 = .ok (.getfield 55, 3) := by decide +kernel
theorem drf_Md_propose_164 : decode rfb_Md_propose 164 = .ok (.aload_n 0, 1) := by decide +kernel
theorem drf_Md_propose_165 : decode rfb_Md_propose 165 = .ok (.getfield 113, 3) := by decide +kernel
theorem drf_Md_propose_168 : decode rfb_Md_propose 168 = .ok (.aload_n 0, 1) := by decide +kernel
theorem drf_Md_propose_169 : decode rfb_Md_propose 169 = .ok (.getfield 106, 3) := by decide +kernel
theorem drf_Md_propose_172 : decode rfb_Md_propose 172 = .ok (.iastore, 1) := by decide +kernel
theorem drf_Md_propose_173 : decode rfb_Md_propose 173 = .ok (.aload_n 0, 1) := by decide +kernel
theorem drf_Md_propose_174 : decode rfb_Md_propose 174 = .ok (.getfield 58, 3) := by decide +kernel
theorem drf_Md_propose_177 : decode rfb_Md_propose 177 = .ok (.aload_n 0, 1) := by decide +kernel
theorem drf_Md_propose_178 : decode rfb_Md_propose 178 = .ok (.getfield 113, 3) := by decide +kernel
theorem drf_Md_propose_181 : decode rfb_Md_propose 181 = .ok (.iload 5, 2) := by decide +kernel
theorem drf_Md_propose_183 : decode rfb_Md_propose 183 = .ok (.ifCond .eq 7, 3) := by decide +kernel
theorem drf_Md_propose_186 : decode rfb_Md_propose 186 = .ok (.iconst 1, 1) := by decide +kernel
theorem drf_Md_propose_187 : decode rfb_Md_propose 187 = .ok (.goto 4, 3) := by decide +kernel
theorem drf_Md_propose_190 : decode rfb_Md_propose 190 = .ok (.iconst 0, 1) := by decide +kernel
theorem drf_Md_propose_191 : decode rfb_Md_propose 191 = .ok (.iastore, 1) := by decide +kernel
theorem drf_Md_propose_192 : decode rfb_Md_propose 192 = .ok (.aload_n 0, 1) := by decide +kernel
theorem drf_Md_propose_193 : decode rfb_Md_propose 193 = .ok (.aload_n 0, 1) := by decide +kernel
theorem drf_Md_propose_194 : decode rfb_Md_propose 194 = .ok (.getfield 113, 3) := by decide +kernel
theorem drf_Md_propose_197 : decode rfb_Md_propose 197 = .ok (.invokevirtual 129, 3) := by decide +kernel
theorem drf_Md_propose_200 : decode rfb_Md_propose 200 = .ok (.aload_n 0, 1) := by decide +kernel
theorem drf_Md_propose_201 : decode rfb_Md_propose 201 = .ok (.dup, 1) := by decide +kernel
theorem drf_Md_propose_202 : decode rfb_Md_propose 202 = .ok (.getfield 113, 3) := by decide +kernel
theorem drf_Md_propose_205 : decode rfb_Md_propose 205 = .ok (.iconst 1, 1) := by decide +kernel
theorem drf_Md_propose_206 : decode rfb_Md_propose 206 = .ok (.iadd, 1) := by decide +kernel
theorem drf_Md_propose_207 : decode rfb_Md_propose 207 = .ok (.putfield 113, 3) := by decide +kernel
theorem drf_Md_propose_210 : decode rfb_Md_propose 210 = .ok (.iconst 1, 1) := by decide +kernel
theorem drf_Md_propose_211 : decode rfb_Md_propose 211 = .ok (.ireturn, 1) := by decide +kernel
theorem drf_Md_run_0 : decode rfb_Md_run 0 = .ok (.aload_n 0, 1) := by decide +kernel
theorem drf_Md_run_1 : decode rfb_Md_run 1 = .ok (.iconst 0, 1) := by decide +kernel
theorem drf_Md_run_2 : decode rfb_Md_run 2 = .ok (.putfield 68, 3) := by decide +kernel
theorem drf_Md_run_5 : decode rfb_Md_run 5 = .ok (.aload_n 0, 1) := by decide +kernel
theorem drf_Md_run_6 : decode rfb_Md_run 6 = .ok (.iconst 0, 1) := by decide +kernel
theorem drf_Md_run_7 : decode rfb_Md_run 7 = .ok (.putfield 133, 3) := by decide +kernel
theorem drf_Md_run_10 : decode rfb_Md_run 10 = .ok (.iconst 0, 1) := by decide +kernel
theorem drf_Md_run_11 : decode rfb_Md_run 11 = .ok (.istore_n 1, 1) := by decide +kernel
theorem drf_Md_run_12 : decode rfb_Md_run 12 = .ok (.iconst 0, 1) := by decide +kernel
theorem drf_Md_run_13 : decode rfb_Md_run 13 = .ok (.istore_n 2, 1) := by decide +kernel
theorem drf_Md_run_14 : decode rfb_Md_run 14 = .ok (.iload_n 2, 1) := by decide +kernel
theorem drf_Md_run_15 : decode rfb_Md_run 15 = .ok (.aload_n 0, 1) := by decide +kernel
theorem drf_Md_run_16 : decode rfb_Md_run 16 = .ok (.getfield 71, 3) := by decide +kernel
theorem drf_Md_run_19 : decode rfb_Md_run 19 = .ok (.if_icmp .ge 77, 3) := by decide +kernel
theorem drf_Md_run_22 : decode rfb_Md_run 22 = .ok (.aload_n 0, 1) := by decide +kernel
theorem drf_Md_run_23 : decode rfb_Md_run 23 = .ok (.iload_n 2, 1) := by decide +kernel
theorem drf_Md_run_24 : decode rfb_Md_run 24 = .ok (.invokevirtual 92, 3) := by decide +kernel
theorem drf_Md_run_27 : decode rfb_Md_run 27 = .ok (.iload_n 2, 1) := by decide +kernel
theorem drf_Md_run_28 : decode rfb_Md_run 28 = .ok (.if_icmp .ne 62, 3) := by decide +kernel
theorem drf_Md_run_31 : decode rfb_Md_run 31 = .ok (.aload_n 0, 1) := by decide +kernel
theorem drf_Md_run_32 : decode rfb_Md_run 32 = .ok (.iload_n 2, 1) := by decide +kernel
theorem drf_Md_run_33 : decode rfb_Md_run 33 = .ok (.invokevirtual 136, 3) := by decide +kernel
theorem drf_Md_run_36 : decode rfb_Md_run 36 = .ok (.ifCond .ne 6, 3) := by decide +kernel
theorem drf_Md_run_39 : decode rfb_Md_run 39 = .ok (.goto 51, 3) := by decide +kernel
theorem drf_Md_run_42 : decode rfb_Md_run 42 = .ok (.aload_n 0, 1) := by decide +kernel
theorem drf_Md_run_43 : decode rfb_Md_run 43 = .ok (.getfield 31, 3) := by decide +kernel
theorem drf_Md_run_46 : decode rfb_Md_run 46 = .ok (.iload_n 2, 1) := by decide +kernel
theorem drf_Md_run_47 : decode rfb_Md_run 47 = .ok (.aload_n 0, 1) := by decide +kernel
theorem drf_Md_run_48 : decode rfb_Md_run 48 = .ok (.getfield 106, 3) := by decide +kernel
theorem drf_Md_run_51 : decode rfb_Md_run 51 = .ok (.iastore, 1) := by decide +kernel
theorem drf_Md_run_52 : decode rfb_Md_run 52 = .ok (.aload_n 0, 1) := by decide +kernel
theorem drf_Md_run_53 : decode rfb_Md_run 53 = .ok (.iload_n 2, 1) := by decide +kernel
theorem drf_Md_run_54 : decode rfb_Md_run 54 = .ok (.invokevirtual 139, 3) := by decide +kernel
theorem drf_Md_run_57 : decode rfb_Md_run 57 = .ok (.istore_n 3, 1) := by decide +kernel
theorem drf_Md_run_58 : decode rfb_Md_run 58 = .ok (.iload_n 1, 1) := by decide +kernel
theorem drf_Md_run_59 : decode rfb_Md_run 59 = .ok (.iload_n 3, 1) := by decide +kernel
theorem drf_Md_run_60 : decode rfb_Md_run 60 = .ok (.iconst 1, 1) := by decide +kernel
theorem drf_Md_run_61 : decode rfb_Md_run 61 = .ok (.if_icmp .ne 7, 3) := by decide +kernel
theorem drf_Md_run_64 : decode rfb_Md_run 64 = .ok (.iconst 1, 1) := by decide +kernel
theorem drf_Md_run_65 : decode rfb_Md_run 65 = .ok (.goto 4, 3) := by decide +kernel
theorem drf_Md_run_68 : decode rfb_Md_run 68 = .ok (.iconst 0, 1) := by decide +kernel
theorem drf_Md_run_69 : decode rfb_Md_run 69 = .ok (.iadd, 1) := by decide +kernel
theorem drf_Md_run_70 : decode rfb_Md_run 70 = .ok (.istore_n 1, 1) := by decide +kernel
theorem drf_Md_run_71 : decode rfb_Md_run 71 = .ok (.aload_n 0, 1) := by decide +kernel
theorem drf_Md_run_72 : decode rfb_Md_run 72 = .ok (.dup, 1) := by decide +kernel
theorem drf_Md_run_73 : decode rfb_Md_run 73 = .ok (.getfield 133, 3) := by decide +kernel
theorem drf_Md_run_76 : decode rfb_Md_run 76 = .ok (.iload_n 3, 1) := by decide +kernel
theorem drf_Md_run_77 : decode rfb_Md_run 77 = .ok (.iconst (-1), 1) := by decide +kernel
theorem drf_Md_run_78 : decode rfb_Md_run 78 = .ok (.if_icmp .ne 7, 3) := by decide +kernel
theorem drf_Md_run_81 : decode rfb_Md_run 81 = .ok (.iconst 1, 1) := by decide +kernel
theorem drf_Md_run_82 : decode rfb_Md_run 82 = .ok (.goto 4, 3) := by decide +kernel
theorem drf_Md_run_85 : decode rfb_Md_run 85 = .ok (.iconst 0, 1) := by decide +kernel
theorem drf_Md_run_86 : decode rfb_Md_run 86 = .ok (.iadd, 1) := by decide +kernel
theorem drf_Md_run_87 : decode rfb_Md_run 87 = .ok (.putfield 133, 3) := by decide +kernel
theorem drf_Md_run_90 : decode rfb_Md_run 90 = .ok (.iinc 2 1, 3) := by decide +kernel
theorem drf_Md_run_93 : decode rfb_Md_run 93 = .ok (.goto (-79), 3) := by decide +kernel
theorem drf_Md_run_96 : decode rfb_Md_run 96 = .ok (.iload_n 1, 1) := by decide +kernel
theorem drf_Md_run_97 : decode rfb_Md_run 97 = .ok (.ireturn, 1) := by decide +kernel
theorem drf_Md_waiting_0 : decode rfb_Md_waiting 0 = .ok (.aload_n 0, 1) := by decide +kernel
theorem drf_Md_waiting_1 : decode rfb_Md_waiting 1 = .ok (.iconst 0, 1) := by decide +kernel
theorem drf_Md_waiting_2 : decode rfb_Md_waiting 2 = .ok (.putfield 68, 3) := by decide +kernel
theorem drf_Md_waiting_5 : decode rfb_Md_waiting 5 = .ok (.aload_n 0, 1) := by decide +kernel
theorem drf_Md_waiting_6 : decode rfb_Md_waiting 6 = .ok (.getfield 133, 3) := by decide +kernel
theorem drf_Md_waiting_9 : decode rfb_Md_waiting 9 = .ok (.ireturn, 1) := by decide +kernel
theorem drf_Md_about_0 : decode rfb_Md_about 0 = .ok (.aload_n 0, 1) := by decide +kernel
theorem drf_Md_about_1 : decode rfb_Md_about 1 = .ok (.iconst 0, 1) := by decide +kernel
theorem drf_Md_about_2 : decode rfb_Md_about 2 = .ok (.putfield 68, 3) := by decide +kernel
theorem drf_Md_about_5 : decode rfb_Md_about 5 = .ok (.iload_n 1, 1) := by decide +kernel
theorem drf_Md_about_6 : decode rfb_Md_about 6 = .ok (.ifCond .lt 11, 3) := by decide +kernel
theorem drf_Md_about_9 : decode rfb_Md_about 9 = .ok (.iload_n 1, 1) := by decide +kernel
theorem drf_Md_about_10 : decode rfb_Md_about 10 = .ok (.aload_n 0, 1) := by decide +kernel
theorem drf_Md_about_11 : decode rfb_Md_about 11 = .ok (.getfield 113, 3) := by decide +kernel
theorem drf_Md_about_14 : decode rfb_Md_about 14 = .ok (.if_icmp .lt 5, 3) := by decide +kernel
theorem drf_Md_about_17 : decode rfb_Md_about 17 = .ok (.iconst (-1), 1) := by decide +kernel
theorem drf_Md_about_18 : decode rfb_Md_about 18 = .ok (.ireturn, 1) := by decide +kernel
theorem drf_Md_about_19 : decode rfb_Md_about 19 = .ok (.iload_n 2, 1) := by decide +kernel
theorem drf_Md_about_20 : decode rfb_Md_about 20 = .ok (.tableswitch 71 0 4 #[36, 43, 50, 57, 64], 36) := by decide +kernel
theorem drf_Md_about_56 : decode rfb_Md_about 56 = .ok (.aload_n 0, 1) := by decide +kernel
theorem drf_Md_about_57 : decode rfb_Md_about 57 = .ok (.getfield 46, 3) := by decide +kernel
theorem drf_Md_about_60 : decode rfb_Md_about 60 = .ok (.iload_n 1, 1) := by decide +kernel
theorem drf_Md_about_61 : decode rfb_Md_about 61 = .ok (.iaload, 1) := by decide +kernel
theorem drf_Md_about_62 : decode rfb_Md_about 62 = .ok (.ireturn, 1) := by decide +kernel
theorem drf_Md_about_63 : decode rfb_Md_about 63 = .ok (.aload_n 0, 1) := by decide +kernel
theorem drf_Md_about_64 : decode rfb_Md_about 64 = .ok (.getfield 49, 3) := by decide +kernel
theorem drf_Md_about_67 : decode rfb_Md_about 67 = .ok (.iload_n 1, 1) := by decide +kernel
theorem drf_Md_about_68 : decode rfb_Md_about 68 = .ok (.iaload, 1) := by decide +kernel
theorem drf_Md_about_69 : decode rfb_Md_about 69 = .ok (.ireturn, 1) := by decide +kernel
theorem drf_Md_about_70 : decode rfb_Md_about 70 = .ok (.aload_n 0, 1) := by decide +kernel
theorem drf_Md_about_71 : decode rfb_Md_about 71 = .ok (.getfield 52, 3) := by decide +kernel
theorem drf_Md_about_74 : decode rfb_Md_about 74 = .ok (.iload_n 1, 1) := by decide +kernel
theorem drf_Md_about_75 : decode rfb_Md_about 75 = .ok (.iaload, 1) := by decide +kernel
theorem drf_Md_about_76 : decode rfb_Md_about 76 = .ok (.ireturn, 1) := by decide +kernel
theorem drf_Md_about_77 : decode rfb_Md_about 77 = .ok (.aload_n 0, 1) := by decide +kernel
theorem drf_Md_about_78 : decode rfb_Md_about 78 = .ok (.getfield 55, 3) := by decide +kernel
theorem drf_Md_about_81 : decode rfb_Md_about 81 = .ok (.iload_n 1, 1) := by decide +kernel
theorem drf_Md_about_82 : decode rfb_Md_about 82 = .ok (.iaload, 1) := by decide +kernel
theorem drf_Md_about_83 : decode rfb_Md_about 83 = .ok (.ireturn, 1) := by decide +kernel
theorem drf_Md_about_84 : decode rfb_Md_about 84 = .ok (.aload_n 0, 1) := by decide +kernel
theorem drf_Md_about_85 : decode rfb_Md_about 85 = .ok (.getfield 58, 3) := by decide +kernel
theorem drf_Md_about_88 : decode rfb_Md_about 88 = .ok (.iload_n 1, 1) := by decide +kernel
theorem drf_Md_about_89 : decode rfb_Md_about 89 = .ok (.iaload, 1) := by decide +kernel
theorem drf_Md_about_90 : decode rfb_Md_about 90 = .ok (.ireturn, 1) := by decide +kernel
theorem drf_Md_about_91 : decode rfb_Md_about 91 = .ok (.iconst (-1), 1) := by decide +kernel
theorem drf_Md_about_92 : decode rfb_Md_about 92 = .ok (.ireturn, 1) := by decide +kernel
theorem drf_Md_target_0 : decode rfb_Md_target 0 = .ok (.aload_n 0, 1) := by decide +kernel
theorem drf_Md_target_1 : decode rfb_Md_target 1 = .ok (.iconst 0, 1) := by decide +kernel
theorem drf_Md_target_2 : decode rfb_Md_target 2 = .ok (.putfield 68, 3) := by decide +kernel
theorem drf_Md_target_5 : decode rfb_Md_target 5 = .ok (.iload_n 1, 1) := by decide +kernel
theorem drf_Md_target_6 : decode rfb_Md_target 6 = .ok (.ifCond .lt 19, 3) := by decide +kernel
theorem drf_Md_target_9 : decode rfb_Md_target 9 = .ok (.iload_n 1, 1) := by decide +kernel
theorem drf_Md_target_10 : decode rfb_Md_target 10 = .ok (.aload_n 0, 1) := by decide +kernel
theorem drf_Md_target_11 : decode rfb_Md_target 11 = .ok (.getfield 113, 3) := by decide +kernel
theorem drf_Md_target_14 : decode rfb_Md_target 14 = .ok (.if_icmp .ge 11, 3) := by decide +kernel
theorem drf_Md_target_17 : decode rfb_Md_target 17 = .ok (.aload_n 0, 1) := by decide +kernel
theorem drf_Md_target_18 : decode rfb_Md_target 18 = .ok (.iload_n 2, 1) := by decide +kernel
theorem drf_Md_target_19 : decode rfb_Md_target 19 = .ok (.invokevirtual 74, 3) := by decide +kernel
theorem drf_Md_target_22 : decode rfb_Md_target 22 = .ok (.ifCond .ne 7, 3) := by decide +kernel
theorem drf_Md_target_25 : decode rfb_Md_target 25 = .ok (.iconst (-1), 1) := by decide +kernel
theorem drf_Md_target_26 : decode rfb_Md_target 26 = .ok (.goto 14, 3) := by decide +kernel
theorem drf_Md_target_29 : decode rfb_Md_target 29 = .ok (.aload_n 0, 1) := by decide +kernel
theorem drf_Md_target_30 : decode rfb_Md_target 30 = .ok (.getfield 61, 3) := by decide +kernel
theorem drf_Md_target_33 : decode rfb_Md_target 33 = .ok (.bipush 12, 2) := by decide +kernel
theorem drf_Md_target_35 : decode rfb_Md_target 35 = .ok (.iload_n 1, 1) := by decide +kernel
theorem drf_Md_target_36 : decode rfb_Md_target 36 = .ok (.imul, 1) := by decide +kernel
theorem drf_Md_target_37 : decode rfb_Md_target 37 = .ok (.iload_n 2, 1) := by decide +kernel
theorem drf_Md_target_38 : decode rfb_Md_target 38 = .ok (.iadd, 1) := by decide +kernel
theorem drf_Md_target_39 : decode rfb_Md_target 39 = .ok (.iaload, 1) := by decide +kernel
theorem drf_Md_target_40 : decode rfb_Md_target 40 = .ok (.ireturn, 1) := by decide +kernel
theorem drf_Md_redo_0 : decode rfb_Md_redo 0 = .ok (.aload_n 0, 1) := by decide +kernel
theorem drf_Md_redo_1 : decode rfb_Md_redo 1 = .ok (.getfield 49, 3) := by decide +kernel
theorem drf_Md_redo_4 : decode rfb_Md_redo 4 = .ok (.iload_n 1, 1) := by decide +kernel
theorem drf_Md_redo_5 : decode rfb_Md_redo 5 = .ok (.iaload, 1) := by decide +kernel
theorem drf_Md_redo_6 : decode rfb_Md_redo 6 = .ok (.istore_n 2, 1) := by decide +kernel
theorem drf_Md_redo_7 : decode rfb_Md_redo 7 = .ok (.aload_n 0, 1) := by decide +kernel
theorem drf_Md_redo_8 : decode rfb_Md_redo 8 = .ok (.iload_n 2, 1) := by decide +kernel
theorem drf_Md_redo_9 : decode rfb_Md_redo 9 = .ok (.invokevirtual 92, 3) := by decide +kernel
theorem drf_Md_redo_12 : decode rfb_Md_redo 12 = .ok (.iload_n 2, 1) := by decide +kernel
theorem drf_Md_redo_13 : decode rfb_Md_redo 13 = .ok (.if_icmp .ne 11, 3) := by decide +kernel
theorem drf_Md_redo_16 : decode rfb_Md_redo 16 = .ok (.aload_n 0, 1) := by decide +kernel
theorem drf_Md_redo_17 : decode rfb_Md_redo 17 = .ok (.iload_n 2, 1) := by decide +kernel
theorem drf_Md_redo_18 : decode rfb_Md_redo 18 = .ok (.invokevirtual 102, 3) := by decide +kernel
theorem drf_Md_redo_21 : decode rfb_Md_redo 21 = .ok (.ifCond .gt 11, 3) := by decide +kernel
theorem drf_Md_redo_24 : decode rfb_Md_redo 24 = .ok (.aload_n 0, 1) := by decide +kernel
theorem drf_Md_redo_25 : decode rfb_Md_redo 25 = .ok (.getfield 46, 3) := by decide +kernel
theorem drf_Md_redo_28 : decode rfb_Md_redo 28 = .ok (.iload_n 1, 1) := by decide +kernel
theorem drf_Md_redo_29 : decode rfb_Md_redo 29 = .ok (.iconst 3, 1) := by decide +kernel
theorem drf_Md_redo_30 : decode rfb_Md_redo 30 = .ok (.iastore, 1) := by decide +kernel
theorem drf_Md_redo_31 : decode rfb_Md_redo 31 = .ok (.return_, 1) := by decide +kernel
theorem drf_Md_redo_32 : decode rfb_Md_redo 32 = .ok (.aload_n 0, 1) := by decide +kernel
theorem drf_Md_redo_33 : decode rfb_Md_redo 33 = .ok (.getfield 52, 3) := by decide +kernel
theorem drf_Md_redo_36 : decode rfb_Md_redo 36 = .ok (.iload_n 1, 1) := by decide +kernel
theorem drf_Md_redo_37 : decode rfb_Md_redo 37 = .ok (.dup2, 1) := by decide +kernel
theorem drf_Md_redo_38 : decode rfb_Md_redo 38 = .ok (.iaload, 1) := by decide +kernel
theorem drf_Md_redo_39 : decode rfb_Md_redo 39 = .ok (.iconst 1, 1) := by decide +kernel
theorem drf_Md_redo_40 : decode rfb_Md_redo 40 = .ok (.iadd, 1) := by decide +kernel
theorem drf_Md_redo_41 : decode rfb_Md_redo 41 = .ok (.iastore, 1) := by decide +kernel
theorem drf_Md_redo_42 : decode rfb_Md_redo 42 = .ok (.aload_n 0, 1) := by decide +kernel
theorem drf_Md_redo_43 : decode rfb_Md_redo 43 = .ok (.iload_n 1, 1) := by decide +kernel
theorem drf_Md_redo_44 : decode rfb_Md_redo 44 = .ok (.invokevirtual 129, 3) := by decide +kernel
theorem drf_Md_redo_47 : decode rfb_Md_redo 47 = .ok (.return_, 1) := by decide +kernel
theorem drf_Md_pass_0 : decode rfb_Md_pass 0 = .ok (.aload_n 0, 1) := by decide +kernel
theorem drf_Md_pass_1 : decode rfb_Md_pass 1 = .ok (.iconst 0, 1) := by decide +kernel
theorem drf_Md_pass_2 : decode rfb_Md_pass 2 = .ok (.putfield 68, 3) := by decide +kernel
theorem drf_Md_pass_5 : decode rfb_Md_pass 5 = .ok (.iload_n 1, 1) := by decide +kernel
theorem drf_Md_pass_6 : decode rfb_Md_pass 6 = .ok (.ifCond .lt 20, 3) := by decide +kernel
theorem drf_Md_pass_9 : decode rfb_Md_pass 9 = .ok (.iload_n 1, 1) := by decide +kernel
theorem drf_Md_pass_10 : decode rfb_Md_pass 10 = .ok (.aload_n 0, 1) := by decide +kernel
theorem drf_Md_pass_11 : decode rfb_Md_pass 11 = .ok (.getfield 113, 3) := by decide +kernel
theorem drf_Md_pass_14 : decode rfb_Md_pass 14 = .ok (.if_icmp .ge 12, 3) := by decide +kernel
theorem drf_Md_pass_17 : decode rfb_Md_pass 17 = .ok (.aload_n 0, 1) := by decide +kernel
theorem drf_Md_pass_18 : decode rfb_Md_pass 18 = .ok (.getfield 46, 3) := by decide +kernel
theorem drf_Md_pass_21 : decode rfb_Md_pass 21 = .ok (.iload_n 1, 1) := by decide +kernel
theorem drf_Md_pass_22 : decode rfb_Md_pass 22 = .ok (.iaload, 1) := by decide +kernel
theorem drf_Md_pass_23 : decode rfb_Md_pass 23 = .ok (.ifCond .eq 5, 3) := by decide +kernel
theorem drf_Md_pass_26 : decode rfb_Md_pass 26 = .ok (.iconst (-1), 1) := by decide +kernel
theorem drf_Md_pass_27 : decode rfb_Md_pass 27 = .ok (.ireturn, 1) := by decide +kernel
theorem drf_Md_pass_28 : decode rfb_Md_pass 28 = .ok (.aload_n 0, 1) := by decide +kernel
theorem drf_Md_pass_29 : decode rfb_Md_pass 29 = .ok (.getfield 46, 3) := by decide +kernel
theorem drf_Md_pass_32 : decode rfb_Md_pass 32 = .ok (.iload_n 1, 1) := by decide +kernel
theorem drf_Md_pass_33 : decode rfb_Md_pass 33 = .ok (.iload_n 2, 1) := by decide +kernel
theorem drf_Md_pass_34 : decode rfb_Md_pass 34 = .ok (.ifCond .eq 7, 3) := by decide +kernel
theorem drf_Md_pass_37 : decode rfb_Md_pass 37 = .ok (.iconst 1, 1) := by decide +kernel
theorem drf_Md_pass_38 : decode rfb_Md_pass 38 = .ok (.goto 4, 3) := by decide +kernel
theorem drf_Md_pass_41 : decode rfb_Md_pass 41 = .ok (.iconst 4, 1) := by decide +kernel
theorem drf_Md_pass_42 : decode rfb_Md_pass 42 = .ok (.iastore, 1) := by decide +kernel
theorem drf_Md_pass_43 : decode rfb_Md_pass 43 = .ok (.iload_n 2, 1) := by decide +kernel
theorem drf_Md_pass_44 : decode rfb_Md_pass 44 = .ok (.ifCond .ne 5, 3) := by decide +kernel
theorem drf_Md_pass_47 : decode rfb_Md_pass 47 = .ok (.iconst 0, 1) := by decide +kernel
theorem drf_Md_pass_48 : decode rfb_Md_pass 48 = .ok (.ireturn, 1) := by decide +kernel
theorem drf_Md_pass_49 : decode rfb_Md_pass 49 = .ok (.iconst 0, 1) := by decide +kernel
theorem drf_Md_pass_50 : decode rfb_Md_pass 50 = .ok (.istore_n 3, 1) := by decide +kernel
theorem drf_Md_pass_51 : decode rfb_Md_pass 51 = .ok (.iconst 0, 1) := by decide +kernel
theorem drf_Md_pass_52 : decode rfb_Md_pass 52 = .ok (.istore 4, 2) := by decide +kernel
theorem drf_Md_pass_54 : decode rfb_Md_pass 54 = .ok (.iconst 0, 1) := by decide +kernel
theorem drf_Md_pass_55 : decode rfb_Md_pass 55 = .ok (.istore 5, 2) := by decide +kernel
theorem drf_Md_pass_57 : decode rfb_Md_pass 57 = .ok (.iload 5, 2) := by decide +kernel
theorem drf_Md_pass_59 : decode rfb_Md_pass 59 = .ok (.aload_n 0, 1) := by decide +kernel
theorem drf_Md_pass_60 : decode rfb_Md_pass 60 = .ok (.getfield 71, 3) := by decide +kernel
theorem drf_Md_pass_63 : decode rfb_Md_pass 63 = .ok (.if_icmp .ge 63, 3) := by decide +kernel
theorem drf_Md_pass_66 : decode rfb_Md_pass 66 = .ok (.aload_n 0, 1) := by decide +kernel
theorem drf_Md_pass_67 : decode rfb_Md_pass 67 = .ok (.getfield 61, 3) := by decide +kernel
theorem drf_Md_pass_70 : decode rfb_Md_pass 70 = .ok (.bipush 12, 2) := by decide +kernel
theorem drf_Md_pass_72 : decode rfb_Md_pass 72 = .ok (.iload_n 1, 1) := by decide +kernel
theorem drf_Md_pass_73 : decode rfb_Md_pass 73 = .ok (.imul, 1) := by decide +kernel
theorem drf_Md_pass_74 : decode rfb_Md_pass 74 = .ok (.iload 5, 2) := by decide +kernel
theorem drf_Md_pass_76 : decode rfb_Md_pass 76 = .ok (.iadd, 1) := by decide +kernel
theorem drf_Md_pass_77 : decode rfb_Md_pass 77 = .ok (.iaload, 1) := by decide +kernel
theorem drf_Md_pass_78 : decode rfb_Md_pass 78 = .ok (.aload_n 0, 1) := by decide +kernel
theorem drf_Md_pass_79 : decode rfb_Md_pass 79 = .ok (.getfield 16, 3) := by decide +kernel
theorem drf_Md_pass_82 : decode rfb_Md_pass 82 = .ok (.iload 5, 2) := by decide +kernel
theorem drf_Md_pass_84 : decode rfb_Md_pass 84 = .ok (.iaload, 1) := by decide +kernel
theorem drf_Md_pass_85 : decode rfb_Md_pass 85 = .ok (.if_icmp .gt 6, 3) := by decide +kernel
theorem drf_Md_pass_88 : decode rfb_Md_pass 88 = .ok (.goto 32, 3) := by decide +kernel
theorem drf_Md_pass_91 : decode rfb_Md_pass 91 = .ok (.aload_n 0, 1) := by decide +kernel
theorem drf_Md_pass_92 : decode rfb_Md_pass 92 = .ok (.getfield 16, 3) := by decide +kernel
theorem drf_Md_pass_95 : decode rfb_Md_pass 95 = .ok (.iload 5, 2) := by decide +kernel
theorem drf_Md_pass_97 : decode rfb_Md_pass 97 = .ok (.aload_n 0, 1) := by decide +kernel
theorem drf_Md_pass_98 : decode rfb_Md_pass 98 = .ok (.getfield 61, 3) := by decide +kernel
theorem drf_Md_pass_101 : decode rfb_Md_pass 101 = .ok (.bipush 12, 2) := by decide +kernel
theorem drf_Md_pass_103 : decode rfb_Md_pass 103 = .ok (.iload_n 1, 1) := by decide +kernel
theorem drf_Md_pass_104 : decode rfb_Md_pass 104 = .ok (.imul, 1) := by decide +kernel
theorem drf_Md_pass_105 : decode rfb_Md_pass 105 = .ok (.iload 5, 2) := by decide +kernel
theorem drf_Md_pass_107 : decode rfb_Md_pass 107 = .ok (.iadd, 1) := by decide +kernel
theorem drf_Md_pass_108 : decode rfb_Md_pass 108 = .ok (.iaload, 1) := by decide +kernel
theorem drf_Md_pass_109 : decode rfb_Md_pass 109 = .ok (.iastore, 1) := by decide +kernel
theorem drf_Md_pass_110 : decode rfb_Md_pass 110 = .ok (.iload_n 3, 1) := by decide +kernel
theorem drf_Md_pass_111 : decode rfb_Md_pass 111 = .ok (.iconst 1, 1) := by decide +kernel
theorem drf_Md_pass_112 : decode rfb_Md_pass 112 = .ok (.iload 5, 2) := by decide +kernel
theorem drf_Md_pass_114 : decode rfb_Md_pass 114 = .ok (.ishl, 1) := by decide +kernel
theorem drf_Md_pass_115 : decode rfb_Md_pass 115 = .ok (.ior, 1) := by decide +kernel
theorem drf_Md_pass_116 : decode rfb_Md_pass 116 = .ok (.istore_n 3, 1) := by decide +kernel
theorem drf_Md_pass_117 : decode rfb_Md_pass 117 = .ok (.iinc 4 1, 3) := by decide +kernel
theorem drf_Md_pass_120 : decode rfb_Md_pass 120 = .ok (.iinc 5 1, 3) := by decide +kernel
theorem drf_Md_pass_123 : decode rfb_Md_pass 123 = .ok (.goto (-66), 3) := by decide +kernel
theorem drf_Md_pass_126 : decode rfb_Md_pass 126 = .ok (.iconst 0, 1) := by decide +kernel
theorem drf_Md_pass_127 : decode rfb_Md_pass 127 = .ok (.istore 5, 2) := by decide +kernel
theorem drf_Md_pass_129 : decode rfb_Md_pass 129 = .ok (.iload 5, 2) := by decide +kernel
theorem drf_Md_pass_131 : decode rfb_Md_pass 131 = .ok (.aload_n 0, 1) := by decide +kernel
theorem drf_Md_pass_132 : decode rfb_Md_pass 132 = .ok (.getfield 113, 3) := by decide +kernel
theorem drf_Md_pass_135 : decode rfb_Md_pass 135 = .ok (.if_icmp .ge 90, 3) := by decide +kernel
theorem drf_Md_pass_138 : decode rfb_Md_pass 138 = .ok (.iconst 0, 1) := by decide +kernel
theorem drf_Md_pass_139 : decode rfb_Md_pass 139 = .ok (.istore 6, 2) := by decide +kernel
theorem drf_Md_pass_141 : decode rfb_Md_pass 141 = .ok (.iconst 0, 1) := by decide +kernel
theorem drf_Md_pass_142 : decode rfb_Md_pass 142 = .ok (.istore 7, 2) := by decide +kernel
theorem drf_Md_pass_144 : decode rfb_Md_pass 144 = .ok (.iload 7, 2) := by decide +kernel
theorem drf_Md_pass_146 : decode rfb_Md_pass 146 = .ok (.aload_n 0, 1) := by decide +kernel
theorem drf_Md_pass_147 : decode rfb_Md_pass 147 = .ok (.getfield 71, 3) := by decide +kernel
theorem drf_Md_pass_150 : decode rfb_Md_pass 150 = .ok (.if_icmp .ge 48, 3) := by decide +kernel
theorem drf_Md_pass_153 : decode rfb_Md_pass 153 = .ok (.iload 6, 2) := by decide +kernel
theorem drf_Md_pass_155 : decode rfb_Md_pass 155 = .ok (.ifCond .ne 30, 3) := by decide +kernel
theorem drf_Md_pass_158 : decode rfb_Md_pass 158 = .ok (.iload_n 3, 1) := by decide +kernel
theorem drf_Md_pass_159 : decode rfb_Md_pass 159 = .ok (.iload 7, 2) := by decide +kernel
theorem drf_Md_pass_161 : decode rfb_Md_pass 161 = .ok (.ishr, 1) := by decide +kernel
theorem drf_Md_pass_162 : decode rfb_Md_pass 162 = .ok (.iconst 1, 1) := by decide +kernel
theorem drf_Md_pass_163 : decode rfb_Md_pass 163 = .ok (.iand, 1) := by decide +kernel
theorem drf_Md_pass_164 : decode rfb_Md_pass 164 = .ok (.iconst 1, 1) := by decide +kernel
theorem drf_Md_pass_165 : decode rfb_Md_pass 165 = .ok (.if_icmp .ne 24, 3) := by decide +kernel
theorem drf_Md_pass_168 : decode rfb_Md_pass 168 = .ok (.aload_n 0, 1) := by decide +kernel
theorem drf_Md_pass_169 : decode rfb_Md_pass 169 = .ok (.getfield 61, 3) := by decide +kernel
theorem drf_Md_pass_172 : decode rfb_Md_pass 172 = .ok (.bipush 12, 2) := by decide +kernel
theorem drf_Md_pass_174 : decode rfb_Md_pass 174 = .ok (.iload 5, 2) := by decide +kernel
theorem drf_Md_pass_176 : decode rfb_Md_pass 176 = .ok (.imul, 1) := by decide +kernel
theorem drf_Md_pass_177 : decode rfb_Md_pass 177 = .ok (.iload 7, 2) := by decide +kernel
theorem drf_Md_pass_179 : decode rfb_Md_pass 179 = .ok (.iadd, 1) := by decide +kernel
theorem drf_Md_pass_180 : decode rfb_Md_pass 180 = .ok (.iaload, 1) := by decide +kernel
theorem drf_Md_pass_181 : decode rfb_Md_pass 181 = .ok (.iconst (-1), 1) := by decide +kernel
theorem drf_Md_pass_182 : decode rfb_Md_pass 182 = .ok (.if_icmp .eq 7, 3) := by decide +kernel
theorem drf_Md_pass_185 : decode rfb_Md_pass 185 = .ok (.iconst 1, 1) := by decide +kernel
theorem drf_Md_pass_186 : decode rfb_Md_pass 186 = .ok (.goto 4, 3) := by decide +kernel
theorem drf_Md_pass_189 : decode rfb_Md_pass 189 = .ok (.iconst 0, 1) := by decide +kernel
theorem drf_Md_pass_190 : decode rfb_Md_pass 190 = .ok (.istore 6, 2) := by decide +kernel
theorem drf_Md_pass_192 : decode rfb_Md_pass 192 = .ok (.iinc 7 1, 3) := by decide +kernel
theorem drf_Md_pass_195 : decode rfb_Md_pass 195 = .ok (.goto (-51), 3) := by decide +kernel
theorem drf_Md_pass_198 : decode rfb_Md_pass 198 = .ok (.aload_n 0, 1) := by decide +kernel
theorem drf_Md_pass_199 : decode rfb_Md_pass 199 = .ok (.getfield 46, 3) := by decide +kernel
theorem drf_Md_pass_202 : decode rfb_Md_pass 202 = .ok (.iload 5, 2) := by decide +kernel
theorem drf_Md_pass_204 : decode rfb_Md_pass 204 = .ok (.iaload, 1) := by decide +kernel
theorem drf_Md_pass_205 : decode rfb_Md_pass 205 = .ok (.ifCond .ne 14, 3) := by decide +kernel
theorem drf_Md_pass_208 : decode rfb_Md_pass 208 = .ok (.iload 6, 2) := by decide +kernel
theorem drf_Md_pass_210 : decode rfb_Md_pass 210 = .ok (.ifCond .eq 9, 3) := by decide +kernel
theorem drf_Md_pass_213 : decode rfb_Md_pass 213 = .ok (.aload_n 0, 1) := by decide +kernel
theorem drf_Md_pass_214 : decode rfb_Md_pass 214 = .ok (.iload 5, 2) := by decide +kernel
theorem drf_Md_pass_216 : decode rfb_Md_pass 216 = .ok (.invokevirtual 142, 3) := by decide +kernel
theorem drf_Md_pass_219 : decode rfb_Md_pass 219 = .ok (.iinc 5 1, 3) := by decide +kernel
theorem drf_Md_pass_222 : decode rfb_Md_pass 222 = .ok (.goto (-93), 3) := by decide +kernel
theorem drf_Md_pass_225 : decode rfb_Md_pass 225 = .ok (.iload 4, 2) := by decide +kernel
theorem drf_Md_pass_227 : decode rfb_Md_pass 227 = .ok (.ireturn, 1) := by decide +kernel
theorem drf_Md_open_0 : decode rfb_Md_open 0 = .ok (.aload_n 0, 1) := by decide +kernel
theorem drf_Md_open_1 : decode rfb_Md_open 1 = .ok (.iconst 0, 1) := by decide +kernel
theorem drf_Md_open_2 : decode rfb_Md_open 2 = .ok (.putfield 68, 3) := by decide +kernel
theorem drf_Md_open_5 : decode rfb_Md_open 5 = .ok (.iload_n 1, 1) := by decide +kernel
theorem drf_Md_open_6 : decode rfb_Md_open 6 = .ok (.ifCond .lt 8, 3) := by decide +kernel
theorem drf_Md_open_9 : decode rfb_Md_open 9 = .ok (.iload_n 1, 1) := by decide +kernel
theorem drf_Md_open_10 : decode rfb_Md_open 10 = .ok (.iconst 2, 1) := by decide +kernel
theorem drf_Md_open_11 : decode rfb_Md_open 11 = .ok (.if_icmp .le 7, 3) := by decide +kernel
theorem drf_Md_open_14 : decode rfb_Md_open 14 = .ok (.iconst (-1), 1) := by decide +kernel
theorem drf_Md_open_15 : decode rfb_Md_open 15 = .ok (.goto 8, 3) := by decide +kernel
theorem drf_Md_open_18 : decode rfb_Md_open 18 = .ok (.aload_n 0, 1) := by decide +kernel
theorem drf_Md_open_19 : decode rfb_Md_open 19 = .ok (.iload_n 1, 1) := by decide +kernel
theorem drf_Md_open_20 : decode rfb_Md_open 20 = .ok (.invokevirtual 126, 3) := by decide +kernel
theorem drf_Md_open_23 : decode rfb_Md_open 23 = .ok (.ireturn, 1) := by decide +kernel
theorem drf_Md_init_0 : decode rfb_Md_init 0 = .ok (.aload_n 0, 1) := by decide +kernel
theorem drf_Md_init_1 : decode rfb_Md_init 1 = .ok (.invokespecial 1, 3) := by decide +kernel
theorem drf_Md_init_4 : decode rfb_Md_init 4 = .ok (.aload_n 0, 1) := by decide +kernel
theorem drf_Md_init_5 : decode rfb_Md_init 5 = .ok (.bipush 12, 2) := by decide +kernel
theorem drf_Md_init_7 : decode rfb_Md_init 7 = .ok (.newarray .int, 2) := by decide +kernel
theorem drf_Md_init_9 : decode rfb_Md_init 9 = .ok (.putfield 7, 3) := by decide +kernel
theorem drf_Md_init_12 : decode rfb_Md_init 12 = .ok (.aload_n 0, 1) := by decide +kernel
theorem drf_Md_init_13 : decode rfb_Md_init 13 = .ok (.bipush 12, 2) := by decide +kernel
theorem drf_Md_init_15 : decode rfb_Md_init 15 = .ok (.newarray .int, 2) := by decide +kernel
theorem drf_Md_init_17 : decode rfb_Md_init 17 = .ok (.putfield 13, 3) := by decide +kernel
theorem drf_Md_init_20 : decode rfb_Md_init 20 = .ok (.aload_n 0, 1) := by decide +kernel
theorem drf_Md_init_21 : decode rfb_Md_init 21 = .ok (.bipush 12, 2) := by decide +kernel
theorem drf_Md_init_23 : decode rfb_Md_init 23 = .ok (.newarray .int, 2) := by decide +kernel
theorem drf_Md_init_25 : decode rfb_Md_init 25 = .ok (.putfield 16, 3) := by decide +kernel
theorem drf_Md_init_28 : decode rfb_Md_init 28 = .ok (.aload_n 0, 1) := by decide +kernel
theorem drf_Md_init_29 : decode rfb_Md_init 29 = .ok (.bipush 12, 2) := by decide +kernel
theorem drf_Md_init_31 : decode rfb_Md_init 31 = .ok (.newarray .int, 2) := by decide +kernel
theorem drf_Md_init_33 : decode rfb_Md_init 33 = .ok (.putfield 19, 3) := by decide +kernel
theorem drf_Md_init_36 : decode rfb_Md_init 36 = .ok (.aload_n 0, 1) := by decide +kernel
theorem drf_Md_init_37 : decode rfb_Md_init 37 = .ok (.bipush 12, 2) := by decide +kernel
theorem drf_Md_init_39 : decode rfb_Md_init 39 = .ok (.newarray .int, 2) := by decide +kernel
theorem drf_Md_init_41 : decode rfb_Md_init 41 = .ok (.putfield 22, 3) := by decide +kernel
theorem drf_Md_init_44 : decode rfb_Md_init 44 = .ok (.aload_n 0, 1) := by decide +kernel
theorem drf_Md_init_45 : decode rfb_Md_init 45 = .ok (.bipush 12, 2) := by decide +kernel
theorem drf_Md_init_47 : decode rfb_Md_init 47 = .ok (.newarray .int, 2) := by decide +kernel
theorem drf_Md_init_49 : decode rfb_Md_init 49 = .ok (.putfield 25, 3) := by decide +kernel
theorem drf_Md_init_52 : decode rfb_Md_init 52 = .ok (.aload_n 0, 1) := by decide +kernel
theorem drf_Md_init_53 : decode rfb_Md_init 53 = .ok (.bipush 12, 2) := by decide +kernel
theorem drf_Md_init_55 : decode rfb_Md_init 55 = .ok (.newarray .int, 2) := by decide +kernel
theorem drf_Md_init_57 : decode rfb_Md_init 57 = .ok (.putfield 28, 3) := by decide +kernel
theorem drf_Md_init_60 : decode rfb_Md_init 60 = .ok (.aload_n 0, 1) := by decide +kernel
theorem drf_Md_init_61 : decode rfb_Md_init 61 = .ok (.bipush 12, 2) := by decide +kernel
theorem drf_Md_init_63 : decode rfb_Md_init 63 = .ok (.newarray .int, 2) := by decide +kernel
theorem drf_Md_init_65 : decode rfb_Md_init 65 = .ok (.putfield 31, 3) := by decide +kernel
theorem drf_Md_init_68 : decode rfb_Md_init 68 = .ok (.aload_n 0, 1) := by decide +kernel
theorem drf_Md_init_69 : decode rfb_Md_init 69 = .ok (.bipush 96, 2) := by decide +kernel
theorem drf_Md_init_71 : decode rfb_Md_init 71 = .ok (.newarray .int, 2) := by decide +kernel
theorem drf_Md_init_73 : decode rfb_Md_init 73 = .ok (.putfield 34, 3) := by decide +kernel
theorem drf_Md_init_76 : decode rfb_Md_init 76 = .ok (.aload_n 0, 1) := by decide +kernel
theorem drf_Md_init_77 : decode rfb_Md_init 77 = .ok (.bipush 96, 2) := by decide +kernel
theorem drf_Md_init_79 : decode rfb_Md_init 79 = .ok (.newarray .int, 2) := by decide +kernel
theorem drf_Md_init_81 : decode rfb_Md_init 81 = .ok (.putfield 37, 3) := by decide +kernel
theorem drf_Md_init_84 : decode rfb_Md_init 84 = .ok (.aload_n 0, 1) := by decide +kernel
theorem drf_Md_init_85 : decode rfb_Md_init 85 = .ok (.bipush 96, 2) := by decide +kernel
theorem drf_Md_init_87 : decode rfb_Md_init 87 = .ok (.newarray .int, 2) := by decide +kernel
theorem drf_Md_init_89 : decode rfb_Md_init 89 = .ok (.putfield 40, 3) := by decide +kernel
theorem drf_Md_init_92 : decode rfb_Md_init 92 = .ok (.aload_n 0, 1) := by decide +kernel
theorem drf_Md_init_93 : decode rfb_Md_init 93 = .ok (.bipush 12, 2) := by decide +kernel
theorem drf_Md_init_95 : decode rfb_Md_init 95 = .ok (.newarray .int, 2) := by decide +kernel
theorem drf_Md_init_97 : decode rfb_Md_init 97 = .ok (.putfield 43, 3) := by decide +kernel
theorem drf_Md_init_100 : decode rfb_Md_init 100 = .ok (.aload_n 0, 1) := by decide +kernel
theorem drf_Md_init_101 : decode rfb_Md_init 101 = .ok (.bipush 60, 2) := by decide +kernel
theorem drf_Md_init_103 : decode rfb_Md_init 103 = .ok (.newarray .int, 2) := by decide +kernel
theorem drf_Md_init_105 : decode rfb_Md_init 105 = .ok (.putfield 46, 3) := by decide +kernel
theorem drf_Md_init_108 : decode rfb_Md_init 108 = .ok (.aload_n 0, 1) := by decide +kernel
theorem drf_Md_init_109 : decode rfb_Md_init 109 = .ok (.bipush 60, 2) := by decide +kernel
theorem drf_Md_init_111 : decode rfb_Md_init 111 = .ok (.newarray .int, 2) := by decide +kernel
theorem drf_Md_init_113 : decode rfb_Md_init 113 = .ok (.putfield 49, 3) := by decide +kernel
theorem drf_Md_init_116 : decode rfb_Md_init 116 = .ok (.aload_n 0, 1) := by decide +kernel
theorem drf_Md_init_117 : decode rfb_Md_init 117 = .ok (.bipush 60, 2) := by decide +kernel
theorem drf_Md_init_119 : decode rfb_Md_init 119 = .ok (.newarray .int, 2) := by decide +kernel
