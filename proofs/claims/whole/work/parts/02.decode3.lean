theorem dur_Pr_init_25 : decode urb_Pr_init 25 = .ok (.aload_n 0, 1) := by decide +kernel
theorem dur_Pr_init_26 : decode urb_Pr_init 26 = .ok (.bipush 60, 2) := by decide +kernel
theorem dur_Pr_init_28 : decode urb_Pr_init 28 = .ok (.newarray .int, 2) := by decide +kernel
theorem dur_Pr_init_30 : decode urb_Pr_init 30 = .ok (.putfield 22, 3) := by decide +kernel
theorem dur_Pr_init_33 : decode urb_Pr_init 33 = .ok (.aload_n 0, 1) := by decide +kernel
theorem dur_Pr_init_34 : decode urb_Pr_init 34 = .ok (.bipush 60, 2) := by decide +kernel
theorem dur_Pr_init_36 : decode urb_Pr_init 36 = .ok (.newarray .int, 2) := by decide +kernel
theorem dur_Pr_init_38 : decode urb_Pr_init 38 = .ok (.putfield 25, 3) := by decide +kernel
theorem dur_Pr_init_41 : decode urb_Pr_init 41 = .ok (.aload_n 0, 1) := by decide +kernel
theorem dur_Pr_init_42 : decode urb_Pr_init 42 = .ok (.bipush 60, 2) := by decide +kernel
theorem dur_Pr_init_44 : decode urb_Pr_init 44 = .ok (.newarray .boolean, 2) := by decide +kernel
theorem dur_Pr_init_46 : decode urb_Pr_init 46 = .ok (.putfield 28, 3) := by decide +kernel
theorem dur_Pr_init_49 : decode urb_Pr_init 49 = .ok (.aload_n 0, 1) := by decide +kernel
theorem dur_Pr_init_50 : decode urb_Pr_init 50 = .ok (.bipush 60, 2) := by decide +kernel
theorem dur_Pr_init_52 : decode urb_Pr_init 52 = .ok (.bipush 12, 2) := by decide +kernel
theorem dur_Pr_init_54 : decode urb_Pr_init 54 = .ok (.multianewarray 32 2, 4) := by decide +kernel
theorem dur_Pr_init_58 : decode urb_Pr_init 58 = .ok (.putfield 34, 3) := by decide +kernel
theorem dur_Pr_init_61 : decode urb_Pr_init 61 = .ok (.return_, 1) := by decide +kernel
theorem dur_Rb_init_0 : decode urb_Rb_init 0 = .ok (.aload_n 0, 1) := by decide +kernel
theorem dur_Rb_init_1 : decode urb_Rb_init 1 = .ok (.invokespecial 1, 3) := by decide +kernel
theorem dur_Rb_init_4 : decode urb_Rb_init 4 = .ok (.aload_n 0, 1) := by decide +kernel
theorem dur_Rb_init_5 : decode urb_Rb_init 5 = .ok (.iconst 0, 1) := by decide +kernel
theorem dur_Rb_init_6 : decode urb_Rb_init 6 = .ok (.bipush 20, 2) := by decide +kernel
theorem dur_Rb_init_8 : decode urb_Rb_init 8 = .ok (.iload_n 1, 1) := by decide +kernel
theorem dur_Rb_init_9 : decode urb_Rb_init 9 = .ok (.invokestatic 9, 3) := by decide +kernel
theorem dur_Rb_init_12 : decode urb_Rb_init 12 = .ok (.invokestatic 15, 3) := by decide +kernel
theorem dur_Rb_init_15 : decode urb_Rb_init 15 = .ok (.putfield 18, 3) := by decide +kernel
theorem dur_Rb_init_18 : decode urb_Rb_init 18 = .ok (.aload_n 0, 1) := by decide +kernel
theorem dur_Rb_init_19 : decode urb_Rb_init 19 = .ok (.new 22, 3) := by decide +kernel
theorem dur_Rb_init_22 : decode urb_Rb_init 22 = .ok (.dup, 1) := by decide +kernel
theorem dur_Rb_init_23 : decode urb_Rb_init 23 = .ok (.invokespecial 24, 3) := by decide +kernel
theorem dur_Rb_init_26 : decode urb_Rb_init 26 = .ok (.putfield 25, 3) := by decide +kernel
theorem dur_Rb_init_29 : decode urb_Rb_init 29 = .ok (.aload_n 0, 1) := by decide +kernel
theorem dur_Rb_init_30 : decode urb_Rb_init 30 = .ok (.new 29, 3) := by decide +kernel
theorem dur_Rb_init_33 : decode urb_Rb_init 33 = .ok (.dup, 1) := by decide +kernel
theorem dur_Rb_init_34 : decode urb_Rb_init 34 = .ok (.invokespecial 31, 3) := by decide +kernel
theorem dur_Rb_init_37 : decode urb_Rb_init 37 = .ok (.putfield 32, 3) := by decide +kernel
theorem dur_Rb_init_40 : decode urb_Rb_init 40 = .ok (.aload_n 0, 1) := by decide +kernel
theorem dur_Rb_init_41 : decode urb_Rb_init 41 = .ok (.new 36, 3) := by decide +kernel
theorem dur_Rb_init_44 : decode urb_Rb_init 44 = .ok (.dup, 1) := by decide +kernel
theorem dur_Rb_init_45 : decode urb_Rb_init 45 = .ok (.invokespecial 38, 3) := by decide +kernel
theorem dur_Rb_init_48 : decode urb_Rb_init 48 = .ok (.putfield 39, 3) := by decide +kernel
theorem dur_Rb_init_51 : decode urb_Rb_init 51 = .ok (.aload_n 0, 1) := by decide +kernel
theorem dur_Rb_init_52 : decode urb_Rb_init 52 = .ok (.iconst 0, 1) := by decide +kernel
theorem dur_Rb_init_53 : decode urb_Rb_init 53 = .ok (.putfield 43, 3) := by decide +kernel
theorem dur_Rb_init_56 : decode urb_Rb_init 56 = .ok (.aload_n 0, 1) := by decide +kernel
theorem dur_Rb_init_57 : decode urb_Rb_init 57 = .ok (.iconst 0, 1) := by decide +kernel
theorem dur_Rb_init_58 : decode urb_Rb_init 58 = .ok (.putfield 46, 3) := by decide +kernel
theorem dur_Rb_init_61 : decode urb_Rb_init 61 = .ok (.return_, 1) := by decide +kernel
theorem drf_Md_isName_0 : decode rfb_Md_isName 0 = .ok (.iload_n 1, 1) := by decide +kernel
theorem drf_Md_isName_1 : decode rfb_Md_isName 1 = .ok (.ifCond .lt 15, 3) := by decide +kernel
theorem drf_Md_isName_4 : decode rfb_Md_isName 4 = .ok (.iload_n 1, 1) := by decide +kernel
theorem drf_Md_isName_5 : decode rfb_Md_isName 5 = .ok (.aload_n 0, 1) := by decide +kernel
theorem drf_Md_isName_6 : decode rfb_Md_isName 6 = .ok (.getfield 71, 3) := by decide +kernel
theorem drf_Md_isName_9 : decode rfb_Md_isName 9 = .ok (.if_icmp .ge 7, 3) := by decide +kernel
theorem drf_Md_isName_12 : decode rfb_Md_isName 12 = .ok (.iconst 1, 1) := by decide +kernel
theorem drf_Md_isName_13 : decode rfb_Md_isName 13 = .ok (.goto 4, 3) := by decide +kernel
theorem drf_Md_isName_16 : decode rfb_Md_isName 16 = .ok (.iconst 0, 1) := by decide +kernel
theorem drf_Md_isName_17 : decode rfb_Md_isName 17 = .ok (.ireturn, 1) := by decide +kernel
theorem drf_Md_name_0 : decode rfb_Md_name 0 = .ok (.aload_n 0, 1) := by decide +kernel
theorem drf_Md_name_1 : decode rfb_Md_name 1 = .ok (.iconst 0, 1) := by decide +kernel
theorem drf_Md_name_2 : decode rfb_Md_name 2 = .ok (.putfield 68, 3) := by decide +kernel
theorem drf_Md_name_5 : decode rfb_Md_name 5 = .ok (.aload_n 0, 1) := by decide +kernel
theorem drf_Md_name_6 : decode rfb_Md_name 6 = .ok (.getfield 71, 3) := by decide +kernel
theorem drf_Md_name_9 : decode rfb_Md_name 9 = .ok (.bipush 12, 2) := by decide +kernel
theorem drf_Md_name_11 : decode rfb_Md_name 11 = .ok (.if_icmp .eq 12, 3) := by decide +kernel
theorem drf_Md_name_14 : decode rfb_Md_name 14 = .ok (.iload_n 1, 1) := by decide +kernel
theorem drf_Md_name_15 : decode rfb_Md_name 15 = .ok (.ifCond .lt 8, 3) := by decide +kernel
theorem drf_Md_name_18 : decode rfb_Md_name 18 = .ok (.iload_n 1, 1) := by decide +kernel
theorem drf_Md_name_19 : decode rfb_Md_name 19 = .ok (.iconst 2, 1) := by decide +kernel
theorem drf_Md_name_20 : decode rfb_Md_name 20 = .ok (.if_icmp .le 5, 3) := by decide +kernel
theorem drf_Md_name_23 : decode rfb_Md_name 23 = .ok (.iconst (-1), 1) := by decide +kernel
theorem drf_Md_name_24 : decode rfb_Md_name 24 = .ok (.ireturn, 1) := by decide +kernel
theorem drf_Md_name_25 : decode rfb_Md_name 25 = .ok (.aload_n 0, 1) := by decide +kernel
theorem drf_Md_name_26 : decode rfb_Md_name 26 = .ok (.getfield 7, 3) := by decide +kernel
theorem drf_Md_name_29 : decode rfb_Md_name 29 = .ok (.aload_n 0, 1) := by decide +kernel
theorem drf_Md_name_30 : decode rfb_Md_name 30 = .ok (.getfield 71, 3) := by decide +kernel
theorem drf_Md_name_33 : decode rfb_Md_name 33 = .ok (.iload_n 1, 1) := by decide +kernel
theorem drf_Md_name_34 : decode rfb_Md_name 34 = .ok (.iastore, 1) := by decide +kernel
theorem drf_Md_name_35 : decode rfb_Md_name 35 = .ok (.aload_n 0, 1) := by decide +kernel
theorem drf_Md_name_36 : decode rfb_Md_name 36 = .ok (.getfield 19, 3) := by decide +kernel
theorem drf_Md_name_39 : decode rfb_Md_name 39 = .ok (.aload_n 0, 1) := by decide +kernel
theorem drf_Md_name_40 : decode rfb_Md_name 40 = .ok (.getfield 71, 3) := by decide +kernel
theorem drf_Md_name_43 : decode rfb_Md_name 43 = .ok (.iconst 2, 1) := by decide +kernel
theorem drf_Md_name_44 : decode rfb_Md_name 44 = .ok (.iastore, 1) := by decide +kernel
theorem drf_Md_name_45 : decode rfb_Md_name 45 = .ok (.aload_n 0, 1) := by decide +kernel
theorem drf_Md_name_46 : decode rfb_Md_name 46 = .ok (.getfield 22, 3) := by decide +kernel
theorem drf_Md_name_49 : decode rfb_Md_name 49 = .ok (.aload_n 0, 1) := by decide +kernel
theorem drf_Md_name_50 : decode rfb_Md_name 50 = .ok (.getfield 71, 3) := by decide +kernel
theorem drf_Md_name_53 : decode rfb_Md_name 53 = .ok (.iconst 1, 1) := by decide +kernel
theorem drf_Md_name_54 : decode rfb_Md_name 54 = .ok (.iastore, 1) := by decide +kernel
theorem drf_Md_name_55 : decode rfb_Md_name 55 = .ok (.aload_n 0, 1) := by decide +kernel
theorem drf_Md_name_56 : decode rfb_Md_name 56 = .ok (.getfield 25, 3) := by decide +kernel
theorem drf_Md_name_59 : decode rfb_Md_name 59 = .ok (.aload_n 0, 1) := by decide +kernel
theorem drf_Md_name_60 : decode rfb_Md_name 60 = .ok (.getfield 71, 3) := by decide +kernel
theorem drf_Md_name_63 : decode rfb_Md_name 63 = .ok (.iconst (-1), 1) := by decide +kernel
theorem drf_Md_name_64 : decode rfb_Md_name 64 = .ok (.iastore, 1) := by decide +kernel
theorem drf_Md_name_65 : decode rfb_Md_name 65 = .ok (.aload_n 0, 1) := by decide +kernel
theorem drf_Md_name_66 : decode rfb_Md_name 66 = .ok (.getfield 28, 3) := by decide +kernel
theorem drf_Md_name_69 : decode rfb_Md_name 69 = .ok (.aload_n 0, 1) := by decide +kernel
theorem drf_Md_name_70 : decode rfb_Md_name 70 = .ok (.getfield 71, 3) := by decide +kernel
theorem drf_Md_name_73 : decode rfb_Md_name 73 = .ok (.iconst (-1), 1) := by decide +kernel
theorem drf_Md_name_74 : decode rfb_Md_name 74 = .ok (.iastore, 1) := by decide +kernel
theorem drf_Md_name_75 : decode rfb_Md_name 75 = .ok (.aload_n 0, 1) := by decide +kernel
theorem drf_Md_name_76 : decode rfb_Md_name 76 = .ok (.getfield 31, 3) := by decide +kernel
theorem drf_Md_name_79 : decode rfb_Md_name 79 = .ok (.aload_n 0, 1) := by decide +kernel
theorem drf_Md_name_80 : decode rfb_Md_name 80 = .ok (.getfield 71, 3) := by decide +kernel
theorem drf_Md_name_83 : decode rfb_Md_name 83 = .ok (.iconst (-1), 1) := by decide +kernel
theorem drf_Md_name_84 : decode rfb_Md_name 84 = .ok (.iastore, 1) := by decide +kernel
theorem drf_Md_name_85 : decode rfb_Md_name 85 = .ok (.aload_n 0, 1) := by decide +kernel
theorem drf_Md_name_86 : decode rfb_Md_name 86 = .ok (.getfield 37, 3) := by decide +kernel
theorem drf_Md_name_89 : decode rfb_Md_name 89 = .ok (.bipush 8, 2) := by decide +kernel
theorem drf_Md_name_91 : decode rfb_Md_name 91 = .ok (.aload_n 0, 1) := by decide +kernel
theorem drf_Md_name_92 : decode rfb_Md_name 92 = .ok (.getfield 71, 3) := by decide +kernel
theorem drf_Md_name_95 : decode rfb_Md_name 95 = .ok (.imul, 1) := by decide +kernel
theorem drf_Md_name_96 : decode rfb_Md_name 96 = .ok (.iconst (-1), 1) := by decide +kernel
theorem drf_Md_name_97 : decode rfb_Md_name 97 = .ok (.iastore, 1) := by decide +kernel
theorem drf_Md_name_98 : decode rfb_Md_name 98 = .ok (.aload_n 0, 1) := by decide +kernel
theorem drf_Md_name_99 : decode rfb_Md_name 99 = .ok (.dup, 1) := by decide +kernel
theorem drf_Md_name_100 : decode rfb_Md_name 100 = .ok (.getfield 71, 3) := by decide +kernel
theorem drf_Md_name_103 : decode rfb_Md_name 103 = .ok (.iconst 1, 1) := by decide +kernel
theorem drf_Md_name_104 : decode rfb_Md_name 104 = .ok (.iadd, 1) := by decide +kernel
theorem drf_Md_name_105 : decode rfb_Md_name 105 = .ok (.putfield 71, 3) := by decide +kernel
theorem drf_Md_name_108 : decode rfb_Md_name 108 = .ok (.aload_n 0, 1) := by decide +kernel
theorem drf_Md_name_109 : decode rfb_Md_name 109 = .ok (.getfield 71, 3) := by decide +kernel
theorem drf_Md_name_112 : decode rfb_Md_name 112 = .ok (.iconst 1, 1) := by decide +kernel
theorem drf_Md_name_113 : decode rfb_Md_name 113 = .ok (.isub, 1) := by decide +kernel
theorem drf_Md_name_114 : decode rfb_Md_name 114 = .ok (.ireturn, 1) := by decide +kernel
theorem drf_Md_newer_0 : decode rfb_Md_newer 0 = .ok (.aload_n 0, 1) := by decide +kernel
theorem drf_Md_newer_1 : decode rfb_Md_newer 1 = .ok (.iconst 0, 1) := by decide +kernel
theorem drf_Md_newer_2 : decode rfb_Md_newer 2 = .ok (.putfield 68, 3) := by decide +kernel
theorem drf_Md_newer_5 : decode rfb_Md_newer 5 = .ok (.aload_n 0, 1) := by decide +kernel
theorem drf_Md_newer_6 : decode rfb_Md_newer 6 = .ok (.iload_n 1, 1) := by decide +kernel
theorem drf_Md_newer_7 : decode rfb_Md_newer 7 = .ok (.invokevirtual 74, 3) := by decide +kernel
theorem drf_Md_newer_10 : decode rfb_Md_newer 10 = .ok (.ifCond .eq 23, 3) := by decide +kernel
theorem drf_Md_newer_13 : decode rfb_Md_newer 13 = .ok (.iload_n 2, 1) := by decide +kernel
theorem drf_Md_newer_14 : decode rfb_Md_newer 14 = .ok (.ifCond .lt 19, 3) := by decide +kernel
theorem drf_Md_newer_17 : decode rfb_Md_newer 17 = .ok (.iload_n 2, 1) := by decide +kernel
theorem drf_Md_newer_18 : decode rfb_Md_newer 18 = .ok (.iconst 2, 1) := by decide +kernel
theorem drf_Md_newer_19 : decode rfb_Md_newer 19 = .ok (.if_icmp .gt 14, 3) := by decide +kernel
theorem drf_Md_newer_22 : decode rfb_Md_newer 22 = .ok (.aload_n 0, 1) := by decide +kernel
theorem drf_Md_newer_23 : decode rfb_Md_newer 23 = .ok (.getfield 13, 3) := by decide +kernel
theorem drf_Md_newer_26 : decode rfb_Md_newer 26 = .ok (.iload_n 1, 1) := by decide +kernel
theorem drf_Md_newer_27 : decode rfb_Md_newer 27 = .ok (.iaload, 1) := by decide +kernel
theorem drf_Md_newer_28 : decode rfb_Md_newer 28 = .ok (.bipush 7, 2) := by decide +kernel
theorem drf_Md_newer_30 : decode rfb_Md_newer 30 = .ok (.if_icmp .ne 5, 3) := by decide +kernel
theorem drf_Md_newer_33 : decode rfb_Md_newer 33 = .ok (.iconst (-1), 1) := by decide +kernel
theorem drf_Md_newer_34 : decode rfb_Md_newer 34 = .ok (.ireturn, 1) := by decide +kernel
theorem drf_Md_newer_35 : decode rfb_Md_newer 35 = .ok (.aload_n 0, 1) := by decide +kernel
theorem drf_Md_newer_36 : decode rfb_Md_newer 36 = .ok (.getfield 13, 3) := by decide +kernel
theorem drf_Md_newer_39 : decode rfb_Md_newer 39 = .ok (.iload_n 1, 1) := by decide +kernel
theorem drf_Md_newer_40 : decode rfb_Md_newer 40 = .ok (.dup2, 1) := by decide +kernel
theorem drf_Md_newer_41 : decode rfb_Md_newer 41 = .ok (.iaload, 1) := by decide +kernel
theorem drf_Md_newer_42 : decode rfb_Md_newer 42 = .ok (.iconst 1, 1) := by decide +kernel
theorem drf_Md_newer_43 : decode rfb_Md_newer 43 = .ok (.iadd, 1) := by decide +kernel
theorem drf_Md_newer_44 : decode rfb_Md_newer 44 = .ok (.iastore, 1) := by decide +kernel
theorem drf_Md_newer_45 : decode rfb_Md_newer 45 = .ok (.aload_n 0, 1) := by decide +kernel
theorem drf_Md_newer_46 : decode rfb_Md_newer 46 = .ok (.getfield 34, 3) := by decide +kernel
theorem drf_Md_newer_49 : decode rfb_Md_newer 49 = .ok (.bipush 8, 2) := by decide +kernel
theorem drf_Md_newer_51 : decode rfb_Md_newer 51 = .ok (.iload_n 1, 1) := by decide +kernel
theorem drf_Md_newer_52 : decode rfb_Md_newer 52 = .ok (.imul, 1) := by decide +kernel
theorem drf_Md_newer_53 : decode rfb_Md_newer 53 = .ok (.aload_n 0, 1) := by decide +kernel
theorem drf_Md_newer_54 : decode rfb_Md_newer 54 = .ok (.getfield 13, 3) := by decide +kernel
theorem drf_Md_newer_57 : decode rfb_Md_newer 57 = .ok (.iload_n 1, 1) := by decide +kernel
theorem drf_Md_newer_58 : decode rfb_Md_newer 58 = .ok (.iaload, 1) := by decide +kernel
theorem drf_Md_newer_59 : decode rfb_Md_newer 59 = .ok (.iadd, 1) := by decide +kernel
theorem drf_Md_newer_60 : decode rfb_Md_newer 60 = .ok (.iload_n 2, 1) := by decide +kernel
theorem drf_Md_newer_61 : decode rfb_Md_newer 61 = .ok (.iastore, 1) := by decide +kernel
theorem drf_Md_newer_62 : decode rfb_Md_newer 62 = .ok (.aload_n 0, 1) := by decide +kernel
theorem drf_Md_newer_63 : decode rfb_Md_newer 63 = .ok (.getfield 37, 3) := by decide +kernel
theorem drf_Md_newer_66 : decode rfb_Md_newer 66 = .ok (.bipush 8, 2) := by decide +kernel
theorem drf_Md_newer_68 : decode rfb_Md_newer 68 = .ok (.iload_n 1, 1) := by decide +kernel
theorem drf_Md_newer_69 : decode rfb_Md_newer 69 = .ok (.imul, 1) := by decide +kernel
theorem drf_Md_newer_70 : decode rfb_Md_newer 70 = .ok (.aload_n 0, 1) := by decide +kernel
theorem drf_Md_newer_71 : decode rfb_Md_newer 71 = .ok (.getfield 13, 3) := by decide +kernel
theorem drf_Md_newer_74 : decode rfb_Md_newer 74 = .ok (.iload_n 1, 1) := by decide +kernel
theorem drf_Md_newer_75 : decode rfb_Md_newer 75 = .ok (.iaload, 1) := by decide +kernel
theorem drf_Md_newer_76 : decode rfb_Md_newer 76 = .ok (.iadd, 1) := by decide +kernel
theorem drf_Md_newer_77 : decode rfb_Md_newer 77 = .ok (.iconst (-1), 1) := by decide +kernel
theorem drf_Md_newer_78 : decode rfb_Md_newer 78 = .ok (.iastore, 1) := by decide +kernel
theorem drf_Md_newer_79 : decode rfb_Md_newer 79 = .ok (.aload_n 0, 1) := by decide +kernel
theorem drf_Md_newer_80 : decode rfb_Md_newer 80 = .ok (.getfield 13, 3) := by decide +kernel
theorem drf_Md_newer_83 : decode rfb_Md_newer 83 = .ok (.iload_n 1, 1) := by decide +kernel
theorem drf_Md_newer_84 : decode rfb_Md_newer 84 = .ok (.iaload, 1) := by decide +kernel
theorem drf_Md_newer_85 : decode rfb_Md_newer 85 = .ok (.ireturn, 1) := by decide +kernel
theorem drf_Md_needs_0 : decode rfb_Md_needs 0 = .ok (.aload_n 0, 1) := by decide +kernel
theorem drf_Md_needs_1 : decode rfb_Md_needs 1 = .ok (.iconst 0, 1) := by decide +kernel
theorem drf_Md_needs_2 : decode rfb_Md_needs 2 = .ok (.putfield 68, 3) := by decide +kernel
theorem drf_Md_needs_5 : decode rfb_Md_needs 5 = .ok (.aload_n 0, 1) := by decide +kernel
theorem drf_Md_needs_6 : decode rfb_Md_needs 6 = .ok (.iload_n 1, 1) := by decide +kernel
theorem drf_Md_needs_7 : decode rfb_Md_needs 7 = .ok (.invokevirtual 74, 3) := by decide +kernel
theorem drf_Md_needs_10 : decode rfb_Md_needs 10 = .ok (.ifCond .eq 42, 3) := by decide +kernel
theorem drf_Md_needs_13 : decode rfb_Md_needs 13 = .ok (.iload_n 2, 1) := by decide +kernel
theorem drf_Md_needs_14 : decode rfb_Md_needs 14 = .ok (.ifCond .lt 38, 3) := by decide +kernel
theorem drf_Md_needs_17 : decode rfb_Md_needs 17 = .ok (.iload_n 2, 1) := by decide +kernel
theorem drf_Md_needs_18 : decode rfb_Md_needs 18 = .ok (.aload_n 0, 1) := by decide +kernel
theorem drf_Md_needs_19 : decode rfb_Md_needs 19 = .ok (.getfield 13, 3) := by decide +kernel
theorem drf_Md_needs_22 : decode rfb_Md_needs 22 = .ok (.iload_n 1, 1) := by decide +kernel
theorem drf_Md_needs_23 : decode rfb_Md_needs 23 = .ok (.iaload, 1) := by decide +kernel
theorem drf_Md_needs_24 : decode rfb_Md_needs 24 = .ok (.if_icmp .gt 28, 3) := by decide +kernel
theorem drf_Md_needs_27 : decode rfb_Md_needs 27 = .ok (.aload_n 0, 1) := by decide +kernel
theorem drf_Md_needs_28 : decode rfb_Md_needs 28 = .ok (.iload_n 3, 1) := by decide +kernel
theorem drf_Md_needs_29 : decode rfb_Md_needs 29 = .ok (.invokevirtual 74, 3) := by decide +kernel
theorem drf_Md_needs_32 : decode rfb_Md_needs 32 = .ok (.ifCond .eq 20, 3) := by decide +kernel
theorem drf_Md_needs_35 : decode rfb_Md_needs 35 = .ok (.iload_n 3, 1) := by decide +kernel
theorem drf_Md_needs_36 : decode rfb_Md_needs 36 = .ok (.iload_n 1, 1) := by decide +kernel
theorem drf_Md_needs_37 : decode rfb_Md_needs 37 = .ok (.if_icmp .eq 15, 3) := by decide +kernel
theorem drf_Md_needs_40 : decode rfb_Md_needs 40 = .ok (.iload 4, 2) := by decide +kernel
theorem drf_Md_needs_42 : decode rfb_Md_needs 42 = .ok (.ifCond .lt 10, 3) := by decide +kernel
theorem drf_Md_needs_45 : decode rfb_Md_needs 45 = .ok (.iload 4, 2) := by decide +kernel
theorem drf_Md_needs_47 : decode rfb_Md_needs 47 = .ok (.bipush 7, 2) := by decide +kernel
theorem drf_Md_needs_49 : decode rfb_Md_needs 49 = .ok (.if_icmp .le 5, 3) := by decide +kernel
theorem drf_Md_needs_52 : decode rfb_Md_needs 52 = .ok (.iconst 0, 1) := by decide +kernel
theorem drf_Md_needs_53 : decode rfb_Md_needs 53 = .ok (.ireturn, 1) := by decide +kernel
theorem drf_Md_needs_54 : decode rfb_Md_needs 54 = .ok (.aload_n 0, 1) := by decide +kernel
theorem drf_Md_needs_55 : decode rfb_Md_needs 55 = .ok (.getfield 37, 3) := by decide +kernel
theorem drf_Md_needs_58 : decode rfb_Md_needs 58 = .ok (.bipush 8, 2) := by decide +kernel
theorem drf_Md_needs_60 : decode rfb_Md_needs 60 = .ok (.iload_n 1, 1) := by decide +kernel
theorem drf_Md_needs_61 : decode rfb_Md_needs 61 = .ok (.imul, 1) := by decide +kernel
theorem drf_Md_needs_62 : decode rfb_Md_needs 62 = .ok (.iload_n 2, 1) := by decide +kernel
theorem drf_Md_needs_63 : decode rfb_Md_needs 63 = .ok (.iadd, 1) := by decide +kernel
theorem drf_Md_needs_64 : decode rfb_Md_needs 64 = .ok (.iload_n 3, 1) := by decide +kernel
theorem drf_Md_needs_65 : decode rfb_Md_needs 65 = .ok (.iastore, 1) := by decide +kernel
theorem drf_Md_needs_66 : decode rfb_Md_needs 66 = .ok (.aload_n 0, 1) := by decide +kernel
theorem drf_Md_needs_67 : decode rfb_Md_needs 67 = .ok (.getfield 40, 3) := by decide +kernel
theorem drf_Md_needs_70 : decode rfb_Md_needs 70 = .ok (.bipush 8, 2) := by decide +kernel
theorem drf_Md_needs_72 : decode rfb_Md_needs 72 = .ok (.iload_n 1, 1) := by decide +kernel
theorem drf_Md_needs_73 : decode rfb_Md_needs 73 = .ok (.imul, 1) := by decide +kernel
theorem drf_Md_needs_74 : decode rfb_Md_needs 74 = .ok (.iload_n 2, 1) := by decide +kernel
theorem drf_Md_needs_75 : decode rfb_Md_needs 75 = .ok (.iadd, 1) := by decide +kernel
theorem drf_Md_needs_76 : decode rfb_Md_needs 76 = .ok (.iload 4, 2) := by decide +kernel
theorem drf_Md_needs_78 : decode rfb_Md_needs 78 = .ok (.iastore, 1) := by decide +kernel
theorem drf_Md_needs_79 : decode rfb_Md_needs 79 = .ok (.iconst 1, 1) := by decide +kernel
theorem drf_Md_needs_80 : decode rfb_Md_needs 80 = .ok (.ireturn, 1) := by decide +kernel
theorem drf_Md_rule_0 : decode rfb_Md_rule 0 = .ok (.aload_n 0, 1) := by decide +kernel
theorem drf_Md_rule_1 : decode rfb_Md_rule 1 = .ok (.iconst 0, 1) := by decide +kernel
theorem drf_Md_rule_2 : decode rfb_Md_rule 2 = .ok (.putfield 68, 3) := by decide +kernel
theorem drf_Md_rule_5 : decode rfb_Md_rule 5 = .ok (.aload_n 0, 1) := by decide +kernel
theorem drf_Md_rule_6 : decode rfb_Md_rule 6 = .ok (.iload_n 1, 1) := by decide +kernel
theorem drf_Md_rule_7 : decode rfb_Md_rule 7 = .ok (.invokevirtual 74, 3) := by decide +kernel
theorem drf_Md_rule_10 : decode rfb_Md_rule 10 = .ok (.ifCond .eq 37, 3) := by decide +kernel
theorem drf_Md_rule_13 : decode rfb_Md_rule 13 = .ok (.iload_n 2, 1) := by decide +kernel
theorem drf_Md_rule_14 : decode rfb_Md_rule 14 = .ok (.iconst (-1), 1) := by decide +kernel
theorem drf_Md_rule_15 : decode rfb_Md_rule 15 = .ok (.if_icmp .lt 32, 3) := by decide +kernel
theorem drf_Md_rule_18 : decode rfb_Md_rule 18 = .ok (.iload_n 2, 1) := by decide +kernel
theorem drf_Md_rule_19 : decode rfb_Md_rule 19 = .ok (.iconst 2, 1) := by decide +kernel
theorem drf_Md_rule_20 : decode rfb_Md_rule 20 = .ok (.if_icmp .gt 27, 3) := by decide +kernel
theorem drf_Md_rule_23 : decode rfb_Md_rule 23 = .ok (.iload_n 3, 1) := by decide +kernel
theorem drf_Md_rule_24 : decode rfb_Md_rule 24 = .ok (.iconst 1, 1) := by decide +kernel
theorem drf_Md_rule_25 : decode rfb_Md_rule 25 = .ok (.if_icmp .lt 22, 3) := by decide +kernel
theorem drf_Md_rule_28 : decode rfb_Md_rule 28 = .ok (.iload_n 3, 1) := by decide +kernel
theorem drf_Md_rule_29 : decode rfb_Md_rule 29 = .ok (.sipush 1000, 3) := by decide +kernel
theorem drf_Md_rule_32 : decode rfb_Md_rule 32 = .ok (.if_icmp .gt 15, 3) := by decide +kernel
theorem drf_Md_rule_35 : decode rfb_Md_rule 35 = .ok (.iload 4, 2) := by decide +kernel
theorem drf_Md_rule_37 : decode rfb_Md_rule 37 = .ok (.iconst (-1), 1) := by decide +kernel
theorem drf_Md_rule_38 : decode rfb_Md_rule 38 = .ok (.if_icmp .lt 9, 3) := by decide +kernel
theorem drf_Md_rule_41 : decode rfb_Md_rule 41 = .ok (.iload 4, 2) := by decide +kernel
theorem drf_Md_rule_43 : decode rfb_Md_rule 43 = .ok (.iconst 3, 1) := by decide +kernel
theorem drf_Md_rule_44 : decode rfb_Md_rule 44 = .ok (.if_icmp .le 5, 3) := by decide +kernel
theorem drf_Md_rule_47 : decode rfb_Md_rule 47 = .ok (.iconst 0, 1) := by decide +kernel
theorem drf_Md_rule_48 : decode rfb_Md_rule 48 = .ok (.ireturn, 1) := by decide +kernel
theorem drf_Md_rule_49 : decode rfb_Md_rule 49 = .ok (.aload_n 0, 1) := by decide +kernel
theorem drf_Md_rule_50 : decode rfb_Md_rule 50 = .ok (.getfield 19, 3) := by decide +kernel
theorem drf_Md_rule_53 : decode rfb_Md_rule 53 = .ok (.iload_n 1, 1) := by decide +kernel
theorem drf_Md_rule_54 : decode rfb_Md_rule 54 = .ok (.iload_n 2, 1) := by decide +kernel
theorem drf_Md_rule_55 : decode rfb_Md_rule 55 = .ok (.iastore, 1) := by decide +kernel
theorem drf_Md_rule_56 : decode rfb_Md_rule 56 = .ok (.aload_n 0, 1) := by decide +kernel
theorem drf_Md_rule_57 : decode rfb_Md_rule 57 = .ok (.getfield 22, 3) := by decide +kernel
theorem drf_Md_rule_60 : decode rfb_Md_rule 60 = .ok (.iload_n 1, 1) := by decide +kernel
theorem drf_Md_rule_61 : decode rfb_Md_rule 61 = .ok (.iload_n 3, 1) := by decide +kernel
theorem drf_Md_rule_62 : decode rfb_Md_rule 62 = .ok (.iastore, 1) := by decide +kernel
theorem drf_Md_rule_63 : decode rfb_Md_rule 63 = .ok (.aload_n 0, 1) := by decide +kernel
theorem drf_Md_rule_64 : decode rfb_Md_rule 64 = .ok (.getfield 25, 3) := by decide +kernel
theorem drf_Md_rule_67 : decode rfb_Md_rule 67 = .ok (.iload_n 1, 1) := by decide +kernel
theorem drf_Md_rule_68 : decode rfb_Md_rule 68 = .ok (.iload 4, 2) := by decide +kernel
theorem drf_Md_rule_70 : decode rfb_Md_rule 70 = .ok (.iastore, 1) := by decide +kernel
theorem drf_Md_rule_71 : decode rfb_Md_rule 71 = .ok (.iconst 1, 1) := by decide +kernel
theorem drf_Md_rule_72 : decode rfb_Md_rule 72 = .ok (.ireturn, 1) := by decide +kernel
theorem drf_Md_advise_0 : decode rfb_Md_advise 0 = .ok (.aload_n 0, 1) := by decide +kernel
theorem drf_Md_advise_1 : decode rfb_Md_advise 1 = .ok (.iconst 0, 1) := by decide +kernel
theorem drf_Md_advise_2 : decode rfb_Md_advise 2 = .ok (.putfield 68, 3) := by decide +kernel
theorem drf_Md_advise_5 : decode rfb_Md_advise 5 = .ok (.aload_n 0, 1) := by decide +kernel
theorem drf_Md_advise_6 : decode rfb_Md_advise 6 = .ok (.iload_n 1, 1) := by decide +kernel
theorem drf_Md_advise_7 : decode rfb_Md_advise 7 = .ok (.invokevirtual 74, 3) := by decide +kernel
theorem drf_Md_advise_10 : decode rfb_Md_advise 10 = .ok (.ifCond .eq 18, 3) := by decide +kernel
theorem drf_Md_advise_13 : decode rfb_Md_advise 13 = .ok (.iload_n 2, 1) := by decide +kernel
theorem drf_Md_advise_14 : decode rfb_Md_advise 14 = .ok (.iconst (-1), 1) := by decide +kernel
theorem drf_Md_advise_15 : decode rfb_Md_advise 15 = .ok (.if_icmp .lt 13, 3) := by decide +kernel
theorem drf_Md_advise_18 : decode rfb_Md_advise 18 = .ok (.iload_n 2, 1) := by decide +kernel
theorem drf_Md_advise_19 : decode rfb_Md_advise 19 = .ok (.aload_n 0, 1) := by decide +kernel
theorem drf_Md_advise_20 : decode rfb_Md_advise 20 = .ok (.getfield 13, 3) := by decide +kernel
theorem drf_Md_advise_23 : decode rfb_Md_advise 23 = .ok (.iload_n 1, 1) := by decide +kernel
theorem drf_Md_advise_24 : decode rfb_Md_advise 24 = .ok (.iaload, 1) := by decide +kernel
theorem drf_Md_advise_25 : decode rfb_Md_advise 25 = .ok (.if_icmp .le 5, 3) := by decide +kernel
theorem drf_Md_advise_28 : decode rfb_Md_advise 28 = .ok (.iconst 0, 1) := by decide +kernel
theorem drf_Md_advise_29 : decode rfb_Md_advise 29 = .ok (.ireturn, 1) := by decide +kernel
theorem drf_Md_advise_30 : decode rfb_Md_advise 30 = .ok (.aload_n 0, 1) := by decide +kernel
theorem drf_Md_advise_31 : decode rfb_Md_advise 31 = .ok (.getfield 28, 3) := by decide +kernel
theorem drf_Md_advise_34 : decode rfb_Md_advise 34 = .ok (.iload_n 1, 1) := by decide +kernel
theorem drf_Md_advise_35 : decode rfb_Md_advise 35 = .ok (.iload_n 2, 1) := by decide +kernel
theorem drf_Md_advise_36 : decode rfb_Md_advise 36 = .ok (.iastore, 1) := by decide +kernel
theorem drf_Md_advise_37 : decode rfb_Md_advise 37 = .ok (.iconst 1, 1) := by decide +kernel
theorem drf_Md_advise_38 : decode rfb_Md_advise 38 = .ok (.ireturn, 1) := by decide +kernel
theorem drf_Md_has_0 : decode rfb_Md_has 0 = .ok (.aload_n 0, 1) := by decide +kernel
theorem drf_Md_has_1 : decode rfb_Md_has 1 = .ok (.iconst 0, 1) := by decide +kernel
theorem drf_Md_has_2 : decode rfb_Md_has 2 = .ok (.putfield 68, 3) := by decide +kernel
theorem drf_Md_has_5 : decode rfb_Md_has 5 = .ok (.aload_n 0, 1) := by decide +kernel
theorem drf_Md_has_6 : decode rfb_Md_has 6 = .ok (.iload_n 1, 1) := by decide +kernel
theorem drf_Md_has_7 : decode rfb_Md_has 7 = .ok (.invokevirtual 74, 3) := by decide +kernel
theorem drf_Md_has_10 : decode rfb_Md_has 10 = .ok (.ifCond .eq 12, 3) := by decide +kernel
theorem drf_Md_has_13 : decode rfb_Md_has 13 = .ok (.aload_n 0, 1) := by decide +kernel
theorem drf_Md_has_14 : decode rfb_Md_has 14 = .ok (.getfield 16, 3) := by decide +kernel
theorem drf_Md_has_17 : decode rfb_Md_has 17 = .ok (.iload_n 1, 1) := by decide +kernel
theorem drf_Md_has_18 : decode rfb_Md_has 18 = .ok (.iaload, 1) := by decide +kernel
theorem drf_Md_has_19 : decode rfb_Md_has 19 = .ok (.goto 4, 3) := by decide +kernel
theorem drf_Md_has_22 : decode rfb_Md_has 22 = .ok (.iconst (-1), 1) := by decide +kernel
theorem drf_Md_has_23 : decode rfb_Md_has 23 = .ok (.ireturn, 1) := by decide +kernel
theorem drf_Md_isHit_0 : decode rfb_Md_isHit 0 = .ok (.aload_n 0, 1) := by decide +kernel
theorem drf_Md_isHit_1 : decode rfb_Md_isHit 1 = .ok (.getfield 28, 3) := by decide +kernel
theorem drf_Md_isHit_4 : decode rfb_Md_isHit 4 = .ok (.iload_n 1, 1) := by decide +kernel
theorem drf_Md_isHit_5 : decode rfb_Md_isHit 5 = .ok (.iaload, 1) := by decide +kernel
theorem drf_Md_isHit_6 : decode rfb_Md_isHit 6 = .ok (.iconst (-1), 1) := by decide +kernel
theorem drf_Md_isHit_7 : decode rfb_Md_isHit 7 = .ok (.if_icmp .eq 22, 3) := by decide +kernel
theorem drf_Md_isHit_10 : decode rfb_Md_isHit 10 = .ok (.aload_n 0, 1) := by decide +kernel
theorem drf_Md_isHit_11 : decode rfb_Md_isHit 11 = .ok (.getfield 16, 3) := by decide +kernel
theorem drf_Md_isHit_14 : decode rfb_Md_isHit 14 = .ok (.iload_n 1, 1) := by decide +kernel
theorem drf_Md_isHit_15 : decode rfb_Md_isHit 15 = .ok (.iaload, 1) := by decide +kernel
theorem drf_Md_isHit_16 : decode rfb_Md_isHit 16 = .ok (.aload_n 0, 1) := by decide +kernel
theorem drf_Md_isHit_17 : decode rfb_Md_isHit 17 = .ok (.getfield 28, 3) := by decide +kernel
theorem drf_Md_isHit_20 : decode rfb_Md_isHit 20 = .ok (.iload_n 1, 1) := by decide +kernel
theorem drf_Md_isHit_21 : decode rfb_Md_isHit 21 = .ok (.iaload, 1) := by decide +kernel
theorem drf_Md_isHit_22 : decode rfb_Md_isHit 22 = .ok (.if_icmp .gt 7, 3) := by decide +kernel
theorem drf_Md_isHit_25 : decode rfb_Md_isHit 25 = .ok (.iconst 1, 1) := by decide +kernel
theorem drf_Md_isHit_26 : decode rfb_Md_isHit 26 = .ok (.goto 4, 3) := by decide +kernel
theorem drf_Md_isHit_29 : decode rfb_Md_isHit 29 = .ok (.iconst 0, 1) := by decide +kernel
theorem drf_Md_isHit_30 : decode rfb_Md_isHit 30 = .ok (.ireturn, 1) := by decide +kernel
theorem drf_Md_isAllowed_0 : decode rfb_Md_isAllowed 0 = .ok (.iload_n 2, 1) := by decide +kernel
theorem drf_Md_isAllowed_1 : decode rfb_Md_isAllowed 1 = .ok (.aload_n 0, 1) := by decide +kernel
theorem drf_Md_isAllowed_2 : decode rfb_Md_isAllowed 2 = .ok (.getfield 13, 3) := by decide +kernel
theorem drf_Md_isAllowed_5 : decode rfb_Md_isAllowed 5 = .ok (.iload_n 1, 1) := by decide +kernel
theorem drf_Md_isAllowed_6 : decode rfb_Md_isAllowed 6 = .ok (.iaload, 1) := by decide +kernel
theorem drf_Md_isAllowed_7 : decode rfb_Md_isAllowed 7 = .ok (.if_icmp .gt 7, 3) := by decide +kernel
theorem drf_Md_isAllowed_10 : decode rfb_Md_isAllowed 10 = .ok (.iconst 1, 1) := by decide +kernel
theorem drf_Md_isAllowed_11 : decode rfb_Md_isAllowed 11 = .ok (.goto 4, 3) := by decide +kernel
theorem drf_Md_isAllowed_14 : decode rfb_Md_isAllowed 14 = .ok (.iconst 0, 1) := by decide +kernel
theorem drf_Md_isAllowed_15 : decode rfb_Md_isAllowed 15 = .ok (.istore_n 3, 1) := by decide +kernel
theorem drf_Md_isAllowed_16 : decode rfb_Md_isAllowed 16 = .ok (.aload_n 0, 1) := by decide +kernel
theorem drf_Md_isAllowed_17 : decode rfb_Md_isAllowed 17 = .ok (.getfield 16, 3) := by decide +kernel
theorem drf_Md_isAllowed_20 : decode rfb_Md_isAllowed 20 = .ok (.iload_n 1, 1) := by decide +kernel
theorem drf_Md_isAllowed_21 : decode rfb_Md_isAllowed 21 = .ok (.iaload, 1) := by decide +kernel
theorem drf_Md_isAllowed_22 : decode rfb_Md_isAllowed 22 = .ok (.iconst 1, 1) := by decide +kernel
theorem drf_Md_isAllowed_23 : decode rfb_Md_isAllowed 23 = .ok (.iadd, 1) := by decide +kernel
theorem drf_Md_isAllowed_24 : decode rfb_Md_isAllowed 24 = .ok (.istore 4, 2) := by decide +kernel
theorem drf_Md_isAllowed_26 : decode rfb_Md_isAllowed 26 = .ok (.iload 4, 2) := by decide +kernel
theorem drf_Md_isAllowed_28 : decode rfb_Md_isAllowed 28 = .ok (.iload_n 2, 1) := by decide +kernel
theorem drf_Md_isAllowed_29 : decode rfb_Md_isAllowed 29 = .ok (.if_icmp .gt 40, 3) := by decide +kernel
theorem drf_Md_isAllowed_32 : decode rfb_Md_isAllowed 32 = .ok (.iload_n 3, 1) := by decide +kernel
theorem drf_Md_isAllowed_33 : decode rfb_Md_isAllowed 33 = .ok (.ifCond .eq 36, 3) := by decide +kernel
theorem drf_Md_isAllowed_36 : decode rfb_Md_isAllowed 36 = .ok (.aload_n 0, 1) := by decide +kernel
theorem drf_Md_isAllowed_37 : decode rfb_Md_isAllowed 37 = .ok (.getfield 34, 3) := by decide +kernel
theorem drf_Md_isAllowed_40 : decode rfb_Md_isAllowed 40 = .ok (.bipush 8, 2) := by decide +kernel
theorem drf_Md_isAllowed_42 : decode rfb_Md_isAllowed 42 = .ok (.iload_n 1, 1) := by decide +kernel
theorem drf_Md_isAllowed_43 : decode rfb_Md_isAllowed 43 = .ok (.imul, 1) := by decide +kernel
theorem drf_Md_isAllowed_44 : decode rfb_Md_isAllowed 44 = .ok (.iload 4, 2) := by decide +kernel
theorem drf_Md_isAllowed_46 : decode rfb_Md_isAllowed 46 = .ok (.iadd, 1) := by decide +kernel
theorem drf_Md_isAllowed_47 : decode rfb_Md_isAllowed 47 = .ok (.iaload, 1) := by decide +kernel
theorem drf_Md_isAllowed_48 : decode rfb_Md_isAllowed 48 = .ok (.aload_n 0, 1) := by decide +kernel
theorem drf_Md_isAllowed_49 : decode rfb_Md_isAllowed 49 = .ok (.getfield 19, 3) := by decide +kernel
theorem drf_Md_isAllowed_52 : decode rfb_Md_isAllowed 52 = .ok (.iload_n 1, 1) := by decide +kernel
theorem drf_Md_isAllowed_53 : decode rfb_Md_isAllowed 53 = .ok (.iaload, 1) := by decide +kernel
theorem drf_Md_isAllowed_54 : decode rfb_Md_isAllowed 54 = .ok (.if_icmp .gt 7, 3) := by decide +kernel
theorem drf_Md_isAllowed_57 : decode rfb_Md_isAllowed 57 = .ok (.iconst 1, 1) := by decide +kernel
theorem drf_Md_isAllowed_58 : decode rfb_Md_isAllowed 58 = .ok (.goto 4, 3) := by decide +kernel
theorem drf_Md_isAllowed_61 : decode rfb_Md_isAllowed 61 = .ok (.iconst 0, 1) := by decide +kernel
theorem drf_Md_isAllowed_62 : decode rfb_Md_isAllowed 62 = .ok (.istore_n 3, 1) := by decide +kernel
theorem drf_Md_isAllowed_63 : decode rfb_Md_isAllowed 63 = .ok (.iinc 4 1, 3) := by decide +kernel
theorem drf_Md_isAllowed_66 : decode rfb_Md_isAllowed 66 = .ok (.goto (-40), 3) := by decide +kernel
theorem drf_Md_isAllowed_69 : decode rfb_Md_isAllowed 69 = .ok (.iload_n 3, 1) := by decide +kernel
theorem drf_Md_isAllowed_70 : decode rfb_Md_isAllowed 70 = .ok (.ireturn, 1) := by decide +kernel
theorem drf_Md_goalOf_0 : decode rfb_Md_goalOf 0 = .ok (.aload_n 0, 1) := by decide +kernel
theorem drf_Md_goalOf_1 : decode rfb_Md_goalOf 1 = .ok (.getfield 16, 3) := by decide +kernel
theorem drf_Md_goalOf_4 : decode rfb_Md_goalOf 4 = .ok (.iload_n 1, 1) := by decide +kernel
theorem drf_Md_goalOf_5 : decode rfb_Md_goalOf 5 = .ok (.iaload, 1) := by decide +kernel
theorem drf_Md_goalOf_6 : decode rfb_Md_goalOf 6 = .ok (.istore_n 2, 1) := by decide +kernel
theorem drf_Md_goalOf_7 : decode rfb_Md_goalOf 7 = .ok (.aload_n 0, 1) := by decide +kernel
theorem drf_Md_goalOf_8 : decode rfb_Md_goalOf 8 = .ok (.iload_n 1, 1) := by decide +kernel
theorem drf_Md_goalOf_9 : decode rfb_Md_goalOf 9 = .ok (.iload_n 2, 1) := by decide +kernel
theorem drf_Md_goalOf_10 : decode rfb_Md_goalOf 10 = .ok (.iconst 1, 1) := by decide +kernel
theorem drf_Md_goalOf_11 : decode rfb_Md_goalOf 11 = .ok (.iadd, 1) := by decide +kernel
theorem drf_Md_goalOf_12 : decode rfb_Md_goalOf 12 = .ok (.invokevirtual 78, 3) := by decide +kernel
theorem drf_Md_goalOf_15 : decode rfb_Md_goalOf 15 = .ok (.ifCond .eq 9, 3) := by decide +kernel
theorem drf_Md_goalOf_18 : decode rfb_Md_goalOf 18 = .ok (.iinc 2 1, 3) := by decide +kernel
theorem drf_Md_goalOf_21 : decode rfb_Md_goalOf 21 = .ok (.goto (-14), 3) := by decide +kernel
theorem drf_Md_goalOf_24 : decode rfb_Md_goalOf 24 = .ok (.aload_n 0, 1) := by decide +kernel
theorem drf_Md_goalOf_25 : decode rfb_Md_goalOf 25 = .ok (.iload_n 1, 1) := by decide +kernel
theorem drf_Md_goalOf_26 : decode rfb_Md_goalOf 26 = .ok (.invokevirtual 82, 3) := by decide +kernel
theorem drf_Md_goalOf_29 : decode rfb_Md_goalOf 29 = .ok (.ifCond .eq 39, 3) := by decide +kernel
theorem drf_Md_goalOf_32 : decode rfb_Md_goalOf 32 = .ok (.iload_n 2, 1) := by decide +kernel
theorem drf_Md_goalOf_33 : decode rfb_Md_goalOf 33 = .ok (.aload_n 0, 1) := by decide +kernel
theorem drf_Md_goalOf_34 : decode rfb_Md_goalOf 34 = .ok (.getfield 28, 3) := by decide +kernel
theorem drf_Md_goalOf_37 : decode rfb_Md_goalOf 37 = .ok (.iload_n 1, 1) := by decide +kernel
theorem drf_Md_goalOf_38 : decode rfb_Md_goalOf 38 = .ok (.iaload, 1) := by decide +kernel
theorem drf_Md_goalOf_39 : decode rfb_Md_goalOf 39 = .ok (.if_icmp .gt 29, 3) := by decide +kernel
theorem drf_Md_goalOf_42 : decode rfb_Md_goalOf 42 = .ok (.aload_n 0, 1) := by decide +kernel
theorem drf_Md_goalOf_43 : decode rfb_Md_goalOf 43 = .ok (.getfield 28, 3) := by decide +kernel
theorem drf_Md_goalOf_46 : decode rfb_Md_goalOf 46 = .ok (.iload_n 1, 1) := by decide +kernel
theorem drf_Md_goalOf_47 : decode rfb_Md_goalOf 47 = .ok (.iaload, 1) := by decide +kernel
theorem drf_Md_goalOf_48 : decode rfb_Md_goalOf 48 = .ok (.aload_n 0, 1) := by decide +kernel
theorem drf_Md_goalOf_49 : decode rfb_Md_goalOf 49 = .ok (.getfield 13, 3) := by decide +kernel
theorem drf_Md_goalOf_52 : decode rfb_Md_goalOf 52 = .ok (.iload_n 1, 1) := by decide +kernel
theorem drf_Md_goalOf_53 : decode rfb_Md_goalOf 53 = .ok (.iaload, 1) := by decide +kernel
theorem drf_Md_goalOf_54 : decode rfb_Md_goalOf 54 = .ok (.if_icmp .ge 14, 3) := by decide +kernel
theorem drf_Md_goalOf_57 : decode rfb_Md_goalOf 57 = .ok (.aload_n 0, 1) := by decide +kernel
theorem drf_Md_goalOf_58 : decode rfb_Md_goalOf 58 = .ok (.getfield 28, 3) := by decide +kernel
theorem drf_Md_goalOf_61 : decode rfb_Md_goalOf 61 = .ok (.iload_n 1, 1) := by decide +kernel
theorem drf_Md_goalOf_62 : decode rfb_Md_goalOf 62 = .ok (.iaload, 1) := by decide +kernel
theorem drf_Md_goalOf_63 : decode rfb_Md_goalOf 63 = .ok (.iconst 1, 1) := by decide +kernel
theorem drf_Md_goalOf_64 : decode rfb_Md_goalOf 64 = .ok (.iadd, 1) := by decide +kernel
theorem drf_Md_goalOf_65 : decode rfb_Md_goalOf 65 = .ok (.goto 4, 3) := by decide +kernel
theorem drf_Md_goalOf_68 : decode rfb_Md_goalOf 68 = .ok (.iload_n 2, 1) := by decide +kernel
theorem drf_Md_goalOf_69 : decode rfb_Md_goalOf 69 = .ok (.ireturn, 1) := by decide +kernel
theorem drf_Md_goal_0 : decode rfb_Md_goal 0 = .ok (.aload_n 0, 1) := by decide +kernel
theorem drf_Md_goal_1 : decode rfb_Md_goal 1 = .ok (.iconst 0, 1) := by decide +kernel
theorem drf_Md_goal_2 : decode rfb_Md_goal 2 = .ok (.putfield 68, 3) := by decide +kernel
theorem drf_Md_goal_5 : decode rfb_Md_goal 5 = .ok (.aload_n 0, 1) := by decide +kernel
theorem drf_Md_goal_6 : decode rfb_Md_goal 6 = .ok (.iload_n 1, 1) := by decide +kernel
theorem drf_Md_goal_7 : decode rfb_Md_goal 7 = .ok (.invokevirtual 74, 3) := by decide +kernel
theorem drf_Md_goal_10 : decode rfb_Md_goal 10 = .ok (.ifCond .eq 11, 3) := by decide +kernel
theorem drf_Md_goal_13 : decode rfb_Md_goal 13 = .ok (.aload_n 0, 1) := by decide +kernel
theorem drf_Md_goal_14 : decode rfb_Md_goal 14 = .ok (.iload_n 1, 1) := by decide +kernel
theorem drf_Md_goal_15 : decode rfb_Md_goal 15 = .ok (.invokevirtual 85, 3) := by decide +kernel
theorem drf_Md_goal_18 : decode rfb_Md_goal 18 = .ok (.goto 4, 3) := by decide +kernel
theorem drf_Md_goal_21 : decode rfb_Md_goal 21 = .ok (.iconst (-1), 1) := by decide +kernel
theorem drf_Md_goal_22 : decode rfb_Md_goal 22 = .ok (.ireturn, 1) := by decide +kernel
theorem drf_Md_areOne_0 : decode rfb_Md_areOne 0 = .ok (.iload_n 1, 1) := by decide +kernel
theorem drf_Md_areOne_1 : decode rfb_Md_areOne 1 = .ok (.iload_n 2, 1) := by decide +kernel
theorem drf_Md_areOne_2 : decode rfb_Md_areOne 2 = .ok (.if_icmp .eq 43, 3) := by decide +kernel
theorem drf_Md_areOne_5 : decode rfb_Md_areOne 5 = .ok (.aload_n 0, 1) := by decide +kernel
theorem drf_Md_areOne_6 : decode rfb_Md_areOne 6 = .ok (.getfield 25, 3) := by decide +kernel
theorem drf_Md_areOne_9 : decode rfb_Md_areOne 9 = .ok (.iload_n 1, 1) := by decide +kernel
theorem drf_Md_areOne_10 : decode rfb_Md_areOne 10 = .ok (.iaload, 1) := by decide +kernel
theorem drf_Md_areOne_11 : decode rfb_Md_areOne 11 = .ok (.iconst (-1), 1) := by decide +kernel
theorem drf_Md_areOne_12 : decode rfb_Md_areOne 12 = .ok (.if_icmp .eq 37, 3) := by decide +kernel
theorem drf_Md_areOne_15 : decode rfb_Md_areOne 15 = .ok (.aload_n 0, 1) := by decide +kernel
theorem drf_Md_areOne_16 : decode rfb_Md_areOne 16 = .ok (.getfield 25, 3) := by decide +kernel
theorem drf_Md_areOne_19 : decode rfb_Md_areOne 19 = .ok (.iload_n 1, 1) := by decide +kernel
theorem drf_Md_areOne_20 : decode rfb_Md_areOne 20 = .ok (.iaload, 1) := by decide +kernel
theorem drf_Md_areOne_21 : decode rfb_Md_areOne 21 = .ok (.aload_n 0, 1) := by decide +kernel
theorem drf_Md_areOne_22 : decode rfb_Md_areOne 22 = .ok (.getfield 25, 3) := by decide +kernel
theorem drf_Md_areOne_25 : decode rfb_Md_areOne 25 = .ok (.iload_n 2, 1) := by decide +kernel
theorem drf_Md_areOne_26 : decode rfb_Md_areOne 26 = .ok (.iaload, 1) := by decide +kernel
theorem drf_Md_areOne_27 : decode rfb_Md_areOne 27 = .ok (.if_icmp .ne 22, 3) := by decide +kernel
theorem drf_Md_areOne_30 : decode rfb_Md_areOne 30 = .ok (.aload_n 0, 1) := by decide +kernel
theorem drf_Md_areOne_31 : decode rfb_Md_areOne 31 = .ok (.getfield 7, 3) := by decide +kernel
theorem drf_Md_areOne_34 : decode rfb_Md_areOne 34 = .ok (.iload_n 1, 1) := by decide +kernel
theorem drf_Md_areOne_35 : decode rfb_Md_areOne 35 = .ok (.iaload, 1) := by decide +kernel
theorem drf_Md_areOne_36 : decode rfb_Md_areOne 36 = .ok (.aload_n 0, 1) := by decide +kernel
theorem drf_Md_areOne_37 : decode rfb_Md_areOne 37 = .ok (.getfield 7, 3) := by decide +kernel
theorem drf_Md_areOne_40 : decode rfb_Md_areOne 40 = .ok (.iload_n 2, 1) := by decide +kernel
theorem drf_Md_areOne_41 : decode rfb_Md_areOne 41 = .ok (.iaload, 1) := by decide +kernel
theorem drf_Md_areOne_42 : decode rfb_Md_areOne 42 = .ok (.if_icmp .ne 7, 3) := by decide +kernel
theorem drf_Md_areOne_45 : decode rfb_Md_areOne 45 = .ok (.iconst 1, 1) := by decide +kernel
theorem drf_Md_areOne_46 : decode rfb_Md_areOne 46 = .ok (.goto 4, 3) := by decide +kernel
theorem drf_Md_areOne_49 : decode rfb_Md_areOne 49 = .ok (.iconst 0, 1) := by decide +kernel
theorem drf_Md_areOne_50 : decode rfb_Md_areOne 50 = .ok (.ireturn, 1) := by decide +kernel
theorem drf_Md_chiefOf_0 : decode rfb_Md_chiefOf 0 = .ok (.iconst 0, 1) := by decide +kernel
theorem drf_Md_chiefOf_1 : decode rfb_Md_chiefOf 1 = .ok (.istore_n 2, 1) := by decide +kernel
theorem drf_Md_chiefOf_2 : decode rfb_Md_chiefOf 2 = .ok (.aload_n 0, 1) := by decide +kernel
theorem drf_Md_chiefOf_3 : decode rfb_Md_chiefOf 3 = .ok (.iload_n 2, 1) := by decide +kernel
theorem drf_Md_chiefOf_4 : decode rfb_Md_chiefOf 4 = .ok (.iload_n 1, 1) := by decide +kernel
theorem drf_Md_chiefOf_5 : decode rfb_Md_chiefOf 5 = .ok (.invokevirtual 89, 3) := by decide +kernel
theorem drf_Md_chiefOf_8 : decode rfb_Md_chiefOf 8 = .ok (.ifCond .ne 9, 3) := by decide +kernel
theorem drf_Md_chiefOf_11 : decode rfb_Md_chiefOf 11 = .ok (.iinc 2 1, 3) := by decide +kernel
theorem drf_Md_chiefOf_14 : decode rfb_Md_chiefOf 14 = .ok (.goto (-12), 3) := by decide +kernel
theorem drf_Md_chiefOf_17 : decode rfb_Md_chiefOf 17 = .ok (.iload_n 2, 1) := by decide +kernel
theorem drf_Md_chiefOf_18 : decode rfb_Md_chiefOf 18 = .ok (.ireturn, 1) := by decide +kernel
theorem drf_Md_chief_0 : decode rfb_Md_chief 0 = .ok (.aload_n 0, 1) := by decide +kernel
theorem drf_Md_chief_1 : decode rfb_Md_chief 1 = .ok (.iconst 0, 1) := by decide +kernel
theorem drf_Md_chief_2 : decode rfb_Md_chief 2 = .ok (.putfield 68, 3) := by decide +kernel
theorem drf_Md_chief_5 : decode rfb_Md_chief 5 = .ok (.aload_n 0, 1) := by decide +kernel
theorem drf_Md_chief_6 : decode rfb_Md_chief 6 = .ok (.iload_n 1, 1) := by decide +kernel
theorem drf_Md_chief_7 : decode rfb_Md_chief 7 = .ok (.invokevirtual 74, 3) := by decide +kernel
theorem drf_Md_chief_10 : decode rfb_Md_chief 10 = .ok (.ifCond .eq 11, 3) := by decide +kernel
theorem drf_Md_chief_13 : decode rfb_Md_chief 13 = .ok (.aload_n 0, 1) := by decide +kernel
theorem drf_Md_chief_14 : decode rfb_Md_chief 14 = .ok (.iload_n 1, 1) := by decide +kernel
theorem drf_Md_chief_15 : decode rfb_Md_chief 15 = .ok (.invokevirtual 92, 3) := by decide +kernel
theorem drf_Md_chief_18 : decode rfb_Md_chief 18 = .ok (.goto 4, 3) := by decide +kernel
theorem drf_Md_chief_21 : decode rfb_Md_chief 21 = .ok (.iconst (-1), 1) := by decide +kernel
theorem drf_Md_chief_22 : decode rfb_Md_chief 22 = .ok (.ireturn, 1) := by decide +kernel
theorem drf_Md_wanting_0 : decode rfb_Md_wanting 0 = .ok (.iconst 0, 1) := by decide +kernel
theorem drf_Md_wanting_1 : decode rfb_Md_wanting 1 = .ok (.istore_n 1, 1) := by decide +kernel
theorem drf_Md_wanting_2 : decode rfb_Md_wanting 2 = .ok (.iload_n 1, 1) := by decide +kernel
theorem drf_Md_wanting_3 : decode rfb_Md_wanting 3 = .ok (.aload_n 0, 1) := by decide +kernel
theorem drf_Md_wanting_4 : decode rfb_Md_wanting 4 = .ok (.getfield 71, 3) := by decide +kernel
theorem drf_Md_wanting_7 : decode rfb_Md_wanting 7 = .ok (.if_icmp .ge 68, 3) := by decide +kernel
theorem drf_Md_wanting_10 : decode rfb_Md_wanting 10 = .ok (.bipush 8, 2) := by decide +kernel
theorem drf_Md_wanting_12 : decode rfb_Md_wanting 12 = .ok (.iload_n 1, 1) := by decide +kernel
theorem drf_Md_wanting_13 : decode rfb_Md_wanting 13 = .ok (.imul, 1) := by decide +kernel
theorem drf_Md_wanting_14 : decode rfb_Md_wanting 14 = .ok (.aload_n 0, 1) := by decide +kernel
theorem drf_Md_wanting_15 : decode rfb_Md_wanting 15 = .ok (.getfield 43, 3) := by decide +kernel
theorem drf_Md_wanting_18 : decode rfb_Md_wanting 18 = .ok (.iload_n 1, 1) := by decide +kernel
theorem drf_Md_wanting_19 : decode rfb_Md_wanting 19 = .ok (.iaload, 1) := by decide +kernel
theorem drf_Md_wanting_20 : decode rfb_Md_wanting 20 = .ok (.iadd, 1) := by decide +kernel
theorem drf_Md_wanting_21 : decode rfb_Md_wanting 21 = .ok (.istore_n 2, 1) := by decide +kernel
theorem drf_Md_wanting_22 : decode rfb_Md_wanting 22 = .ok (.aload_n 0, 1) := by decide +kernel
theorem drf_Md_wanting_23 : decode rfb_Md_wanting 23 = .ok (.getfield 43, 3) := by decide +kernel
theorem drf_Md_wanting_26 : decode rfb_Md_wanting 26 = .ok (.iload_n 1, 1) := by decide +kernel
theorem drf_Md_wanting_27 : decode rfb_Md_wanting 27 = .ok (.iaload, 1) := by decide +kernel
theorem drf_Md_wanting_28 : decode rfb_Md_wanting 28 = .ok (.aload_n 0, 1) := by decide +kernel
theorem drf_Md_wanting_29 : decode rfb_Md_wanting 29 = .ok (.getfield 16, 3) := by decide +kernel
theorem drf_Md_wanting_32 : decode rfb_Md_wanting 32 = .ok (.iload_n 1, 1) := by decide +kernel
theorem drf_Md_wanting_33 : decode rfb_Md_wanting 33 = .ok (.iaload, 1) := by decide +kernel
theorem drf_Md_wanting_34 : decode rfb_Md_wanting 34 = .ok (.if_icmp .le 35, 3) := by decide +kernel
theorem drf_Md_wanting_37 : decode rfb_Md_wanting 37 = .ok (.aload_n 0, 1) := by decide +kernel
theorem drf_Md_wanting_38 : decode rfb_Md_wanting 38 = .ok (.getfield 37, 3) := by decide +kernel
theorem drf_Md_wanting_41 : decode rfb_Md_wanting 41 = .ok (.iload_n 2, 1) := by decide +kernel
theorem drf_Md_wanting_42 : decode rfb_Md_wanting 42 = .ok (.iaload, 1) := by decide +kernel
theorem drf_Md_wanting_43 : decode rfb_Md_wanting 43 = .ok (.iconst (-1), 1) := by decide +kernel
theorem drf_Md_wanting_44 : decode rfb_Md_wanting 44 = .ok (.if_icmp .eq 25, 3) := by decide +kernel
theorem drf_Md_wanting_47 : decode rfb_Md_wanting 47 = .ok (.aload_n 0, 1) := by decide +kernel
theorem drf_Md_wanting_48 : decode rfb_Md_wanting 48 = .ok (.getfield 40, 3) := by decide +kernel
theorem drf_Md_wanting_51 : decode rfb_Md_wanting 51 = .ok (.iload_n 2, 1) := by decide +kernel
theorem drf_Md_wanting_52 : decode rfb_Md_wanting 52 = .ok (.iaload, 1) := by decide +kernel
theorem drf_Md_wanting_53 : decode rfb_Md_wanting 53 = .ok (.aload_n 0, 1) := by decide +kernel
theorem drf_Md_wanting_54 : decode rfb_Md_wanting 54 = .ok (.getfield 43, 3) := by decide +kernel
theorem drf_Md_wanting_57 : decode rfb_Md_wanting 57 = .ok (.aload_n 0, 1) := by decide +kernel
theorem drf_Md_wanting_58 : decode rfb_Md_wanting 58 = .ok (.getfield 37, 3) := by decide +kernel
theorem drf_Md_wanting_61 : decode rfb_Md_wanting 61 = .ok (.iload_n 2, 1) := by decide +kernel
theorem drf_Md_wanting_62 : decode rfb_Md_wanting 62 = .ok (.iaload, 1) := by decide +kernel
theorem drf_Md_wanting_63 : decode rfb_Md_wanting 63 = .ok (.iaload, 1) := by decide +kernel
theorem drf_Md_wanting_64 : decode rfb_Md_wanting 64 = .ok (.if_icmp .le 5, 3) := by decide +kernel
theorem drf_Md_wanting_67 : decode rfb_Md_wanting 67 = .ok (.iload_n 1, 1) := by decide +kernel
theorem drf_Md_wanting_68 : decode rfb_Md_wanting 68 = .ok (.ireturn, 1) := by decide +kernel
theorem drf_Md_wanting_69 : decode rfb_Md_wanting 69 = .ok (.iinc 1 1, 3) := by decide +kernel
theorem drf_Md_wanting_72 : decode rfb_Md_wanting 72 = .ok (.goto (-70), 3) := by decide +kernel
theorem drf_Md_wanting_75 : decode rfb_Md_wanting 75 = .ok (.iconst (-1), 1) := by decide +kernel
theorem drf_Md_wanting_76 : decode rfb_Md_wanting 76 = .ok (.ireturn, 1) := by decide +kernel
theorem drf_Md_find_0 : decode rfb_Md_find 0 = .ok (.iconst 0, 1) := by decide +kernel
theorem drf_Md_find_1 : decode rfb_Md_find 1 = .ok (.istore_n 2, 1) := by decide +kernel
theorem drf_Md_find_2 : decode rfb_Md_find 2 = .ok (.iload_n 2, 1) := by decide +kernel
theorem drf_Md_find_3 : decode rfb_Md_find 3 = .ok (.aload_n 0, 1) := by decide +kernel
theorem drf_Md_find_4 : decode rfb_Md_find 4 = .ok (.getfield 71, 3) := by decide +kernel
theorem drf_Md_find_7 : decode rfb_Md_find 7 = .ok (.if_icmp .ge 38, 3) := by decide +kernel
theorem drf_Md_find_10 : decode rfb_Md_find 10 = .ok (.aload_n 0, 1) := by decide +kernel
theorem drf_Md_find_11 : decode rfb_Md_find 11 = .ok (.getfield 43, 3) := by decide +kernel
theorem drf_Md_find_14 : decode rfb_Md_find 14 = .ok (.iload_n 2, 1) := by decide +kernel
theorem drf_Md_find_15 : decode rfb_Md_find 15 = .ok (.aload_n 0, 1) := by decide +kernel
theorem drf_Md_find_16 : decode rfb_Md_find 16 = .ok (.iload_n 2, 1) := by decide +kernel
theorem drf_Md_find_17 : decode rfb_Md_find 17 = .ok (.iload_n 1, 1) := by decide +kernel
theorem drf_Md_find_18 : decode rfb_Md_find 18 = .ok (.invokevirtual 89, 3) := by decide +kernel
theorem drf_Md_find_21 : decode rfb_Md_find 21 = .ok (.ifCond .eq 11, 3) := by decide +kernel
theorem drf_Md_find_24 : decode rfb_Md_find 24 = .ok (.aload_n 0, 1) := by decide +kernel
theorem drf_Md_find_25 : decode rfb_Md_find 25 = .ok (.iload_n 2, 1) := by decide +kernel
theorem drf_Md_find_26 : decode rfb_Md_find 26 = .ok (.invokevirtual 85, 3) := by decide +kernel
theorem drf_Md_find_29 : decode rfb_Md_find 29 = .ok (.goto 9, 3) := by decide +kernel
theorem drf_Md_find_32 : decode rfb_Md_find 32 = .ok (.aload_n 0, 1) := by decide +kernel
theorem drf_Md_find_33 : decode rfb_Md_find 33 = .ok (.getfield 16, 3) := by decide +kernel
theorem drf_Md_find_36 : decode rfb_Md_find 36 = .ok (.iload_n 2, 1) := by decide +kernel
theorem drf_Md_find_37 : decode rfb_Md_find 37 = .ok (.iaload, 1) := by decide +kernel
theorem drf_Md_find_38 : decode rfb_Md_find 38 = .ok (.iastore, 1) := by decide +kernel
theorem drf_Md_find_39 : decode rfb_Md_find 39 = .ok (.iinc 2 1, 3) := by decide +kernel
theorem drf_Md_find_42 : decode rfb_Md_find 42 = .ok (.goto (-40), 3) := by decide +kernel
theorem drf_Md_find_45 : decode rfb_Md_find 45 = .ok (.aload_n 0, 1) := by decide +kernel
theorem drf_Md_find_46 : decode rfb_Md_find 46 = .ok (.invokevirtual 95, 3) := by decide +kernel
theorem drf_Md_find_49 : decode rfb_Md_find 49 = .ok (.istore_n 2, 1) := by decide +kernel
theorem drf_Md_find_50 : decode rfb_Md_find 50 = .ok (.iload_n 2, 1) := by decide +kernel
theorem drf_Md_find_51 : decode rfb_Md_find 51 = .ok (.iconst (-1), 1) := by decide +kernel
theorem drf_Md_find_52 : decode rfb_Md_find 52 = .ok (.if_icmp .eq 71, 3) := by decide +kernel
theorem drf_Md_find_55 : decode rfb_Md_find 55 = .ok (.bipush 8, 2) := by decide +kernel
theorem drf_Md_find_57 : decode rfb_Md_find 57 = .ok (.iload_n 2, 1) := by decide +kernel
theorem drf_Md_find_58 : decode rfb_Md_find 58 = .ok (.imul, 1) := by decide +kernel
theorem drf_Md_find_59 : decode rfb_Md_find 59 = .ok (.aload_n 0, 1) := by decide +kernel
theorem drf_Md_find_60 : decode rfb_Md_find 60 = .ok (.getfield 43, 3) := by decide +kernel
theorem drf_Md_find_63 : decode rfb_Md_find 63 = .ok (.iload_n 2, 1) := by decide +kernel
theorem drf_Md_find_64 : decode rfb_Md_find 64 = .ok (.iaload, 1) := by decide +kernel
theorem drf_Md_find_65 : decode rfb_Md_find 65 = .ok (.iadd, 1) := by decide +kernel
theorem drf_Md_find_66 : decode rfb_Md_find 66 = .ok (.istore_n 3, 1) := by decide +kernel
theorem drf_Md_find_67 : decode rfb_Md_find 67 = .ok (.aload_n 0, 1) := by decide +kernel
theorem drf_Md_find_68 : decode rfb_Md_find 68 = .ok (.aload_n 0, 1) := by decide +kernel
theorem drf_Md_find_69 : decode rfb_Md_find 69 = .ok (.getfield 37, 3) := by decide +kernel
theorem drf_Md_find_72 : decode rfb_Md_find 72 = .ok (.iload_n 3, 1) := by decide +kernel
theorem drf_Md_find_73 : decode rfb_Md_find 73 = .ok (.iaload, 1) := by decide +kernel
theorem drf_Md_find_74 : decode rfb_Md_find 74 = .ok (.aload_n 0, 1) := by decide +kernel
theorem drf_Md_find_75 : decode rfb_Md_find 75 = .ok (.getfield 40, 3) := by decide +kernel
theorem drf_Md_find_78 : decode rfb_Md_find 78 = .ok (.iload_n 3, 1) := by decide +kernel
theorem drf_Md_find_79 : decode rfb_Md_find 79 = .ok (.iaload, 1) := by decide +kernel
theorem drf_Md_find_80 : decode rfb_Md_find 80 = .ok (.invokevirtual 78, 3) := by decide +kernel
theorem drf_Md_find_83 : decode rfb_Md_find 83 = .ok (.ifCond .ne 15, 3) := by decide +kernel
theorem drf_Md_find_86 : decode rfb_Md_find 86 = .ok (.aload_n 0, 1) := by decide +kernel
theorem drf_Md_find_87 : decode rfb_Md_find 87 = .ok (.aload_n 0, 1) := by decide +kernel
theorem drf_Md_find_88 : decode rfb_Md_find 88 = .ok (.getfield 37, 3) := by decide +kernel
theorem drf_Md_find_91 : decode rfb_Md_find 91 = .ok (.iload_n 3, 1) := by decide +kernel
theorem drf_Md_find_92 : decode rfb_Md_find 92 = .ok (.iaload, 1) := by decide +kernel
theorem drf_Md_find_93 : decode rfb_Md_find 93 = .ok (.putfield 99, 3) := by decide +kernel
theorem drf_Md_find_96 : decode rfb_Md_find 96 = .ok (.iconst (-1), 1) := by decide +kernel
theorem drf_Md_find_97 : decode rfb_Md_find 97 = .ok (.ireturn, 1) := by decide +kernel
theorem drf_Md_find_98 : decode rfb_Md_find 98 = .ok (.aload_n 0, 1) := by decide +kernel
theorem drf_Md_find_99 : decode rfb_Md_find 99 = .ok (.getfield 43, 3) := by decide +kernel
theorem drf_Md_find_102 : decode rfb_Md_find 102 = .ok (.aload_n 0, 1) := by decide +kernel
theorem drf_Md_find_103 : decode rfb_Md_find 103 = .ok (.getfield 37, 3) := by decide +kernel
theorem drf_Md_find_106 : decode rfb_Md_find 106 = .ok (.iload_n 3, 1) := by decide +kernel
theorem drf_Md_find_107 : decode rfb_Md_find 107 = .ok (.iaload, 1) := by decide +kernel
theorem drf_Md_find_108 : decode rfb_Md_find 108 = .ok (.aload_n 0, 1) := by decide +kernel
theorem drf_Md_find_109 : decode rfb_Md_find 109 = .ok (.getfield 40, 3) := by decide +kernel
theorem drf_Md_find_112 : decode rfb_Md_find 112 = .ok (.iload_n 3, 1) := by decide +kernel
theorem drf_Md_find_113 : decode rfb_Md_find 113 = .ok (.iaload, 1) := by decide +kernel
theorem drf_Md_find_114 : decode rfb_Md_find 114 = .ok (.iastore, 1) := by decide +kernel
theorem drf_Md_find_115 : decode rfb_Md_find 115 = .ok (.aload_n 0, 1) := by decide +kernel
theorem drf_Md_find_116 : decode rfb_Md_find 116 = .ok (.invokevirtual 95, 3) := by decide +kernel
theorem drf_Md_find_119 : decode rfb_Md_find 119 = .ok (.istore_n 2, 1) := by decide +kernel
theorem drf_Md_find_120 : decode rfb_Md_find 120 = .ok (.goto (-70), 3) := by decide +kernel
theorem drf_Md_find_123 : decode rfb_Md_find 123 = .ok (.iconst 0, 1) := by decide +kernel
theorem drf_Md_find_124 : decode rfb_Md_find 124 = .ok (.istore_n 2, 1) := by decide +kernel
theorem drf_Md_find_125 : decode rfb_Md_find 125 = .ok (.iconst 0, 1) := by decide +kernel
theorem drf_Md_find_126 : decode rfb_Md_find 126 = .ok (.istore_n 3, 1) := by decide +kernel
theorem drf_Md_find_127 : decode rfb_Md_find 127 = .ok (.iload_n 3, 1) := by decide +kernel
theorem drf_Md_find_128 : decode rfb_Md_find 128 = .ok (.aload_n 0, 1) := by decide +kernel
theorem drf_Md_find_129 : decode rfb_Md_find 129 = .ok (.getfield 71, 3) := by decide +kernel
theorem drf_Md_find_132 : decode rfb_Md_find 132 = .ok (.if_icmp .ge 32, 3) := by decide +kernel
theorem drf_Md_find_135 : decode rfb_Md_find 135 = .ok (.iload_n 2, 1) := by decide +kernel
theorem drf_Md_find_136 : decode rfb_Md_find 136 = .ok (.aload_n 0, 1) := by decide +kernel
theorem drf_Md_find_137 : decode rfb_Md_find 137 = .ok (.getfield 43, 3) := by decide +kernel
theorem drf_Md_find_140 : decode rfb_Md_find 140 = .ok (.iload_n 3, 1) := by decide +kernel
theorem drf_Md_find_141 : decode rfb_Md_find 141 = .ok (.iaload, 1) := by decide +kernel
theorem drf_Md_find_142 : decode rfb_Md_find 142 = .ok (.aload_n 0, 1) := by decide +kernel
theorem drf_Md_find_143 : decode rfb_Md_find 143 = .ok (.getfield 16, 3) := by decide +kernel
theorem drf_Md_find_146 : decode rfb_Md_find 146 = .ok (.iload_n 3, 1) := by decide +kernel
theorem drf_Md_find_147 : decode rfb_Md_find 147 = .ok (.iaload, 1) := by decide +kernel
theorem drf_Md_find_148 : decode rfb_Md_find 148 = .ok (.if_icmp .le 7, 3) := by decide +kernel
theorem drf_Md_find_151 : decode rfb_Md_find 151 = .ok (.iconst 1, 1) := by decide +kernel
theorem drf_Md_find_152 : decode rfb_Md_find 152 = .ok (.goto 4, 3) := by decide +kernel
theorem drf_Md_find_155 : decode rfb_Md_find 155 = .ok (.iconst 0, 1) := by decide +kernel
theorem drf_Md_find_156 : decode rfb_Md_find 156 = .ok (.iadd, 1) := by decide +kernel
theorem drf_Md_find_157 : decode rfb_Md_find 157 = .ok (.istore_n 2, 1) := by decide +kernel
theorem drf_Md_find_158 : decode rfb_Md_find 158 = .ok (.iinc 3 1, 3) := by decide +kernel
theorem drf_Md_find_161 : decode rfb_Md_find 161 = .ok (.goto (-34), 3) := by decide +kernel
theorem drf_Md_find_164 : decode rfb_Md_find 164 = .ok (.iload_n 2, 1) := by decide +kernel
theorem drf_Md_find_165 : decode rfb_Md_find 165 = .ok (.ireturn, 1) := by decide +kernel
theorem drf_Md_solve_0 : decode rfb_Md_solve 0 = .ok (.aload_n 0, 1) := by decide +kernel
theorem drf_Md_solve_1 : decode rfb_Md_solve 1 = .ok (.iconst 0, 1) := by decide +kernel
theorem drf_Md_solve_2 : decode rfb_Md_solve 2 = .ok (.putfield 68, 3) := by decide +kernel
theorem drf_Md_solve_5 : decode rfb_Md_solve 5 = .ok (.aload_n 0, 1) := by decide +kernel
theorem drf_Md_solve_6 : decode rfb_Md_solve 6 = .ok (.iload_n 1, 1) := by decide +kernel
theorem drf_Md_solve_7 : decode rfb_Md_solve 7 = .ok (.invokevirtual 74, 3) := by decide +kernel
theorem drf_Md_solve_10 : decode rfb_Md_solve 10 = .ok (.ifCond .eq 12, 3) := by decide +kernel
theorem drf_Md_solve_13 : decode rfb_Md_solve 13 = .ok (.aload_n 0, 1) := by decide +kernel
theorem drf_Md_solve_14 : decode rfb_Md_solve 14 = .ok (.iload_n 1, 1) := by decide +kernel
theorem drf_Md_solve_15 : decode rfb_Md_solve 15 = .ok (.invokevirtual 92, 3) := by decide +kernel
theorem drf_Md_solve_18 : decode rfb_Md_solve 18 = .ok (.iload_n 1, 1) := by decide +kernel
theorem drf_Md_solve_19 : decode rfb_Md_solve 19 = .ok (.if_icmp .eq 5, 3) := by decide +kernel
theorem drf_Md_solve_22 : decode rfb_Md_solve 22 = .ok (.iconst (-1), 1) := by decide +kernel
theorem drf_Md_solve_23 : decode rfb_Md_solve 23 = .ok (.ireturn, 1) := by decide +kernel
theorem drf_Md_solve_24 : decode rfb_Md_solve 24 = .ok (.aload_n 0, 1) := by decide +kernel
theorem drf_Md_solve_25 : decode rfb_Md_solve 25 = .ok (.iload_n 1, 1) := by decide +kernel
theorem drf_Md_solve_26 : decode rfb_Md_solve 26 = .ok (.invokevirtual 102, 3) := by decide +kernel
theorem drf_Md_solve_29 : decode rfb_Md_solve 29 = .ok (.istore_n 2, 1) := by decide +kernel
theorem drf_Md_solve_30 : decode rfb_Md_solve 30 = .ok (.iload_n 2, 1) := by decide +kernel
theorem drf_Md_solve_31 : decode rfb_Md_solve 31 = .ok (.iconst (-1), 1) := by decide +kernel
theorem drf_Md_solve_32 : decode rfb_Md_solve 32 = .ok (.if_icmp .ne 13, 3) := by decide +kernel
theorem drf_Md_solve_35 : decode rfb_Md_solve 35 = .ok (.bipush (-2), 2) := by decide +kernel
theorem drf_Md_solve_37 : decode rfb_Md_solve 37 = .ok (.aload_n 0, 1) := by decide +kernel
theorem drf_Md_solve_38 : decode rfb_Md_solve 38 = .ok (.getfield 99, 3) := by decide +kernel
theorem drf_Md_solve_41 : decode rfb_Md_solve 41 = .ok (.isub, 1) := by decide +kernel
theorem drf_Md_solve_42 : decode rfb_Md_solve 42 = .ok (.goto 4, 3) := by decide +kernel
theorem drf_Md_solve_45 : decode rfb_Md_solve 45 = .ok (.iload_n 2, 1) := by decide +kernel
theorem drf_Md_solve_46 : decode rfb_Md_solve 46 = .ok (.ireturn, 1) := by decide +kernel
theorem drf_Md_tick_0 : decode rfb_Md_tick 0 = .ok (.aload_n 0, 1) := by decide +kernel
theorem drf_Md_tick_1 : decode rfb_Md_tick 1 = .ok (.iconst 0, 1) := by decide +kernel
theorem drf_Md_tick_2 : decode rfb_Md_tick 2 = .ok (.putfield 68, 3) := by decide +kernel
theorem drf_Md_tick_5 : decode rfb_Md_tick 5 = .ok (.iload_n 1, 1) := by decide +kernel
theorem drf_Md_tick_6 : decode rfb_Md_tick 6 = .ok (.ifCond .lt 20, 3) := by decide +kernel
theorem drf_Md_tick_9 : decode rfb_Md_tick 9 = .ok (.iload_n 1, 1) := by decide +kernel
theorem drf_Md_tick_10 : decode rfb_Md_tick 10 = .ok (.ldc 105, 2) := by decide +kernel
theorem drf_Md_tick_12 : decode rfb_Md_tick 12 = .ok (.if_icmp .gt 14, 3) := by decide +kernel
theorem drf_Md_tick_15 : decode rfb_Md_tick 15 = .ok (.aload_n 0, 1) := by decide +kernel
theorem drf_Md_tick_16 : decode rfb_Md_tick 16 = .ok (.getfield 106, 3) := by decide +kernel
theorem drf_Md_tick_19 : decode rfb_Md_tick 19 = .ok (.iload_n 1, 1) := by decide +kernel
theorem drf_Md_tick_20 : decode rfb_Md_tick 20 = .ok (.iadd, 1) := by decide +kernel
theorem drf_Md_tick_21 : decode rfb_Md_tick 21 = .ok (.ldc 109, 2) := by decide +kernel
theorem drf_Md_tick_23 : decode rfb_Md_tick 23 = .ok (.if_icmp .le 5, 3) := by decide +kernel
theorem drf_Md_tick_26 : decode rfb_Md_tick 26 = .ok (.iconst (-1), 1) := by decide +kernel
theorem drf_Md_tick_27 : decode rfb_Md_tick 27 = .ok (.ireturn, 1) := by decide +kernel
theorem drf_Md_tick_28 : decode rfb_Md_tick 28 = .ok (.aload_n 0, 1) := by decide +kernel
theorem drf_Md_tick_29 : decode rfb_Md_tick 29 = .ok (.dup, 1) := by decide +kernel
theorem drf_Md_tick_30 : decode rfb_Md_tick 30 = .ok (.getfield 106, 3) := by decide +kernel
theorem drf_Md_tick_33 : decode rfb_Md_tick 33 = .ok (.iload_n 1, 1) := by decide +kernel
theorem drf_Md_tick_34 : decode rfb_Md_tick 34 = .ok (.iadd, 1) := by decide +kernel
theorem drf_Md_tick_35 : decode rfb_Md_tick 35 = .ok (.putfield 106, 3) := by decide +kernel
theorem drf_Md_tick_38 : decode rfb_Md_tick 38 = .ok (.aload_n 0, 1) := by decide +kernel
theorem drf_Md_tick_39 : decode rfb_Md_tick 39 = .ok (.getfield 106, 3) := by decide +kernel
theorem drf_Md_tick_42 : decode rfb_Md_tick 42 = .ok (.ireturn, 1) := by decide +kernel
theorem drf_Md_raised_0 : decode rfb_Md_raised 0 = .ok (.aload_n 0, 1) := by decide +kernel
theorem drf_Md_raised_1 : decode rfb_Md_raised 1 = .ok (.getfield 43, 3) := by decide +kernel
theorem drf_Md_raised_4 : decode rfb_Md_raised 4 = .ok (.iload_n 1, 1) := by decide +kernel
theorem drf_Md_raised_5 : decode rfb_Md_raised 5 = .ok (.iaload, 1) := by decide +kernel
theorem drf_Md_raised_6 : decode rfb_Md_raised 6 = .ok (.aload_n 0, 1) := by decide +kernel
theorem drf_Md_raised_7 : decode rfb_Md_raised 7 = .ok (.getfield 16, 3) := by decide +kernel
theorem drf_Md_raised_10 : decode rfb_Md_raised 10 = .ok (.iload_n 1, 1) := by decide +kernel
theorem drf_Md_raised_11 : decode rfb_Md_raised 11 = .ok (.iaload, 1) := by decide +kernel
theorem drf_Md_raised_12 : decode rfb_Md_raised 12 = .ok (.if_icmp .le 12, 3) := by decide +kernel
