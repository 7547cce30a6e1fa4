theorem dur_Rb_isRepository_0 : decode urb_Rb_isRepository 0 = .ok (.iload_n 0, 1) := by decide +kernel
theorem dur_Rb_isRepository_1 : decode urb_Rb_isRepository 1 = .ok (.ifCond .lt 12, 3) := by decide +kernel
theorem dur_Rb_isRepository_4 : decode urb_Rb_isRepository 4 = .ok (.iload_n 0, 1) := by decide +kernel
theorem dur_Rb_isRepository_5 : decode urb_Rb_isRepository 5 = .ok (.iconst 3, 1) := by decide +kernel
theorem dur_Rb_isRepository_6 : decode urb_Rb_isRepository 6 = .ok (.if_icmp .ge 7, 3) := by decide +kernel
theorem dur_Rb_isRepository_9 : decode urb_Rb_isRepository 9 = .ok (.iconst 1, 1) := by decide +kernel
theorem dur_Rb_isRepository_10 : decode urb_Rb_isRepository 10 = .ok (.goto 4, 3) := by decide +kernel
theorem dur_Rb_isRepository_13 : decode urb_Rb_isRepository 13 = .ok (.iconst 0, 1) := by decide +kernel
theorem dur_Rb_isRepository_14 : decode urb_Rb_isRepository 14 = .ok (.ireturn, 1) := by decide +kernel
theorem dur_Nm_add_0 : decode urb_Nm_add 0 = .ok (.aload_n 0, 1) := by decide +kernel
theorem dur_Nm_add_1 : decode urb_Nm_add 1 = .ok (.getfield 9, 3) := by decide +kernel
theorem dur_Nm_add_4 : decode urb_Nm_add 4 = .ok (.bipush 12, 2) := by decide +kernel
theorem dur_Nm_add_6 : decode urb_Nm_add 6 = .ok (.if_icmp .lt 5, 3) := by decide +kernel
theorem dur_Nm_add_9 : decode urb_Nm_add 9 = .ok (.iconst (-1), 1) := by decide +kernel
theorem dur_Nm_add_10 : decode urb_Nm_add 10 = .ok (.ireturn, 1) := by decide +kernel
theorem dur_Nm_add_11 : decode urb_Nm_add 11 = .ok (.aload_n 0, 1) := by decide +kernel
theorem dur_Nm_add_12 : decode urb_Nm_add 12 = .ok (.getfield 9, 3) := by decide +kernel
theorem dur_Nm_add_15 : decode urb_Nm_add 15 = .ok (.istore_n 2, 1) := by decide +kernel
theorem dur_Nm_add_16 : decode urb_Nm_add 16 = .ok (.aload_n 0, 1) := by decide +kernel
theorem dur_Nm_add_17 : decode urb_Nm_add 17 = .ok (.dup, 1) := by decide +kernel
theorem dur_Nm_add_18 : decode urb_Nm_add 18 = .ok (.getfield 9, 3) := by decide +kernel
theorem dur_Nm_add_21 : decode urb_Nm_add 21 = .ok (.iconst 1, 1) := by decide +kernel
theorem dur_Nm_add_22 : decode urb_Nm_add 22 = .ok (.iadd, 1) := by decide +kernel
theorem dur_Nm_add_23 : decode urb_Nm_add 23 = .ok (.putfield 9, 3) := by decide +kernel
theorem dur_Nm_add_26 : decode urb_Nm_add 26 = .ok (.aload_n 0, 1) := by decide +kernel
theorem dur_Nm_add_27 : decode urb_Nm_add 27 = .ok (.getfield 15, 3) := by decide +kernel
theorem dur_Nm_add_30 : decode urb_Nm_add 30 = .ok (.iload_n 2, 1) := by decide +kernel
theorem dur_Nm_add_31 : decode urb_Nm_add 31 = .ok (.iload_n 1, 1) := by decide +kernel
theorem dur_Nm_add_32 : decode urb_Nm_add 32 = .ok (.iastore, 1) := by decide +kernel
theorem dur_Nm_add_33 : decode urb_Nm_add 33 = .ok (.aload_n 0, 1) := by decide +kernel
theorem dur_Nm_add_34 : decode urb_Nm_add 34 = .ok (.getfield 19, 3) := by decide +kernel
theorem dur_Nm_add_37 : decode urb_Nm_add 37 = .ok (.iload_n 2, 1) := by decide +kernel
theorem dur_Nm_add_38 : decode urb_Nm_add 38 = .ok (.iconst 1, 1) := by decide +kernel
theorem dur_Nm_add_39 : decode urb_Nm_add 39 = .ok (.iastore, 1) := by decide +kernel
theorem dur_Nm_add_40 : decode urb_Nm_add 40 = .ok (.aload_n 0, 1) := by decide +kernel
theorem dur_Nm_add_41 : decode urb_Nm_add 41 = .ok (.getfield 22, 3) := by decide +kernel
theorem dur_Nm_add_44 : decode urb_Nm_add 44 = .ok (.iload_n 2, 1) := by decide +kernel
theorem dur_Nm_add_45 : decode urb_Nm_add 45 = .ok (.iconst 0, 1) := by decide +kernel
theorem dur_Nm_add_46 : decode urb_Nm_add 46 = .ok (.iastore, 1) := by decide +kernel
theorem dur_Nm_add_47 : decode urb_Nm_add 47 = .ok (.aload_n 0, 1) := by decide +kernel
theorem dur_Nm_add_48 : decode urb_Nm_add 48 = .ok (.getfield 25, 3) := by decide +kernel
theorem dur_Nm_add_51 : decode urb_Nm_add 51 = .ok (.iload_n 2, 1) := by decide +kernel
theorem dur_Nm_add_52 : decode urb_Nm_add 52 = .ok (.iconst 2, 1) := by decide +kernel
theorem dur_Nm_add_53 : decode urb_Nm_add 53 = .ok (.iastore, 1) := by decide +kernel
theorem dur_Nm_add_54 : decode urb_Nm_add 54 = .ok (.aload_n 0, 1) := by decide +kernel
theorem dur_Nm_add_55 : decode urb_Nm_add 55 = .ok (.getfield 28, 3) := by decide +kernel
theorem dur_Nm_add_58 : decode urb_Nm_add 58 = .ok (.iload_n 2, 1) := by decide +kernel
theorem dur_Nm_add_59 : decode urb_Nm_add 59 = .ok (.iconst 1, 1) := by decide +kernel
theorem dur_Nm_add_60 : decode urb_Nm_add 60 = .ok (.iastore, 1) := by decide +kernel
theorem dur_Nm_add_61 : decode urb_Nm_add 61 = .ok (.aload_n 0, 1) := by decide +kernel
theorem dur_Nm_add_62 : decode urb_Nm_add 62 = .ok (.getfield 31, 3) := by decide +kernel
theorem dur_Nm_add_65 : decode urb_Nm_add 65 = .ok (.iload_n 2, 1) := by decide +kernel
theorem dur_Nm_add_66 : decode urb_Nm_add 66 = .ok (.iconst (-1), 1) := by decide +kernel
theorem dur_Nm_add_67 : decode urb_Nm_add 67 = .ok (.iastore, 1) := by decide +kernel
theorem dur_Nm_add_68 : decode urb_Nm_add 68 = .ok (.aload_n 0, 1) := by decide +kernel
theorem dur_Nm_add_69 : decode urb_Nm_add 69 = .ok (.getfield 34, 3) := by decide +kernel
theorem dur_Nm_add_72 : decode urb_Nm_add 72 = .ok (.iload_n 2, 1) := by decide +kernel
theorem dur_Nm_add_73 : decode urb_Nm_add 73 = .ok (.iconst (-1), 1) := by decide +kernel
theorem dur_Nm_add_74 : decode urb_Nm_add 74 = .ok (.iastore, 1) := by decide +kernel
theorem dur_Nm_add_75 : decode urb_Nm_add 75 = .ok (.aload_n 0, 1) := by decide +kernel
theorem dur_Nm_add_76 : decode urb_Nm_add 76 = .ok (.getfield 37, 3) := by decide +kernel
theorem dur_Nm_add_79 : decode urb_Nm_add 79 = .ok (.iload_n 2, 1) := by decide +kernel
theorem dur_Nm_add_80 : decode urb_Nm_add 80 = .ok (.iconst (-1), 1) := by decide +kernel
theorem dur_Nm_add_81 : decode urb_Nm_add 81 = .ok (.iastore, 1) := by decide +kernel
theorem dur_Nm_add_82 : decode urb_Nm_add 82 = .ok (.aload_n 0, 1) := by decide +kernel
theorem dur_Nm_add_83 : decode urb_Nm_add 83 = .ok (.getfield 45, 3) := by decide +kernel
theorem dur_Nm_add_86 : decode urb_Nm_add 86 = .ok (.iload_n 2, 1) := by decide +kernel
theorem dur_Nm_add_87 : decode urb_Nm_add 87 = .ok (.aaload, 1) := by decide +kernel
theorem dur_Nm_add_88 : decode urb_Nm_add 88 = .ok (.iconst 0, 1) := by decide +kernel
theorem dur_Nm_add_89 : decode urb_Nm_add 89 = .ok (.iconst (-1), 1) := by decide +kernel
theorem dur_Nm_add_90 : decode urb_Nm_add 90 = .ok (.iastore, 1) := by decide +kernel
theorem dur_Nm_add_91 : decode urb_Nm_add 91 = .ok (.iload_n 2, 1) := by decide +kernel
theorem dur_Nm_add_92 : decode urb_Nm_add 92 = .ok (.ireturn, 1) := by decide +kernel
theorem dur_Rb_name_0 : decode urb_Rb_name 0 = .ok (.iload_n 1, 1) := by decide +kernel
theorem dur_Rb_name_1 : decode urb_Rb_name 1 = .ok (.invokestatic 49, 3) := by decide +kernel
theorem dur_Rb_name_4 : decode urb_Rb_name 4 = .ok (.ifCond .ne 5, 3) := by decide +kernel
theorem dur_Rb_name_7 : decode urb_Rb_name 7 = .ok (.iconst (-1), 1) := by decide +kernel
theorem dur_Rb_name_8 : decode urb_Rb_name 8 = .ok (.ireturn, 1) := by decide +kernel
theorem dur_Rb_name_9 : decode urb_Rb_name 9 = .ok (.aload_n 0, 1) := by decide +kernel
theorem dur_Rb_name_10 : decode urb_Rb_name 10 = .ok (.getfield 25, 3) := by decide +kernel
theorem dur_Rb_name_13 : decode urb_Rb_name 13 = .ok (.iload_n 1, 1) := by decide +kernel
theorem dur_Rb_name_14 : decode urb_Rb_name 14 = .ok (.invokevirtual 53, 3) := by decide +kernel
theorem dur_Rb_name_17 : decode urb_Rb_name 17 = .ok (.ireturn, 1) := by decide +kernel
theorem dur_Nm_isKnown_0 : decode urb_Nm_isKnown 0 = .ok (.iload_n 1, 1) := by decide +kernel
theorem dur_Nm_isKnown_1 : decode urb_Nm_isKnown 1 = .ok (.ifCond .lt 15, 3) := by decide +kernel
theorem dur_Nm_isKnown_4 : decode urb_Nm_isKnown 4 = .ok (.iload_n 1, 1) := by decide +kernel
theorem dur_Nm_isKnown_5 : decode urb_Nm_isKnown 5 = .ok (.aload_n 0, 1) := by decide +kernel
theorem dur_Nm_isKnown_6 : decode urb_Nm_isKnown 6 = .ok (.getfield 9, 3) := by decide +kernel
theorem dur_Nm_isKnown_9 : decode urb_Nm_isKnown 9 = .ok (.if_icmp .ge 7, 3) := by decide +kernel
theorem dur_Nm_isKnown_12 : decode urb_Nm_isKnown 12 = .ok (.iconst 1, 1) := by decide +kernel
theorem dur_Nm_isKnown_13 : decode urb_Nm_isKnown 13 = .ok (.goto 4, 3) := by decide +kernel
theorem dur_Nm_isKnown_16 : decode urb_Nm_isKnown 16 = .ok (.iconst 0, 1) := by decide +kernel
theorem dur_Nm_isKnown_17 : decode urb_Nm_isKnown 17 = .ok (.ireturn, 1) := by decide +kernel
theorem dur_Nm_addVersion_0 : decode urb_Nm_addVersion 0 = .ok (.aload_n 0, 1) := by decide +kernel
theorem dur_Nm_addVersion_1 : decode urb_Nm_addVersion 1 = .ok (.getfield 19, 3) := by decide +kernel
theorem dur_Nm_addVersion_4 : decode urb_Nm_addVersion 4 = .ok (.iload_n 1, 1) := by decide +kernel
theorem dur_Nm_addVersion_5 : decode urb_Nm_addVersion 5 = .ok (.iaload, 1) := by decide +kernel
theorem dur_Nm_addVersion_6 : decode urb_Nm_addVersion 6 = .ok (.istore_n 3, 1) := by decide +kernel
theorem dur_Nm_addVersion_7 : decode urb_Nm_addVersion 7 = .ok (.iload_n 3, 1) := by decide +kernel
theorem dur_Nm_addVersion_8 : decode urb_Nm_addVersion 8 = .ok (.bipush 8, 2) := by decide +kernel
theorem dur_Nm_addVersion_10 : decode urb_Nm_addVersion 10 = .ok (.if_icmp .lt 5, 3) := by decide +kernel
theorem dur_Nm_addVersion_13 : decode urb_Nm_addVersion 13 = .ok (.iconst (-1), 1) := by decide +kernel
theorem dur_Nm_addVersion_14 : decode urb_Nm_addVersion 14 = .ok (.ireturn, 1) := by decide +kernel
theorem dur_Nm_addVersion_15 : decode urb_Nm_addVersion 15 = .ok (.aload_n 0, 1) := by decide +kernel
theorem dur_Nm_addVersion_16 : decode urb_Nm_addVersion 16 = .ok (.getfield 19, 3) := by decide +kernel
theorem dur_Nm_addVersion_19 : decode urb_Nm_addVersion 19 = .ok (.iload_n 1, 1) := by decide +kernel
theorem dur_Nm_addVersion_20 : decode urb_Nm_addVersion 20 = .ok (.dup2, 1) := by decide +kernel
theorem dur_Nm_addVersion_21 : decode urb_Nm_addVersion 21 = .ok (.iaload, 1) := by decide +kernel
theorem dur_Nm_addVersion_22 : decode urb_Nm_addVersion 22 = .ok (.iconst 1, 1) := by decide +kernel
theorem dur_Nm_addVersion_23 : decode urb_Nm_addVersion 23 = .ok (.iadd, 1) := by decide +kernel
theorem dur_Nm_addVersion_24 : decode urb_Nm_addVersion 24 = .ok (.iastore, 1) := by decide +kernel
theorem dur_Nm_addVersion_25 : decode urb_Nm_addVersion 25 = .ok (.aload_n 0, 1) := by decide +kernel
theorem dur_Nm_addVersion_26 : decode urb_Nm_addVersion 26 = .ok (.getfield 42, 3) := by decide +kernel
theorem dur_Nm_addVersion_29 : decode urb_Nm_addVersion 29 = .ok (.iload_n 1, 1) := by decide +kernel
theorem dur_Nm_addVersion_30 : decode urb_Nm_addVersion 30 = .ok (.aaload, 1) := by decide +kernel
theorem dur_Nm_addVersion_31 : decode urb_Nm_addVersion 31 = .ok (.iload_n 3, 1) := by decide +kernel
theorem dur_Nm_addVersion_32 : decode urb_Nm_addVersion 32 = .ok (.iload_n 2, 1) := by decide +kernel
theorem dur_Nm_addVersion_33 : decode urb_Nm_addVersion 33 = .ok (.iastore, 1) := by decide +kernel
theorem dur_Nm_addVersion_34 : decode urb_Nm_addVersion 34 = .ok (.aload_n 0, 1) := by decide +kernel
theorem dur_Nm_addVersion_35 : decode urb_Nm_addVersion 35 = .ok (.getfield 45, 3) := by decide +kernel
theorem dur_Nm_addVersion_38 : decode urb_Nm_addVersion 38 = .ok (.iload_n 1, 1) := by decide +kernel
theorem dur_Nm_addVersion_39 : decode urb_Nm_addVersion 39 = .ok (.aaload, 1) := by decide +kernel
theorem dur_Nm_addVersion_40 : decode urb_Nm_addVersion 40 = .ok (.iload_n 3, 1) := by decide +kernel
theorem dur_Nm_addVersion_41 : decode urb_Nm_addVersion 41 = .ok (.iconst (-1), 1) := by decide +kernel
theorem dur_Nm_addVersion_42 : decode urb_Nm_addVersion 42 = .ok (.iastore, 1) := by decide +kernel
theorem dur_Nm_addVersion_43 : decode urb_Nm_addVersion 43 = .ok (.iload_n 3, 1) := by decide +kernel
theorem dur_Nm_addVersion_44 : decode urb_Nm_addVersion 44 = .ok (.ireturn, 1) := by decide +kernel
theorem dur_Rb_newer_0 : decode urb_Rb_newer 0 = .ok (.aload_n 0, 1) := by decide +kernel
theorem dur_Rb_newer_1 : decode urb_Rb_newer 1 = .ok (.getfield 25, 3) := by decide +kernel
theorem dur_Rb_newer_4 : decode urb_Rb_newer 4 = .ok (.iload_n 1, 1) := by decide +kernel
theorem dur_Rb_newer_5 : decode urb_Rb_newer 5 = .ok (.invokevirtual 57, 3) := by decide +kernel
theorem dur_Rb_newer_8 : decode urb_Rb_newer 8 = .ok (.ifCond .eq 12, 3) := by decide +kernel
theorem dur_Rb_newer_11 : decode urb_Rb_newer 11 = .ok (.iload_n 2, 1) := by decide +kernel
theorem dur_Rb_newer_12 : decode urb_Rb_newer 12 = .ok (.ifCond .lt 8, 3) := by decide +kernel
theorem dur_Rb_newer_15 : decode urb_Rb_newer 15 = .ok (.iload_n 2, 1) := by decide +kernel
theorem dur_Rb_newer_16 : decode urb_Rb_newer 16 = .ok (.iconst 3, 1) := by decide +kernel
theorem dur_Rb_newer_17 : decode urb_Rb_newer 17 = .ok (.if_icmp .lt 5, 3) := by decide +kernel
theorem dur_Rb_newer_20 : decode urb_Rb_newer 20 = .ok (.iconst (-1), 1) := by decide +kernel
theorem dur_Rb_newer_21 : decode urb_Rb_newer 21 = .ok (.ireturn, 1) := by decide +kernel
theorem dur_Rb_newer_22 : decode urb_Rb_newer 22 = .ok (.aload_n 0, 1) := by decide +kernel
theorem dur_Rb_newer_23 : decode urb_Rb_newer 23 = .ok (.getfield 25, 3) := by decide +kernel
theorem dur_Rb_newer_26 : decode urb_Rb_newer 26 = .ok (.iload_n 1, 1) := by decide +kernel
theorem dur_Rb_newer_27 : decode urb_Rb_newer 27 = .ok (.iload_n 2, 1) := by decide +kernel
theorem dur_Rb_newer_28 : decode urb_Rb_newer 28 = .ok (.invokevirtual 60, 3) := by decide +kernel
theorem dur_Rb_newer_31 : decode urb_Rb_newer 31 = .ok (.ireturn, 1) := by decide +kernel
theorem dur_Nm_hasVersion_0 : decode urb_Nm_hasVersion 0 = .ok (.aload_n 0, 1) := by decide +kernel
theorem dur_Nm_hasVersion_1 : decode urb_Nm_hasVersion 1 = .ok (.iload_n 1, 1) := by decide +kernel
theorem dur_Nm_hasVersion_2 : decode urb_Nm_hasVersion 2 = .ok (.invokevirtual 51, 3) := by decide +kernel
theorem dur_Nm_hasVersion_5 : decode urb_Nm_hasVersion 5 = .ok (.ifCond .eq 21, 3) := by decide +kernel
theorem dur_Nm_hasVersion_8 : decode urb_Nm_hasVersion 8 = .ok (.iload_n 2, 1) := by decide +kernel
theorem dur_Nm_hasVersion_9 : decode urb_Nm_hasVersion 9 = .ok (.ifCond .lt 17, 3) := by decide +kernel
theorem dur_Nm_hasVersion_12 : decode urb_Nm_hasVersion 12 = .ok (.iload_n 2, 1) := by decide +kernel
theorem dur_Nm_hasVersion_13 : decode urb_Nm_hasVersion 13 = .ok (.aload_n 0, 1) := by decide +kernel
theorem dur_Nm_hasVersion_14 : decode urb_Nm_hasVersion 14 = .ok (.getfield 19, 3) := by decide +kernel
theorem dur_Nm_hasVersion_17 : decode urb_Nm_hasVersion 17 = .ok (.iload_n 1, 1) := by decide +kernel
theorem dur_Nm_hasVersion_18 : decode urb_Nm_hasVersion 18 = .ok (.iaload, 1) := by decide +kernel
theorem dur_Nm_hasVersion_19 : decode urb_Nm_hasVersion 19 = .ok (.if_icmp .ge 7, 3) := by decide +kernel
theorem dur_Nm_hasVersion_22 : decode urb_Nm_hasVersion 22 = .ok (.iconst 1, 1) := by decide +kernel
theorem dur_Nm_hasVersion_23 : decode urb_Nm_hasVersion 23 = .ok (.goto 4, 3) := by decide +kernel
theorem dur_Nm_hasVersion_26 : decode urb_Nm_hasVersion 26 = .ok (.iconst 0, 1) := by decide +kernel
theorem dur_Nm_hasVersion_27 : decode urb_Nm_hasVersion 27 = .ok (.ireturn, 1) := by decide +kernel
theorem dur_Rb_needs_0 : decode urb_Rb_needs 0 = .ok (.aload_n 0, 1) := by decide +kernel
theorem dur_Rb_needs_1 : decode urb_Rb_needs 1 = .ok (.getfield 25, 3) := by decide +kernel
theorem dur_Rb_needs_4 : decode urb_Rb_needs 4 = .ok (.iload_n 1, 1) := by decide +kernel
theorem dur_Rb_needs_5 : decode urb_Rb_needs 5 = .ok (.iload_n 2, 1) := by decide +kernel
theorem dur_Rb_needs_6 : decode urb_Rb_needs 6 = .ok (.invokevirtual 63, 3) := by decide +kernel
theorem dur_Rb_needs_9 : decode urb_Rb_needs 9 = .ok (.ifCond .eq 19, 3) := by decide +kernel
theorem dur_Rb_needs_12 : decode urb_Rb_needs 12 = .ok (.aload_n 0, 1) := by decide +kernel
theorem dur_Rb_needs_13 : decode urb_Rb_needs 13 = .ok (.getfield 25, 3) := by decide +kernel
theorem dur_Rb_needs_16 : decode urb_Rb_needs 16 = .ok (.iload_n 3, 1) := by decide +kernel
theorem dur_Rb_needs_17 : decode urb_Rb_needs 17 = .ok (.invokevirtual 57, 3) := by decide +kernel
theorem dur_Rb_needs_20 : decode urb_Rb_needs 20 = .ok (.ifCond .eq 8, 3) := by decide +kernel
theorem dur_Rb_needs_23 : decode urb_Rb_needs 23 = .ok (.iload_n 1, 1) := by decide +kernel
theorem dur_Rb_needs_24 : decode urb_Rb_needs 24 = .ok (.iload_n 3, 1) := by decide +kernel
theorem dur_Rb_needs_25 : decode urb_Rb_needs 25 = .ok (.if_icmp .ne 5, 3) := by decide +kernel
theorem dur_Rb_needs_28 : decode urb_Rb_needs 28 = .ok (.iconst 0, 1) := by decide +kernel
theorem dur_Rb_needs_29 : decode urb_Rb_needs 29 = .ok (.ireturn, 1) := by decide +kernel
theorem dur_Rb_needs_30 : decode urb_Rb_needs 30 = .ok (.iload 4, 2) := by decide +kernel
theorem dur_Rb_needs_32 : decode urb_Rb_needs 32 = .ok (.ifCond .lt 10, 3) := by decide +kernel
theorem dur_Rb_needs_35 : decode urb_Rb_needs 35 = .ok (.iload 4, 2) := by decide +kernel
theorem dur_Rb_needs_37 : decode urb_Rb_needs 37 = .ok (.bipush 8, 2) := by decide +kernel
theorem dur_Rb_needs_39 : decode urb_Rb_needs 39 = .ok (.if_icmp .lt 5, 3) := by decide +kernel
theorem dur_Rb_needs_42 : decode urb_Rb_needs 42 = .ok (.iconst 0, 1) := by decide +kernel
theorem dur_Rb_needs_43 : decode urb_Rb_needs 43 = .ok (.ireturn, 1) := by decide +kernel
theorem dur_Rb_needs_44 : decode urb_Rb_needs 44 = .ok (.aload_n 0, 1) := by decide +kernel
theorem dur_Rb_needs_45 : decode urb_Rb_needs 45 = .ok (.getfield 25, 3) := by decide +kernel
theorem dur_Rb_needs_48 : decode urb_Rb_needs 48 = .ok (.getfield 67, 3) := by decide +kernel
theorem dur_Rb_needs_51 : decode urb_Rb_needs 51 = .ok (.iload_n 1, 1) := by decide +kernel
theorem dur_Rb_needs_52 : decode urb_Rb_needs 52 = .ok (.aaload, 1) := by decide +kernel
theorem dur_Rb_needs_53 : decode urb_Rb_needs 53 = .ok (.iload_n 2, 1) := by decide +kernel
theorem dur_Rb_needs_54 : decode urb_Rb_needs 54 = .ok (.iload_n 3, 1) := by decide +kernel
theorem dur_Rb_needs_55 : decode urb_Rb_needs 55 = .ok (.iastore, 1) := by decide +kernel
theorem dur_Rb_needs_56 : decode urb_Rb_needs 56 = .ok (.aload_n 0, 1) := by decide +kernel
theorem dur_Rb_needs_57 : decode urb_Rb_needs 57 = .ok (.getfield 25, 3) := by decide +kernel
theorem dur_Rb_needs_60 : decode urb_Rb_needs 60 = .ok (.getfield 71, 3) := by decide +kernel
theorem dur_Rb_needs_63 : decode urb_Rb_needs 63 = .ok (.iload_n 1, 1) := by decide +kernel
theorem dur_Rb_needs_64 : decode urb_Rb_needs 64 = .ok (.aaload, 1) := by decide +kernel
theorem dur_Rb_needs_65 : decode urb_Rb_needs 65 = .ok (.iload_n 2, 1) := by decide +kernel
theorem dur_Rb_needs_66 : decode urb_Rb_needs 66 = .ok (.iload 4, 2) := by decide +kernel
theorem dur_Rb_needs_68 : decode urb_Rb_needs 68 = .ok (.iastore, 1) := by decide +kernel
theorem dur_Rb_needs_69 : decode urb_Rb_needs 69 = .ok (.iconst 1, 1) := by decide +kernel
theorem dur_Rb_needs_70 : decode urb_Rb_needs 70 = .ok (.ireturn, 1) := by decide +kernel
theorem dur_Rb_rule_0 : decode urb_Rb_rule 0 = .ok (.aload_n 0, 1) := by decide +kernel
theorem dur_Rb_rule_1 : decode urb_Rb_rule 1 = .ok (.getfield 25, 3) := by decide +kernel
theorem dur_Rb_rule_4 : decode urb_Rb_rule 4 = .ok (.iload_n 1, 1) := by decide +kernel
theorem dur_Rb_rule_5 : decode urb_Rb_rule 5 = .ok (.invokevirtual 57, 3) := by decide +kernel
theorem dur_Rb_rule_8 : decode urb_Rb_rule 8 = .ok (.ifCond .eq 13, 3) := by decide +kernel
theorem dur_Rb_rule_11 : decode urb_Rb_rule 11 = .ok (.iload_n 2, 1) := by decide +kernel
theorem dur_Rb_rule_12 : decode urb_Rb_rule 12 = .ok (.iconst (-1), 1) := by decide +kernel
theorem dur_Rb_rule_13 : decode urb_Rb_rule 13 = .ok (.if_icmp .lt 8, 3) := by decide +kernel
theorem dur_Rb_rule_16 : decode urb_Rb_rule 16 = .ok (.iload_n 2, 1) := by decide +kernel
theorem dur_Rb_rule_17 : decode urb_Rb_rule 17 = .ok (.iconst 3, 1) := by decide +kernel
theorem dur_Rb_rule_18 : decode urb_Rb_rule 18 = .ok (.if_icmp .lt 5, 3) := by decide +kernel
theorem dur_Rb_rule_21 : decode urb_Rb_rule 21 = .ok (.iconst 0, 1) := by decide +kernel
theorem dur_Rb_rule_22 : decode urb_Rb_rule 22 = .ok (.ireturn, 1) := by decide +kernel
theorem dur_Rb_rule_23 : decode urb_Rb_rule 23 = .ok (.iload_n 3, 1) := by decide +kernel
theorem dur_Rb_rule_24 : decode urb_Rb_rule 24 = .ok (.iconst 1, 1) := by decide +kernel
theorem dur_Rb_rule_25 : decode urb_Rb_rule 25 = .ok (.if_icmp .lt 22, 3) := by decide +kernel
theorem dur_Rb_rule_28 : decode urb_Rb_rule 28 = .ok (.iload_n 3, 1) := by decide +kernel
theorem dur_Rb_rule_29 : decode urb_Rb_rule 29 = .ok (.sipush 1000, 3) := by decide +kernel
theorem dur_Rb_rule_32 : decode urb_Rb_rule 32 = .ok (.if_icmp .gt 15, 3) := by decide +kernel
theorem dur_Rb_rule_35 : decode urb_Rb_rule 35 = .ok (.iload 4, 2) := by decide +kernel
theorem dur_Rb_rule_37 : decode urb_Rb_rule 37 = .ok (.iconst (-1), 1) := by decide +kernel
theorem dur_Rb_rule_38 : decode urb_Rb_rule 38 = .ok (.if_icmp .lt 9, 3) := by decide +kernel
theorem dur_Rb_rule_41 : decode urb_Rb_rule 41 = .ok (.iload 4, 2) := by decide +kernel
theorem dur_Rb_rule_43 : decode urb_Rb_rule 43 = .ok (.iconst 4, 1) := by decide +kernel
theorem dur_Rb_rule_44 : decode urb_Rb_rule 44 = .ok (.if_icmp .lt 5, 3) := by decide +kernel
theorem dur_Rb_rule_47 : decode urb_Rb_rule 47 = .ok (.iconst 0, 1) := by decide +kernel
theorem dur_Rb_rule_48 : decode urb_Rb_rule 48 = .ok (.ireturn, 1) := by decide +kernel
theorem dur_Rb_rule_49 : decode urb_Rb_rule 49 = .ok (.aload_n 0, 1) := by decide +kernel
theorem dur_Rb_rule_50 : decode urb_Rb_rule 50 = .ok (.getfield 25, 3) := by decide +kernel
theorem dur_Rb_rule_53 : decode urb_Rb_rule 53 = .ok (.getfield 74, 3) := by decide +kernel
theorem dur_Rb_rule_56 : decode urb_Rb_rule 56 = .ok (.iload_n 1, 1) := by decide +kernel
theorem dur_Rb_rule_57 : decode urb_Rb_rule 57 = .ok (.iload_n 2, 1) := by decide +kernel
theorem dur_Rb_rule_58 : decode urb_Rb_rule 58 = .ok (.iastore, 1) := by decide +kernel
theorem dur_Rb_rule_59 : decode urb_Rb_rule 59 = .ok (.aload_n 0, 1) := by decide +kernel
theorem dur_Rb_rule_60 : decode urb_Rb_rule 60 = .ok (.getfield 25, 3) := by decide +kernel
theorem dur_Rb_rule_63 : decode urb_Rb_rule 63 = .ok (.getfield 78, 3) := by decide +kernel
theorem dur_Rb_rule_66 : decode urb_Rb_rule 66 = .ok (.iload_n 1, 1) := by decide +kernel
theorem dur_Rb_rule_67 : decode urb_Rb_rule 67 = .ok (.iload_n 3, 1) := by decide +kernel
theorem dur_Rb_rule_68 : decode urb_Rb_rule 68 = .ok (.iastore, 1) := by decide +kernel
theorem dur_Rb_rule_69 : decode urb_Rb_rule 69 = .ok (.aload_n 0, 1) := by decide +kernel
theorem dur_Rb_rule_70 : decode urb_Rb_rule 70 = .ok (.getfield 25, 3) := by decide +kernel
theorem dur_Rb_rule_73 : decode urb_Rb_rule 73 = .ok (.getfield 81, 3) := by decide +kernel
theorem dur_Rb_rule_76 : decode urb_Rb_rule 76 = .ok (.iload_n 1, 1) := by decide +kernel
theorem dur_Rb_rule_77 : decode urb_Rb_rule 77 = .ok (.iload 4, 2) := by decide +kernel
theorem dur_Rb_rule_79 : decode urb_Rb_rule 79 = .ok (.iastore, 1) := by decide +kernel
theorem dur_Rb_rule_80 : decode urb_Rb_rule 80 = .ok (.iconst 1, 1) := by decide +kernel
theorem dur_Rb_rule_81 : decode urb_Rb_rule 81 = .ok (.ireturn, 1) := by decide +kernel
theorem dur_Rb_advise_0 : decode urb_Rb_advise 0 = .ok (.aload_n 0, 1) := by decide +kernel
theorem dur_Rb_advise_1 : decode urb_Rb_advise 1 = .ok (.getfield 25, 3) := by decide +kernel
theorem dur_Rb_advise_4 : decode urb_Rb_advise 4 = .ok (.iload_n 1, 1) := by decide +kernel
theorem dur_Rb_advise_5 : decode urb_Rb_advise 5 = .ok (.invokevirtual 57, 3) := by decide +kernel
theorem dur_Rb_advise_8 : decode urb_Rb_advise 8 = .ok (.ifCond .ne 5, 3) := by decide +kernel
theorem dur_Rb_advise_11 : decode urb_Rb_advise 11 = .ok (.iconst 0, 1) := by decide +kernel
theorem dur_Rb_advise_12 : decode urb_Rb_advise 12 = .ok (.ireturn, 1) := by decide +kernel
theorem dur_Rb_advise_13 : decode urb_Rb_advise 13 = .ok (.iload_n 2, 1) := by decide +kernel
theorem dur_Rb_advise_14 : decode urb_Rb_advise 14 = .ok (.iconst (-1), 1) := by decide +kernel
theorem dur_Rb_advise_15 : decode urb_Rb_advise 15 = .ok (.if_icmp .eq 17, 3) := by decide +kernel
theorem dur_Rb_advise_18 : decode urb_Rb_advise 18 = .ok (.aload_n 0, 1) := by decide +kernel
theorem dur_Rb_advise_19 : decode urb_Rb_advise 19 = .ok (.getfield 25, 3) := by decide +kernel
theorem dur_Rb_advise_22 : decode urb_Rb_advise 22 = .ok (.iload_n 1, 1) := by decide +kernel
theorem dur_Rb_advise_23 : decode urb_Rb_advise 23 = .ok (.iload_n 2, 1) := by decide +kernel
theorem dur_Rb_advise_24 : decode urb_Rb_advise 24 = .ok (.invokevirtual 63, 3) := by decide +kernel
theorem dur_Rb_advise_27 : decode urb_Rb_advise 27 = .ok (.ifCond .ne 5, 3) := by decide +kernel
theorem dur_Rb_advise_30 : decode urb_Rb_advise 30 = .ok (.iconst 0, 1) := by decide +kernel
theorem dur_Rb_advise_31 : decode urb_Rb_advise 31 = .ok (.ireturn, 1) := by decide +kernel
theorem dur_Rb_advise_32 : decode urb_Rb_advise 32 = .ok (.aload_n 0, 1) := by decide +kernel
theorem dur_Rb_advise_33 : decode urb_Rb_advise 33 = .ok (.getfield 25, 3) := by decide +kernel
theorem dur_Rb_advise_36 : decode urb_Rb_advise 36 = .ok (.getfield 84, 3) := by decide +kernel
theorem dur_Rb_advise_39 : decode urb_Rb_advise 39 = .ok (.iload_n 1, 1) := by decide +kernel
theorem dur_Rb_advise_40 : decode urb_Rb_advise 40 = .ok (.iload_n 2, 1) := by decide +kernel
theorem dur_Rb_advise_41 : decode urb_Rb_advise 41 = .ok (.iastore, 1) := by decide +kernel
theorem dur_Rb_advise_42 : decode urb_Rb_advise 42 = .ok (.iconst 1, 1) := by decide +kernel
theorem dur_Rb_advise_43 : decode urb_Rb_advise 43 = .ok (.ireturn, 1) := by decide +kernel
theorem dur_Rb_has_0 : decode urb_Rb_has 0 = .ok (.aload_n 0, 1) := by decide +kernel
theorem dur_Rb_has_1 : decode urb_Rb_has 1 = .ok (.getfield 25, 3) := by decide +kernel
theorem dur_Rb_has_4 : decode urb_Rb_has 4 = .ok (.iload_n 1, 1) := by decide +kernel
theorem dur_Rb_has_5 : decode urb_Rb_has 5 = .ok (.invokevirtual 57, 3) := by decide +kernel
theorem dur_Rb_has_8 : decode urb_Rb_has 8 = .ok (.ifCond .eq 15, 3) := by decide +kernel
theorem dur_Rb_has_11 : decode urb_Rb_has 11 = .ok (.aload_n 0, 1) := by decide +kernel
theorem dur_Rb_has_12 : decode urb_Rb_has 12 = .ok (.getfield 25, 3) := by decide +kernel
theorem dur_Rb_has_15 : decode urb_Rb_has 15 = .ok (.getfield 87, 3) := by decide +kernel
theorem dur_Rb_has_18 : decode urb_Rb_has 18 = .ok (.iload_n 1, 1) := by decide +kernel
theorem dur_Rb_has_19 : decode urb_Rb_has 19 = .ok (.iaload, 1) := by decide +kernel
theorem dur_Rb_has_20 : decode urb_Rb_has 20 = .ok (.goto 4, 3) := by decide +kernel
theorem dur_Rb_has_23 : decode urb_Rb_has 23 = .ok (.iconst (-1), 1) := by decide +kernel
theorem dur_Rb_has_24 : decode urb_Rb_has 24 = .ok (.ireturn, 1) := by decide +kernel
theorem dur_Nm_farthestAllowed_0 : decode urb_Nm_farthestAllowed 0 = .ok (.aload_n 0, 1) := by decide +kernel
theorem dur_Nm_farthestAllowed_1 : decode urb_Nm_farthestAllowed 1 = .ok (.getfield 22, 3) := by decide +kernel
theorem dur_Nm_farthestAllowed_4 : decode urb_Nm_farthestAllowed 4 = .ok (.iload_n 1, 1) := by decide +kernel
theorem dur_Nm_farthestAllowed_5 : decode urb_Nm_farthestAllowed 5 = .ok (.iaload, 1) := by decide +kernel
theorem dur_Nm_farthestAllowed_6 : decode urb_Nm_farthestAllowed 6 = .ok (.istore_n 2, 1) := by decide +kernel
theorem dur_Nm_farthestAllowed_7 : decode urb_Nm_farthestAllowed 7 = .ok (.iload_n 2, 1) := by decide +kernel
theorem dur_Nm_farthestAllowed_8 : decode urb_Nm_farthestAllowed 8 = .ok (.iconst 1, 1) := by decide +kernel
theorem dur_Nm_farthestAllowed_9 : decode urb_Nm_farthestAllowed 9 = .ok (.iadd, 1) := by decide +kernel
theorem dur_Nm_farthestAllowed_10 : decode urb_Nm_farthestAllowed 10 = .ok (.istore_n 3, 1) := by decide +kernel
theorem dur_Nm_farthestAllowed_11 : decode urb_Nm_farthestAllowed 11 = .ok (.iload_n 3, 1) := by decide +kernel
theorem dur_Nm_farthestAllowed_12 : decode urb_Nm_farthestAllowed 12 = .ok (.aload_n 0, 1) := by decide +kernel
theorem dur_Nm_farthestAllowed_13 : decode urb_Nm_farthestAllowed 13 = .ok (.getfield 19, 3) := by decide +kernel
theorem dur_Nm_farthestAllowed_16 : decode urb_Nm_farthestAllowed 16 = .ok (.iload_n 1, 1) := by decide +kernel
theorem dur_Nm_farthestAllowed_17 : decode urb_Nm_farthestAllowed 17 = .ok (.iaload, 1) := by decide +kernel
theorem dur_Nm_farthestAllowed_18 : decode urb_Nm_farthestAllowed 18 = .ok (.if_icmp .ge 28, 3) := by decide +kernel
theorem dur_Nm_farthestAllowed_21 : decode urb_Nm_farthestAllowed 21 = .ok (.aload_n 0, 1) := by decide +kernel
theorem dur_Nm_farthestAllowed_22 : decode urb_Nm_farthestAllowed 22 = .ok (.getfield 42, 3) := by decide +kernel
theorem dur_Nm_farthestAllowed_25 : decode urb_Nm_farthestAllowed 25 = .ok (.iload_n 1, 1) := by decide +kernel
theorem dur_Nm_farthestAllowed_26 : decode urb_Nm_farthestAllowed 26 = .ok (.aaload, 1) := by decide +kernel
theorem dur_Nm_farthestAllowed_27 : decode urb_Nm_farthestAllowed 27 = .ok (.iload_n 3, 1) := by decide +kernel
theorem dur_Nm_farthestAllowed_28 : decode urb_Nm_farthestAllowed 28 = .ok (.iaload, 1) := by decide +kernel
theorem dur_Nm_farthestAllowed_29 : decode urb_Nm_farthestAllowed 29 = .ok (.aload_n 0, 1) := by decide +kernel
theorem dur_Nm_farthestAllowed_30 : decode urb_Nm_farthestAllowed 30 = .ok (.getfield 25, 3) := by decide +kernel
theorem dur_Nm_farthestAllowed_33 : decode urb_Nm_farthestAllowed 33 = .ok (.iload_n 1, 1) := by decide +kernel
theorem dur_Nm_farthestAllowed_34 : decode urb_Nm_farthestAllowed 34 = .ok (.iaload, 1) := by decide +kernel
theorem dur_Nm_farthestAllowed_35 : decode urb_Nm_farthestAllowed 35 = .ok (.if_icmp .gt 11, 3) := by decide +kernel
theorem dur_Nm_farthestAllowed_38 : decode urb_Nm_farthestAllowed 38 = .ok (.iload_n 3, 1) := by decide +kernel
theorem dur_Nm_farthestAllowed_39 : decode urb_Nm_farthestAllowed 39 = .ok (.istore_n 2, 1) := by decide +kernel
theorem dur_Nm_farthestAllowed_40 : decode urb_Nm_farthestAllowed 40 = .ok (.iinc 3 1, 3) := by decide +kernel
theorem dur_Nm_farthestAllowed_43 : decode urb_Nm_farthestAllowed 43 = .ok (.goto (-32), 3) := by decide +kernel
theorem dur_Nm_farthestAllowed_46 : decode urb_Nm_farthestAllowed 46 = .ok (.iload_n 2, 1) := by decide +kernel
theorem dur_Nm_farthestAllowed_47 : decode urb_Nm_farthestAllowed 47 = .ok (.ireturn, 1) := by decide +kernel
theorem dur_Nm_isHit_0 : decode urb_Nm_isHit 0 = .ok (.aload_n 0, 1) := by decide +kernel
theorem dur_Nm_isHit_1 : decode urb_Nm_isHit 1 = .ok (.getfield 34, 3) := by decide +kernel
theorem dur_Nm_isHit_4 : decode urb_Nm_isHit 4 = .ok (.iload_n 1, 1) := by decide +kernel
theorem dur_Nm_isHit_5 : decode urb_Nm_isHit 5 = .ok (.iaload, 1) := by decide +kernel
theorem dur_Nm_isHit_6 : decode urb_Nm_isHit 6 = .ok (.iconst (-1), 1) := by decide +kernel
theorem dur_Nm_isHit_7 : decode urb_Nm_isHit 7 = .ok (.if_icmp .eq 22, 3) := by decide +kernel
theorem dur_Nm_isHit_10 : decode urb_Nm_isHit 10 = .ok (.aload_n 0, 1) := by decide +kernel
theorem dur_Nm_isHit_11 : decode urb_Nm_isHit 11 = .ok (.getfield 22, 3) := by decide +kernel
theorem dur_Nm_isHit_14 : decode urb_Nm_isHit 14 = .ok (.iload_n 1, 1) := by decide +kernel
theorem dur_Nm_isHit_15 : decode urb_Nm_isHit 15 = .ok (.iaload, 1) := by decide +kernel
theorem dur_Nm_isHit_16 : decode urb_Nm_isHit 16 = .ok (.aload_n 0, 1) := by decide +kernel
theorem dur_Nm_isHit_17 : decode urb_Nm_isHit 17 = .ok (.getfield 34, 3) := by decide +kernel
theorem dur_Nm_isHit_20 : decode urb_Nm_isHit 20 = .ok (.iload_n 1, 1) := by decide +kernel
theorem dur_Nm_isHit_21 : decode urb_Nm_isHit 21 = .ok (.iaload, 1) := by decide +kernel
theorem dur_Nm_isHit_22 : decode urb_Nm_isHit 22 = .ok (.if_icmp .gt 7, 3) := by decide +kernel
theorem dur_Nm_isHit_25 : decode urb_Nm_isHit 25 = .ok (.iconst 1, 1) := by decide +kernel
theorem dur_Nm_isHit_26 : decode urb_Nm_isHit 26 = .ok (.goto 4, 3) := by decide +kernel
theorem dur_Nm_isHit_29 : decode urb_Nm_isHit 29 = .ok (.iconst 0, 1) := by decide +kernel
theorem dur_Nm_isHit_30 : decode urb_Nm_isHit 30 = .ok (.ireturn, 1) := by decide +kernel
theorem dur_Nm_goalOf_0 : decode urb_Nm_goalOf 0 = .ok (.aload_n 0, 1) := by decide +kernel
theorem dur_Nm_goalOf_1 : decode urb_Nm_goalOf 1 = .ok (.iload_n 1, 1) := by decide +kernel
theorem dur_Nm_goalOf_2 : decode urb_Nm_goalOf 2 = .ok (.invokevirtual 55, 3) := by decide +kernel
theorem dur_Nm_goalOf_5 : decode urb_Nm_goalOf 5 = .ok (.istore_n 2, 1) := by decide +kernel
theorem dur_Nm_goalOf_6 : decode urb_Nm_goalOf 6 = .ok (.aload_n 0, 1) := by decide +kernel
theorem dur_Nm_goalOf_7 : decode urb_Nm_goalOf 7 = .ok (.iload_n 1, 1) := by decide +kernel
theorem dur_Nm_goalOf_8 : decode urb_Nm_goalOf 8 = .ok (.invokevirtual 59, 3) := by decide +kernel
theorem dur_Nm_goalOf_11 : decode urb_Nm_goalOf 11 = .ok (.ifCond .eq 13, 3) := by decide +kernel
theorem dur_Nm_goalOf_14 : decode urb_Nm_goalOf 14 = .ok (.iload_n 2, 1) := by decide +kernel
theorem dur_Nm_goalOf_15 : decode urb_Nm_goalOf 15 = .ok (.aload_n 0, 1) := by decide +kernel
theorem dur_Nm_goalOf_16 : decode urb_Nm_goalOf 16 = .ok (.getfield 34, 3) := by decide +kernel
theorem dur_Nm_goalOf_19 : decode urb_Nm_goalOf 19 = .ok (.iload_n 1, 1) := by decide +kernel
theorem dur_Nm_goalOf_20 : decode urb_Nm_goalOf 20 = .ok (.iaload, 1) := by decide +kernel
theorem dur_Nm_goalOf_21 : decode urb_Nm_goalOf 21 = .ok (.if_icmp .le 5, 3) := by decide +kernel
theorem dur_Nm_goalOf_24 : decode urb_Nm_goalOf 24 = .ok (.iload_n 2, 1) := by decide +kernel
theorem dur_Nm_goalOf_25 : decode urb_Nm_goalOf 25 = .ok (.ireturn, 1) := by decide +kernel
theorem dur_Nm_goalOf_26 : decode urb_Nm_goalOf 26 = .ok (.aload_n 0, 1) := by decide +kernel
theorem dur_Nm_goalOf_27 : decode urb_Nm_goalOf 27 = .ok (.getfield 34, 3) := by decide +kernel
theorem dur_Nm_goalOf_30 : decode urb_Nm_goalOf 30 = .ok (.iload_n 1, 1) := by decide +kernel
theorem dur_Nm_goalOf_31 : decode urb_Nm_goalOf 31 = .ok (.iaload, 1) := by decide +kernel
theorem dur_Nm_goalOf_32 : decode urb_Nm_goalOf 32 = .ok (.iconst 1, 1) := by decide +kernel
theorem dur_Nm_goalOf_33 : decode urb_Nm_goalOf 33 = .ok (.iadd, 1) := by decide +kernel
theorem dur_Nm_goalOf_34 : decode urb_Nm_goalOf 34 = .ok (.istore_n 3, 1) := by decide +kernel
theorem dur_Nm_goalOf_35 : decode urb_Nm_goalOf 35 = .ok (.iload_n 3, 1) := by decide +kernel
theorem dur_Nm_goalOf_36 : decode urb_Nm_goalOf 36 = .ok (.aload_n 0, 1) := by decide +kernel
theorem dur_Nm_goalOf_37 : decode urb_Nm_goalOf 37 = .ok (.getfield 19, 3) := by decide +kernel
theorem dur_Nm_goalOf_40 : decode urb_Nm_goalOf 40 = .ok (.iload_n 1, 1) := by decide +kernel
theorem dur_Nm_goalOf_41 : decode urb_Nm_goalOf 41 = .ok (.iaload, 1) := by decide +kernel
theorem dur_Nm_goalOf_42 : decode urb_Nm_goalOf 42 = .ok (.if_icmp .ge 7, 3) := by decide +kernel
theorem dur_Nm_goalOf_45 : decode urb_Nm_goalOf 45 = .ok (.iload_n 3, 1) := by decide +kernel
theorem dur_Nm_goalOf_46 : decode urb_Nm_goalOf 46 = .ok (.goto 4, 3) := by decide +kernel
theorem dur_Nm_goalOf_49 : decode urb_Nm_goalOf 49 = .ok (.iload_n 2, 1) := by decide +kernel
theorem dur_Nm_goalOf_50 : decode urb_Nm_goalOf 50 = .ok (.ireturn, 1) := by decide +kernel
theorem dur_Rb_goal_0 : decode urb_Rb_goal 0 = .ok (.aload_n 0, 1) := by decide +kernel
theorem dur_Rb_goal_1 : decode urb_Rb_goal 1 = .ok (.getfield 25, 3) := by decide +kernel
theorem dur_Rb_goal_4 : decode urb_Rb_goal 4 = .ok (.iload_n 1, 1) := by decide +kernel
theorem dur_Rb_goal_5 : decode urb_Rb_goal 5 = .ok (.invokevirtual 57, 3) := by decide +kernel
theorem dur_Rb_goal_8 : decode urb_Rb_goal 8 = .ok (.ifCond .eq 14, 3) := by decide +kernel
theorem dur_Rb_goal_11 : decode urb_Rb_goal 11 = .ok (.aload_n 0, 1) := by decide +kernel
theorem dur_Rb_goal_12 : decode urb_Rb_goal 12 = .ok (.getfield 25, 3) := by decide +kernel
theorem dur_Rb_goal_15 : decode urb_Rb_goal 15 = .ok (.iload_n 1, 1) := by decide +kernel
theorem dur_Rb_goal_16 : decode urb_Rb_goal 16 = .ok (.invokevirtual 90, 3) := by decide +kernel
theorem dur_Rb_goal_19 : decode urb_Rb_goal 19 = .ok (.goto 4, 3) := by decide +kernel
theorem dur_Rb_goal_22 : decode urb_Rb_goal 22 = .ok (.iconst (-1), 1) := by decide +kernel
theorem dur_Rb_goal_23 : decode urb_Rb_goal 23 = .ok (.ireturn, 1) := by decide +kernel
theorem dur_Nm_chiefOf_0 : decode urb_Nm_chiefOf 0 = .ok (.aload_n 0, 1) := by decide +kernel
theorem dur_Nm_chiefOf_1 : decode urb_Nm_chiefOf 1 = .ok (.getfield 31, 3) := by decide +kernel
theorem dur_Nm_chiefOf_4 : decode urb_Nm_chiefOf 4 = .ok (.iload_n 1, 1) := by decide +kernel
theorem dur_Nm_chiefOf_5 : decode urb_Nm_chiefOf 5 = .ok (.iaload, 1) := by decide +kernel
theorem dur_Nm_chiefOf_6 : decode urb_Nm_chiefOf 6 = .ok (.iconst (-1), 1) := by decide +kernel
theorem dur_Nm_chiefOf_7 : decode urb_Nm_chiefOf 7 = .ok (.if_icmp .ne 5, 3) := by decide +kernel
theorem dur_Nm_chiefOf_10 : decode urb_Nm_chiefOf 10 = .ok (.iload_n 1, 1) := by decide +kernel
theorem dur_Nm_chiefOf_11 : decode urb_Nm_chiefOf 11 = .ok (.ireturn, 1) := by decide +kernel
theorem dur_Nm_chiefOf_12 : decode urb_Nm_chiefOf 12 = .ok (.iconst 0, 1) := by decide +kernel
theorem dur_Nm_chiefOf_13 : decode urb_Nm_chiefOf 13 = .ok (.istore_n 2, 1) := by decide +kernel
theorem dur_Nm_chiefOf_14 : decode urb_Nm_chiefOf 14 = .ok (.iload_n 2, 1) := by decide +kernel
theorem dur_Nm_chiefOf_15 : decode urb_Nm_chiefOf 15 = .ok (.iload_n 1, 1) := by decide +kernel
theorem dur_Nm_chiefOf_16 : decode urb_Nm_chiefOf 16 = .ok (.if_icmp .ge 41, 3) := by decide +kernel
theorem dur_Nm_chiefOf_19 : decode urb_Nm_chiefOf 19 = .ok (.aload_n 0, 1) := by decide +kernel
theorem dur_Nm_chiefOf_20 : decode urb_Nm_chiefOf 20 = .ok (.getfield 15, 3) := by decide +kernel
theorem dur_Nm_chiefOf_23 : decode urb_Nm_chiefOf 23 = .ok (.iload_n 2, 1) := by decide +kernel
theorem dur_Nm_chiefOf_24 : decode urb_Nm_chiefOf 24 = .ok (.iaload, 1) := by decide +kernel
theorem dur_Nm_chiefOf_25 : decode urb_Nm_chiefOf 25 = .ok (.aload_n 0, 1) := by decide +kernel
theorem dur_Nm_chiefOf_26 : decode urb_Nm_chiefOf 26 = .ok (.getfield 15, 3) := by decide +kernel
theorem dur_Nm_chiefOf_29 : decode urb_Nm_chiefOf 29 = .ok (.iload_n 1, 1) := by decide +kernel
theorem dur_Nm_chiefOf_30 : decode urb_Nm_chiefOf 30 = .ok (.iaload, 1) := by decide +kernel
theorem dur_Nm_chiefOf_31 : decode urb_Nm_chiefOf 31 = .ok (.if_icmp .ne 20, 3) := by decide +kernel
theorem dur_Nm_chiefOf_34 : decode urb_Nm_chiefOf 34 = .ok (.aload_n 0, 1) := by decide +kernel
theorem dur_Nm_chiefOf_35 : decode urb_Nm_chiefOf 35 = .ok (.getfield 31, 3) := by decide +kernel
theorem dur_Nm_chiefOf_38 : decode urb_Nm_chiefOf 38 = .ok (.iload_n 2, 1) := by decide +kernel
theorem dur_Nm_chiefOf_39 : decode urb_Nm_chiefOf 39 = .ok (.iaload, 1) := by decide +kernel
theorem dur_Nm_chiefOf_40 : decode urb_Nm_chiefOf 40 = .ok (.aload_n 0, 1) := by decide +kernel
theorem dur_Nm_chiefOf_41 : decode urb_Nm_chiefOf 41 = .ok (.getfield 31, 3) := by decide +kernel
theorem dur_Nm_chiefOf_44 : decode urb_Nm_chiefOf 44 = .ok (.iload_n 1, 1) := by decide +kernel
theorem dur_Nm_chiefOf_45 : decode urb_Nm_chiefOf 45 = .ok (.iaload, 1) := by decide +kernel
theorem dur_Nm_chiefOf_46 : decode urb_Nm_chiefOf 46 = .ok (.if_icmp .ne 5, 3) := by decide +kernel
theorem dur_Nm_chiefOf_49 : decode urb_Nm_chiefOf 49 = .ok (.iload_n 2, 1) := by decide +kernel
theorem dur_Nm_chiefOf_50 : decode urb_Nm_chiefOf 50 = .ok (.ireturn, 1) := by decide +kernel
theorem dur_Nm_chiefOf_51 : decode urb_Nm_chiefOf 51 = .ok (.iinc 2 1, 3) := by decide +kernel
theorem dur_Nm_chiefOf_54 : decode urb_Nm_chiefOf 54 = .ok (.goto (-40), 3) := by decide +kernel
theorem dur_Nm_chiefOf_57 : decode urb_Nm_chiefOf 57 = .ok (.iload_n 1, 1) := by decide +kernel
theorem dur_Nm_chiefOf_58 : decode urb_Nm_chiefOf 58 = .ok (.ireturn, 1) := by decide +kernel
theorem dur_Rb_chief_0 : decode urb_Rb_chief 0 = .ok (.aload_n 0, 1) := by decide +kernel
theorem dur_Rb_chief_1 : decode urb_Rb_chief 1 = .ok (.getfield 25, 3) := by decide +kernel
theorem dur_Rb_chief_4 : decode urb_Rb_chief 4 = .ok (.iload_n 1, 1) := by decide +kernel
theorem dur_Rb_chief_5 : decode urb_Rb_chief 5 = .ok (.invokevirtual 57, 3) := by decide +kernel
theorem dur_Rb_chief_8 : decode urb_Rb_chief 8 = .ok (.ifCond .eq 14, 3) := by decide +kernel
theorem dur_Rb_chief_11 : decode urb_Rb_chief 11 = .ok (.aload_n 0, 1) := by decide +kernel
theorem dur_Rb_chief_12 : decode urb_Rb_chief 12 = .ok (.getfield 25, 3) := by decide +kernel
theorem dur_Rb_chief_15 : decode urb_Rb_chief 15 = .ok (.iload_n 1, 1) := by decide +kernel
theorem dur_Rb_chief_16 : decode urb_Rb_chief 16 = .ok (.invokevirtual 93, 3) := by decide +kernel
theorem dur_Rb_chief_19 : decode urb_Rb_chief 19 = .ok (.goto 4, 3) := by decide +kernel
theorem dur_Rb_chief_22 : decode urb_Rb_chief 22 = .ok (.iconst (-1), 1) := by decide +kernel
theorem dur_Rb_chief_23 : decode urb_Rb_chief 23 = .ok (.ireturn, 1) := by decide +kernel
theorem dur_Nm_isChief_0 : decode urb_Nm_isChief 0 = .ok (.aload_n 0, 1) := by decide +kernel
theorem dur_Nm_isChief_1 : decode urb_Nm_isChief 1 = .ok (.iload_n 1, 1) := by decide +kernel
theorem dur_Nm_isChief_2 : decode urb_Nm_isChief 2 = .ok (.invokevirtual 51, 3) := by decide +kernel
theorem dur_Nm_isChief_5 : decode urb_Nm_isChief 5 = .ok (.ifCond .eq 16, 3) := by decide +kernel
theorem dur_Nm_isChief_8 : decode urb_Nm_isChief 8 = .ok (.aload_n 0, 1) := by decide +kernel
theorem dur_Nm_isChief_9 : decode urb_Nm_isChief 9 = .ok (.iload_n 1, 1) := by decide +kernel
theorem dur_Nm_isChief_10 : decode urb_Nm_isChief 10 = .ok (.invokevirtual 62, 3) := by decide +kernel
theorem dur_Nm_isChief_13 : decode urb_Nm_isChief 13 = .ok (.iload_n 1, 1) := by decide +kernel
theorem dur_Nm_isChief_14 : decode urb_Nm_isChief 14 = .ok (.if_icmp .ne 7, 3) := by decide +kernel
theorem dur_Nm_isChief_17 : decode urb_Nm_isChief 17 = .ok (.iconst 1, 1) := by decide +kernel
theorem dur_Nm_isChief_18 : decode urb_Nm_isChief 18 = .ok (.goto 4, 3) := by decide +kernel
theorem dur_Nm_isChief_21 : decode urb_Nm_isChief 21 = .ok (.iconst 0, 1) := by decide +kernel
theorem dur_Nm_isChief_22 : decode urb_Nm_isChief 22 = .ok (.ireturn, 1) := by decide +kernel
theorem dur_So_setOut_0 : decode urb_So_setOut 0 = .ok (.iconst 0, 1) := by decide +kernel
theorem dur_So_setOut_1 : decode urb_So_setOut 1 = .ok (.istore_n 3, 1) := by decide +kernel
theorem dur_So_setOut_2 : decode urb_So_setOut 2 = .ok (.iload_n 3, 1) := by decide +kernel
theorem dur_So_setOut_3 : decode urb_So_setOut 3 = .ok (.aload_n 1, 1) := by decide +kernel
theorem dur_So_setOut_4 : decode urb_So_setOut 4 = .ok (.getfield 42, 3) := by decide +kernel
theorem dur_So_setOut_7 : decode urb_So_setOut 7 = .ok (.if_icmp .ge 38, 3) := by decide +kernel
theorem dur_So_setOut_10 : decode urb_So_setOut 10 = .ok (.aload_n 0, 1) := by decide +kernel
theorem dur_So_setOut_11 : decode urb_So_setOut 11 = .ok (.getfield 9, 3) := by decide +kernel
theorem dur_So_setOut_14 : decode urb_So_setOut 14 = .ok (.iload_n 3, 1) := by decide +kernel
theorem dur_So_setOut_15 : decode urb_So_setOut 15 = .ok (.aload_n 1, 1) := by decide +kernel
theorem dur_So_setOut_16 : decode urb_So_setOut 16 = .ok (.iload_n 3, 1) := by decide +kernel
theorem dur_So_setOut_17 : decode urb_So_setOut 17 = .ok (.invokevirtual 46, 3) := by decide +kernel
theorem dur_So_setOut_20 : decode urb_So_setOut 20 = .ok (.iload_n 2, 1) := by decide +kernel
theorem dur_So_setOut_21 : decode urb_So_setOut 21 = .ok (.if_icmp .ne 11, 3) := by decide +kernel
theorem dur_So_setOut_24 : decode urb_So_setOut 24 = .ok (.aload_n 1, 1) := by decide +kernel
theorem dur_So_setOut_25 : decode urb_So_setOut 25 = .ok (.iload_n 3, 1) := by decide +kernel
theorem dur_So_setOut_26 : decode urb_So_setOut 26 = .ok (.invokevirtual 49, 3) := by decide +kernel
theorem dur_So_setOut_29 : decode urb_So_setOut 29 = .ok (.goto 9, 3) := by decide +kernel
theorem dur_So_setOut_32 : decode urb_So_setOut 32 = .ok (.aload_n 1, 1) := by decide +kernel
theorem dur_So_setOut_33 : decode urb_So_setOut 33 = .ok (.getfield 52, 3) := by decide +kernel
theorem dur_So_setOut_36 : decode urb_So_setOut 36 = .ok (.iload_n 3, 1) := by decide +kernel
theorem dur_So_setOut_37 : decode urb_So_setOut 37 = .ok (.iaload, 1) := by decide +kernel
theorem dur_So_setOut_38 : decode urb_So_setOut 38 = .ok (.iastore, 1) := by decide +kernel
theorem dur_So_setOut_39 : decode urb_So_setOut 39 = .ok (.iinc 3 1, 3) := by decide +kernel
theorem dur_So_setOut_42 : decode urb_So_setOut 42 = .ok (.goto (-40), 3) := by decide +kernel
theorem dur_So_setOut_45 : decode urb_So_setOut 45 = .ok (.return_, 1) := by decide +kernel
theorem dur_So_lacksAtTarget_0 : decode urb_So_lacksAtTarget 0 = .ok (.aload_n 0, 1) := by decide +kernel
theorem dur_So_lacksAtTarget_1 : decode urb_So_lacksAtTarget 1 = .ok (.getfield 9, 3) := by decide +kernel
theorem dur_So_lacksAtTarget_4 : decode urb_So_lacksAtTarget 4 = .ok (.iload_n 2, 1) := by decide +kernel
theorem dur_So_lacksAtTarget_5 : decode urb_So_lacksAtTarget 5 = .ok (.iaload, 1) := by decide +kernel
theorem dur_So_lacksAtTarget_6 : decode urb_So_lacksAtTarget 6 = .ok (.istore_n 3, 1) := by decide +kernel
theorem dur_So_lacksAtTarget_7 : decode urb_So_lacksAtTarget 7 = .ok (.iload_n 3, 1) := by decide +kernel
theorem dur_So_lacksAtTarget_8 : decode urb_So_lacksAtTarget 8 = .ok (.ifCond .lt 9, 3) := by decide +kernel
theorem dur_So_lacksAtTarget_11 : decode urb_So_lacksAtTarget 11 = .ok (.iload_n 3, 1) := by decide +kernel
theorem dur_So_lacksAtTarget_12 : decode urb_So_lacksAtTarget 12 = .ok (.bipush 8, 2) := by decide +kernel
theorem dur_So_lacksAtTarget_14 : decode urb_So_lacksAtTarget 14 = .ok (.if_icmp .lt 5, 3) := by decide +kernel
theorem dur_So_lacksAtTarget_17 : decode urb_So_lacksAtTarget 17 = .ok (.iconst 0, 1) := by decide +kernel
theorem dur_So_lacksAtTarget_18 : decode urb_So_lacksAtTarget 18 = .ok (.ireturn, 1) := by decide +kernel
theorem dur_So_lacksAtTarget_19 : decode urb_So_lacksAtTarget 19 = .ok (.aload_n 1, 1) := by decide +kernel
theorem dur_So_lacksAtTarget_20 : decode urb_So_lacksAtTarget 20 = .ok (.getfield 26, 3) := by decide +kernel
theorem dur_So_lacksAtTarget_23 : decode urb_So_lacksAtTarget 23 = .ok (.iload_n 2, 1) := by decide +kernel
theorem dur_So_lacksAtTarget_24 : decode urb_So_lacksAtTarget 24 = .ok (.aaload, 1) := by decide +kernel
theorem dur_So_lacksAtTarget_25 : decode urb_So_lacksAtTarget 25 = .ok (.iload_n 3, 1) := by decide +kernel
theorem dur_So_lacksAtTarget_26 : decode urb_So_lacksAtTarget 26 = .ok (.iaload, 1) := by decide +kernel
theorem dur_So_lacksAtTarget_27 : decode urb_So_lacksAtTarget 27 = .ok (.istore 4, 2) := by decide +kernel
theorem dur_So_lacksAtTarget_29 : decode urb_So_lacksAtTarget 29 = .ok (.aload_n 1, 1) := by decide +kernel
theorem dur_So_lacksAtTarget_30 : decode urb_So_lacksAtTarget 30 = .ok (.iload 4, 2) := by decide +kernel
theorem dur_So_lacksAtTarget_32 : decode urb_So_lacksAtTarget 32 = .ok (.invokevirtual 59, 3) := by decide +kernel
theorem dur_So_lacksAtTarget_35 : decode urb_So_lacksAtTarget 35 = .ok (.ifCond .eq 25, 3) := by decide +kernel
theorem dur_So_lacksAtTarget_38 : decode urb_So_lacksAtTarget 38 = .ok (.aload_n 1, 1) := by decide +kernel
theorem dur_So_lacksAtTarget_39 : decode urb_So_lacksAtTarget 39 = .ok (.getfield 32, 3) := by decide +kernel
theorem dur_So_lacksAtTarget_42 : decode urb_So_lacksAtTarget 42 = .ok (.iload_n 2, 1) := by decide +kernel
theorem dur_So_lacksAtTarget_43 : decode urb_So_lacksAtTarget 43 = .ok (.aaload, 1) := by decide +kernel
theorem dur_So_lacksAtTarget_44 : decode urb_So_lacksAtTarget 44 = .ok (.iload_n 3, 1) := by decide +kernel
theorem dur_So_lacksAtTarget_45 : decode urb_So_lacksAtTarget 45 = .ok (.iaload, 1) := by decide +kernel
theorem dur_So_lacksAtTarget_46 : decode urb_So_lacksAtTarget 46 = .ok (.aload_n 0, 1) := by decide +kernel
theorem dur_So_lacksAtTarget_47 : decode urb_So_lacksAtTarget 47 = .ok (.getfield 9, 3) := by decide +kernel
theorem dur_So_lacksAtTarget_50 : decode urb_So_lacksAtTarget 50 = .ok (.iload 4, 2) := by decide +kernel
theorem dur_So_lacksAtTarget_52 : decode urb_So_lacksAtTarget 52 = .ok (.iaload, 1) := by decide +kernel
theorem dur_So_lacksAtTarget_53 : decode urb_So_lacksAtTarget 53 = .ok (.if_icmp .le 7, 3) := by decide +kernel
theorem dur_So_lacksAtTarget_56 : decode urb_So_lacksAtTarget 56 = .ok (.iconst 1, 1) := by decide +kernel
theorem dur_So_lacksAtTarget_57 : decode urb_So_lacksAtTarget 57 = .ok (.goto 4, 3) := by decide +kernel
theorem dur_So_lacksAtTarget_60 : decode urb_So_lacksAtTarget 60 = .ok (.iconst 0, 1) := by decide +kernel
theorem dur_So_lacksAtTarget_61 : decode urb_So_lacksAtTarget 61 = .ok (.ireturn, 1) := by decide +kernel
theorem dur_So_firstNeedy_0 : decode urb_So_firstNeedy 0 = .ok (.iconst 0, 1) := by decide +kernel
theorem dur_So_firstNeedy_1 : decode urb_So_firstNeedy 1 = .ok (.istore_n 2, 1) := by decide +kernel
theorem dur_So_firstNeedy_2 : decode urb_So_firstNeedy 2 = .ok (.iload_n 2, 1) := by decide +kernel
theorem dur_So_firstNeedy_3 : decode urb_So_firstNeedy 3 = .ok (.aload_n 1, 1) := by decide +kernel
theorem dur_So_firstNeedy_4 : decode urb_So_firstNeedy 4 = .ok (.getfield 42, 3) := by decide +kernel
theorem dur_So_firstNeedy_7 : decode urb_So_firstNeedy 7 = .ok (.if_icmp .ge 35, 3) := by decide +kernel
theorem dur_So_firstNeedy_10 : decode urb_So_firstNeedy 10 = .ok (.aload_n 0, 1) := by decide +kernel
theorem dur_So_firstNeedy_11 : decode urb_So_firstNeedy 11 = .ok (.getfield 9, 3) := by decide +kernel
theorem dur_So_firstNeedy_14 : decode urb_So_firstNeedy 14 = .ok (.iload_n 2, 1) := by decide +kernel
theorem dur_So_firstNeedy_15 : decode urb_So_firstNeedy 15 = .ok (.iaload, 1) := by decide +kernel
theorem dur_So_firstNeedy_16 : decode urb_So_firstNeedy 16 = .ok (.aload_n 1, 1) := by decide +kernel
theorem dur_So_firstNeedy_17 : decode urb_So_firstNeedy 17 = .ok (.getfield 52, 3) := by decide +kernel
theorem dur_So_firstNeedy_20 : decode urb_So_firstNeedy 20 = .ok (.iload_n 2, 1) := by decide +kernel
theorem dur_So_firstNeedy_21 : decode urb_So_firstNeedy 21 = .ok (.iaload, 1) := by decide +kernel
theorem dur_So_firstNeedy_22 : decode urb_So_firstNeedy 22 = .ok (.if_icmp .le 14, 3) := by decide +kernel
theorem dur_So_firstNeedy_25 : decode urb_So_firstNeedy 25 = .ok (.aload_n 0, 1) := by decide +kernel
theorem dur_So_firstNeedy_26 : decode urb_So_firstNeedy 26 = .ok (.aload_n 1, 1) := by decide +kernel
theorem dur_So_firstNeedy_27 : decode urb_So_firstNeedy 27 = .ok (.iload_n 2, 1) := by decide +kernel
theorem dur_So_firstNeedy_28 : decode urb_So_firstNeedy 28 = .ok (.invokevirtual 55, 3) := by decide +kernel
theorem dur_So_firstNeedy_31 : decode urb_So_firstNeedy 31 = .ok (.ifCond .eq 5, 3) := by decide +kernel
theorem dur_So_firstNeedy_34 : decode urb_So_firstNeedy 34 = .ok (.iload_n 2, 1) := by decide +kernel
theorem dur_So_firstNeedy_35 : decode urb_So_firstNeedy 35 = .ok (.ireturn, 1) := by decide +kernel
theorem dur_So_firstNeedy_36 : decode urb_So_firstNeedy 36 = .ok (.iinc 2 1, 3) := by decide +kernel
theorem dur_So_firstNeedy_39 : decode urb_So_firstNeedy 39 = .ok (.goto (-37), 3) := by decide +kernel
theorem dur_So_firstNeedy_42 : decode urb_So_firstNeedy 42 = .ok (.iconst (-1), 1) := by decide +kernel
theorem dur_So_firstNeedy_43 : decode urb_So_firstNeedy 43 = .ok (.ireturn, 1) := by decide +kernel
theorem dur_So_keepRaised_0 : decode urb_So_keepRaised 0 = .ok (.iconst 0, 1) := by decide +kernel
theorem dur_So_keepRaised_1 : decode urb_So_keepRaised 1 = .ok (.istore_n 2, 1) := by decide +kernel
theorem dur_So_keepRaised_2 : decode urb_So_keepRaised 2 = .ok (.iconst 0, 1) := by decide +kernel
theorem dur_So_keepRaised_3 : decode urb_So_keepRaised 3 = .ok (.istore_n 3, 1) := by decide +kernel
theorem dur_So_keepRaised_4 : decode urb_So_keepRaised 4 = .ok (.iload_n 3, 1) := by decide +kernel
theorem dur_So_keepRaised_5 : decode urb_So_keepRaised 5 = .ok (.bipush 12, 2) := by decide +kernel
theorem dur_So_keepRaised_7 : decode urb_So_keepRaised 7 = .ok (.if_icmp .ge 54, 3) := by decide +kernel
theorem dur_So_keepRaised_10 : decode urb_So_keepRaised 10 = .ok (.aload_n 0, 1) := by decide +kernel
theorem dur_So_keepRaised_11 : decode urb_So_keepRaised 11 = .ok (.getfield 15, 3) := by decide +kernel
theorem dur_So_keepRaised_14 : decode urb_So_keepRaised 14 = .ok (.iload_n 3, 1) := by decide +kernel
theorem dur_So_keepRaised_15 : decode urb_So_keepRaised 15 = .ok (.iconst (-1), 1) := by decide +kernel
theorem dur_So_keepRaised_16 : decode urb_So_keepRaised 16 = .ok (.iastore, 1) := by decide +kernel
theorem dur_So_keepRaised_17 : decode urb_So_keepRaised 17 = .ok (.iload_n 3, 1) := by decide +kernel
theorem dur_So_keepRaised_18 : decode urb_So_keepRaised 18 = .ok (.aload_n 1, 1) := by decide +kernel
theorem dur_So_keepRaised_19 : decode urb_So_keepRaised 19 = .ok (.getfield 42, 3) := by decide +kernel
theorem dur_So_keepRaised_22 : decode urb_So_keepRaised 22 = .ok (.if_icmp .ge 33, 3) := by decide +kernel
theorem dur_So_keepRaised_25 : decode urb_So_keepRaised 25 = .ok (.aload_n 0, 1) := by decide +kernel
theorem dur_So_keepRaised_26 : decode urb_So_keepRaised 26 = .ok (.getfield 9, 3) := by decide +kernel
theorem dur_So_keepRaised_29 : decode urb_So_keepRaised 29 = .ok (.iload_n 3, 1) := by decide +kernel
theorem dur_So_keepRaised_30 : decode urb_So_keepRaised 30 = .ok (.iaload, 1) := by decide +kernel
theorem dur_So_keepRaised_31 : decode urb_So_keepRaised 31 = .ok (.aload_n 1, 1) := by decide +kernel
theorem dur_So_keepRaised_32 : decode urb_So_keepRaised 32 = .ok (.getfield 52, 3) := by decide +kernel
theorem dur_So_keepRaised_35 : decode urb_So_keepRaised 35 = .ok (.iload_n 3, 1) := by decide +kernel
theorem dur_So_keepRaised_36 : decode urb_So_keepRaised 36 = .ok (.iaload, 1) := by decide +kernel
theorem dur_So_keepRaised_37 : decode urb_So_keepRaised 37 = .ok (.if_icmp .le 18, 3) := by decide +kernel
theorem dur_So_keepRaised_40 : decode urb_So_keepRaised 40 = .ok (.aload_n 0, 1) := by decide +kernel
theorem dur_So_keepRaised_41 : decode urb_So_keepRaised 41 = .ok (.getfield 15, 3) := by decide +kernel
theorem dur_So_keepRaised_44 : decode urb_So_keepRaised 44 = .ok (.iload_n 3, 1) := by decide +kernel
theorem dur_So_keepRaised_45 : decode urb_So_keepRaised 45 = .ok (.aload_n 0, 1) := by decide +kernel
theorem dur_So_keepRaised_46 : decode urb_So_keepRaised 46 = .ok (.getfield 9, 3) := by decide +kernel
theorem dur_So_keepRaised_49 : decode urb_So_keepRaised 49 = .ok (.iload_n 3, 1) := by decide +kernel
theorem dur_So_keepRaised_50 : decode urb_So_keepRaised 50 = .ok (.iaload, 1) := by decide +kernel
theorem dur_So_keepRaised_51 : decode urb_So_keepRaised 51 = .ok (.iastore, 1) := by decide +kernel
theorem dur_So_keepRaised_52 : decode urb_So_keepRaised 52 = .ok (.iinc 2 1, 3) := by decide +kernel
theorem dur_So_keepRaised_55 : decode urb_So_keepRaised 55 = .ok (.iinc 3 1, 3) := by decide +kernel
theorem dur_So_keepRaised_58 : decode urb_So_keepRaised 58 = .ok (.goto (-54), 3) := by decide +kernel
theorem dur_So_keepRaised_61 : decode urb_So_keepRaised 61 = .ok (.iload_n 2, 1) := by decide +kernel
theorem dur_So_keepRaised_62 : decode urb_So_keepRaised 62 = .ok (.ireturn, 1) := by decide +kernel
theorem dur_So_solveUnit_0 : decode urb_So_solveUnit 0 = .ok (.aload_n 0, 1) := by decide +kernel
theorem dur_So_solveUnit_1 : decode urb_So_solveUnit 1 = .ok (.aload_n 1, 1) := by decide +kernel
theorem dur_So_solveUnit_2 : decode urb_So_solveUnit 2 = .ok (.iload_n 2, 1) := by decide +kernel
theorem dur_So_solveUnit_3 : decode urb_So_solveUnit 3 = .ok (.invokevirtual 18, 3) := by decide +kernel
theorem dur_So_solveUnit_6 : decode urb_So_solveUnit 6 = .ok (.iconst 0, 1) := by decide +kernel
theorem dur_So_solveUnit_7 : decode urb_So_solveUnit 7 = .ok (.istore_n 3, 1) := by decide +kernel
theorem dur_So_solveUnit_8 : decode urb_So_solveUnit 8 = .ok (.iload_n 3, 1) := by decide +kernel
theorem dur_So_solveUnit_9 : decode urb_So_solveUnit 9 = .ok (.bipush 96, 2) := by decide +kernel
theorem dur_So_solveUnit_11 : decode urb_So_solveUnit 11 = .ok (.if_icmp .ge 85, 3) := by decide +kernel
theorem dur_So_solveUnit_14 : decode urb_So_solveUnit 14 = .ok (.aload_n 0, 1) := by decide +kernel
theorem dur_So_solveUnit_15 : decode urb_So_solveUnit 15 = .ok (.aload_n 1, 1) := by decide +kernel
theorem dur_So_solveUnit_16 : decode urb_So_solveUnit 16 = .ok (.invokevirtual 22, 3) := by decide +kernel
theorem dur_So_solveUnit_19 : decode urb_So_solveUnit 19 = .ok (.istore 4, 2) := by decide +kernel
theorem dur_So_solveUnit_21 : decode urb_So_solveUnit 21 = .ok (.iload 4, 2) := by decide +kernel
theorem dur_So_solveUnit_23 : decode urb_So_solveUnit 23 = .ok (.iconst (-1), 1) := by decide +kernel
theorem dur_So_solveUnit_24 : decode urb_So_solveUnit 24 = .ok (.if_icmp .ne 6, 3) := by decide +kernel
theorem dur_So_solveUnit_27 : decode urb_So_solveUnit 27 = .ok (.goto 69, 3) := by decide +kernel
theorem dur_So_solveUnit_30 : decode urb_So_solveUnit 30 = .ok (.aload_n 1, 1) := by decide +kernel
theorem dur_So_solveUnit_31 : decode urb_So_solveUnit 31 = .ok (.getfield 26, 3) := by decide +kernel
theorem dur_So_solveUnit_34 : decode urb_So_solveUnit 34 = .ok (.iload 4, 2) := by decide +kernel
theorem dur_So_solveUnit_36 : decode urb_So_solveUnit 36 = .ok (.aaload, 1) := by decide +kernel
theorem dur_So_solveUnit_37 : decode urb_So_solveUnit 37 = .ok (.aload_n 0, 1) := by decide +kernel
theorem dur_So_solveUnit_38 : decode urb_So_solveUnit 38 = .ok (.getfield 9, 3) := by decide +kernel
theorem dur_So_solveUnit_41 : decode urb_So_solveUnit 41 = .ok (.iload 4, 2) := by decide +kernel
theorem dur_So_solveUnit_43 : decode urb_So_solveUnit 43 = .ok (.iaload, 1) := by decide +kernel
theorem dur_So_solveUnit_44 : decode urb_So_solveUnit 44 = .ok (.iaload, 1) := by decide +kernel
theorem dur_So_solveUnit_45 : decode urb_So_solveUnit 45 = .ok (.istore 5, 2) := by decide +kernel
theorem dur_So_solveUnit_47 : decode urb_So_solveUnit 47 = .ok (.aload_n 1, 1) := by decide +kernel
theorem dur_So_solveUnit_48 : decode urb_So_solveUnit 48 = .ok (.getfield 32, 3) := by decide +kernel
theorem dur_So_solveUnit_51 : decode urb_So_solveUnit 51 = .ok (.iload 4, 2) := by decide +kernel
theorem dur_So_solveUnit_53 : decode urb_So_solveUnit 53 = .ok (.aaload, 1) := by decide +kernel
theorem dur_So_solveUnit_54 : decode urb_So_solveUnit 54 = .ok (.aload_n 0, 1) := by decide +kernel
theorem dur_So_solveUnit_55 : decode urb_So_solveUnit 55 = .ok (.getfield 9, 3) := by decide +kernel
theorem dur_So_solveUnit_58 : decode urb_So_solveUnit 58 = .ok (.iload 4, 2) := by decide +kernel
theorem dur_So_solveUnit_60 : decode urb_So_solveUnit 60 = .ok (.iaload, 1) := by decide +kernel
theorem dur_So_solveUnit_61 : decode urb_So_solveUnit 61 = .ok (.iaload, 1) := by decide +kernel
theorem dur_So_solveUnit_62 : decode urb_So_solveUnit 62 = .ok (.istore 6, 2) := by decide +kernel
theorem dur_So_solveUnit_64 : decode urb_So_solveUnit 64 = .ok (.iload 6, 2) := by decide +kernel
theorem dur_So_solveUnit_66 : decode urb_So_solveUnit 66 = .ok (.aload_n 1, 1) := by decide +kernel
theorem dur_So_solveUnit_67 : decode urb_So_solveUnit 67 = .ok (.iload 5, 2) := by decide +kernel
theorem dur_So_solveUnit_69 : decode urb_So_solveUnit 69 = .ok (.invokevirtual 35, 3) := by decide +kernel
theorem dur_So_solveUnit_72 : decode urb_So_solveUnit 72 = .ok (.if_icmp .le 9, 3) := by decide +kernel
theorem dur_So_solveUnit_75 : decode urb_So_solveUnit 75 = .ok (.bipush (-2), 2) := by decide +kernel
theorem dur_So_solveUnit_77 : decode urb_So_solveUnit 77 = .ok (.iload 5, 2) := by decide +kernel
theorem dur_So_solveUnit_79 : decode urb_So_solveUnit 79 = .ok (.isub, 1) := by decide +kernel
theorem dur_So_solveUnit_80 : decode urb_So_solveUnit 80 = .ok (.ireturn, 1) := by decide +kernel
theorem dur_So_solveUnit_81 : decode urb_So_solveUnit 81 = .ok (.aload_n 0, 1) := by decide +kernel
theorem dur_So_solveUnit_82 : decode urb_So_solveUnit 82 = .ok (.getfield 9, 3) := by decide +kernel
theorem dur_So_solveUnit_85 : decode urb_So_solveUnit 85 = .ok (.iload 5, 2) := by decide +kernel
theorem dur_So_solveUnit_87 : decode urb_So_solveUnit 87 = .ok (.iload 6, 2) := by decide +kernel
theorem dur_So_solveUnit_89 : decode urb_So_solveUnit 89 = .ok (.iastore, 1) := by decide +kernel
theorem dur_So_solveUnit_90 : decode urb_So_solveUnit 90 = .ok (.iinc 3 1, 3) := by decide +kernel
theorem dur_So_solveUnit_93 : decode urb_So_solveUnit 93 = .ok (.goto (-85), 3) := by decide +kernel
theorem dur_So_solveUnit_96 : decode urb_So_solveUnit 96 = .ok (.aload_n 0, 1) := by decide +kernel
theorem dur_So_solveUnit_97 : decode urb_So_solveUnit 97 = .ok (.aload_n 1, 1) := by decide +kernel
theorem dur_So_solveUnit_98 : decode urb_So_solveUnit 98 = .ok (.invokevirtual 39, 3) := by decide +kernel
theorem dur_So_solveUnit_101 : decode urb_So_solveUnit 101 = .ok (.ireturn, 1) := by decide +kernel
theorem dur_Rb_solve_0 : decode urb_Rb_solve 0 = .ok (.aload_n 0, 1) := by decide +kernel
theorem dur_Rb_solve_1 : decode urb_Rb_solve 1 = .ok (.getfield 25, 3) := by decide +kernel
theorem dur_Rb_solve_4 : decode urb_Rb_solve 4 = .ok (.iload_n 1, 1) := by decide +kernel
theorem dur_Rb_solve_5 : decode urb_Rb_solve 5 = .ok (.invokevirtual 96, 3) := by decide +kernel
theorem dur_Rb_solve_8 : decode urb_Rb_solve 8 = .ok (.ifCond .eq 18, 3) := by decide +kernel
theorem dur_Rb_solve_11 : decode urb_Rb_solve 11 = .ok (.aload_n 0, 1) := by decide +kernel
theorem dur_Rb_solve_12 : decode urb_Rb_solve 12 = .ok (.getfield 32, 3) := by decide +kernel
theorem dur_Rb_solve_15 : decode urb_Rb_solve 15 = .ok (.aload_n 0, 1) := by decide +kernel
theorem dur_Rb_solve_16 : decode urb_Rb_solve 16 = .ok (.getfield 25, 3) := by decide +kernel
theorem dur_Rb_solve_19 : decode urb_Rb_solve 19 = .ok (.iload_n 1, 1) := by decide +kernel
theorem dur_Rb_solve_20 : decode urb_Rb_solve 20 = .ok (.invokevirtual 99, 3) := by decide +kernel
theorem dur_Rb_solve_23 : decode urb_Rb_solve 23 = .ok (.goto 4, 3) := by decide +kernel
theorem dur_Rb_solve_26 : decode urb_Rb_solve 26 = .ok (.iconst (-1), 1) := by decide +kernel
theorem dur_Rb_solve_27 : decode urb_Rb_solve 27 = .ok (.ireturn, 1) := by decide +kernel
theorem dur_Rb_tick_0 : decode urb_Rb_tick 0 = .ok (.iload_n 1, 1) := by decide +kernel
theorem dur_Rb_tick_1 : decode urb_Rb_tick 1 = .ok (.ifCond .lt 20, 3) := by decide +kernel
theorem dur_Rb_tick_4 : decode urb_Rb_tick 4 = .ok (.iload_n 1, 1) := by decide +kernel
theorem dur_Rb_tick_5 : decode urb_Rb_tick 5 = .ok (.ldc 103, 2) := by decide +kernel
theorem dur_Rb_tick_7 : decode urb_Rb_tick 7 = .ok (.if_icmp .gt 14, 3) := by decide +kernel
theorem dur_Rb_tick_10 : decode urb_Rb_tick 10 = .ok (.iload_n 1, 1) := by decide +kernel
theorem dur_Rb_tick_11 : decode urb_Rb_tick 11 = .ok (.ldc 104, 2) := by decide +kernel
theorem dur_Rb_tick_13 : decode urb_Rb_tick 13 = .ok (.aload_n 0, 1) := by decide +kernel
theorem dur_Rb_tick_14 : decode urb_Rb_tick 14 = .ok (.getfield 43, 3) := by decide +kernel
theorem dur_Rb_tick_17 : decode urb_Rb_tick 17 = .ok (.isub, 1) := by decide +kernel
theorem dur_Rb_tick_18 : decode urb_Rb_tick 18 = .ok (.if_icmp .le 5, 3) := by decide +kernel
theorem dur_Rb_tick_21 : decode urb_Rb_tick 21 = .ok (.iconst (-1), 1) := by decide +kernel
theorem dur_Rb_tick_22 : decode urb_Rb_tick 22 = .ok (.ireturn, 1) := by decide +kernel
theorem dur_Rb_tick_23 : decode urb_Rb_tick 23 = .ok (.aload_n 0, 1) := by decide +kernel
theorem dur_Rb_tick_24 : decode urb_Rb_tick 24 = .ok (.dup, 1) := by decide +kernel
theorem dur_Rb_tick_25 : decode urb_Rb_tick 25 = .ok (.getfield 43, 3) := by decide +kernel
theorem dur_Rb_tick_28 : decode urb_Rb_tick 28 = .ok (.iload_n 1, 1) := by decide +kernel
theorem dur_Rb_tick_29 : decode urb_Rb_tick 29 = .ok (.iadd, 1) := by decide +kernel
theorem dur_Rb_tick_30 : decode urb_Rb_tick 30 = .ok (.putfield 43, 3) := by decide +kernel
theorem dur_Rb_tick_33 : decode urb_Rb_tick 33 = .ok (.aload_n 0, 1) := by decide +kernel
theorem dur_Rb_tick_34 : decode urb_Rb_tick 34 = .ok (.getfield 43, 3) := by decide +kernel
theorem dur_Rb_tick_37 : decode urb_Rb_tick 37 = .ok (.ireturn, 1) := by decide +kernel
theorem dur_Nm_isUnitHit_0 : decode urb_Nm_isUnitHit 0 = .ok (.iconst 0, 1) := by decide +kernel
theorem dur_Nm_isUnitHit_1 : decode urb_Nm_isUnitHit 1 = .ok (.istore_n 2, 1) := by decide +kernel
theorem dur_Nm_isUnitHit_2 : decode urb_Nm_isUnitHit 2 = .ok (.iload_n 2, 1) := by decide +kernel
theorem dur_Nm_isUnitHit_3 : decode urb_Nm_isUnitHit 3 = .ok (.aload_n 0, 1) := by decide +kernel
theorem dur_Nm_isUnitHit_4 : decode urb_Nm_isUnitHit 4 = .ok (.getfield 9, 3) := by decide +kernel
theorem dur_Nm_isUnitHit_7 : decode urb_Nm_isUnitHit 7 = .ok (.if_icmp .ge 28, 3) := by decide +kernel
theorem dur_Nm_isUnitHit_10 : decode urb_Nm_isUnitHit 10 = .ok (.aload_n 0, 1) := by decide +kernel
theorem dur_Nm_isUnitHit_11 : decode urb_Nm_isUnitHit 11 = .ok (.iload_n 2, 1) := by decide +kernel
theorem dur_Nm_isUnitHit_12 : decode urb_Nm_isUnitHit 12 = .ok (.invokevirtual 59, 3) := by decide +kernel
theorem dur_Nm_isUnitHit_15 : decode urb_Nm_isUnitHit 15 = .ok (.ifCond .eq 14, 3) := by decide +kernel
theorem dur_Nm_isUnitHit_18 : decode urb_Nm_isUnitHit 18 = .ok (.aload_n 0, 1) := by decide +kernel
theorem dur_Nm_isUnitHit_19 : decode urb_Nm_isUnitHit 19 = .ok (.iload_n 2, 1) := by decide +kernel
theorem dur_Nm_isUnitHit_20 : decode urb_Nm_isUnitHit 20 = .ok (.invokevirtual 62, 3) := by decide +kernel
theorem dur_Nm_isUnitHit_23 : decode urb_Nm_isUnitHit 23 = .ok (.iload_n 1, 1) := by decide +kernel
theorem dur_Nm_isUnitHit_24 : decode urb_Nm_isUnitHit 24 = .ok (.if_icmp .ne 5, 3) := by decide +kernel
theorem dur_Nm_isUnitHit_27 : decode urb_Nm_isUnitHit 27 = .ok (.iconst 1, 1) := by decide +kernel
theorem dur_Nm_isUnitHit_28 : decode urb_Nm_isUnitHit 28 = .ok (.ireturn, 1) := by decide +kernel
theorem dur_Nm_isUnitHit_29 : decode urb_Nm_isUnitHit 29 = .ok (.iinc 2 1, 3) := by decide +kernel
theorem dur_Nm_isUnitHit_32 : decode urb_Nm_isUnitHit 32 = .ok (.goto (-30), 3) := by decide +kernel
theorem dur_Nm_isUnitHit_35 : decode urb_Nm_isUnitHit 35 = .ok (.iconst 0, 1) := by decide +kernel
theorem dur_Nm_isUnitHit_36 : decode urb_Nm_isUnitHit 36 = .ok (.ireturn, 1) := by decide +kernel
theorem dur_Nm_leastEvery_0 : decode urb_Nm_leastEvery 0 = .ok (.sipush 1000, 3) := by decide +kernel
theorem dur_Nm_leastEvery_3 : decode urb_Nm_leastEvery 3 = .ok (.istore_n 2, 1) := by decide +kernel
theorem dur_Nm_leastEvery_4 : decode urb_Nm_leastEvery 4 = .ok (.iconst 0, 1) := by decide +kernel
theorem dur_Nm_leastEvery_5 : decode urb_Nm_leastEvery 5 = .ok (.istore_n 3, 1) := by decide +kernel
theorem dur_Nm_leastEvery_6 : decode urb_Nm_leastEvery 6 = .ok (.iload_n 3, 1) := by decide +kernel
theorem dur_Nm_leastEvery_7 : decode urb_Nm_leastEvery 7 = .ok (.aload_n 0, 1) := by decide +kernel
theorem dur_Nm_leastEvery_8 : decode urb_Nm_leastEvery 8 = .ok (.getfield 9, 3) := by decide +kernel
theorem dur_Nm_leastEvery_11 : decode urb_Nm_leastEvery 11 = .ok (.if_icmp .ge 29, 3) := by decide +kernel
theorem dur_Nm_leastEvery_14 : decode urb_Nm_leastEvery 14 = .ok (.aload_n 0, 1) := by decide +kernel
theorem dur_Nm_leastEvery_15 : decode urb_Nm_leastEvery 15 = .ok (.iload_n 3, 1) := by decide +kernel
theorem dur_Nm_leastEvery_16 : decode urb_Nm_leastEvery 16 = .ok (.invokevirtual 62, 3) := by decide +kernel
theorem dur_Nm_leastEvery_19 : decode urb_Nm_leastEvery 19 = .ok (.iload_n 1, 1) := by decide +kernel
