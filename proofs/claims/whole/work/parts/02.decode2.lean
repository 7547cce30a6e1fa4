theorem dur_Nm_leastEvery_20 : decode urb_Nm_leastEvery 20 = .ok (.if_icmp .ne 14, 3) := by decide +kernel
theorem dur_Nm_leastEvery_23 : decode urb_Nm_leastEvery 23 = .ok (.iload_n 2, 1) := by decide +kernel
theorem dur_Nm_leastEvery_24 : decode urb_Nm_leastEvery 24 = .ok (.aload_n 0, 1) := by decide +kernel
theorem dur_Nm_leastEvery_25 : decode urb_Nm_leastEvery 25 = .ok (.getfield 28, 3) := by decide +kernel
theorem dur_Nm_leastEvery_28 : decode urb_Nm_leastEvery 28 = .ok (.iload_n 3, 1) := by decide +kernel
theorem dur_Nm_leastEvery_29 : decode urb_Nm_leastEvery 29 = .ok (.iaload, 1) := by decide +kernel
theorem dur_Nm_leastEvery_30 : decode urb_Nm_leastEvery 30 = .ok (.invokestatic 65, 3) := by decide +kernel
theorem dur_Nm_leastEvery_33 : decode urb_Nm_leastEvery 33 = .ok (.istore_n 2, 1) := by decide +kernel
theorem dur_Nm_leastEvery_34 : decode urb_Nm_leastEvery 34 = .ok (.iinc 3 1, 3) := by decide +kernel
theorem dur_Nm_leastEvery_37 : decode urb_Nm_leastEvery 37 = .ok (.goto (-31), 3) := by decide +kernel
theorem dur_Nm_leastEvery_40 : decode urb_Nm_leastEvery 40 = .ok (.iload_n 2, 1) := by decide +kernel
theorem dur_Nm_leastEvery_41 : decode urb_Nm_leastEvery 41 = .ok (.ireturn, 1) := by decide +kernel
theorem dur_Rb_isDue_0 : decode urb_Rb_isDue 0 = .ok (.aload_n 0, 1) := by decide +kernel
theorem dur_Rb_isDue_1 : decode urb_Rb_isDue 1 = .ok (.getfield 25, 3) := by decide +kernel
theorem dur_Rb_isDue_4 : decode urb_Rb_isDue 4 = .ok (.getfield 112, 3) := by decide +kernel
theorem dur_Rb_isDue_7 : decode urb_Rb_isDue 7 = .ok (.iload_n 1, 1) := by decide +kernel
theorem dur_Rb_isDue_8 : decode urb_Rb_isDue 8 = .ok (.iaload, 1) := by decide +kernel
theorem dur_Rb_isDue_9 : decode urb_Rb_isDue 9 = .ok (.istore_n 2, 1) := by decide +kernel
theorem dur_Rb_isDue_10 : decode urb_Rb_isDue 10 = .ok (.iload_n 2, 1) := by decide +kernel
theorem dur_Rb_isDue_11 : decode urb_Rb_isDue 11 = .ok (.iconst (-1), 1) := by decide +kernel
theorem dur_Rb_isDue_12 : decode urb_Rb_isDue 12 = .ok (.if_icmp .eq 31, 3) := by decide +kernel
theorem dur_Rb_isDue_15 : decode urb_Rb_isDue 15 = .ok (.aload_n 0, 1) := by decide +kernel
theorem dur_Rb_isDue_16 : decode urb_Rb_isDue 16 = .ok (.getfield 25, 3) := by decide +kernel
theorem dur_Rb_isDue_19 : decode urb_Rb_isDue 19 = .ok (.iload_n 1, 1) := by decide +kernel
theorem dur_Rb_isDue_20 : decode urb_Rb_isDue 20 = .ok (.invokevirtual 152, 3) := by decide +kernel
theorem dur_Rb_isDue_23 : decode urb_Rb_isDue 23 = .ok (.ifCond .ne 20, 3) := by decide +kernel
theorem dur_Rb_isDue_26 : decode urb_Rb_isDue 26 = .ok (.aload_n 0, 1) := by decide +kernel
theorem dur_Rb_isDue_27 : decode urb_Rb_isDue 27 = .ok (.getfield 43, 3) := by decide +kernel
theorem dur_Rb_isDue_30 : decode urb_Rb_isDue 30 = .ok (.iload_n 2, 1) := by decide +kernel
theorem dur_Rb_isDue_31 : decode urb_Rb_isDue 31 = .ok (.isub, 1) := by decide +kernel
theorem dur_Rb_isDue_32 : decode urb_Rb_isDue 32 = .ok (.aload_n 0, 1) := by decide +kernel
theorem dur_Rb_isDue_33 : decode urb_Rb_isDue 33 = .ok (.getfield 25, 3) := by decide +kernel
theorem dur_Rb_isDue_36 : decode urb_Rb_isDue 36 = .ok (.iload_n 1, 1) := by decide +kernel
theorem dur_Rb_isDue_37 : decode urb_Rb_isDue 37 = .ok (.invokevirtual 155, 3) := by decide +kernel
theorem dur_Rb_isDue_40 : decode urb_Rb_isDue 40 = .ok (.if_icmp .lt 7, 3) := by decide +kernel
theorem dur_Rb_isDue_43 : decode urb_Rb_isDue 43 = .ok (.iconst 1, 1) := by decide +kernel
theorem dur_Rb_isDue_44 : decode urb_Rb_isDue 44 = .ok (.goto 4, 3) := by decide +kernel
theorem dur_Rb_isDue_47 : decode urb_Rb_isDue 47 = .ok (.iconst 0, 1) := by decide +kernel
theorem dur_Rb_isDue_48 : decode urb_Rb_isDue 48 = .ok (.ireturn, 1) := by decide +kernel
theorem dur_Pr_latestOf_0 : decode urb_Pr_latestOf 0 = .ok (.aload_n 0, 1) := by decide +kernel
theorem dur_Pr_latestOf_1 : decode urb_Pr_latestOf 1 = .ok (.getfield 9, 3) := by decide +kernel
theorem dur_Pr_latestOf_4 : decode urb_Pr_latestOf 4 = .ok (.iconst 1, 1) := by decide +kernel
theorem dur_Pr_latestOf_5 : decode urb_Pr_latestOf 5 = .ok (.isub, 1) := by decide +kernel
theorem dur_Pr_latestOf_6 : decode urb_Pr_latestOf 6 = .ok (.istore_n 3, 1) := by decide +kernel
theorem dur_Pr_latestOf_7 : decode urb_Pr_latestOf 7 = .ok (.iload_n 3, 1) := by decide +kernel
theorem dur_Pr_latestOf_8 : decode urb_Pr_latestOf 8 = .ok (.ifCond .lt 31, 3) := by decide +kernel
theorem dur_Pr_latestOf_11 : decode urb_Pr_latestOf 11 = .ok (.aload_n 0, 1) := by decide +kernel
theorem dur_Pr_latestOf_12 : decode urb_Pr_latestOf 12 = .ok (.getfield 19, 3) := by decide +kernel
theorem dur_Pr_latestOf_15 : decode urb_Pr_latestOf 15 = .ok (.iload_n 3, 1) := by decide +kernel
theorem dur_Pr_latestOf_16 : decode urb_Pr_latestOf 16 = .ok (.iaload, 1) := by decide +kernel
theorem dur_Pr_latestOf_17 : decode urb_Pr_latestOf 17 = .ok (.iload_n 1, 1) := by decide +kernel
theorem dur_Pr_latestOf_18 : decode urb_Pr_latestOf 18 = .ok (.if_icmp .ne 15, 3) := by decide +kernel
theorem dur_Pr_latestOf_21 : decode urb_Pr_latestOf 21 = .ok (.aload_n 0, 1) := by decide +kernel
theorem dur_Pr_latestOf_22 : decode urb_Pr_latestOf 22 = .ok (.getfield 15, 3) := by decide +kernel
theorem dur_Pr_latestOf_25 : decode urb_Pr_latestOf 25 = .ok (.iload_n 3, 1) := by decide +kernel
theorem dur_Pr_latestOf_26 : decode urb_Pr_latestOf 26 = .ok (.iaload, 1) := by decide +kernel
theorem dur_Pr_latestOf_27 : decode urb_Pr_latestOf 27 = .ok (.iload_n 2, 1) := by decide +kernel
theorem dur_Pr_latestOf_28 : decode urb_Pr_latestOf 28 = .ok (.if_icmp .ne 5, 3) := by decide +kernel
theorem dur_Pr_latestOf_31 : decode urb_Pr_latestOf 31 = .ok (.iload_n 3, 1) := by decide +kernel
theorem dur_Pr_latestOf_32 : decode urb_Pr_latestOf 32 = .ok (.ireturn, 1) := by decide +kernel
theorem dur_Pr_latestOf_33 : decode urb_Pr_latestOf 33 = .ok (.iinc 3 (-1), 3) := by decide +kernel
theorem dur_Pr_latestOf_36 : decode urb_Pr_latestOf 36 = .ok (.goto (-29), 3) := by decide +kernel
theorem dur_Pr_latestOf_39 : decode urb_Pr_latestOf 39 = .ok (.iconst (-1), 1) := by decide +kernel
theorem dur_Pr_latestOf_40 : decode urb_Pr_latestOf 40 = .ok (.ireturn, 1) := by decide +kernel
theorem dur_Pr_openOf_0 : decode urb_Pr_openOf 0 = .ok (.aload_n 0, 1) := by decide +kernel
theorem dur_Pr_openOf_1 : decode urb_Pr_openOf 1 = .ok (.iload_n 1, 1) := by decide +kernel
theorem dur_Pr_openOf_2 : decode urb_Pr_openOf 2 = .ok (.iconst 0, 1) := by decide +kernel
theorem dur_Pr_openOf_3 : decode urb_Pr_openOf 3 = .ok (.invokevirtual 49, 3) := by decide +kernel
theorem dur_Pr_openOf_6 : decode urb_Pr_openOf 6 = .ok (.ireturn, 1) := by decide +kernel
theorem dur_Pr_isKnown_0 : decode urb_Pr_isKnown 0 = .ok (.iload_n 1, 1) := by decide +kernel
theorem dur_Pr_isKnown_1 : decode urb_Pr_isKnown 1 = .ok (.ifCond .lt 15, 3) := by decide +kernel
theorem dur_Pr_isKnown_4 : decode urb_Pr_isKnown 4 = .ok (.iload_n 1, 1) := by decide +kernel
theorem dur_Pr_isKnown_5 : decode urb_Pr_isKnown 5 = .ok (.aload_n 0, 1) := by decide +kernel
theorem dur_Pr_isKnown_6 : decode urb_Pr_isKnown 6 = .ok (.getfield 9, 3) := by decide +kernel
theorem dur_Pr_isKnown_9 : decode urb_Pr_isKnown 9 = .ok (.if_icmp .ge 7, 3) := by decide +kernel
theorem dur_Pr_isKnown_12 : decode urb_Pr_isKnown 12 = .ok (.iconst 1, 1) := by decide +kernel
theorem dur_Pr_isKnown_13 : decode urb_Pr_isKnown 13 = .ok (.goto 4, 3) := by decide +kernel
theorem dur_Pr_isKnown_16 : decode urb_Pr_isKnown 16 = .ok (.iconst 0, 1) := by decide +kernel
theorem dur_Pr_isKnown_17 : decode urb_Pr_isKnown 17 = .ok (.ireturn, 1) := by decide +kernel
theorem dur_Pr_closeIfAny_0 : decode urb_Pr_closeIfAny 0 = .ok (.aload_n 0, 1) := by decide +kernel
theorem dur_Pr_closeIfAny_1 : decode urb_Pr_closeIfAny 1 = .ok (.iload_n 1, 1) := by decide +kernel
theorem dur_Pr_closeIfAny_2 : decode urb_Pr_closeIfAny 2 = .ok (.invokevirtual 37, 3) := by decide +kernel
theorem dur_Pr_closeIfAny_5 : decode urb_Pr_closeIfAny 5 = .ok (.ifCond .eq 10, 3) := by decide +kernel
theorem dur_Pr_closeIfAny_8 : decode urb_Pr_closeIfAny 8 = .ok (.aload_n 0, 1) := by decide +kernel
theorem dur_Pr_closeIfAny_9 : decode urb_Pr_closeIfAny 9 = .ok (.getfield 15, 3) := by decide +kernel
theorem dur_Pr_closeIfAny_12 : decode urb_Pr_closeIfAny 12 = .ok (.iload_n 1, 1) := by decide +kernel
theorem dur_Pr_closeIfAny_13 : decode urb_Pr_closeIfAny 13 = .ok (.iload_n 2, 1) := by decide +kernel
theorem dur_Pr_closeIfAny_14 : decode urb_Pr_closeIfAny 14 = .ok (.iastore, 1) := by decide +kernel
theorem dur_Pr_closeIfAny_15 : decode urb_Pr_closeIfAny 15 = .ok (.return_, 1) := by decide +kernel
theorem dur_Pr_raisesJust_0 : decode urb_Pr_raisesJust 0 = .ok (.aload_n 0, 1) := by decide +kernel
theorem dur_Pr_raisesJust_1 : decode urb_Pr_raisesJust 1 = .ok (.iload_n 1, 1) := by decide +kernel
theorem dur_Pr_raisesJust_2 : decode urb_Pr_raisesJust 2 = .ok (.invokevirtual 37, 3) := by decide +kernel
theorem dur_Pr_raisesJust_5 : decode urb_Pr_raisesJust 5 = .ok (.ifCond .ne 5, 3) := by decide +kernel
theorem dur_Pr_raisesJust_8 : decode urb_Pr_raisesJust 8 = .ok (.iconst 0, 1) := by decide +kernel
theorem dur_Pr_raisesJust_9 : decode urb_Pr_raisesJust 9 = .ok (.ireturn, 1) := by decide +kernel
theorem dur_Pr_raisesJust_10 : decode urb_Pr_raisesJust 10 = .ok (.iconst 0, 1) := by decide +kernel
theorem dur_Pr_raisesJust_11 : decode urb_Pr_raisesJust 11 = .ok (.istore_n 3, 1) := by decide +kernel
theorem dur_Pr_raisesJust_12 : decode urb_Pr_raisesJust 12 = .ok (.iload_n 3, 1) := by decide +kernel
theorem dur_Pr_raisesJust_13 : decode urb_Pr_raisesJust 13 = .ok (.bipush 12, 2) := by decide +kernel
theorem dur_Pr_raisesJust_15 : decode urb_Pr_raisesJust 15 = .ok (.if_icmp .ge 31, 3) := by decide +kernel
theorem dur_Pr_raisesJust_18 : decode urb_Pr_raisesJust 18 = .ok (.iload_n 3, 1) := by decide +kernel
theorem dur_Pr_raisesJust_19 : decode urb_Pr_raisesJust 19 = .ok (.aload_n 2, 1) := by decide +kernel
theorem dur_Pr_raisesJust_20 : decode urb_Pr_raisesJust 20 = .ok (.arraylength, 1) := by decide +kernel
theorem dur_Pr_raisesJust_21 : decode urb_Pr_raisesJust 21 = .ok (.if_icmp .ge 25, 3) := by decide +kernel
theorem dur_Pr_raisesJust_24 : decode urb_Pr_raisesJust 24 = .ok (.aload_n 0, 1) := by decide +kernel
theorem dur_Pr_raisesJust_25 : decode urb_Pr_raisesJust 25 = .ok (.getfield 34, 3) := by decide +kernel
theorem dur_Pr_raisesJust_28 : decode urb_Pr_raisesJust 28 = .ok (.iload_n 1, 1) := by decide +kernel
theorem dur_Pr_raisesJust_29 : decode urb_Pr_raisesJust 29 = .ok (.aaload, 1) := by decide +kernel
theorem dur_Pr_raisesJust_30 : decode urb_Pr_raisesJust 30 = .ok (.iload_n 3, 1) := by decide +kernel
theorem dur_Pr_raisesJust_31 : decode urb_Pr_raisesJust 31 = .ok (.iaload, 1) := by decide +kernel
theorem dur_Pr_raisesJust_32 : decode urb_Pr_raisesJust 32 = .ok (.aload_n 2, 1) := by decide +kernel
theorem dur_Pr_raisesJust_33 : decode urb_Pr_raisesJust 33 = .ok (.iload_n 3, 1) := by decide +kernel
theorem dur_Pr_raisesJust_34 : decode urb_Pr_raisesJust 34 = .ok (.iaload, 1) := by decide +kernel
theorem dur_Pr_raisesJust_35 : decode urb_Pr_raisesJust 35 = .ok (.if_icmp .eq 5, 3) := by decide +kernel
theorem dur_Pr_raisesJust_38 : decode urb_Pr_raisesJust 38 = .ok (.iconst 0, 1) := by decide +kernel
theorem dur_Pr_raisesJust_39 : decode urb_Pr_raisesJust 39 = .ok (.ireturn, 1) := by decide +kernel
theorem dur_Pr_raisesJust_40 : decode urb_Pr_raisesJust 40 = .ok (.iinc 3 1, 3) := by decide +kernel
theorem dur_Pr_raisesJust_43 : decode urb_Pr_raisesJust 43 = .ok (.goto (-31), 3) := by decide +kernel
theorem dur_Pr_raisesJust_46 : decode urb_Pr_raisesJust 46 = .ok (.iconst 1, 1) := by decide +kernel
theorem dur_Pr_raisesJust_47 : decode urb_Pr_raisesJust 47 = .ok (.ireturn, 1) := by decide +kernel
theorem dur_Pr_latestFailedOf_0 : decode urb_Pr_latestFailedOf 0 = .ok (.aload_n 0, 1) := by decide +kernel
theorem dur_Pr_latestFailedOf_1 : decode urb_Pr_latestFailedOf 1 = .ok (.iload_n 1, 1) := by decide +kernel
theorem dur_Pr_latestFailedOf_2 : decode urb_Pr_latestFailedOf 2 = .ok (.iconst 4, 1) := by decide +kernel
theorem dur_Pr_latestFailedOf_3 : decode urb_Pr_latestFailedOf 3 = .ok (.invokevirtual 49, 3) := by decide +kernel
theorem dur_Pr_latestFailedOf_6 : decode urb_Pr_latestFailedOf 6 = .ok (.ireturn, 1) := by decide +kernel
theorem dur_Pr_isFull_0 : decode urb_Pr_isFull 0 = .ok (.aload_n 0, 1) := by decide +kernel
theorem dur_Pr_isFull_1 : decode urb_Pr_isFull 1 = .ok (.getfield 9, 3) := by decide +kernel
theorem dur_Pr_isFull_4 : decode urb_Pr_isFull 4 = .ok (.bipush 60, 2) := by decide +kernel
theorem dur_Pr_isFull_6 : decode urb_Pr_isFull 6 = .ok (.if_icmp .lt 7, 3) := by decide +kernel
theorem dur_Pr_isFull_9 : decode urb_Pr_isFull 9 = .ok (.iconst 1, 1) := by decide +kernel
theorem dur_Pr_isFull_10 : decode urb_Pr_isFull 10 = .ok (.goto 4, 3) := by decide +kernel
theorem dur_Pr_isFull_13 : decode urb_Pr_isFull 13 = .ok (.iconst 0, 1) := by decide +kernel
theorem dur_Pr_isFull_14 : decode urb_Pr_isFull 14 = .ok (.ireturn, 1) := by decide +kernel
theorem dur_Pr_isOpen_0 : decode urb_Pr_isOpen 0 = .ok (.aload_n 0, 1) := by decide +kernel
theorem dur_Pr_isOpen_1 : decode urb_Pr_isOpen 1 = .ok (.iload_n 1, 1) := by decide +kernel
theorem dur_Pr_isOpen_2 : decode urb_Pr_isOpen 2 = .ok (.invokevirtual 37, 3) := by decide +kernel
theorem dur_Pr_isOpen_5 : decode urb_Pr_isOpen 5 = .ok (.ifCond .eq 16, 3) := by decide +kernel
theorem dur_Pr_isOpen_8 : decode urb_Pr_isOpen 8 = .ok (.aload_n 0, 1) := by decide +kernel
theorem dur_Pr_isOpen_9 : decode urb_Pr_isOpen 9 = .ok (.getfield 15, 3) := by decide +kernel
theorem dur_Pr_isOpen_12 : decode urb_Pr_isOpen 12 = .ok (.iload_n 1, 1) := by decide +kernel
theorem dur_Pr_isOpen_13 : decode urb_Pr_isOpen 13 = .ok (.iaload, 1) := by decide +kernel
theorem dur_Pr_isOpen_14 : decode urb_Pr_isOpen 14 = .ok (.ifCond .ne 7, 3) := by decide +kernel
theorem dur_Pr_isOpen_17 : decode urb_Pr_isOpen 17 = .ok (.iconst 1, 1) := by decide +kernel
theorem dur_Pr_isOpen_18 : decode urb_Pr_isOpen 18 = .ok (.goto 4, 3) := by decide +kernel
theorem dur_Pr_isOpen_21 : decode urb_Pr_isOpen 21 = .ok (.iconst 0, 1) := by decide +kernel
theorem dur_Pr_isOpen_22 : decode urb_Pr_isOpen 22 = .ok (.ireturn, 1) := by decide +kernel
theorem dur_Rb_openIn_0 : decode urb_Rb_openIn 0 = .ok (.iconst 0, 1) := by decide +kernel
theorem dur_Rb_openIn_1 : decode urb_Rb_openIn 1 = .ok (.istore_n 2, 1) := by decide +kernel
theorem dur_Rb_openIn_2 : decode urb_Rb_openIn 2 = .ok (.iconst 0, 1) := by decide +kernel
theorem dur_Rb_openIn_3 : decode urb_Rb_openIn 3 = .ok (.istore_n 3, 1) := by decide +kernel
theorem dur_Rb_openIn_4 : decode urb_Rb_openIn 4 = .ok (.iload_n 3, 1) := by decide +kernel
theorem dur_Rb_openIn_5 : decode urb_Rb_openIn 5 = .ok (.aload_n 0, 1) := by decide +kernel
theorem dur_Rb_openIn_6 : decode urb_Rb_openIn 6 = .ok (.getfield 39, 3) := by decide +kernel
theorem dur_Rb_openIn_9 : decode urb_Rb_openIn 9 = .ok (.getfield 105, 3) := by decide +kernel
theorem dur_Rb_openIn_12 : decode urb_Rb_openIn 12 = .ok (.if_icmp .ge 44, 3) := by decide +kernel
theorem dur_Rb_openIn_15 : decode urb_Rb_openIn 15 = .ok (.aload_n 0, 1) := by decide +kernel
theorem dur_Rb_openIn_16 : decode urb_Rb_openIn 16 = .ok (.getfield 39, 3) := by decide +kernel
theorem dur_Rb_openIn_19 : decode urb_Rb_openIn 19 = .ok (.iload_n 3, 1) := by decide +kernel
theorem dur_Rb_openIn_20 : decode urb_Rb_openIn 20 = .ok (.invokevirtual 139, 3) := by decide +kernel
theorem dur_Rb_openIn_23 : decode urb_Rb_openIn 23 = .ok (.ifCond .eq 27, 3) := by decide +kernel
theorem dur_Rb_openIn_26 : decode urb_Rb_openIn 26 = .ok (.aload_n 0, 1) := by decide +kernel
theorem dur_Rb_openIn_27 : decode urb_Rb_openIn 27 = .ok (.getfield 25, 3) := by decide +kernel
theorem dur_Rb_openIn_30 : decode urb_Rb_openIn 30 = .ok (.getfield 184, 3) := by decide +kernel
theorem dur_Rb_openIn_33 : decode urb_Rb_openIn 33 = .ok (.aload_n 0, 1) := by decide +kernel
theorem dur_Rb_openIn_34 : decode urb_Rb_openIn 34 = .ok (.getfield 39, 3) := by decide +kernel
theorem dur_Rb_openIn_37 : decode urb_Rb_openIn 37 = .ok (.getfield 123, 3) := by decide +kernel
theorem dur_Rb_openIn_40 : decode urb_Rb_openIn 40 = .ok (.iload_n 3, 1) := by decide +kernel
theorem dur_Rb_openIn_41 : decode urb_Rb_openIn 41 = .ok (.iaload, 1) := by decide +kernel
theorem dur_Rb_openIn_42 : decode urb_Rb_openIn 42 = .ok (.iaload, 1) := by decide +kernel
theorem dur_Rb_openIn_43 : decode urb_Rb_openIn 43 = .ok (.iload_n 1, 1) := by decide +kernel
theorem dur_Rb_openIn_44 : decode urb_Rb_openIn 44 = .ok (.if_icmp .ne 6, 3) := by decide +kernel
theorem dur_Rb_openIn_47 : decode urb_Rb_openIn 47 = .ok (.iinc 2 1, 3) := by decide +kernel
theorem dur_Rb_openIn_50 : decode urb_Rb_openIn 50 = .ok (.iinc 3 1, 3) := by decide +kernel
theorem dur_Rb_openIn_53 : decode urb_Rb_openIn 53 = .ok (.goto (-49), 3) := by decide +kernel
theorem dur_Rb_openIn_56 : decode urb_Rb_openIn 56 = .ok (.iload_n 2, 1) := by decide +kernel
theorem dur_Rb_openIn_57 : decode urb_Rb_openIn 57 = .ok (.ireturn, 1) := by decide +kernel
theorem dur_Rb_mayOpen_0 : decode urb_Rb_mayOpen 0 = .ok (.aload_n 0, 1) := by decide +kernel
theorem dur_Rb_mayOpen_1 : decode urb_Rb_mayOpen 1 = .ok (.getfield 39, 3) := by decide +kernel
theorem dur_Rb_mayOpen_4 : decode urb_Rb_mayOpen 4 = .ok (.invokevirtual 180, 3) := by decide +kernel
theorem dur_Rb_mayOpen_7 : decode urb_Rb_mayOpen 7 = .ok (.ifCond .eq 5, 3) := by decide +kernel
theorem dur_Rb_mayOpen_10 : decode urb_Rb_mayOpen 10 = .ok (.iconst 0, 1) := by decide +kernel
theorem dur_Rb_mayOpen_11 : decode urb_Rb_mayOpen 11 = .ok (.ireturn, 1) := by decide +kernel
theorem dur_Rb_mayOpen_12 : decode urb_Rb_mayOpen 12 = .ok (.iload_n 2, 1) := by decide +kernel
theorem dur_Rb_mayOpen_13 : decode urb_Rb_mayOpen 13 = .ok (.iconst (-1), 1) := by decide +kernel
theorem dur_Rb_mayOpen_14 : decode urb_Rb_mayOpen 14 = .ok (.if_icmp .ne 34, 3) := by decide +kernel
theorem dur_Rb_mayOpen_17 : decode urb_Rb_mayOpen 17 = .ok (.aload_n 0, 1) := by decide +kernel
theorem dur_Rb_mayOpen_18 : decode urb_Rb_mayOpen 18 = .ok (.getfield 25, 3) := by decide +kernel
theorem dur_Rb_mayOpen_21 : decode urb_Rb_mayOpen 21 = .ok (.iload_n 1, 1) := by decide +kernel
theorem dur_Rb_mayOpen_22 : decode urb_Rb_mayOpen 22 = .ok (.invokevirtual 152, 3) := by decide +kernel
theorem dur_Rb_mayOpen_25 : decode urb_Rb_mayOpen 25 = .ok (.ifCond .ne 23, 3) := by decide +kernel
theorem dur_Rb_mayOpen_28 : decode urb_Rb_mayOpen 28 = .ok (.aload_n 0, 1) := by decide +kernel
theorem dur_Rb_mayOpen_29 : decode urb_Rb_mayOpen 29 = .ok (.aload_n 0, 1) := by decide +kernel
theorem dur_Rb_mayOpen_30 : decode urb_Rb_mayOpen 30 = .ok (.getfield 25, 3) := by decide +kernel
theorem dur_Rb_mayOpen_33 : decode urb_Rb_mayOpen 33 = .ok (.getfield 184, 3) := by decide +kernel
theorem dur_Rb_mayOpen_36 : decode urb_Rb_mayOpen 36 = .ok (.iload_n 1, 1) := by decide +kernel
theorem dur_Rb_mayOpen_37 : decode urb_Rb_mayOpen 37 = .ok (.iaload, 1) := by decide +kernel
theorem dur_Rb_mayOpen_38 : decode urb_Rb_mayOpen 38 = .ok (.invokevirtual 149, 3) := by decide +kernel
theorem dur_Rb_mayOpen_41 : decode urb_Rb_mayOpen 41 = .ok (.aload_n 0, 1) := by decide +kernel
theorem dur_Rb_mayOpen_42 : decode urb_Rb_mayOpen 42 = .ok (.getfield 18, 3) := by decide +kernel
theorem dur_Rb_mayOpen_45 : decode urb_Rb_mayOpen 45 = .ok (.if_icmp .ge 7, 3) := by decide +kernel
theorem dur_Rb_mayOpen_48 : decode urb_Rb_mayOpen 48 = .ok (.iconst 1, 1) := by decide +kernel
theorem dur_Rb_mayOpen_49 : decode urb_Rb_mayOpen 49 = .ok (.goto 4, 3) := by decide +kernel
theorem dur_Rb_mayOpen_52 : decode urb_Rb_mayOpen 52 = .ok (.iconst 0, 1) := by decide +kernel
theorem dur_Rb_mayOpen_53 : decode urb_Rb_mayOpen 53 = .ok (.ireturn, 1) := by decide +kernel
theorem dur_Pr_setRaised_0 : decode urb_Pr_setRaised 0 = .ok (.iconst 0, 1) := by decide +kernel
theorem dur_Pr_setRaised_1 : decode urb_Pr_setRaised 1 = .ok (.istore_n 3, 1) := by decide +kernel
theorem dur_Pr_setRaised_2 : decode urb_Pr_setRaised 2 = .ok (.iload_n 3, 1) := by decide +kernel
theorem dur_Pr_setRaised_3 : decode urb_Pr_setRaised 3 = .ok (.bipush 12, 2) := by decide +kernel
theorem dur_Pr_setRaised_5 : decode urb_Pr_setRaised 5 = .ok (.if_icmp .ge 26, 3) := by decide +kernel
theorem dur_Pr_setRaised_8 : decode urb_Pr_setRaised 8 = .ok (.iload_n 3, 1) := by decide +kernel
theorem dur_Pr_setRaised_9 : decode urb_Pr_setRaised 9 = .ok (.aload_n 2, 1) := by decide +kernel
theorem dur_Pr_setRaised_10 : decode urb_Pr_setRaised 10 = .ok (.arraylength, 1) := by decide +kernel
theorem dur_Pr_setRaised_11 : decode urb_Pr_setRaised 11 = .ok (.if_icmp .ge 20, 3) := by decide +kernel
theorem dur_Pr_setRaised_14 : decode urb_Pr_setRaised 14 = .ok (.aload_n 0, 1) := by decide +kernel
theorem dur_Pr_setRaised_15 : decode urb_Pr_setRaised 15 = .ok (.getfield 34, 3) := by decide +kernel
theorem dur_Pr_setRaised_18 : decode urb_Pr_setRaised 18 = .ok (.iload_n 1, 1) := by decide +kernel
theorem dur_Pr_setRaised_19 : decode urb_Pr_setRaised 19 = .ok (.aaload, 1) := by decide +kernel
theorem dur_Pr_setRaised_20 : decode urb_Pr_setRaised 20 = .ok (.iload_n 3, 1) := by decide +kernel
theorem dur_Pr_setRaised_21 : decode urb_Pr_setRaised 21 = .ok (.aload_n 2, 1) := by decide +kernel
theorem dur_Pr_setRaised_22 : decode urb_Pr_setRaised 22 = .ok (.iload_n 3, 1) := by decide +kernel
theorem dur_Pr_setRaised_23 : decode urb_Pr_setRaised 23 = .ok (.iaload, 1) := by decide +kernel
theorem dur_Pr_setRaised_24 : decode urb_Pr_setRaised 24 = .ok (.iastore, 1) := by decide +kernel
theorem dur_Pr_setRaised_25 : decode urb_Pr_setRaised 25 = .ok (.iinc 3 1, 3) := by decide +kernel
theorem dur_Pr_setRaised_28 : decode urb_Pr_setRaised 28 = .ok (.goto (-26), 3) := by decide +kernel
theorem dur_Pr_setRaised_31 : decode urb_Pr_setRaised 31 = .ok (.return_, 1) := by decide +kernel
theorem dur_Pr_add_0 : decode urb_Pr_add 0 = .ok (.aload_n 0, 1) := by decide +kernel
theorem dur_Pr_add_1 : decode urb_Pr_add 1 = .ok (.invokevirtual 41, 3) := by decide +kernel
theorem dur_Pr_add_4 : decode urb_Pr_add 4 = .ok (.ifCond .eq 4, 3) := by decide +kernel
theorem dur_Pr_add_7 : decode urb_Pr_add 7 = .ok (.return_, 1) := by decide +kernel
theorem dur_Pr_add_8 : decode urb_Pr_add 8 = .ok (.aload_n 0, 1) := by decide +kernel
theorem dur_Pr_add_9 : decode urb_Pr_add 9 = .ok (.getfield 9, 3) := by decide +kernel
theorem dur_Pr_add_12 : decode urb_Pr_add 12 = .ok (.istore 5, 2) := by decide +kernel
theorem dur_Pr_add_14 : decode urb_Pr_add 14 = .ok (.aload_n 0, 1) := by decide +kernel
theorem dur_Pr_add_15 : decode urb_Pr_add 15 = .ok (.dup, 1) := by decide +kernel
theorem dur_Pr_add_16 : decode urb_Pr_add 16 = .ok (.getfield 9, 3) := by decide +kernel
theorem dur_Pr_add_19 : decode urb_Pr_add 19 = .ok (.iconst 1, 1) := by decide +kernel
theorem dur_Pr_add_20 : decode urb_Pr_add 20 = .ok (.iadd, 1) := by decide +kernel
theorem dur_Pr_add_21 : decode urb_Pr_add 21 = .ok (.putfield 9, 3) := by decide +kernel
theorem dur_Pr_add_24 : decode urb_Pr_add 24 = .ok (.aload_n 0, 1) := by decide +kernel
theorem dur_Pr_add_25 : decode urb_Pr_add 25 = .ok (.getfield 15, 3) := by decide +kernel
theorem dur_Pr_add_28 : decode urb_Pr_add 28 = .ok (.iload 5, 2) := by decide +kernel
theorem dur_Pr_add_30 : decode urb_Pr_add 30 = .ok (.iconst 0, 1) := by decide +kernel
theorem dur_Pr_add_31 : decode urb_Pr_add 31 = .ok (.iastore, 1) := by decide +kernel
theorem dur_Pr_add_32 : decode urb_Pr_add 32 = .ok (.aload_n 0, 1) := by decide +kernel
theorem dur_Pr_add_33 : decode urb_Pr_add 33 = .ok (.getfield 19, 3) := by decide +kernel
theorem dur_Pr_add_36 : decode urb_Pr_add 36 = .ok (.iload 5, 2) := by decide +kernel
theorem dur_Pr_add_38 : decode urb_Pr_add 38 = .ok (.iload_n 1, 1) := by decide +kernel
theorem dur_Pr_add_39 : decode urb_Pr_add 39 = .ok (.iastore, 1) := by decide +kernel
theorem dur_Pr_add_40 : decode urb_Pr_add 40 = .ok (.aload_n 0, 1) := by decide +kernel
theorem dur_Pr_add_41 : decode urb_Pr_add 41 = .ok (.getfield 22, 3) := by decide +kernel
theorem dur_Pr_add_44 : decode urb_Pr_add 44 = .ok (.iload 5, 2) := by decide +kernel
theorem dur_Pr_add_46 : decode urb_Pr_add 46 = .ok (.iconst 0, 1) := by decide +kernel
theorem dur_Pr_add_47 : decode urb_Pr_add 47 = .ok (.iastore, 1) := by decide +kernel
theorem dur_Pr_add_48 : decode urb_Pr_add 48 = .ok (.aload_n 0, 1) := by decide +kernel
theorem dur_Pr_add_49 : decode urb_Pr_add 49 = .ok (.getfield 25, 3) := by decide +kernel
theorem dur_Pr_add_52 : decode urb_Pr_add 52 = .ok (.iload 5, 2) := by decide +kernel
theorem dur_Pr_add_54 : decode urb_Pr_add 54 = .ok (.iload_n 2, 1) := by decide +kernel
theorem dur_Pr_add_55 : decode urb_Pr_add 55 = .ok (.iastore, 1) := by decide +kernel
theorem dur_Pr_add_56 : decode urb_Pr_add 56 = .ok (.aload_n 0, 1) := by decide +kernel
theorem dur_Pr_add_57 : decode urb_Pr_add 57 = .ok (.getfield 28, 3) := by decide +kernel
theorem dur_Pr_add_60 : decode urb_Pr_add 60 = .ok (.iload 5, 2) := by decide +kernel
theorem dur_Pr_add_62 : decode urb_Pr_add 62 = .ok (.iload_n 3, 1) := by decide +kernel
theorem dur_Pr_add_63 : decode urb_Pr_add 63 = .ok (.bastore, 1) := by decide +kernel
theorem dur_Pr_add_64 : decode urb_Pr_add 64 = .ok (.aload_n 0, 1) := by decide +kernel
theorem dur_Pr_add_65 : decode urb_Pr_add 65 = .ok (.iload 5, 2) := by decide +kernel
theorem dur_Pr_add_67 : decode urb_Pr_add 67 = .ok (.aload 4, 2) := by decide +kernel
theorem dur_Pr_add_69 : decode urb_Pr_add 69 = .ok (.invokevirtual 45, 3) := by decide +kernel
theorem dur_Pr_add_72 : decode urb_Pr_add 72 = .ok (.return_, 1) := by decide +kernel
theorem dur_Rb_review_0 : decode urb_Rb_review 0 = .ok (.aload_n 0, 1) := by decide +kernel
theorem dur_Rb_review_1 : decode urb_Rb_review 1 = .ok (.getfield 39, 3) := by decide +kernel
theorem dur_Rb_review_4 : decode urb_Rb_review 4 = .ok (.iload_n 1, 1) := by decide +kernel
theorem dur_Rb_review_5 : decode urb_Rb_review 5 = .ok (.invokevirtual 158, 3) := by decide +kernel
theorem dur_Rb_review_8 : decode urb_Rb_review 8 = .ok (.istore_n 2, 1) := by decide +kernel
theorem dur_Rb_review_9 : decode urb_Rb_review 9 = .ok (.aload_n 0, 1) := by decide +kernel
theorem dur_Rb_review_10 : decode urb_Rb_review 10 = .ok (.getfield 32, 3) := by decide +kernel
theorem dur_Rb_review_13 : decode urb_Rb_review 13 = .ok (.aload_n 0, 1) := by decide +kernel
theorem dur_Rb_review_14 : decode urb_Rb_review 14 = .ok (.getfield 25, 3) := by decide +kernel
theorem dur_Rb_review_17 : decode urb_Rb_review 17 = .ok (.iload_n 1, 1) := by decide +kernel
theorem dur_Rb_review_18 : decode urb_Rb_review 18 = .ok (.invokevirtual 99, 3) := by decide +kernel
theorem dur_Rb_review_21 : decode urb_Rb_review 21 = .ok (.ifCond .gt 13, 3) := by decide +kernel
theorem dur_Rb_review_24 : decode urb_Rb_review 24 = .ok (.aload_n 0, 1) := by decide +kernel
theorem dur_Rb_review_25 : decode urb_Rb_review 25 = .ok (.getfield 39, 3) := by decide +kernel
theorem dur_Rb_review_28 : decode urb_Rb_review 28 = .ok (.iload_n 2, 1) := by decide +kernel
theorem dur_Rb_review_29 : decode urb_Rb_review 29 = .ok (.iconst 3, 1) := by decide +kernel
theorem dur_Rb_review_30 : decode urb_Rb_review 30 = .ok (.invokevirtual 161, 3) := by decide +kernel
theorem dur_Rb_review_33 : decode urb_Rb_review 33 = .ok (.return_, 1) := by decide +kernel
theorem dur_Rb_review_34 : decode urb_Rb_review 34 = .ok (.aload_n 0, 1) := by decide +kernel
theorem dur_Rb_review_35 : decode urb_Rb_review 35 = .ok (.getfield 39, 3) := by decide +kernel
theorem dur_Rb_review_38 : decode urb_Rb_review 38 = .ok (.iload_n 2, 1) := by decide +kernel
theorem dur_Rb_review_39 : decode urb_Rb_review 39 = .ok (.aload_n 0, 1) := by decide +kernel
theorem dur_Rb_review_40 : decode urb_Rb_review 40 = .ok (.getfield 32, 3) := by decide +kernel
theorem dur_Rb_review_43 : decode urb_Rb_review 43 = .ok (.getfield 165, 3) := by decide +kernel
theorem dur_Rb_review_46 : decode urb_Rb_review 46 = .ok (.invokevirtual 167, 3) := by decide +kernel
theorem dur_Rb_review_49 : decode urb_Rb_review 49 = .ok (.ifCond .eq 4, 3) := by decide +kernel
theorem dur_Rb_review_52 : decode urb_Rb_review 52 = .ok (.return_, 1) := by decide +kernel
theorem dur_Rb_review_53 : decode urb_Rb_review 53 = .ok (.aload_n 0, 1) := by decide +kernel
theorem dur_Rb_review_54 : decode urb_Rb_review 54 = .ok (.getfield 39, 3) := by decide +kernel
theorem dur_Rb_review_57 : decode urb_Rb_review 57 = .ok (.aload_n 0, 1) := by decide +kernel
theorem dur_Rb_review_58 : decode urb_Rb_review 58 = .ok (.getfield 39, 3) := by decide +kernel
theorem dur_Rb_review_61 : decode urb_Rb_review 61 = .ok (.iload_n 1, 1) := by decide +kernel
theorem dur_Rb_review_62 : decode urb_Rb_review 62 = .ok (.invokevirtual 171, 3) := by decide +kernel
theorem dur_Rb_review_65 : decode urb_Rb_review 65 = .ok (.aload_n 0, 1) := by decide +kernel
theorem dur_Rb_review_66 : decode urb_Rb_review 66 = .ok (.getfield 32, 3) := by decide +kernel
theorem dur_Rb_review_69 : decode urb_Rb_review 69 = .ok (.getfield 165, 3) := by decide +kernel
theorem dur_Rb_review_72 : decode urb_Rb_review 72 = .ok (.invokevirtual 167, 3) := by decide +kernel
theorem dur_Rb_review_75 : decode urb_Rb_review 75 = .ok (.ifCond .eq 13, 3) := by decide +kernel
theorem dur_Rb_review_78 : decode urb_Rb_review 78 = .ok (.aload_n 0, 1) := by decide +kernel
theorem dur_Rb_review_79 : decode urb_Rb_review 79 = .ok (.getfield 39, 3) := by decide +kernel
theorem dur_Rb_review_82 : decode urb_Rb_review 82 = .ok (.iload_n 2, 1) := by decide +kernel
theorem dur_Rb_review_83 : decode urb_Rb_review 83 = .ok (.iconst 3, 1) := by decide +kernel
theorem dur_Rb_review_84 : decode urb_Rb_review 84 = .ok (.invokevirtual 161, 3) := by decide +kernel
theorem dur_Rb_review_87 : decode urb_Rb_review 87 = .ok (.return_, 1) := by decide +kernel
theorem dur_Rb_review_88 : decode urb_Rb_review 88 = .ok (.aload_n 0, 1) := by decide +kernel
theorem dur_Rb_review_89 : decode urb_Rb_review 89 = .ok (.iload_n 1, 1) := by decide +kernel
theorem dur_Rb_review_90 : decode urb_Rb_review 90 = .ok (.iload_n 2, 1) := by decide +kernel
theorem dur_Rb_review_91 : decode urb_Rb_review 91 = .ok (.invokevirtual 174, 3) := by decide +kernel
theorem dur_Rb_review_94 : decode urb_Rb_review 94 = .ok (.ifCond .ne 14, 3) := by decide +kernel
theorem dur_Rb_review_97 : decode urb_Rb_review 97 = .ok (.aload_n 0, 1) := by decide +kernel
theorem dur_Rb_review_98 : decode urb_Rb_review 98 = .ok (.dup, 1) := by decide +kernel
theorem dur_Rb_review_99 : decode urb_Rb_review 99 = .ok (.getfield 46, 3) := by decide +kernel
theorem dur_Rb_review_102 : decode urb_Rb_review 102 = .ok (.iconst 1, 1) := by decide +kernel
theorem dur_Rb_review_103 : decode urb_Rb_review 103 = .ok (.iadd, 1) := by decide +kernel
theorem dur_Rb_review_104 : decode urb_Rb_review 104 = .ok (.putfield 46, 3) := by decide +kernel
theorem dur_Rb_review_107 : decode urb_Rb_review 107 = .ok (.return_, 1) := by decide +kernel
theorem dur_Rb_review_108 : decode urb_Rb_review 108 = .ok (.aload_n 0, 1) := by decide +kernel
theorem dur_Rb_review_109 : decode urb_Rb_review 109 = .ok (.getfield 39, 3) := by decide +kernel
theorem dur_Rb_review_112 : decode urb_Rb_review 112 = .ok (.iload_n 2, 1) := by decide +kernel
theorem dur_Rb_review_113 : decode urb_Rb_review 113 = .ok (.iconst 2, 1) := by decide +kernel
theorem dur_Rb_review_114 : decode urb_Rb_review 114 = .ok (.invokevirtual 161, 3) := by decide +kernel
theorem dur_Rb_review_117 : decode urb_Rb_review 117 = .ok (.aload_n 0, 1) := by decide +kernel
theorem dur_Rb_review_118 : decode urb_Rb_review 118 = .ok (.getfield 39, 3) := by decide +kernel
theorem dur_Rb_review_121 : decode urb_Rb_review 121 = .ok (.iload_n 1, 1) := by decide +kernel
theorem dur_Rb_review_122 : decode urb_Rb_review 122 = .ok (.aload_n 0, 1) := by decide +kernel
theorem dur_Rb_review_123 : decode urb_Rb_review 123 = .ok (.getfield 43, 3) := by decide +kernel
theorem dur_Rb_review_126 : decode urb_Rb_review 126 = .ok (.aload_n 0, 1) := by decide +kernel
theorem dur_Rb_review_127 : decode urb_Rb_review 127 = .ok (.getfield 25, 3) := by decide +kernel
theorem dur_Rb_review_130 : decode urb_Rb_review 130 = .ok (.iload_n 1, 1) := by decide +kernel
theorem dur_Rb_review_131 : decode urb_Rb_review 131 = .ok (.invokevirtual 152, 3) := by decide +kernel
theorem dur_Rb_review_134 : decode urb_Rb_review 134 = .ok (.aload_n 0, 1) := by decide +kernel
theorem dur_Rb_review_135 : decode urb_Rb_review 135 = .ok (.getfield 32, 3) := by decide +kernel
theorem dur_Rb_review_138 : decode urb_Rb_review 138 = .ok (.getfield 165, 3) := by decide +kernel
theorem dur_Rb_review_141 : decode urb_Rb_review 141 = .ok (.invokevirtual 177, 3) := by decide +kernel
theorem dur_Rb_review_144 : decode urb_Rb_review 144 = .ok (.return_, 1) := by decide +kernel
theorem dur_Rb_run_0 : decode urb_Rb_run 0 = .ok (.aload_n 0, 1) := by decide +kernel
theorem dur_Rb_run_1 : decode urb_Rb_run 1 = .ok (.getfield 39, 3) := by decide +kernel
theorem dur_Rb_run_4 : decode urb_Rb_run 4 = .ok (.getfield 105, 3) := by decide +kernel
theorem dur_Rb_run_7 : decode urb_Rb_run 7 = .ok (.istore_n 1, 1) := by decide +kernel
theorem dur_Rb_run_8 : decode urb_Rb_run 8 = .ok (.aload_n 0, 1) := by decide +kernel
theorem dur_Rb_run_9 : decode urb_Rb_run 9 = .ok (.iconst 0, 1) := by decide +kernel
theorem dur_Rb_run_10 : decode urb_Rb_run 10 = .ok (.putfield 46, 3) := by decide +kernel
theorem dur_Rb_run_13 : decode urb_Rb_run 13 = .ok (.iconst 0, 1) := by decide +kernel
theorem dur_Rb_run_14 : decode urb_Rb_run 14 = .ok (.istore_n 2, 1) := by decide +kernel
theorem dur_Rb_run_15 : decode urb_Rb_run 15 = .ok (.iload_n 2, 1) := by decide +kernel
theorem dur_Rb_run_16 : decode urb_Rb_run 16 = .ok (.aload_n 0, 1) := by decide +kernel
theorem dur_Rb_run_17 : decode urb_Rb_run 17 = .ok (.getfield 25, 3) := by decide +kernel
theorem dur_Rb_run_20 : decode urb_Rb_run 20 = .ok (.getfield 108, 3) := by decide +kernel
theorem dur_Rb_run_23 : decode urb_Rb_run 23 = .ok (.if_icmp .ge 46, 3) := by decide +kernel
theorem dur_Rb_run_26 : decode urb_Rb_run 26 = .ok (.aload_n 0, 1) := by decide +kernel
theorem dur_Rb_run_27 : decode urb_Rb_run 27 = .ok (.getfield 25, 3) := by decide +kernel
theorem dur_Rb_run_30 : decode urb_Rb_run 30 = .ok (.iload_n 2, 1) := by decide +kernel
theorem dur_Rb_run_31 : decode urb_Rb_run 31 = .ok (.invokevirtual 96, 3) := by decide +kernel
theorem dur_Rb_run_34 : decode urb_Rb_run 34 = .ok (.ifCond .eq 29, 3) := by decide +kernel
theorem dur_Rb_run_37 : decode urb_Rb_run 37 = .ok (.aload_n 0, 1) := by decide +kernel
theorem dur_Rb_run_38 : decode urb_Rb_run 38 = .ok (.iload_n 2, 1) := by decide +kernel
theorem dur_Rb_run_39 : decode urb_Rb_run 39 = .ok (.invokevirtual 109, 3) := by decide +kernel
theorem dur_Rb_run_42 : decode urb_Rb_run 42 = .ok (.ifCond .eq 21, 3) := by decide +kernel
theorem dur_Rb_run_45 : decode urb_Rb_run 45 = .ok (.aload_n 0, 1) := by decide +kernel
theorem dur_Rb_run_46 : decode urb_Rb_run 46 = .ok (.getfield 25, 3) := by decide +kernel
theorem dur_Rb_run_49 : decode urb_Rb_run 49 = .ok (.getfield 112, 3) := by decide +kernel
theorem dur_Rb_run_52 : decode urb_Rb_run 52 = .ok (.iload_n 2, 1) := by decide +kernel
theorem dur_Rb_run_53 : decode urb_Rb_run 53 = .ok (.aload_n 0, 1) := by decide +kernel
theorem dur_Rb_run_54 : decode urb_Rb_run 54 = .ok (.getfield 43, 3) := by decide +kernel
theorem dur_Rb_run_57 : decode urb_Rb_run 57 = .ok (.iastore, 1) := by decide +kernel
theorem dur_Rb_run_58 : decode urb_Rb_run 58 = .ok (.aload_n 0, 1) := by decide +kernel
theorem dur_Rb_run_59 : decode urb_Rb_run 59 = .ok (.iload_n 2, 1) := by decide +kernel
theorem dur_Rb_run_60 : decode urb_Rb_run 60 = .ok (.invokevirtual 115, 3) := by decide +kernel
theorem dur_Rb_run_63 : decode urb_Rb_run 63 = .ok (.iinc 2 1, 3) := by decide +kernel
theorem dur_Rb_run_66 : decode urb_Rb_run 66 = .ok (.goto (-51), 3) := by decide +kernel
theorem dur_Rb_run_69 : decode urb_Rb_run 69 = .ok (.aload_n 0, 1) := by decide +kernel
theorem dur_Rb_run_70 : decode urb_Rb_run 70 = .ok (.getfield 39, 3) := by decide +kernel
theorem dur_Rb_run_73 : decode urb_Rb_run 73 = .ok (.getfield 105, 3) := by decide +kernel
theorem dur_Rb_run_76 : decode urb_Rb_run 76 = .ok (.iload_n 1, 1) := by decide +kernel
theorem dur_Rb_run_77 : decode urb_Rb_run 77 = .ok (.isub, 1) := by decide +kernel
theorem dur_Rb_run_78 : decode urb_Rb_run 78 = .ok (.ireturn, 1) := by decide +kernel
theorem dur_Rb_waiting_0 : decode urb_Rb_waiting 0 = .ok (.aload_n 0, 1) := by decide +kernel
theorem dur_Rb_waiting_1 : decode urb_Rb_waiting 1 = .ok (.getfield 46, 3) := by decide +kernel
theorem dur_Rb_waiting_4 : decode urb_Rb_waiting 4 = .ok (.ireturn, 1) := by decide +kernel
theorem dur_Rb_about_0 : decode urb_Rb_about 0 = .ok (.aload_n 0, 1) := by decide +kernel
theorem dur_Rb_about_1 : decode urb_Rb_about 1 = .ok (.getfield 39, 3) := by decide +kernel
theorem dur_Rb_about_4 : decode urb_Rb_about 4 = .ok (.iload_n 1, 1) := by decide +kernel
theorem dur_Rb_about_5 : decode urb_Rb_about 5 = .ok (.invokevirtual 119, 3) := by decide +kernel
theorem dur_Rb_about_8 : decode urb_Rb_about 8 = .ok (.ifCond .ne 5, 3) := by decide +kernel
theorem dur_Rb_about_11 : decode urb_Rb_about 11 = .ok (.iconst (-1), 1) := by decide +kernel
theorem dur_Rb_about_12 : decode urb_Rb_about 12 = .ok (.ireturn, 1) := by decide +kernel
theorem dur_Rb_about_13 : decode urb_Rb_about 13 = .ok (.iload_n 2, 1) := by decide +kernel
theorem dur_Rb_about_14 : decode urb_Rb_about 14 = .ok (.tableswitch 92 0 4 #[34, 44, 54, 64, 74], 34) := by decide +kernel
theorem dur_Rb_about_48 : decode urb_Rb_about 48 = .ok (.aload_n 0, 1) := by decide +kernel
theorem dur_Rb_about_49 : decode urb_Rb_about 49 = .ok (.getfield 39, 3) := by decide +kernel
theorem dur_Rb_about_52 : decode urb_Rb_about 52 = .ok (.getfield 120, 3) := by decide +kernel
theorem dur_Rb_about_55 : decode urb_Rb_about 55 = .ok (.iload_n 1, 1) := by decide +kernel
theorem dur_Rb_about_56 : decode urb_Rb_about 56 = .ok (.iaload, 1) := by decide +kernel
theorem dur_Rb_about_57 : decode urb_Rb_about 57 = .ok (.ireturn, 1) := by decide +kernel
theorem dur_Rb_about_58 : decode urb_Rb_about 58 = .ok (.aload_n 0, 1) := by decide +kernel
theorem dur_Rb_about_59 : decode urb_Rb_about 59 = .ok (.getfield 39, 3) := by decide +kernel
theorem dur_Rb_about_62 : decode urb_Rb_about 62 = .ok (.getfield 123, 3) := by decide +kernel
theorem dur_Rb_about_65 : decode urb_Rb_about 65 = .ok (.iload_n 1, 1) := by decide +kernel
theorem dur_Rb_about_66 : decode urb_Rb_about 66 = .ok (.iaload, 1) := by decide +kernel
theorem dur_Rb_about_67 : decode urb_Rb_about 67 = .ok (.ireturn, 1) := by decide +kernel
theorem dur_Rb_about_68 : decode urb_Rb_about 68 = .ok (.aload_n 0, 1) := by decide +kernel
theorem dur_Rb_about_69 : decode urb_Rb_about 69 = .ok (.getfield 39, 3) := by decide +kernel
theorem dur_Rb_about_72 : decode urb_Rb_about 72 = .ok (.getfield 126, 3) := by decide +kernel
theorem dur_Rb_about_75 : decode urb_Rb_about 75 = .ok (.iload_n 1, 1) := by decide +kernel
theorem dur_Rb_about_76 : decode urb_Rb_about 76 = .ok (.iaload, 1) := by decide +kernel
theorem dur_Rb_about_77 : decode urb_Rb_about 77 = .ok (.ireturn, 1) := by decide +kernel
theorem dur_Rb_about_78 : decode urb_Rb_about 78 = .ok (.aload_n 0, 1) := by decide +kernel
theorem dur_Rb_about_79 : decode urb_Rb_about 79 = .ok (.getfield 39, 3) := by decide +kernel
theorem dur_Rb_about_82 : decode urb_Rb_about 82 = .ok (.getfield 129, 3) := by decide +kernel
theorem dur_Rb_about_85 : decode urb_Rb_about 85 = .ok (.iload_n 1, 1) := by decide +kernel
theorem dur_Rb_about_86 : decode urb_Rb_about 86 = .ok (.iaload, 1) := by decide +kernel
theorem dur_Rb_about_87 : decode urb_Rb_about 87 = .ok (.ireturn, 1) := by decide +kernel
theorem dur_Rb_about_88 : decode urb_Rb_about 88 = .ok (.aload_n 0, 1) := by decide +kernel
theorem dur_Rb_about_89 : decode urb_Rb_about 89 = .ok (.getfield 39, 3) := by decide +kernel
theorem dur_Rb_about_92 : decode urb_Rb_about 92 = .ok (.getfield 132, 3) := by decide +kernel
theorem dur_Rb_about_95 : decode urb_Rb_about 95 = .ok (.iload_n 1, 1) := by decide +kernel
theorem dur_Rb_about_96 : decode urb_Rb_about 96 = .ok (.baload, 1) := by decide +kernel
theorem dur_Rb_about_97 : decode urb_Rb_about 97 = .ok (.ifCond .eq 7, 3) := by decide +kernel
theorem dur_Rb_about_100 : decode urb_Rb_about 100 = .ok (.iconst 1, 1) := by decide +kernel
theorem dur_Rb_about_101 : decode urb_Rb_about 101 = .ok (.goto 4, 3) := by decide +kernel
theorem dur_Rb_about_104 : decode urb_Rb_about 104 = .ok (.iconst 0, 1) := by decide +kernel
theorem dur_Rb_about_105 : decode urb_Rb_about 105 = .ok (.ireturn, 1) := by decide +kernel
theorem dur_Rb_about_106 : decode urb_Rb_about 106 = .ok (.iconst (-1), 1) := by decide +kernel
theorem dur_Rb_about_107 : decode urb_Rb_about 107 = .ok (.ireturn, 1) := by decide +kernel
theorem dur_Rb_target_0 : decode urb_Rb_target 0 = .ok (.aload_n 0, 1) := by decide +kernel
theorem dur_Rb_target_1 : decode urb_Rb_target 1 = .ok (.getfield 39, 3) := by decide +kernel
theorem dur_Rb_target_4 : decode urb_Rb_target 4 = .ok (.iload_n 1, 1) := by decide +kernel
theorem dur_Rb_target_5 : decode urb_Rb_target 5 = .ok (.invokevirtual 119, 3) := by decide +kernel
theorem dur_Rb_target_8 : decode urb_Rb_target 8 = .ok (.ifCond .eq 14, 3) := by decide +kernel
theorem dur_Rb_target_11 : decode urb_Rb_target 11 = .ok (.aload_n 0, 1) := by decide +kernel
theorem dur_Rb_target_12 : decode urb_Rb_target 12 = .ok (.getfield 25, 3) := by decide +kernel
theorem dur_Rb_target_15 : decode urb_Rb_target 15 = .ok (.iload_n 2, 1) := by decide +kernel
theorem dur_Rb_target_16 : decode urb_Rb_target 16 = .ok (.invokevirtual 57, 3) := by decide +kernel
theorem dur_Rb_target_19 : decode urb_Rb_target 19 = .ok (.ifCond .ne 5, 3) := by decide +kernel
theorem dur_Rb_target_22 : decode urb_Rb_target 22 = .ok (.iconst (-1), 1) := by decide +kernel
theorem dur_Rb_target_23 : decode urb_Rb_target 23 = .ok (.ireturn, 1) := by decide +kernel
theorem dur_Rb_target_24 : decode urb_Rb_target 24 = .ok (.aload_n 0, 1) := by decide +kernel
theorem dur_Rb_target_25 : decode urb_Rb_target 25 = .ok (.getfield 39, 3) := by decide +kernel
theorem dur_Rb_target_28 : decode urb_Rb_target 28 = .ok (.getfield 136, 3) := by decide +kernel
theorem dur_Rb_target_31 : decode urb_Rb_target 31 = .ok (.iload_n 1, 1) := by decide +kernel
theorem dur_Rb_target_32 : decode urb_Rb_target 32 = .ok (.aaload, 1) := by decide +kernel
theorem dur_Rb_target_33 : decode urb_Rb_target 33 = .ok (.iload_n 2, 1) := by decide +kernel
theorem dur_Rb_target_34 : decode urb_Rb_target 34 = .ok (.iaload, 1) := by decide +kernel
theorem dur_Rb_target_35 : decode urb_Rb_target 35 = .ok (.ireturn, 1) := by decide +kernel
theorem dur_Nm_moveUp_0 : decode urb_Nm_moveUp 0 = .ok (.iconst 0, 1) := by decide +kernel
theorem dur_Nm_moveUp_1 : decode urb_Nm_moveUp 1 = .ok (.istore_n 2, 1) := by decide +kernel
theorem dur_Nm_moveUp_2 : decode urb_Nm_moveUp 2 = .ok (.iconst 0, 1) := by decide +kernel
theorem dur_Nm_moveUp_3 : decode urb_Nm_moveUp 3 = .ok (.istore_n 3, 1) := by decide +kernel
theorem dur_Nm_moveUp_4 : decode urb_Nm_moveUp 4 = .ok (.iload_n 3, 1) := by decide +kernel
theorem dur_Nm_moveUp_5 : decode urb_Nm_moveUp 5 = .ok (.aload_n 0, 1) := by decide +kernel
theorem dur_Nm_moveUp_6 : decode urb_Nm_moveUp 6 = .ok (.getfield 9, 3) := by decide +kernel
theorem dur_Nm_moveUp_9 : decode urb_Nm_moveUp 9 = .ok (.if_icmp .ge 39, 3) := by decide +kernel
theorem dur_Nm_moveUp_12 : decode urb_Nm_moveUp 12 = .ok (.iload_n 3, 1) := by decide +kernel
theorem dur_Nm_moveUp_13 : decode urb_Nm_moveUp 13 = .ok (.aload_n 1, 1) := by decide +kernel
theorem dur_Nm_moveUp_14 : decode urb_Nm_moveUp 14 = .ok (.arraylength, 1) := by decide +kernel
theorem dur_Nm_moveUp_15 : decode urb_Nm_moveUp 15 = .ok (.if_icmp .ge 33, 3) := by decide +kernel
theorem dur_Nm_moveUp_18 : decode urb_Nm_moveUp 18 = .ok (.aload_n 1, 1) := by decide +kernel
theorem dur_Nm_moveUp_19 : decode urb_Nm_moveUp 19 = .ok (.iload_n 3, 1) := by decide +kernel
theorem dur_Nm_moveUp_20 : decode urb_Nm_moveUp 20 = .ok (.iaload, 1) := by decide +kernel
theorem dur_Nm_moveUp_21 : decode urb_Nm_moveUp 21 = .ok (.aload_n 0, 1) := by decide +kernel
theorem dur_Nm_moveUp_22 : decode urb_Nm_moveUp 22 = .ok (.getfield 22, 3) := by decide +kernel
theorem dur_Nm_moveUp_25 : decode urb_Nm_moveUp 25 = .ok (.iload_n 3, 1) := by decide +kernel
theorem dur_Nm_moveUp_26 : decode urb_Nm_moveUp 26 = .ok (.iaload, 1) := by decide +kernel
theorem dur_Nm_moveUp_27 : decode urb_Nm_moveUp 27 = .ok (.if_icmp .le 15, 3) := by decide +kernel
theorem dur_Nm_moveUp_30 : decode urb_Nm_moveUp 30 = .ok (.aload_n 0, 1) := by decide +kernel
theorem dur_Nm_moveUp_31 : decode urb_Nm_moveUp 31 = .ok (.getfield 22, 3) := by decide +kernel
theorem dur_Nm_moveUp_34 : decode urb_Nm_moveUp 34 = .ok (.iload_n 3, 1) := by decide +kernel
theorem dur_Nm_moveUp_35 : decode urb_Nm_moveUp 35 = .ok (.aload_n 1, 1) := by decide +kernel
theorem dur_Nm_moveUp_36 : decode urb_Nm_moveUp 36 = .ok (.iload_n 3, 1) := by decide +kernel
theorem dur_Nm_moveUp_37 : decode urb_Nm_moveUp 37 = .ok (.iaload, 1) := by decide +kernel
theorem dur_Nm_moveUp_38 : decode urb_Nm_moveUp 38 = .ok (.iastore, 1) := by decide +kernel
theorem dur_Nm_moveUp_39 : decode urb_Nm_moveUp 39 = .ok (.iinc 2 1, 3) := by decide +kernel
theorem dur_Nm_moveUp_42 : decode urb_Nm_moveUp 42 = .ok (.iinc 3 1, 3) := by decide +kernel
theorem dur_Nm_moveUp_45 : decode urb_Nm_moveUp 45 = .ok (.goto (-41), 3) := by decide +kernel
theorem dur_Nm_moveUp_48 : decode urb_Nm_moveUp 48 = .ok (.iload_n 2, 1) := by decide +kernel
theorem dur_Nm_moveUp_49 : decode urb_Nm_moveUp 49 = .ok (.ireturn, 1) := by decide +kernel
theorem dur_Pr_overlap_0 : decode urb_Pr_overlap 0 = .ok (.iconst 0, 1) := by decide +kernel
theorem dur_Pr_overlap_1 : decode urb_Pr_overlap 1 = .ok (.istore_n 3, 1) := by decide +kernel
theorem dur_Pr_overlap_2 : decode urb_Pr_overlap 2 = .ok (.iload_n 3, 1) := by decide +kernel
theorem dur_Pr_overlap_3 : decode urb_Pr_overlap 3 = .ok (.bipush 12, 2) := by decide +kernel
theorem dur_Pr_overlap_5 : decode urb_Pr_overlap 5 = .ok (.if_icmp .ge 35, 3) := by decide +kernel
theorem dur_Pr_overlap_8 : decode urb_Pr_overlap 8 = .ok (.aload_n 0, 1) := by decide +kernel
theorem dur_Pr_overlap_9 : decode urb_Pr_overlap 9 = .ok (.getfield 34, 3) := by decide +kernel
theorem dur_Pr_overlap_12 : decode urb_Pr_overlap 12 = .ok (.iload_n 1, 1) := by decide +kernel
theorem dur_Pr_overlap_13 : decode urb_Pr_overlap 13 = .ok (.aaload, 1) := by decide +kernel
theorem dur_Pr_overlap_14 : decode urb_Pr_overlap 14 = .ok (.iload_n 3, 1) := by decide +kernel
theorem dur_Pr_overlap_15 : decode urb_Pr_overlap 15 = .ok (.iaload, 1) := by decide +kernel
theorem dur_Pr_overlap_16 : decode urb_Pr_overlap 16 = .ok (.iconst (-1), 1) := by decide +kernel
theorem dur_Pr_overlap_17 : decode urb_Pr_overlap 17 = .ok (.if_icmp .eq 17, 3) := by decide +kernel
theorem dur_Pr_overlap_20 : decode urb_Pr_overlap 20 = .ok (.aload_n 0, 1) := by decide +kernel
theorem dur_Pr_overlap_21 : decode urb_Pr_overlap 21 = .ok (.getfield 34, 3) := by decide +kernel
theorem dur_Pr_overlap_24 : decode urb_Pr_overlap 24 = .ok (.iload_n 2, 1) := by decide +kernel
theorem dur_Pr_overlap_25 : decode urb_Pr_overlap 25 = .ok (.aaload, 1) := by decide +kernel
theorem dur_Pr_overlap_26 : decode urb_Pr_overlap 26 = .ok (.iload_n 3, 1) := by decide +kernel
theorem dur_Pr_overlap_27 : decode urb_Pr_overlap 27 = .ok (.iaload, 1) := by decide +kernel
theorem dur_Pr_overlap_28 : decode urb_Pr_overlap 28 = .ok (.iconst (-1), 1) := by decide +kernel
theorem dur_Pr_overlap_29 : decode urb_Pr_overlap 29 = .ok (.if_icmp .eq 5, 3) := by decide +kernel
theorem dur_Pr_overlap_32 : decode urb_Pr_overlap 32 = .ok (.iconst 1, 1) := by decide +kernel
theorem dur_Pr_overlap_33 : decode urb_Pr_overlap 33 = .ok (.ireturn, 1) := by decide +kernel
theorem dur_Pr_overlap_34 : decode urb_Pr_overlap 34 = .ok (.iinc 3 1, 3) := by decide +kernel
theorem dur_Pr_overlap_37 : decode urb_Pr_overlap 37 = .ok (.goto (-35), 3) := by decide +kernel
theorem dur_Pr_overlap_40 : decode urb_Pr_overlap 40 = .ok (.iconst 0, 1) := by decide +kernel
theorem dur_Pr_overlap_41 : decode urb_Pr_overlap 41 = .ok (.ireturn, 1) := by decide +kernel
theorem dur_Rb_redo_0 : decode urb_Rb_redo 0 = .ok (.aload_n 0, 1) := by decide +kernel
theorem dur_Rb_redo_1 : decode urb_Rb_redo 1 = .ok (.getfield 39, 3) := by decide +kernel
theorem dur_Rb_redo_4 : decode urb_Rb_redo 4 = .ok (.getfield 123, 3) := by decide +kernel
theorem dur_Rb_redo_7 : decode urb_Rb_redo 7 = .ok (.iload_n 1, 1) := by decide +kernel
theorem dur_Rb_redo_8 : decode urb_Rb_redo 8 = .ok (.iaload, 1) := by decide +kernel
theorem dur_Rb_redo_9 : decode urb_Rb_redo 9 = .ok (.istore_n 2, 1) := by decide +kernel
theorem dur_Rb_redo_10 : decode urb_Rb_redo 10 = .ok (.aload_n 0, 1) := by decide +kernel
theorem dur_Rb_redo_11 : decode urb_Rb_redo 11 = .ok (.getfield 25, 3) := by decide +kernel
theorem dur_Rb_redo_14 : decode urb_Rb_redo 14 = .ok (.iload_n 2, 1) := by decide +kernel
theorem dur_Rb_redo_15 : decode urb_Rb_redo 15 = .ok (.invokevirtual 96, 3) := by decide +kernel
theorem dur_Rb_redo_18 : decode urb_Rb_redo 18 = .ok (.ifCond .eq 49, 3) := by decide +kernel
theorem dur_Rb_redo_21 : decode urb_Rb_redo 21 = .ok (.aload_n 0, 1) := by decide +kernel
theorem dur_Rb_redo_22 : decode urb_Rb_redo 22 = .ok (.getfield 32, 3) := by decide +kernel
theorem dur_Rb_redo_25 : decode urb_Rb_redo 25 = .ok (.aload_n 0, 1) := by decide +kernel
theorem dur_Rb_redo_26 : decode urb_Rb_redo 26 = .ok (.getfield 25, 3) := by decide +kernel
theorem dur_Rb_redo_29 : decode urb_Rb_redo 29 = .ok (.iload_n 2, 1) := by decide +kernel
theorem dur_Rb_redo_30 : decode urb_Rb_redo 30 = .ok (.invokevirtual 99, 3) := by decide +kernel
theorem dur_Rb_redo_33 : decode urb_Rb_redo 33 = .ok (.ifCond .le 34, 3) := by decide +kernel
theorem dur_Rb_redo_36 : decode urb_Rb_redo 36 = .ok (.aload_n 0, 1) := by decide +kernel
theorem dur_Rb_redo_37 : decode urb_Rb_redo 37 = .ok (.getfield 39, 3) := by decide +kernel
theorem dur_Rb_redo_40 : decode urb_Rb_redo 40 = .ok (.iload_n 1, 1) := by decide +kernel
theorem dur_Rb_redo_41 : decode urb_Rb_redo 41 = .ok (.aload_n 0, 1) := by decide +kernel
theorem dur_Rb_redo_42 : decode urb_Rb_redo 42 = .ok (.getfield 32, 3) := by decide +kernel
theorem dur_Rb_redo_45 : decode urb_Rb_redo 45 = .ok (.getfield 165, 3) := by decide +kernel
theorem dur_Rb_redo_48 : decode urb_Rb_redo 48 = .ok (.invokevirtual 193, 3) := by decide +kernel
theorem dur_Rb_redo_51 : decode urb_Rb_redo 51 = .ok (.aload_n 0, 1) := by decide +kernel
theorem dur_Rb_redo_52 : decode urb_Rb_redo 52 = .ok (.getfield 39, 3) := by decide +kernel
theorem dur_Rb_redo_55 : decode urb_Rb_redo 55 = .ok (.getfield 126, 3) := by decide +kernel
theorem dur_Rb_redo_58 : decode urb_Rb_redo 58 = .ok (.iload_n 1, 1) := by decide +kernel
theorem dur_Rb_redo_59 : decode urb_Rb_redo 59 = .ok (.dup2, 1) := by decide +kernel
theorem dur_Rb_redo_60 : decode urb_Rb_redo 60 = .ok (.iaload, 1) := by decide +kernel
theorem dur_Rb_redo_61 : decode urb_Rb_redo 61 = .ok (.iconst 1, 1) := by decide +kernel
theorem dur_Rb_redo_62 : decode urb_Rb_redo 62 = .ok (.iadd, 1) := by decide +kernel
theorem dur_Rb_redo_63 : decode urb_Rb_redo 63 = .ok (.iastore, 1) := by decide +kernel
theorem dur_Rb_redo_64 : decode urb_Rb_redo 64 = .ok (.goto 13, 3) := by decide +kernel
theorem dur_Rb_redo_67 : decode urb_Rb_redo 67 = .ok (.aload_n 0, 1) := by decide +kernel
theorem dur_Rb_redo_68 : decode urb_Rb_redo 68 = .ok (.getfield 39, 3) := by decide +kernel
theorem dur_Rb_redo_71 : decode urb_Rb_redo 71 = .ok (.getfield 120, 3) := by decide +kernel
theorem dur_Rb_redo_74 : decode urb_Rb_redo 74 = .ok (.iload_n 1, 1) := by decide +kernel
theorem dur_Rb_redo_75 : decode urb_Rb_redo 75 = .ok (.iconst 3, 1) := by decide +kernel
theorem dur_Rb_redo_76 : decode urb_Rb_redo 76 = .ok (.iastore, 1) := by decide +kernel
theorem dur_Rb_redo_77 : decode urb_Rb_redo 77 = .ok (.return_, 1) := by decide +kernel
theorem dur_Rb_redoAllTouchedBy_0 : decode urb_Rb_redoAllTouchedBy 0 = .ok (.iconst 0, 1) := by decide +kernel
theorem dur_Rb_redoAllTouchedBy_1 : decode urb_Rb_redoAllTouchedBy 1 = .ok (.istore_n 2, 1) := by decide +kernel
theorem dur_Rb_redoAllTouchedBy_2 : decode urb_Rb_redoAllTouchedBy 2 = .ok (.iload_n 2, 1) := by decide +kernel
theorem dur_Rb_redoAllTouchedBy_3 : decode urb_Rb_redoAllTouchedBy 3 = .ok (.aload_n 0, 1) := by decide +kernel
theorem dur_Rb_redoAllTouchedBy_4 : decode urb_Rb_redoAllTouchedBy 4 = .ok (.getfield 39, 3) := by decide +kernel
theorem dur_Rb_redoAllTouchedBy_7 : decode urb_Rb_redoAllTouchedBy 7 = .ok (.getfield 105, 3) := by decide +kernel
theorem dur_Rb_redoAllTouchedBy_10 : decode urb_Rb_redoAllTouchedBy 10 = .ok (.if_icmp .ge 37, 3) := by decide +kernel
theorem dur_Rb_redoAllTouchedBy_13 : decode urb_Rb_redoAllTouchedBy 13 = .ok (.aload_n 0, 1) := by decide +kernel
theorem dur_Rb_redoAllTouchedBy_14 : decode urb_Rb_redoAllTouchedBy 14 = .ok (.getfield 39, 3) := by decide +kernel
theorem dur_Rb_redoAllTouchedBy_17 : decode urb_Rb_redoAllTouchedBy 17 = .ok (.iload_n 2, 1) := by decide +kernel
theorem dur_Rb_redoAllTouchedBy_18 : decode urb_Rb_redoAllTouchedBy 18 = .ok (.invokevirtual 139, 3) := by decide +kernel
theorem dur_Rb_redoAllTouchedBy_21 : decode urb_Rb_redoAllTouchedBy 21 = .ok (.ifCond .eq 20, 3) := by decide +kernel
theorem dur_Rb_redoAllTouchedBy_24 : decode urb_Rb_redoAllTouchedBy 24 = .ok (.aload_n 0, 1) := by decide +kernel
theorem dur_Rb_redoAllTouchedBy_25 : decode urb_Rb_redoAllTouchedBy 25 = .ok (.getfield 39, 3) := by decide +kernel
theorem dur_Rb_redoAllTouchedBy_28 : decode urb_Rb_redoAllTouchedBy 28 = .ok (.iload_n 2, 1) := by decide +kernel
theorem dur_Rb_redoAllTouchedBy_29 : decode urb_Rb_redoAllTouchedBy 29 = .ok (.iload_n 1, 1) := by decide +kernel
theorem dur_Rb_redoAllTouchedBy_30 : decode urb_Rb_redoAllTouchedBy 30 = .ok (.invokevirtual 187, 3) := by decide +kernel
theorem dur_Rb_redoAllTouchedBy_33 : decode urb_Rb_redoAllTouchedBy 33 = .ok (.ifCond .eq 8, 3) := by decide +kernel
theorem dur_Rb_redoAllTouchedBy_36 : decode urb_Rb_redoAllTouchedBy 36 = .ok (.aload_n 0, 1) := by decide +kernel
theorem dur_Rb_redoAllTouchedBy_37 : decode urb_Rb_redoAllTouchedBy 37 = .ok (.iload_n 2, 1) := by decide +kernel
theorem dur_Rb_redoAllTouchedBy_38 : decode urb_Rb_redoAllTouchedBy 38 = .ok (.invokevirtual 190, 3) := by decide +kernel
theorem dur_Rb_redoAllTouchedBy_41 : decode urb_Rb_redoAllTouchedBy 41 = .ok (.iinc 2 1, 3) := by decide +kernel
theorem dur_Rb_redoAllTouchedBy_44 : decode urb_Rb_redoAllTouchedBy 44 = .ok (.goto (-42), 3) := by decide +kernel
theorem dur_Rb_redoAllTouchedBy_47 : decode urb_Rb_redoAllTouchedBy 47 = .ok (.return_, 1) := by decide +kernel
theorem dur_Rb_pass_0 : decode urb_Rb_pass 0 = .ok (.aload_n 0, 1) := by decide +kernel
theorem dur_Rb_pass_1 : decode urb_Rb_pass 1 = .ok (.getfield 39, 3) := by decide +kernel
theorem dur_Rb_pass_4 : decode urb_Rb_pass 4 = .ok (.iload_n 1, 1) := by decide +kernel
theorem dur_Rb_pass_5 : decode urb_Rb_pass 5 = .ok (.invokevirtual 139, 3) := by decide +kernel
theorem dur_Rb_pass_8 : decode urb_Rb_pass 8 = .ok (.ifCond .ne 5, 3) := by decide +kernel
theorem dur_Rb_pass_11 : decode urb_Rb_pass 11 = .ok (.iconst (-1), 1) := by decide +kernel
theorem dur_Rb_pass_12 : decode urb_Rb_pass 12 = .ok (.ireturn, 1) := by decide +kernel
theorem dur_Rb_pass_13 : decode urb_Rb_pass 13 = .ok (.iload_n 2, 1) := by decide +kernel
theorem dur_Rb_pass_14 : decode urb_Rb_pass 14 = .ok (.ifCond .ne 15, 3) := by decide +kernel
theorem dur_Rb_pass_17 : decode urb_Rb_pass 17 = .ok (.aload_n 0, 1) := by decide +kernel
theorem dur_Rb_pass_18 : decode urb_Rb_pass 18 = .ok (.getfield 39, 3) := by decide +kernel
theorem dur_Rb_pass_21 : decode urb_Rb_pass 21 = .ok (.getfield 120, 3) := by decide +kernel
theorem dur_Rb_pass_24 : decode urb_Rb_pass 24 = .ok (.iload_n 1, 1) := by decide +kernel
theorem dur_Rb_pass_25 : decode urb_Rb_pass 25 = .ok (.iconst 4, 1) := by decide +kernel
theorem dur_Rb_pass_26 : decode urb_Rb_pass 26 = .ok (.iastore, 1) := by decide +kernel
theorem dur_Rb_pass_27 : decode urb_Rb_pass 27 = .ok (.iconst 0, 1) := by decide +kernel
theorem dur_Rb_pass_28 : decode urb_Rb_pass 28 = .ok (.ireturn, 1) := by decide +kernel
theorem dur_Rb_pass_29 : decode urb_Rb_pass 29 = .ok (.aload_n 0, 1) := by decide +kernel
theorem dur_Rb_pass_30 : decode urb_Rb_pass 30 = .ok (.getfield 39, 3) := by decide +kernel
theorem dur_Rb_pass_33 : decode urb_Rb_pass 33 = .ok (.getfield 120, 3) := by decide +kernel
theorem dur_Rb_pass_36 : decode urb_Rb_pass 36 = .ok (.iload_n 1, 1) := by decide +kernel
theorem dur_Rb_pass_37 : decode urb_Rb_pass 37 = .ok (.iconst 1, 1) := by decide +kernel
theorem dur_Rb_pass_38 : decode urb_Rb_pass 38 = .ok (.iastore, 1) := by decide +kernel
theorem dur_Rb_pass_39 : decode urb_Rb_pass 39 = .ok (.aload_n 0, 1) := by decide +kernel
theorem dur_Rb_pass_40 : decode urb_Rb_pass 40 = .ok (.getfield 25, 3) := by decide +kernel
theorem dur_Rb_pass_43 : decode urb_Rb_pass 43 = .ok (.aload_n 0, 1) := by decide +kernel
theorem dur_Rb_pass_44 : decode urb_Rb_pass 44 = .ok (.getfield 39, 3) := by decide +kernel
theorem dur_Rb_pass_47 : decode urb_Rb_pass 47 = .ok (.getfield 136, 3) := by decide +kernel
theorem dur_Rb_pass_50 : decode urb_Rb_pass 50 = .ok (.iload_n 1, 1) := by decide +kernel
theorem dur_Rb_pass_51 : decode urb_Rb_pass 51 = .ok (.aaload, 1) := by decide +kernel
theorem dur_Rb_pass_52 : decode urb_Rb_pass 52 = .ok (.invokevirtual 142, 3) := by decide +kernel
theorem dur_Rb_pass_55 : decode urb_Rb_pass 55 = .ok (.istore_n 3, 1) := by decide +kernel
theorem dur_Rb_pass_56 : decode urb_Rb_pass 56 = .ok (.aload_n 0, 1) := by decide +kernel
theorem dur_Rb_pass_57 : decode urb_Rb_pass 57 = .ok (.iload_n 1, 1) := by decide +kernel
theorem dur_Rb_pass_58 : decode urb_Rb_pass 58 = .ok (.invokevirtual 146, 3) := by decide +kernel
theorem dur_Rb_pass_61 : decode urb_Rb_pass 61 = .ok (.iload_n 3, 1) := by decide +kernel
theorem dur_Rb_pass_62 : decode urb_Rb_pass 62 = .ok (.ireturn, 1) := by decide +kernel
theorem dur_Rb_open_0 : decode urb_Rb_open 0 = .ok (.iload_n 1, 1) := by decide +kernel
theorem dur_Rb_open_1 : decode urb_Rb_open 1 = .ok (.invokestatic 49, 3) := by decide +kernel
theorem dur_Rb_open_4 : decode urb_Rb_open 4 = .ok (.ifCond .eq 11, 3) := by decide +kernel
theorem dur_Rb_open_7 : decode urb_Rb_open 7 = .ok (.aload_n 0, 1) := by decide +kernel
theorem dur_Rb_open_8 : decode urb_Rb_open 8 = .ok (.iload_n 1, 1) := by decide +kernel
theorem dur_Rb_open_9 : decode urb_Rb_open 9 = .ok (.invokevirtual 149, 3) := by decide +kernel
theorem dur_Rb_open_12 : decode urb_Rb_open 12 = .ok (.goto 4, 3) := by decide +kernel
theorem dur_Rb_open_15 : decode urb_Rb_open 15 = .ok (.iconst (-1), 1) := by decide +kernel
theorem dur_Rb_open_16 : decode urb_Rb_open 16 = .ok (.ireturn, 1) := by decide +kernel
theorem dur_Nm_init_0 : decode urb_Nm_init 0 = .ok (.aload_n 0, 1) := by decide +kernel
theorem dur_Nm_init_1 : decode urb_Nm_init 1 = .ok (.invokespecial 3, 3) := by decide +kernel
theorem dur_Nm_init_4 : decode urb_Nm_init 4 = .ok (.aload_n 0, 1) := by decide +kernel
theorem dur_Nm_init_5 : decode urb_Nm_init 5 = .ok (.iconst 0, 1) := by decide +kernel
theorem dur_Nm_init_6 : decode urb_Nm_init 6 = .ok (.putfield 9, 3) := by decide +kernel
theorem dur_Nm_init_9 : decode urb_Nm_init 9 = .ok (.aload_n 0, 1) := by decide +kernel
theorem dur_Nm_init_10 : decode urb_Nm_init 10 = .ok (.bipush 12, 2) := by decide +kernel
theorem dur_Nm_init_12 : decode urb_Nm_init 12 = .ok (.newarray .int, 2) := by decide +kernel
theorem dur_Nm_init_14 : decode urb_Nm_init 14 = .ok (.putfield 15, 3) := by decide +kernel
theorem dur_Nm_init_17 : decode urb_Nm_init 17 = .ok (.aload_n 0, 1) := by decide +kernel
theorem dur_Nm_init_18 : decode urb_Nm_init 18 = .ok (.bipush 12, 2) := by decide +kernel
theorem dur_Nm_init_20 : decode urb_Nm_init 20 = .ok (.newarray .int, 2) := by decide +kernel
theorem dur_Nm_init_22 : decode urb_Nm_init 22 = .ok (.putfield 19, 3) := by decide +kernel
theorem dur_Nm_init_25 : decode urb_Nm_init 25 = .ok (.aload_n 0, 1) := by decide +kernel
theorem dur_Nm_init_26 : decode urb_Nm_init 26 = .ok (.bipush 12, 2) := by decide +kernel
theorem dur_Nm_init_28 : decode urb_Nm_init 28 = .ok (.newarray .int, 2) := by decide +kernel
theorem dur_Nm_init_30 : decode urb_Nm_init 30 = .ok (.putfield 22, 3) := by decide +kernel
theorem dur_Nm_init_33 : decode urb_Nm_init 33 = .ok (.aload_n 0, 1) := by decide +kernel
theorem dur_Nm_init_34 : decode urb_Nm_init 34 = .ok (.bipush 12, 2) := by decide +kernel
theorem dur_Nm_init_36 : decode urb_Nm_init 36 = .ok (.newarray .int, 2) := by decide +kernel
theorem dur_Nm_init_38 : decode urb_Nm_init 38 = .ok (.putfield 25, 3) := by decide +kernel
theorem dur_Nm_init_41 : decode urb_Nm_init 41 = .ok (.aload_n 0, 1) := by decide +kernel
theorem dur_Nm_init_42 : decode urb_Nm_init 42 = .ok (.bipush 12, 2) := by decide +kernel
theorem dur_Nm_init_44 : decode urb_Nm_init 44 = .ok (.newarray .int, 2) := by decide +kernel
theorem dur_Nm_init_46 : decode urb_Nm_init 46 = .ok (.putfield 28, 3) := by decide +kernel
theorem dur_Nm_init_49 : decode urb_Nm_init 49 = .ok (.aload_n 0, 1) := by decide +kernel
theorem dur_Nm_init_50 : decode urb_Nm_init 50 = .ok (.bipush 12, 2) := by decide +kernel
theorem dur_Nm_init_52 : decode urb_Nm_init 52 = .ok (.newarray .int, 2) := by decide +kernel
theorem dur_Nm_init_54 : decode urb_Nm_init 54 = .ok (.putfield 31, 3) := by decide +kernel
theorem dur_Nm_init_57 : decode urb_Nm_init 57 = .ok (.aload_n 0, 1) := by decide +kernel
theorem dur_Nm_init_58 : decode urb_Nm_init 58 = .ok (.bipush 12, 2) := by decide +kernel
theorem dur_Nm_init_60 : decode urb_Nm_init 60 = .ok (.newarray .int, 2) := by decide +kernel
theorem dur_Nm_init_62 : decode urb_Nm_init 62 = .ok (.putfield 34, 3) := by decide +kernel
theorem dur_Nm_init_65 : decode urb_Nm_init 65 = .ok (.aload_n 0, 1) := by decide +kernel
theorem dur_Nm_init_66 : decode urb_Nm_init 66 = .ok (.bipush 12, 2) := by decide +kernel
theorem dur_Nm_init_68 : decode urb_Nm_init 68 = .ok (.newarray .int, 2) := by decide +kernel
theorem dur_Nm_init_70 : decode urb_Nm_init 70 = .ok (.putfield 37, 3) := by decide +kernel
theorem dur_Nm_init_73 : decode urb_Nm_init 73 = .ok (.aload_n 0, 1) := by decide +kernel
theorem dur_Nm_init_74 : decode urb_Nm_init 74 = .ok (.bipush 12, 2) := by decide +kernel
theorem dur_Nm_init_76 : decode urb_Nm_init 76 = .ok (.bipush 8, 2) := by decide +kernel
theorem dur_Nm_init_78 : decode urb_Nm_init 78 = .ok (.multianewarray 40 2, 4) := by decide +kernel
theorem dur_Nm_init_82 : decode urb_Nm_init 82 = .ok (.putfield 42, 3) := by decide +kernel
theorem dur_Nm_init_85 : decode urb_Nm_init 85 = .ok (.aload_n 0, 1) := by decide +kernel
theorem dur_Nm_init_86 : decode urb_Nm_init 86 = .ok (.bipush 12, 2) := by decide +kernel
theorem dur_Nm_init_88 : decode urb_Nm_init 88 = .ok (.bipush 8, 2) := by decide +kernel
theorem dur_Nm_init_90 : decode urb_Nm_init 90 = .ok (.multianewarray 40 2, 4) := by decide +kernel
theorem dur_Nm_init_94 : decode urb_Nm_init 94 = .ok (.putfield 45, 3) := by decide +kernel
theorem dur_Nm_init_97 : decode urb_Nm_init 97 = .ok (.aload_n 0, 1) := by decide +kernel
theorem dur_Nm_init_98 : decode urb_Nm_init 98 = .ok (.bipush 12, 2) := by decide +kernel
theorem dur_Nm_init_100 : decode urb_Nm_init 100 = .ok (.bipush 8, 2) := by decide +kernel
theorem dur_Nm_init_102 : decode urb_Nm_init 102 = .ok (.multianewarray 40 2, 4) := by decide +kernel
theorem dur_Nm_init_106 : decode urb_Nm_init 106 = .ok (.putfield 48, 3) := by decide +kernel
theorem dur_Nm_init_109 : decode urb_Nm_init 109 = .ok (.return_, 1) := by decide +kernel
theorem dur_So_init_0 : decode urb_So_init 0 = .ok (.aload_n 0, 1) := by decide +kernel
theorem dur_So_init_1 : decode urb_So_init 1 = .ok (.invokespecial 3, 3) := by decide +kernel
theorem dur_So_init_4 : decode urb_So_init 4 = .ok (.aload_n 0, 1) := by decide +kernel
theorem dur_So_init_5 : decode urb_So_init 5 = .ok (.bipush 12, 2) := by decide +kernel
theorem dur_So_init_7 : decode urb_So_init 7 = .ok (.newarray .int, 2) := by decide +kernel
theorem dur_So_init_9 : decode urb_So_init 9 = .ok (.putfield 9, 3) := by decide +kernel
theorem dur_So_init_12 : decode urb_So_init 12 = .ok (.aload_n 0, 1) := by decide +kernel
theorem dur_So_init_13 : decode urb_So_init 13 = .ok (.bipush 12, 2) := by decide +kernel
theorem dur_So_init_15 : decode urb_So_init 15 = .ok (.newarray .int, 2) := by decide +kernel
theorem dur_So_init_17 : decode urb_So_init 17 = .ok (.putfield 15, 3) := by decide +kernel
theorem dur_So_init_20 : decode urb_So_init 20 = .ok (.return_, 1) := by decide +kernel
theorem dur_Pr_init_0 : decode urb_Pr_init 0 = .ok (.aload_n 0, 1) := by decide +kernel
theorem dur_Pr_init_1 : decode urb_Pr_init 1 = .ok (.invokespecial 3, 3) := by decide +kernel
theorem dur_Pr_init_4 : decode urb_Pr_init 4 = .ok (.aload_n 0, 1) := by decide +kernel
theorem dur_Pr_init_5 : decode urb_Pr_init 5 = .ok (.iconst 0, 1) := by decide +kernel
theorem dur_Pr_init_6 : decode urb_Pr_init 6 = .ok (.putfield 9, 3) := by decide +kernel
theorem dur_Pr_init_9 : decode urb_Pr_init 9 = .ok (.aload_n 0, 1) := by decide +kernel
theorem dur_Pr_init_10 : decode urb_Pr_init 10 = .ok (.bipush 60, 2) := by decide +kernel
theorem dur_Pr_init_12 : decode urb_Pr_init 12 = .ok (.newarray .int, 2) := by decide +kernel
theorem dur_Pr_init_14 : decode urb_Pr_init 14 = .ok (.putfield 15, 3) := by decide +kernel
theorem dur_Pr_init_17 : decode urb_Pr_init 17 = .ok (.aload_n 0, 1) := by decide +kernel
theorem dur_Pr_init_18 : decode urb_Pr_init 18 = .ok (.bipush 60, 2) := by decide +kernel
theorem dur_Pr_init_20 : decode urb_Pr_init 20 = .ok (.newarray .int, 2) := by decide +kernel
theorem dur_Pr_init_22 : decode urb_Pr_init 22 = .ok (.putfield 19, 3) := by decide +kernel
