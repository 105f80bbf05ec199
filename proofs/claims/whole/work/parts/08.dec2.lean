/-! what each instruction is -/
theorem d_Ha_takeOut_0 : decode b_Ha_takeOut 0 = .ok (.aload_n 0, 1) := by decide +kernel
theorem d_Ha_takeOut_1 : decode b_Ha_takeOut 1 = .ok (.getfield 18, 3) := by decide +kernel
theorem d_Ha_takeOut_4 : decode b_Ha_takeOut 4 = .ok (.iload_n 1, 1) := by decide +kernel
theorem d_Ha_takeOut_5 : decode b_Ha_takeOut 5 = .ok (.isub, 1) := by decide +kernel
theorem d_Ha_takeOut_6 : decode b_Ha_takeOut 6 = .ok (.iconst 1, 1) := by decide +kernel
theorem d_Ha_takeOut_7 : decode b_Ha_takeOut 7 = .ok (.isub, 1) := by decide +kernel
theorem d_Ha_takeOut_8 : decode b_Ha_takeOut 8 = .ok (.istore_n 2, 1) := by decide +kernel
theorem d_Ha_takeOut_9 : decode b_Ha_takeOut 9 = .ok (.aload_n 0, 1) := by decide +kernel
theorem d_Ha_takeOut_10 : decode b_Ha_takeOut 10 = .ok (.getfield 9, 3) := by decide +kernel
theorem d_Ha_takeOut_13 : decode b_Ha_takeOut 13 = .ok (.iload_n 1, 1) := by decide +kernel
theorem d_Ha_takeOut_14 : decode b_Ha_takeOut 14 = .ok (.iconst 1, 1) := by decide +kernel
theorem d_Ha_takeOut_15 : decode b_Ha_takeOut 15 = .ok (.iadd, 1) := by decide +kernel
theorem d_Ha_takeOut_16 : decode b_Ha_takeOut 16 = .ok (.aload_n 0, 1) := by decide +kernel
theorem d_Ha_takeOut_17 : decode b_Ha_takeOut 17 = .ok (.getfield 9, 3) := by decide +kernel
theorem d_Ha_takeOut_20 : decode b_Ha_takeOut 20 = .ok (.iload_n 1, 1) := by decide +kernel
theorem d_Ha_takeOut_21 : decode b_Ha_takeOut 21 = .ok (.iload_n 2, 1) := by decide +kernel
theorem d_Ha_takeOut_22 : decode b_Ha_takeOut 22 = .ok (.invokestatic 30, 3) := by decide +kernel
theorem d_Ha_takeOut_25 : decode b_Ha_takeOut 25 = .ok (.aload_n 0, 1) := by decide +kernel
theorem d_Ha_takeOut_26 : decode b_Ha_takeOut 26 = .ok (.getfield 15, 3) := by decide +kernel
theorem d_Ha_takeOut_29 : decode b_Ha_takeOut 29 = .ok (.iload_n 1, 1) := by decide +kernel
theorem d_Ha_takeOut_30 : decode b_Ha_takeOut 30 = .ok (.iconst 1, 1) := by decide +kernel
theorem d_Ha_takeOut_31 : decode b_Ha_takeOut 31 = .ok (.iadd, 1) := by decide +kernel
theorem d_Ha_takeOut_32 : decode b_Ha_takeOut 32 = .ok (.iconst 0, 1) := by decide +kernel
theorem d_Ha_takeOut_33 : decode b_Ha_takeOut 33 = .ok (.invokestatic 26, 3) := by decide +kernel
theorem d_Ha_takeOut_36 : decode b_Ha_takeOut 36 = .ok (.aload_n 0, 1) := by decide +kernel
theorem d_Ha_takeOut_37 : decode b_Ha_takeOut 37 = .ok (.getfield 15, 3) := by decide +kernel
theorem d_Ha_takeOut_40 : decode b_Ha_takeOut 40 = .ok (.iload_n 1, 1) := by decide +kernel
theorem d_Ha_takeOut_41 : decode b_Ha_takeOut 41 = .ok (.iconst 0, 1) := by decide +kernel
theorem d_Ha_takeOut_42 : decode b_Ha_takeOut 42 = .ok (.invokestatic 26, 3) := by decide +kernel
theorem d_Ha_takeOut_45 : decode b_Ha_takeOut 45 = .ok (.iload_n 2, 1) := by decide +kernel
theorem d_Ha_takeOut_46 : decode b_Ha_takeOut 46 = .ok (.bipush 12, 2) := by decide +kernel
theorem d_Ha_takeOut_48 : decode b_Ha_takeOut 48 = .ok (.imul, 1) := by decide +kernel
theorem d_Ha_takeOut_49 : decode b_Ha_takeOut 49 = .ok (.invokestatic 30, 3) := by decide +kernel
theorem d_Ha_takeOut_52 : decode b_Ha_takeOut 52 = .ok (.aload_n 0, 1) := by decide +kernel
theorem d_Ha_takeOut_53 : decode b_Ha_takeOut 53 = .ok (.dup, 1) := by decide +kernel
theorem d_Ha_takeOut_54 : decode b_Ha_takeOut 54 = .ok (.getfield 18, 3) := by decide +kernel
theorem d_Ha_takeOut_57 : decode b_Ha_takeOut 57 = .ok (.iconst 1, 1) := by decide +kernel
theorem d_Ha_takeOut_58 : decode b_Ha_takeOut 58 = .ok (.isub, 1) := by decide +kernel
theorem d_Ha_takeOut_59 : decode b_Ha_takeOut 59 = .ok (.putfield 18, 3) := by decide +kernel
theorem d_Ha_takeOut_62 : decode b_Ha_takeOut 62 = .ok (.return_, 1) := by decide +kernel
theorem d_Ha_shrinkAll_0 : decode b_Ha_shrinkAll 0 = .ok (.iconst 0, 1) := by decide +kernel
theorem d_Ha_shrinkAll_1 : decode b_Ha_shrinkAll 1 = .ok (.istore_n 1, 1) := by decide +kernel
theorem d_Ha_shrinkAll_2 : decode b_Ha_shrinkAll 2 = .ok (.iload_n 1, 1) := by decide +kernel
theorem d_Ha_shrinkAll_3 : decode b_Ha_shrinkAll 3 = .ok (.aload_n 0, 1) := by decide +kernel
theorem d_Ha_shrinkAll_4 : decode b_Ha_shrinkAll 4 = .ok (.getfield 18, 3) := by decide +kernel
theorem d_Ha_shrinkAll_7 : decode b_Ha_shrinkAll 7 = .ok (.if_icmp .ge 34, 3) := by decide +kernel
theorem d_Ha_shrinkAll_10 : decode b_Ha_shrinkAll 10 = .ok (.iconst 0, 1) := by decide +kernel
theorem d_Ha_shrinkAll_11 : decode b_Ha_shrinkAll 11 = .ok (.istore_n 2, 1) := by decide +kernel
theorem d_Ha_shrinkAll_12 : decode b_Ha_shrinkAll 12 = .ok (.iload_n 2, 1) := by decide +kernel
theorem d_Ha_shrinkAll_13 : decode b_Ha_shrinkAll 13 = .ok (.iconst 3, 1) := by decide +kernel
theorem d_Ha_shrinkAll_14 : decode b_Ha_shrinkAll 14 = .ok (.if_icmp .ge 21, 3) := by decide +kernel
theorem d_Ha_shrinkAll_17 : decode b_Ha_shrinkAll 17 = .ok (.aload_n 0, 1) := by decide +kernel
theorem d_Ha_shrinkAll_18 : decode b_Ha_shrinkAll 18 = .ok (.getfield 15, 3) := by decide +kernel
theorem d_Ha_shrinkAll_21 : decode b_Ha_shrinkAll 21 = .ok (.iload_n 1, 1) := by decide +kernel
theorem d_Ha_shrinkAll_22 : decode b_Ha_shrinkAll 22 = .ok (.iload_n 2, 1) := by decide +kernel
theorem d_Ha_shrinkAll_23 : decode b_Ha_shrinkAll 23 = .ok (.invokestatic 26, 3) := by decide +kernel
theorem d_Ha_shrinkAll_26 : decode b_Ha_shrinkAll 26 = .ok (.invokestatic 36, 3) := by decide +kernel
theorem d_Ha_shrinkAll_29 : decode b_Ha_shrinkAll 29 = .ok (.iinc 2 1, 3) := by decide +kernel
theorem d_Ha_shrinkAll_32 : decode b_Ha_shrinkAll 32 = .ok (.goto (-20), 3) := by decide +kernel
theorem d_Ha_shrinkAll_35 : decode b_Ha_shrinkAll 35 = .ok (.iinc 1 1, 3) := by decide +kernel
theorem d_Ha_shrinkAll_38 : decode b_Ha_shrinkAll 38 = .ok (.goto (-36), 3) := by decide +kernel
theorem d_Ha_shrinkAll_41 : decode b_Ha_shrinkAll 41 = .ok (.return_, 1) := by decide +kernel
theorem d_Ha_withinLimits_0 : decode b_Ha_withinLimits 0 = .ok (.iload_n 1, 1) := by decide +kernel
theorem d_Ha_withinLimits_1 : decode b_Ha_withinLimits 1 = .ok (.iconst 0, 1) := by decide +kernel
theorem d_Ha_withinLimits_2 : decode b_Ha_withinLimits 2 = .ok (.invokestatic 26, 3) := by decide +kernel
theorem d_Ha_withinLimits_5 : decode b_Ha_withinLimits 5 = .ok (.istore_n 2, 1) := by decide +kernel
theorem d_Ha_withinLimits_6 : decode b_Ha_withinLimits 6 = .ok (.iconst 0, 1) := by decide +kernel
theorem d_Ha_withinLimits_7 : decode b_Ha_withinLimits 7 = .ok (.istore_n 3, 1) := by decide +kernel
theorem d_Ha_withinLimits_8 : decode b_Ha_withinLimits 8 = .ok (.iload_n 3, 1) := by decide +kernel
theorem d_Ha_withinLimits_9 : decode b_Ha_withinLimits 9 = .ok (.bipush 12, 2) := by decide +kernel
theorem d_Ha_withinLimits_11 : decode b_Ha_withinLimits 11 = .ok (.if_icmp .ge 25, 3) := by decide +kernel
theorem d_Ha_withinLimits_14 : decode b_Ha_withinLimits 14 = .ok (.aload_n 0, 1) := by decide +kernel
theorem d_Ha_withinLimits_15 : decode b_Ha_withinLimits 15 = .ok (.getfield 15, 3) := by decide +kernel
theorem d_Ha_withinLimits_18 : decode b_Ha_withinLimits 18 = .ok (.iload_n 2, 1) := by decide +kernel
theorem d_Ha_withinLimits_19 : decode b_Ha_withinLimits 19 = .ok (.iload_n 3, 1) := by decide +kernel
theorem d_Ha_withinLimits_20 : decode b_Ha_withinLimits 20 = .ok (.iadd, 1) := by decide +kernel
theorem d_Ha_withinLimits_21 : decode b_Ha_withinLimits 21 = .ok (.iaload, 1) := by decide +kernel
theorem d_Ha_withinLimits_22 : decode b_Ha_withinLimits 22 = .ok (.invokestatic 42, 3) := by decide +kernel
theorem d_Ha_withinLimits_25 : decode b_Ha_withinLimits 25 = .ok (.ifCond .ne 5, 3) := by decide +kernel
theorem d_Ha_withinLimits_28 : decode b_Ha_withinLimits 28 = .ok (.iconst 0, 1) := by decide +kernel
theorem d_Ha_withinLimits_29 : decode b_Ha_withinLimits 29 = .ok (.ireturn, 1) := by decide +kernel
theorem d_Ha_withinLimits_30 : decode b_Ha_withinLimits 30 = .ok (.iinc 3 1, 3) := by decide +kernel
theorem d_Ha_withinLimits_33 : decode b_Ha_withinLimits 33 = .ok (.goto (-25), 3) := by decide +kernel
theorem d_Ha_withinLimits_36 : decode b_Ha_withinLimits 36 = .ok (.iconst 1, 1) := by decide +kernel
theorem d_Ha_withinLimits_37 : decode b_Ha_withinLimits 37 = .ok (.ireturn, 1) := by decide +kernel
theorem d_Ha_allWithinLimits_0 : decode b_Ha_allWithinLimits 0 = .ok (.iconst 0, 1) := by decide +kernel
theorem d_Ha_allWithinLimits_1 : decode b_Ha_allWithinLimits 1 = .ok (.istore_n 1, 1) := by decide +kernel
theorem d_Ha_allWithinLimits_2 : decode b_Ha_allWithinLimits 2 = .ok (.iload_n 1, 1) := by decide +kernel
theorem d_Ha_allWithinLimits_3 : decode b_Ha_allWithinLimits 3 = .ok (.aload_n 0, 1) := by decide +kernel
theorem d_Ha_allWithinLimits_4 : decode b_Ha_allWithinLimits 4 = .ok (.getfield 18, 3) := by decide +kernel
theorem d_Ha_allWithinLimits_7 : decode b_Ha_allWithinLimits 7 = .ok (.if_icmp .ge 19, 3) := by decide +kernel
theorem d_Ha_allWithinLimits_10 : decode b_Ha_allWithinLimits 10 = .ok (.aload_n 0, 1) := by decide +kernel
theorem d_Ha_allWithinLimits_11 : decode b_Ha_allWithinLimits 11 = .ok (.iload_n 1, 1) := by decide +kernel
theorem d_Ha_allWithinLimits_12 : decode b_Ha_allWithinLimits 12 = .ok (.invokevirtual 46, 3) := by decide +kernel
theorem d_Ha_allWithinLimits_15 : decode b_Ha_allWithinLimits 15 = .ok (.ifCond .ne 5, 3) := by decide +kernel
theorem d_Ha_allWithinLimits_18 : decode b_Ha_allWithinLimits 18 = .ok (.iconst 0, 1) := by decide +kernel
theorem d_Ha_allWithinLimits_19 : decode b_Ha_allWithinLimits 19 = .ok (.ireturn, 1) := by decide +kernel
theorem d_Ha_allWithinLimits_20 : decode b_Ha_allWithinLimits 20 = .ok (.iinc 1 1, 3) := by decide +kernel
theorem d_Ha_allWithinLimits_23 : decode b_Ha_allWithinLimits 23 = .ok (.goto (-21), 3) := by decide +kernel
theorem d_Ha_allWithinLimits_26 : decode b_Ha_allWithinLimits 26 = .ok (.iconst 1, 1) := by decide +kernel
theorem d_Ha_allWithinLimits_27 : decode b_Ha_allWithinLimits 27 = .ok (.ireturn, 1) := by decide +kernel
theorem d_Ha_samePoint_0 : decode b_Ha_samePoint 0 = .ok (.aload_n 0, 1) := by decide +kernel
theorem d_Ha_samePoint_1 : decode b_Ha_samePoint 1 = .ok (.getfield 15, 3) := by decide +kernel
theorem d_Ha_samePoint_4 : decode b_Ha_samePoint 4 = .ok (.iload_n 1, 1) := by decide +kernel
theorem d_Ha_samePoint_5 : decode b_Ha_samePoint 5 = .ok (.iload_n 2, 1) := by decide +kernel
theorem d_Ha_samePoint_6 : decode b_Ha_samePoint 6 = .ok (.invokestatic 26, 3) := by decide +kernel
theorem d_Ha_samePoint_9 : decode b_Ha_samePoint 9 = .ok (.iload_n 3, 1) := by decide +kernel
theorem d_Ha_samePoint_10 : decode b_Ha_samePoint 10 = .ok (.iload 4, 2) := by decide +kernel
theorem d_Ha_samePoint_12 : decode b_Ha_samePoint 12 = .ok (.invokestatic 26, 3) := by decide +kernel
theorem d_Ha_samePoint_15 : decode b_Ha_samePoint 15 = .ok (.invokestatic 49, 3) := by decide +kernel
theorem d_Ha_samePoint_18 : decode b_Ha_samePoint 18 = .ok (.ireturn, 1) := by decide +kernel
theorem d_Ha_cornerAt_0 : decode b_Ha_cornerAt 0 = .ok (.iconst 0, 1) := by decide +kernel
theorem d_Ha_cornerAt_1 : decode b_Ha_cornerAt 1 = .ok (.istore 4, 2) := by decide +kernel
theorem d_Ha_cornerAt_3 : decode b_Ha_cornerAt 3 = .ok (.iload 4, 2) := by decide +kernel
theorem d_Ha_cornerAt_5 : decode b_Ha_cornerAt 5 = .ok (.iconst 3, 1) := by decide +kernel
theorem d_Ha_cornerAt_6 : decode b_Ha_cornerAt 6 = .ok (.if_icmp .ge 24, 3) := by decide +kernel
theorem d_Ha_cornerAt_9 : decode b_Ha_cornerAt 9 = .ok (.aload_n 0, 1) := by decide +kernel
theorem d_Ha_cornerAt_10 : decode b_Ha_cornerAt 10 = .ok (.iload_n 1, 1) := by decide +kernel
theorem d_Ha_cornerAt_11 : decode b_Ha_cornerAt 11 = .ok (.iload 4, 2) := by decide +kernel
theorem d_Ha_cornerAt_13 : decode b_Ha_cornerAt 13 = .ok (.iload_n 2, 1) := by decide +kernel
theorem d_Ha_cornerAt_14 : decode b_Ha_cornerAt 14 = .ok (.iload_n 3, 1) := by decide +kernel
theorem d_Ha_cornerAt_15 : decode b_Ha_cornerAt 15 = .ok (.invokevirtual 53, 3) := by decide +kernel
theorem d_Ha_cornerAt_18 : decode b_Ha_cornerAt 18 = .ok (.ifCond .eq 6, 3) := by decide +kernel
theorem d_Ha_cornerAt_21 : decode b_Ha_cornerAt 21 = .ok (.iload 4, 2) := by decide +kernel
theorem d_Ha_cornerAt_23 : decode b_Ha_cornerAt 23 = .ok (.ireturn, 1) := by decide +kernel
theorem d_Ha_cornerAt_24 : decode b_Ha_cornerAt 24 = .ok (.iinc 4 1, 3) := by decide +kernel
theorem d_Ha_cornerAt_27 : decode b_Ha_cornerAt 27 = .ok (.goto (-24), 3) := by decide +kernel
theorem d_Ha_cornerAt_30 : decode b_Ha_cornerAt 30 = .ok (.iconst (-1), 1) := by decide +kernel
theorem d_Ha_cornerAt_31 : decode b_Ha_cornerAt 31 = .ok (.ireturn, 1) := by decide +kernel
theorem d_Po_within_0 : decode b_Po_within 0 = .ok (.iload_n 0, 1) := by decide +kernel
theorem d_Po_within_1 : decode b_Po_within 1 = .ok (.invokestatic 9, 3) := by decide +kernel
theorem d_Po_within_4 : decode b_Po_within 4 = .ok (.ifCond .eq 28, 3) := by decide +kernel
theorem d_Po_within_7 : decode b_Po_within 7 = .ok (.iload_n 1, 1) := by decide +kernel
theorem d_Po_within_8 : decode b_Po_within 8 = .ok (.invokestatic 9, 3) := by decide +kernel
theorem d_Po_within_11 : decode b_Po_within 11 = .ok (.ifCond .eq 21, 3) := by decide +kernel
theorem d_Po_within_14 : decode b_Po_within 14 = .ok (.iload_n 2, 1) := by decide +kernel
theorem d_Po_within_15 : decode b_Po_within 15 = .ok (.invokestatic 9, 3) := by decide +kernel
theorem d_Po_within_18 : decode b_Po_within 18 = .ok (.ifCond .eq 14, 3) := by decide +kernel
theorem d_Po_within_21 : decode b_Po_within 21 = .ok (.iload_n 3, 1) := by decide +kernel
theorem d_Po_within_22 : decode b_Po_within 22 = .ok (.invokestatic 9, 3) := by decide +kernel
theorem d_Po_within_25 : decode b_Po_within 25 = .ok (.ifCond .eq 7, 3) := by decide +kernel
theorem d_Po_within_28 : decode b_Po_within 28 = .ok (.iconst 1, 1) := by decide +kernel
theorem d_Po_within_29 : decode b_Po_within 29 = .ok (.goto 4, 3) := by decide +kernel
theorem d_Po_within_32 : decode b_Po_within 32 = .ok (.iconst 0, 1) := by decide +kernel
theorem d_Po_within_33 : decode b_Po_within 33 = .ok (.ireturn, 1) := by decide +kernel
theorem d_Po_near_0 : decode b_Po_near 0 = .ok (.iload_n 0, 1) := by decide +kernel
theorem d_Po_near_1 : decode b_Po_near 1 = .ok (.ldc 15, 2) := by decide +kernel
theorem d_Po_near_3 : decode b_Po_near 3 = .ok (.if_icmp .lt 13, 3) := by decide +kernel
theorem d_Po_near_6 : decode b_Po_near 6 = .ok (.iload_n 0, 1) := by decide +kernel
theorem d_Po_near_7 : decode b_Po_near 7 = .ok (.ldc 16, 2) := by decide +kernel
theorem d_Po_near_9 : decode b_Po_near 9 = .ok (.if_icmp .gt 7, 3) := by decide +kernel
theorem d_Po_near_12 : decode b_Po_near 12 = .ok (.iconst 1, 1) := by decide +kernel
theorem d_Po_near_13 : decode b_Po_near 13 = .ok (.goto 4, 3) := by decide +kernel
theorem d_Po_near_16 : decode b_Po_near 16 = .ok (.iconst 0, 1) := by decide +kernel
theorem d_Po_near_17 : decode b_Po_near 17 = .ok (.ireturn, 1) := by decide +kernel
theorem d_Po_set_0 : decode b_Po_set 0 = .ok (.aload_n 0, 1) := by decide +kernel
theorem d_Po_set_1 : decode b_Po_set 1 = .ok (.iload_n 1, 1) := by decide +kernel
theorem d_Po_set_2 : decode b_Po_set 2 = .ok (.iload_n 2, 1) := by decide +kernel
theorem d_Po_set_3 : decode b_Po_set 3 = .ok (.iastore, 1) := by decide +kernel
theorem d_Po_set_4 : decode b_Po_set 4 = .ok (.aload_n 0, 1) := by decide +kernel
theorem d_Po_set_5 : decode b_Po_set 5 = .ok (.iload_n 1, 1) := by decide +kernel
theorem d_Po_set_6 : decode b_Po_set 6 = .ok (.iconst 1, 1) := by decide +kernel
theorem d_Po_set_7 : decode b_Po_set 7 = .ok (.iadd, 1) := by decide +kernel
theorem d_Po_set_8 : decode b_Po_set 8 = .ok (.iload_n 3, 1) := by decide +kernel
theorem d_Po_set_9 : decode b_Po_set 9 = .ok (.iastore, 1) := by decide +kernel
theorem d_Po_set_10 : decode b_Po_set 10 = .ok (.aload_n 0, 1) := by decide +kernel
theorem d_Po_set_11 : decode b_Po_set 11 = .ok (.iload_n 1, 1) := by decide +kernel
theorem d_Po_set_12 : decode b_Po_set 12 = .ok (.iconst 2, 1) := by decide +kernel
theorem d_Po_set_13 : decode b_Po_set 13 = .ok (.iadd, 1) := by decide +kernel
theorem d_Po_set_14 : decode b_Po_set 14 = .ok (.iload 4, 2) := by decide +kernel
theorem d_Po_set_16 : decode b_Po_set 16 = .ok (.iastore, 1) := by decide +kernel
theorem d_Po_set_17 : decode b_Po_set 17 = .ok (.aload_n 0, 1) := by decide +kernel
theorem d_Po_set_18 : decode b_Po_set 18 = .ok (.iload_n 1, 1) := by decide +kernel
theorem d_Po_set_19 : decode b_Po_set 19 = .ok (.iconst 3, 1) := by decide +kernel
theorem d_Po_set_20 : decode b_Po_set 20 = .ok (.iadd, 1) := by decide +kernel
theorem d_Po_set_21 : decode b_Po_set 21 = .ok (.iload 5, 2) := by decide +kernel
theorem d_Po_set_23 : decode b_Po_set 23 = .ok (.iastore, 1) := by decide +kernel
theorem d_Po_set_24 : decode b_Po_set 24 = .ok (.return_, 1) := by decide +kernel
theorem d_Po_add_0 : decode b_Po_add 0 = .ok (.iconst 0, 1) := by decide +kernel
theorem d_Po_add_1 : decode b_Po_add 1 = .ok (.istore 4, 2) := by decide +kernel
theorem d_Po_add_3 : decode b_Po_add 3 = .ok (.iload 4, 2) := by decide +kernel
theorem d_Po_add_5 : decode b_Po_add 5 = .ok (.iconst 4, 1) := by decide +kernel
theorem d_Po_add_6 : decode b_Po_add 6 = .ok (.if_icmp .ge 30, 3) := by decide +kernel
theorem d_Po_add_9 : decode b_Po_add 9 = .ok (.aload_n 0, 1) := by decide +kernel
theorem d_Po_add_10 : decode b_Po_add 10 = .ok (.iload_n 3, 1) := by decide +kernel
theorem d_Po_add_11 : decode b_Po_add 11 = .ok (.iload 4, 2) := by decide +kernel
theorem d_Po_add_13 : decode b_Po_add 13 = .ok (.iadd, 1) := by decide +kernel
theorem d_Po_add_14 : decode b_Po_add 14 = .ok (.aload_n 0, 1) := by decide +kernel
theorem d_Po_add_15 : decode b_Po_add 15 = .ok (.iload_n 1, 1) := by decide +kernel
theorem d_Po_add_16 : decode b_Po_add 16 = .ok (.iload 4, 2) := by decide +kernel
theorem d_Po_add_18 : decode b_Po_add 18 = .ok (.iadd, 1) := by decide +kernel
theorem d_Po_add_19 : decode b_Po_add 19 = .ok (.iaload, 1) := by decide +kernel
theorem d_Po_add_20 : decode b_Po_add 20 = .ok (.getstatic 17, 3) := by decide +kernel
theorem d_Po_add_23 : decode b_Po_add 23 = .ok (.iload_n 2, 1) := by decide +kernel
theorem d_Po_add_24 : decode b_Po_add 24 = .ok (.iload 4, 2) := by decide +kernel
theorem d_Po_add_26 : decode b_Po_add 26 = .ok (.iadd, 1) := by decide +kernel
theorem d_Po_add_27 : decode b_Po_add 27 = .ok (.iaload, 1) := by decide +kernel
theorem d_Po_add_28 : decode b_Po_add 28 = .ok (.iadd, 1) := by decide +kernel
theorem d_Po_add_29 : decode b_Po_add 29 = .ok (.iastore, 1) := by decide +kernel
theorem d_Po_add_30 : decode b_Po_add 30 = .ok (.iinc 4 1, 3) := by decide +kernel
theorem d_Po_add_33 : decode b_Po_add 33 = .ok (.goto (-30), 3) := by decide +kernel
theorem d_Po_add_36 : decode b_Po_add 36 = .ok (.return_, 1) := by decide +kernel
theorem d_Po_same_0 : decode b_Po_same 0 = .ok (.aload_n 0, 1) := by decide +kernel
theorem d_Po_same_1 : decode b_Po_same 1 = .ok (.iload_n 1, 1) := by decide +kernel
theorem d_Po_same_2 : decode b_Po_same 2 = .ok (.iaload, 1) := by decide +kernel
theorem d_Po_same_3 : decode b_Po_same 3 = .ok (.aload_n 0, 1) := by decide +kernel
theorem d_Po_same_4 : decode b_Po_same 4 = .ok (.iload_n 2, 1) := by decide +kernel
theorem d_Po_same_5 : decode b_Po_same 5 = .ok (.iaload, 1) := by decide +kernel
theorem d_Po_same_6 : decode b_Po_same 6 = .ok (.if_icmp .ne 46, 3) := by decide +kernel
theorem d_Po_same_9 : decode b_Po_same 9 = .ok (.aload_n 0, 1) := by decide +kernel
theorem d_Po_same_10 : decode b_Po_same 10 = .ok (.iload_n 1, 1) := by decide +kernel
theorem d_Po_same_11 : decode b_Po_same 11 = .ok (.iconst 1, 1) := by decide +kernel
theorem d_Po_same_12 : decode b_Po_same 12 = .ok (.iadd, 1) := by decide +kernel
theorem d_Po_same_13 : decode b_Po_same 13 = .ok (.iaload, 1) := by decide +kernel
theorem d_Po_same_14 : decode b_Po_same 14 = .ok (.aload_n 0, 1) := by decide +kernel
theorem d_Po_same_15 : decode b_Po_same 15 = .ok (.iload_n 2, 1) := by decide +kernel
theorem d_Po_same_16 : decode b_Po_same 16 = .ok (.iconst 1, 1) := by decide +kernel
theorem d_Po_same_17 : decode b_Po_same 17 = .ok (.iadd, 1) := by decide +kernel
theorem d_Po_same_18 : decode b_Po_same 18 = .ok (.iaload, 1) := by decide +kernel
theorem d_Po_same_19 : decode b_Po_same 19 = .ok (.if_icmp .ne 33, 3) := by decide +kernel
theorem d_Po_same_22 : decode b_Po_same 22 = .ok (.aload_n 0, 1) := by decide +kernel
theorem d_Po_same_23 : decode b_Po_same 23 = .ok (.iload_n 1, 1) := by decide +kernel
theorem d_Po_same_24 : decode b_Po_same 24 = .ok (.iconst 2, 1) := by decide +kernel
theorem d_Po_same_25 : decode b_Po_same 25 = .ok (.iadd, 1) := by decide +kernel
theorem d_Po_same_26 : decode b_Po_same 26 = .ok (.iaload, 1) := by decide +kernel
theorem d_Po_same_27 : decode b_Po_same 27 = .ok (.aload_n 0, 1) := by decide +kernel
theorem d_Po_same_28 : decode b_Po_same 28 = .ok (.iload_n 2, 1) := by decide +kernel
theorem d_Po_same_29 : decode b_Po_same 29 = .ok (.iconst 2, 1) := by decide +kernel
theorem d_Po_same_30 : decode b_Po_same 30 = .ok (.iadd, 1) := by decide +kernel
theorem d_Po_same_31 : decode b_Po_same 31 = .ok (.iaload, 1) := by decide +kernel
theorem d_Po_same_32 : decode b_Po_same 32 = .ok (.if_icmp .ne 20, 3) := by decide +kernel
theorem d_Po_same_35 : decode b_Po_same 35 = .ok (.aload_n 0, 1) := by decide +kernel
theorem d_Po_same_36 : decode b_Po_same 36 = .ok (.iload_n 1, 1) := by decide +kernel
theorem d_Po_same_37 : decode b_Po_same 37 = .ok (.iconst 3, 1) := by decide +kernel
theorem d_Po_same_38 : decode b_Po_same 38 = .ok (.iadd, 1) := by decide +kernel
theorem d_Po_same_39 : decode b_Po_same 39 = .ok (.iaload, 1) := by decide +kernel
theorem d_Po_same_40 : decode b_Po_same 40 = .ok (.aload_n 0, 1) := by decide +kernel
theorem d_Po_same_41 : decode b_Po_same 41 = .ok (.iload_n 2, 1) := by decide +kernel
theorem d_Po_same_42 : decode b_Po_same 42 = .ok (.iconst 3, 1) := by decide +kernel
theorem d_Po_same_43 : decode b_Po_same 43 = .ok (.iadd, 1) := by decide +kernel
theorem d_Po_same_44 : decode b_Po_same 44 = .ok (.iaload, 1) := by decide +kernel
theorem d_Po_same_45 : decode b_Po_same 45 = .ok (.if_icmp .ne 7, 3) := by decide +kernel
theorem d_Po_same_48 : decode b_Po_same 48 = .ok (.iconst 1, 1) := by decide +kernel
theorem d_Po_same_49 : decode b_Po_same 49 = .ok (.goto 4, 3) := by decide +kernel
theorem d_Po_same_52 : decode b_Po_same 52 = .ok (.iconst 0, 1) := by decide +kernel
theorem d_Po_same_53 : decode b_Po_same 53 = .ok (.ireturn, 1) := by decide +kernel
theorem d_Po_enlarge_0 : decode b_Po_enlarge 0 = .ok (.aload_n 0, 1) := by decide +kernel
theorem d_Po_enlarge_1 : decode b_Po_enlarge 1 = .ok (.iload_n 1, 1) := by decide +kernel
theorem d_Po_enlarge_2 : decode b_Po_enlarge 2 = .ok (.iaload, 1) := by decide +kernel
theorem d_Po_enlarge_3 : decode b_Po_enlarge 3 = .ok (.istore 4, 2) := by decide +kernel
theorem d_Po_enlarge_5 : decode b_Po_enlarge 5 = .ok (.aload_n 0, 1) := by decide +kernel
theorem d_Po_enlarge_6 : decode b_Po_enlarge 6 = .ok (.iload_n 1, 1) := by decide +kernel
theorem d_Po_enlarge_7 : decode b_Po_enlarge 7 = .ok (.iconst 1, 1) := by decide +kernel
theorem d_Po_enlarge_8 : decode b_Po_enlarge 8 = .ok (.iadd, 1) := by decide +kernel
theorem d_Po_enlarge_9 : decode b_Po_enlarge 9 = .ok (.iaload, 1) := by decide +kernel
theorem d_Po_enlarge_10 : decode b_Po_enlarge 10 = .ok (.istore 5, 2) := by decide +kernel
theorem d_Po_enlarge_12 : decode b_Po_enlarge 12 = .ok (.aload_n 0, 1) := by decide +kernel
theorem d_Po_enlarge_13 : decode b_Po_enlarge 13 = .ok (.iload_n 1, 1) := by decide +kernel
theorem d_Po_enlarge_14 : decode b_Po_enlarge 14 = .ok (.iconst 2, 1) := by decide +kernel
theorem d_Po_enlarge_15 : decode b_Po_enlarge 15 = .ok (.iadd, 1) := by decide +kernel
theorem d_Po_enlarge_16 : decode b_Po_enlarge 16 = .ok (.iaload, 1) := by decide +kernel
theorem d_Po_enlarge_17 : decode b_Po_enlarge 17 = .ok (.istore 6, 2) := by decide +kernel
theorem d_Po_enlarge_19 : decode b_Po_enlarge 19 = .ok (.aload_n 0, 1) := by decide +kernel
theorem d_Po_enlarge_20 : decode b_Po_enlarge 20 = .ok (.iload_n 1, 1) := by decide +kernel
theorem d_Po_enlarge_21 : decode b_Po_enlarge 21 = .ok (.iconst 3, 1) := by decide +kernel
theorem d_Po_enlarge_22 : decode b_Po_enlarge 22 = .ok (.iadd, 1) := by decide +kernel
theorem d_Po_enlarge_23 : decode b_Po_enlarge 23 = .ok (.iaload, 1) := by decide +kernel
theorem d_Po_enlarge_24 : decode b_Po_enlarge 24 = .ok (.istore 7, 2) := by decide +kernel
theorem d_Po_enlarge_26 : decode b_Po_enlarge 26 = .ok (.aload_n 2, 1) := by decide +kernel
theorem d_Po_enlarge_27 : decode b_Po_enlarge 27 = .ok (.iload_n 3, 1) := by decide +kernel
theorem d_Po_enlarge_28 : decode b_Po_enlarge 28 = .ok (.iload 5, 2) := by decide +kernel
theorem d_Po_enlarge_30 : decode b_Po_enlarge 30 = .ok (.iload 7, 2) := by decide +kernel
theorem d_Po_enlarge_32 : decode b_Po_enlarge 32 = .ok (.isub, 1) := by decide +kernel
theorem d_Po_enlarge_33 : decode b_Po_enlarge 33 = .ok (.iload 5, 2) := by decide +kernel
theorem d_Po_enlarge_35 : decode b_Po_enlarge 35 = .ok (.iload 6, 2) := by decide +kernel
theorem d_Po_enlarge_37 : decode b_Po_enlarge 37 = .ok (.iadd, 1) := by decide +kernel
theorem d_Po_enlarge_38 : decode b_Po_enlarge 38 = .ok (.iload 7, 2) := by decide +kernel
theorem d_Po_enlarge_40 : decode b_Po_enlarge 40 = .ok (.isub, 1) := by decide +kernel
theorem d_Po_enlarge_41 : decode b_Po_enlarge 41 = .ok (.iload 5, 2) := by decide +kernel
theorem d_Po_enlarge_43 : decode b_Po_enlarge 43 = .ok (.iload 6, 2) := by decide +kernel
theorem d_Po_enlarge_45 : decode b_Po_enlarge 45 = .ok (.iadd, 1) := by decide +kernel
theorem d_Po_enlarge_46 : decode b_Po_enlarge 46 = .ok (.iload 4, 2) := by decide +kernel
theorem d_Po_enlarge_48 : decode b_Po_enlarge 48 = .ok (.isub, 1) := by decide +kernel
theorem d_Po_enlarge_49 : decode b_Po_enlarge 49 = .ok (.iload 6, 2) := by decide +kernel
theorem d_Po_enlarge_51 : decode b_Po_enlarge 51 = .ok (.iload 4, 2) := by decide +kernel
theorem d_Po_enlarge_53 : decode b_Po_enlarge 53 = .ok (.isub, 1) := by decide +kernel
theorem d_Po_enlarge_54 : decode b_Po_enlarge 54 = .ok (.invokestatic 21, 3) := by decide +kernel
theorem d_Po_enlarge_57 : decode b_Po_enlarge 57 = .ok (.return_, 1) := by decide +kernel
theorem d_Po_shrink_0 : decode b_Po_shrink 0 = .ok (.aload_n 0, 1) := by decide +kernel
theorem d_Po_shrink_1 : decode b_Po_shrink 1 = .ok (.iload_n 1, 1) := by decide +kernel
theorem d_Po_shrink_2 : decode b_Po_shrink 2 = .ok (.iaload, 1) := by decide +kernel
theorem d_Po_shrink_3 : decode b_Po_shrink 3 = .ok (.istore_n 2, 1) := by decide +kernel
theorem d_Po_shrink_4 : decode b_Po_shrink 4 = .ok (.aload_n 0, 1) := by decide +kernel
theorem d_Po_shrink_5 : decode b_Po_shrink 5 = .ok (.iload_n 1, 1) := by decide +kernel
theorem d_Po_shrink_6 : decode b_Po_shrink 6 = .ok (.iconst 1, 1) := by decide +kernel
theorem d_Po_shrink_7 : decode b_Po_shrink 7 = .ok (.iadd, 1) := by decide +kernel
theorem d_Po_shrink_8 : decode b_Po_shrink 8 = .ok (.iaload, 1) := by decide +kernel
theorem d_Po_shrink_9 : decode b_Po_shrink 9 = .ok (.istore_n 3, 1) := by decide +kernel
theorem d_Po_shrink_10 : decode b_Po_shrink 10 = .ok (.aload_n 0, 1) := by decide +kernel
theorem d_Po_shrink_11 : decode b_Po_shrink 11 = .ok (.iload_n 1, 1) := by decide +kernel
theorem d_Po_shrink_12 : decode b_Po_shrink 12 = .ok (.iconst 2, 1) := by decide +kernel
theorem d_Po_shrink_13 : decode b_Po_shrink 13 = .ok (.iadd, 1) := by decide +kernel
theorem d_Po_shrink_14 : decode b_Po_shrink 14 = .ok (.iaload, 1) := by decide +kernel
theorem d_Po_shrink_15 : decode b_Po_shrink 15 = .ok (.istore 4, 2) := by decide +kernel
theorem d_Po_shrink_17 : decode b_Po_shrink 17 = .ok (.aload_n 0, 1) := by decide +kernel
theorem d_Po_shrink_18 : decode b_Po_shrink 18 = .ok (.iload_n 1, 1) := by decide +kernel
theorem d_Po_shrink_19 : decode b_Po_shrink 19 = .ok (.iconst 3, 1) := by decide +kernel
theorem d_Po_shrink_20 : decode b_Po_shrink 20 = .ok (.iadd, 1) := by decide +kernel
theorem d_Po_shrink_21 : decode b_Po_shrink 21 = .ok (.iaload, 1) := by decide +kernel
theorem d_Po_shrink_22 : decode b_Po_shrink 22 = .ok (.istore 5, 2) := by decide +kernel
theorem d_Po_shrink_24 : decode b_Po_shrink 24 = .ok (.aload_n 0, 1) := by decide +kernel
theorem d_Po_shrink_25 : decode b_Po_shrink 25 = .ok (.iload_n 1, 1) := by decide +kernel
theorem d_Po_shrink_26 : decode b_Po_shrink 26 = .ok (.iload_n 3, 1) := by decide +kernel
theorem d_Po_shrink_27 : decode b_Po_shrink 27 = .ok (.iload 5, 2) := by decide +kernel
theorem d_Po_shrink_29 : decode b_Po_shrink 29 = .ok (.isub, 1) := by decide +kernel
theorem d_Po_shrink_30 : decode b_Po_shrink 30 = .ok (.iload_n 2, 1) := by decide +kernel
theorem d_Po_shrink_31 : decode b_Po_shrink 31 = .ok (.isub, 1) := by decide +kernel
theorem d_Po_shrink_32 : decode b_Po_shrink 32 = .ok (.iload 4, 2) := by decide +kernel
theorem d_Po_shrink_34 : decode b_Po_shrink 34 = .ok (.iload 5, 2) := by decide +kernel
theorem d_Po_shrink_36 : decode b_Po_shrink 36 = .ok (.isub, 1) := by decide +kernel
theorem d_Po_shrink_37 : decode b_Po_shrink 37 = .ok (.iload_n 3, 1) := by decide +kernel
theorem d_Po_shrink_38 : decode b_Po_shrink 38 = .ok (.iload_n 2, 1) := by decide +kernel
theorem d_Po_shrink_39 : decode b_Po_shrink 39 = .ok (.isub, 1) := by decide +kernel
theorem d_Po_shrink_40 : decode b_Po_shrink 40 = .ok (.iload 4, 2) := by decide +kernel
theorem d_Po_shrink_42 : decode b_Po_shrink 42 = .ok (.iload_n 2, 1) := by decide +kernel
theorem d_Po_shrink_43 : decode b_Po_shrink 43 = .ok (.isub, 1) := by decide +kernel
theorem d_Po_shrink_44 : decode b_Po_shrink 44 = .ok (.iload 5, 2) := by decide +kernel
theorem d_Po_shrink_46 : decode b_Po_shrink 46 = .ok (.isub, 1) := by decide +kernel
theorem d_Po_shrink_47 : decode b_Po_shrink 47 = .ok (.invokestatic 21, 3) := by decide +kernel
theorem d_Po_shrink_50 : decode b_Po_shrink 50 = .ok (.return_, 1) := by decide +kernel
theorem d_Po_cut_0 : decode b_Po_cut 0 = .ok (.iconst 0, 1) := by decide +kernel
theorem d_Po_cut_1 : decode b_Po_cut 1 = .ok (.istore 4, 2) := by decide +kernel
theorem d_Po_cut_3 : decode b_Po_cut 3 = .ok (.iload 4, 2) := by decide +kernel
theorem d_Po_cut_5 : decode b_Po_cut 5 = .ok (.iconst 4, 1) := by decide +kernel
theorem d_Po_cut_6 : decode b_Po_cut 6 = .ok (.if_icmp .ge 28, 3) := by decide +kernel
theorem d_Po_cut_9 : decode b_Po_cut 9 = .ok (.aload_n 0, 1) := by decide +kernel
theorem d_Po_cut_10 : decode b_Po_cut 10 = .ok (.iload_n 3, 1) := by decide +kernel
theorem d_Po_cut_11 : decode b_Po_cut 11 = .ok (.iload 4, 2) := by decide +kernel
theorem d_Po_cut_13 : decode b_Po_cut 13 = .ok (.iadd, 1) := by decide +kernel
theorem d_Po_cut_14 : decode b_Po_cut 14 = .ok (.aload_n 0, 1) := by decide +kernel
theorem d_Po_cut_15 : decode b_Po_cut 15 = .ok (.iload_n 2, 1) := by decide +kernel
theorem d_Po_cut_16 : decode b_Po_cut 16 = .ok (.iload 4, 2) := by decide +kernel
theorem d_Po_cut_18 : decode b_Po_cut 18 = .ok (.iadd, 1) := by decide +kernel
theorem d_Po_cut_19 : decode b_Po_cut 19 = .ok (.iaload, 1) := by decide +kernel
theorem d_Po_cut_20 : decode b_Po_cut 20 = .ok (.aload_n 0, 1) := by decide +kernel
theorem d_Po_cut_21 : decode b_Po_cut 21 = .ok (.iload_n 1, 1) := by decide +kernel
theorem d_Po_cut_22 : decode b_Po_cut 22 = .ok (.iload 4, 2) := by decide +kernel
theorem d_Po_cut_24 : decode b_Po_cut 24 = .ok (.iadd, 1) := by decide +kernel
theorem d_Po_cut_25 : decode b_Po_cut 25 = .ok (.iaload, 1) := by decide +kernel
theorem d_Po_cut_26 : decode b_Po_cut 26 = .ok (.isub, 1) := by decide +kernel
theorem d_Po_cut_27 : decode b_Po_cut 27 = .ok (.iastore, 1) := by decide +kernel
theorem d_Po_cut_28 : decode b_Po_cut 28 = .ok (.iinc 4 1, 3) := by decide +kernel
theorem d_Po_cut_31 : decode b_Po_cut 31 = .ok (.goto (-28), 3) := by decide +kernel
theorem d_Po_cut_34 : decode b_Po_cut 34 = .ok (.aload_n 0, 1) := by decide +kernel
theorem d_Po_cut_35 : decode b_Po_cut 35 = .ok (.iload_n 3, 1) := by decide +kernel
theorem d_Po_cut_36 : decode b_Po_cut 36 = .ok (.invokestatic 25, 3) := by decide +kernel
theorem d_Po_cut_39 : decode b_Po_cut 39 = .ok (.iconst 0, 1) := by decide +kernel
theorem d_Po_cut_40 : decode b_Po_cut 40 = .ok (.istore 4, 2) := by decide +kernel
theorem d_Po_cut_42 : decode b_Po_cut 42 = .ok (.iload 4, 2) := by decide +kernel
theorem d_Po_cut_44 : decode b_Po_cut 44 = .ok (.iconst 4, 1) := by decide +kernel
theorem d_Po_cut_45 : decode b_Po_cut 45 = .ok (.if_icmp .ge 24, 3) := by decide +kernel
theorem d_Po_cut_48 : decode b_Po_cut 48 = .ok (.aload_n 0, 1) := by decide +kernel
theorem d_Po_cut_49 : decode b_Po_cut 49 = .ok (.iload_n 3, 1) := by decide +kernel
theorem d_Po_cut_50 : decode b_Po_cut 50 = .ok (.iload 4, 2) := by decide +kernel
theorem d_Po_cut_52 : decode b_Po_cut 52 = .ok (.iadd, 1) := by decide +kernel
theorem d_Po_cut_53 : decode b_Po_cut 53 = .ok (.dup2, 1) := by decide +kernel
theorem d_Po_cut_54 : decode b_Po_cut 54 = .ok (.iaload, 1) := by decide +kernel
theorem d_Po_cut_55 : decode b_Po_cut 55 = .ok (.aload_n 0, 1) := by decide +kernel
theorem d_Po_cut_56 : decode b_Po_cut 56 = .ok (.iload_n 1, 1) := by decide +kernel
theorem d_Po_cut_57 : decode b_Po_cut 57 = .ok (.iload 4, 2) := by decide +kernel
theorem d_Po_cut_59 : decode b_Po_cut 59 = .ok (.iadd, 1) := by decide +kernel
theorem d_Po_cut_60 : decode b_Po_cut 60 = .ok (.iaload, 1) := by decide +kernel
theorem d_Po_cut_61 : decode b_Po_cut 61 = .ok (.iadd, 1) := by decide +kernel
theorem d_Po_cut_62 : decode b_Po_cut 62 = .ok (.iastore, 1) := by decide +kernel
theorem d_Po_cut_63 : decode b_Po_cut 63 = .ok (.iinc 4 1, 3) := by decide +kernel
theorem d_Po_cut_66 : decode b_Po_cut 66 = .ok (.goto (-24), 3) := by decide +kernel
theorem d_Po_cut_69 : decode b_Po_cut 69 = .ok (.return_, 1) := by decide +kernel
theorem d_Po_height_0 : decode b_Po_height 0 = .ok (.iload_n 0, 1) := by decide +kernel
theorem d_Po_height_1 : decode b_Po_height 1 = .ok (.iconst 4, 1) := by decide +kernel
theorem d_Po_height_2 : decode b_Po_height 2 = .ok (.imul, 1) := by decide +kernel
theorem d_Po_height_3 : decode b_Po_height 3 = .ok (.istore_n 3, 1) := by decide +kernel
theorem d_Po_height_4 : decode b_Po_height 4 = .ok (.getstatic 29, 3) := by decide +kernel
theorem d_Po_height_7 : decode b_Po_height 7 = .ok (.iload_n 3, 1) := by decide +kernel
theorem d_Po_height_8 : decode b_Po_height 8 = .ok (.laload, 1) := by decide +kernel
theorem d_Po_height_9 : decode b_Po_height 9 = .ok (.aload_n 1, 1) := by decide +kernel
theorem d_Po_height_10 : decode b_Po_height 10 = .ok (.iload_n 2, 1) := by decide +kernel
theorem d_Po_height_11 : decode b_Po_height 11 = .ok (.iaload, 1) := by decide +kernel
theorem d_Po_height_12 : decode b_Po_height 12 = .ok (.i2l, 1) := by decide +kernel
theorem d_Po_height_13 : decode b_Po_height 13 = .ok (.lmul, 1) := by decide +kernel
theorem d_Po_height_14 : decode b_Po_height 14 = .ok (.getstatic 29, 3) := by decide +kernel
theorem d_Po_height_17 : decode b_Po_height 17 = .ok (.iload_n 3, 1) := by decide +kernel
theorem d_Po_height_18 : decode b_Po_height 18 = .ok (.iconst 1, 1) := by decide +kernel
theorem d_Po_height_19 : decode b_Po_height 19 = .ok (.iadd, 1) := by decide +kernel
theorem d_Po_height_20 : decode b_Po_height 20 = .ok (.laload, 1) := by decide +kernel
theorem d_Po_height_21 : decode b_Po_height 21 = .ok (.aload_n 1, 1) := by decide +kernel
theorem d_Po_height_22 : decode b_Po_height 22 = .ok (.iload_n 2, 1) := by decide +kernel
theorem d_Po_height_23 : decode b_Po_height 23 = .ok (.iconst 1, 1) := by decide +kernel
theorem d_Po_height_24 : decode b_Po_height 24 = .ok (.iadd, 1) := by decide +kernel
theorem d_Po_height_25 : decode b_Po_height 25 = .ok (.iaload, 1) := by decide +kernel
theorem d_Po_height_26 : decode b_Po_height 26 = .ok (.i2l, 1) := by decide +kernel
theorem d_Po_height_27 : decode b_Po_height 27 = .ok (.lmul, 1) := by decide +kernel
theorem d_Po_height_28 : decode b_Po_height 28 = .ok (.ladd, 1) := by decide +kernel
theorem d_Po_height_29 : decode b_Po_height 29 = .ok (.getstatic 29, 3) := by decide +kernel
theorem d_Po_height_32 : decode b_Po_height 32 = .ok (.iload_n 3, 1) := by decide +kernel
theorem d_Po_height_33 : decode b_Po_height 33 = .ok (.iconst 2, 1) := by decide +kernel
theorem d_Po_height_34 : decode b_Po_height 34 = .ok (.iadd, 1) := by decide +kernel
theorem d_Po_height_35 : decode b_Po_height 35 = .ok (.laload, 1) := by decide +kernel
theorem d_Po_height_36 : decode b_Po_height 36 = .ok (.aload_n 1, 1) := by decide +kernel
theorem d_Po_height_37 : decode b_Po_height 37 = .ok (.iload_n 2, 1) := by decide +kernel
theorem d_Po_height_38 : decode b_Po_height 38 = .ok (.iconst 2, 1) := by decide +kernel
theorem d_Po_height_39 : decode b_Po_height 39 = .ok (.iadd, 1) := by decide +kernel
theorem d_Po_height_40 : decode b_Po_height 40 = .ok (.iaload, 1) := by decide +kernel
theorem d_Po_height_41 : decode b_Po_height 41 = .ok (.i2l, 1) := by decide +kernel
theorem d_Po_height_42 : decode b_Po_height 42 = .ok (.lmul, 1) := by decide +kernel
theorem d_Po_height_43 : decode b_Po_height 43 = .ok (.ladd, 1) := by decide +kernel
theorem d_Po_height_44 : decode b_Po_height 44 = .ok (.getstatic 29, 3) := by decide +kernel
theorem d_Po_height_47 : decode b_Po_height 47 = .ok (.iload_n 3, 1) := by decide +kernel
theorem d_Po_height_48 : decode b_Po_height 48 = .ok (.iconst 3, 1) := by decide +kernel
theorem d_Po_height_49 : decode b_Po_height 49 = .ok (.iadd, 1) := by decide +kernel
theorem d_Po_height_50 : decode b_Po_height 50 = .ok (.laload, 1) := by decide +kernel
theorem d_Po_height_51 : decode b_Po_height 51 = .ok (.aload_n 1, 1) := by decide +kernel
theorem d_Po_height_52 : decode b_Po_height 52 = .ok (.iload_n 2, 1) := by decide +kernel
theorem d_Po_height_53 : decode b_Po_height 53 = .ok (.iconst 3, 1) := by decide +kernel
theorem d_Po_height_54 : decode b_Po_height 54 = .ok (.iadd, 1) := by decide +kernel
theorem d_Po_height_55 : decode b_Po_height 55 = .ok (.iaload, 1) := by decide +kernel
theorem d_Po_height_56 : decode b_Po_height 56 = .ok (.i2l, 1) := by decide +kernel
theorem d_Po_height_57 : decode b_Po_height 57 = .ok (.lmul, 1) := by decide +kernel
theorem d_Po_height_58 : decode b_Po_height 58 = .ok (.ladd, 1) := by decide +kernel
theorem d_Po_height_59 : decode b_Po_height 59 = .ok (.lreturn, 1) := by decide +kernel
theorem d_Po_piecesShare_0 : decode b_Po_piecesShare 0 = .ok (.iconst 0, 1) := by decide +kernel
theorem d_Po_piecesShare_1 : decode b_Po_piecesShare 1 = .ok (.istore 5, 2) := by decide +kernel
theorem d_Po_piecesShare_3 : decode b_Po_piecesShare 3 = .ok (.iload 5, 2) := by decide +kernel
theorem d_Po_piecesShare_5 : decode b_Po_piecesShare 5 = .ok (.iconst 5, 1) := by decide +kernel
theorem d_Po_piecesShare_6 : decode b_Po_piecesShare 6 = .ok (.if_icmp .ge 82, 3) := by decide +kernel
theorem d_Po_piecesShare_9 : decode b_Po_piecesShare 9 = .ok (.iload 5, 2) := by decide +kernel
theorem d_Po_piecesShare_11 : decode b_Po_piecesShare 11 = .ok (.aload_n 0, 1) := by decide +kernel
theorem d_Po_piecesShare_12 : decode b_Po_piecesShare 12 = .ok (.iload_n 1, 1) := by decide +kernel
theorem d_Po_piecesShare_13 : decode b_Po_piecesShare 13 = .ok (.invokestatic 33, 3) := by decide +kernel
theorem d_Po_piecesShare_16 : decode b_Po_piecesShare 16 = .ok (.lstore 6, 2) := by decide +kernel
theorem d_Po_piecesShare_18 : decode b_Po_piecesShare 18 = .ok (.lload 6, 2) := by decide +kernel
theorem d_Po_piecesShare_20 : decode b_Po_piecesShare 20 = .ok (.iload 5, 2) := by decide +kernel
theorem d_Po_piecesShare_22 : decode b_Po_piecesShare 22 = .ok (.aload_n 0, 1) := by decide +kernel
theorem d_Po_piecesShare_23 : decode b_Po_piecesShare 23 = .ok (.iload_n 2, 1) := by decide +kernel
theorem d_Po_piecesShare_24 : decode b_Po_piecesShare 24 = .ok (.invokestatic 33, 3) := by decide +kernel
theorem d_Po_piecesShare_27 : decode b_Po_piecesShare 27 = .ok (.lcmp, 1) := by decide +kernel
theorem d_Po_piecesShare_28 : decode b_Po_piecesShare 28 = .ok (.ifCond .ne 54, 3) := by decide +kernel
theorem d_Po_piecesShare_31 : decode b_Po_piecesShare 31 = .ok (.lload 6, 2) := by decide +kernel
theorem d_Po_piecesShare_33 : decode b_Po_piecesShare 33 = .ok (.iload 5, 2) := by decide +kernel
theorem d_Po_piecesShare_35 : decode b_Po_piecesShare 35 = .ok (.aload_n 0, 1) := by decide +kernel
theorem d_Po_piecesShare_36 : decode b_Po_piecesShare 36 = .ok (.iload_n 3, 1) := by decide +kernel
theorem d_Po_piecesShare_37 : decode b_Po_piecesShare 37 = .ok (.invokestatic 33, 3) := by decide +kernel
theorem d_Po_piecesShare_40 : decode b_Po_piecesShare 40 = .ok (.lcmp, 1) := by decide +kernel
theorem d_Po_piecesShare_41 : decode b_Po_piecesShare 41 = .ok (.ifCond .ne 39, 3) := by decide +kernel
theorem d_Po_piecesShare_44 : decode b_Po_piecesShare 44 = .ok (.lload 6, 2) := by decide +kernel
theorem d_Po_piecesShare_46 : decode b_Po_piecesShare 46 = .ok (.iload 5, 2) := by decide +kernel
theorem d_Po_piecesShare_48 : decode b_Po_piecesShare 48 = .ok (.aload_n 0, 1) := by decide +kernel
theorem d_Po_piecesShare_49 : decode b_Po_piecesShare 49 = .ok (.iload 4, 2) := by decide +kernel
theorem d_Po_piecesShare_51 : decode b_Po_piecesShare 51 = .ok (.invokestatic 33, 3) := by decide +kernel
theorem d_Po_piecesShare_54 : decode b_Po_piecesShare 54 = .ok (.lcmp, 1) := by decide +kernel
theorem d_Po_piecesShare_55 : decode b_Po_piecesShare 55 = .ok (.ifCond .ne 25, 3) := by decide +kernel
theorem d_Po_piecesShare_58 : decode b_Po_piecesShare 58 = .ok (.iload 5, 2) := by decide +kernel
theorem d_Po_piecesShare_60 : decode b_Po_piecesShare 60 = .ok (.iconst 1, 1) := by decide +kernel
theorem d_Po_piecesShare_61 : decode b_Po_piecesShare 61 = .ok (.iadd, 1) := by decide +kernel
theorem d_Po_piecesShare_62 : decode b_Po_piecesShare 62 = .ok (.iconst 5, 1) := by decide +kernel
theorem d_Po_piecesShare_63 : decode b_Po_piecesShare 63 = .ok (.irem, 1) := by decide +kernel
theorem d_Po_piecesShare_64 : decode b_Po_piecesShare 64 = .ok (.aload_n 0, 1) := by decide +kernel
theorem d_Po_piecesShare_65 : decode b_Po_piecesShare 65 = .ok (.iload_n 1, 1) := by decide +kernel
theorem d_Po_piecesShare_66 : decode b_Po_piecesShare 66 = .ok (.iload_n 2, 1) := by decide +kernel
theorem d_Po_piecesShare_67 : decode b_Po_piecesShare 67 = .ok (.iload_n 3, 1) := by decide +kernel
theorem d_Po_piecesShare_68 : decode b_Po_piecesShare 68 = .ok (.iload 4, 2) := by decide +kernel
theorem d_Po_piecesShare_70 : decode b_Po_piecesShare 70 = .ok (.invokestatic 37, 3) := by decide +kernel
theorem d_Po_piecesShare_73 : decode b_Po_piecesShare 73 = .ok (.ifCond .eq 7, 3) := by decide +kernel
theorem d_Po_piecesShare_76 : decode b_Po_piecesShare 76 = .ok (.iconst 1, 1) := by decide +kernel
theorem d_Po_piecesShare_77 : decode b_Po_piecesShare 77 = .ok (.goto 4, 3) := by decide +kernel
theorem d_Po_piecesShare_80 : decode b_Po_piecesShare 80 = .ok (.iconst 0, 1) := by decide +kernel
theorem d_Po_piecesShare_81 : decode b_Po_piecesShare 81 = .ok (.ireturn, 1) := by decide +kernel
theorem d_Po_piecesShare_82 : decode b_Po_piecesShare 82 = .ok (.iinc 5 1, 3) := by decide +kernel
theorem d_Po_piecesShare_85 : decode b_Po_piecesShare 85 = .ok (.goto (-82), 3) := by decide +kernel
theorem d_Po_piecesShare_88 : decode b_Po_piecesShare 88 = .ok (.iconst 0, 1) := by decide +kernel
theorem d_Po_piecesShare_89 : decode b_Po_piecesShare 89 = .ok (.ireturn, 1) := by decide +kernel
theorem d_Po_runsMeet_0 : decode b_Po_runsMeet 0 = .ok (.iload_n 0, 1) := by decide +kernel
theorem d_Po_runsMeet_1 : decode b_Po_runsMeet 1 = .ok (.aload_n 1, 1) := by decide +kernel
theorem d_Po_runsMeet_2 : decode b_Po_runsMeet 2 = .ok (.iload_n 2, 1) := by decide +kernel
theorem d_Po_runsMeet_3 : decode b_Po_runsMeet 3 = .ok (.invokestatic 33, 3) := by decide +kernel
theorem d_Po_runsMeet_6 : decode b_Po_runsMeet 6 = .ok (.lstore 6, 2) := by decide +kernel
theorem d_Po_runsMeet_8 : decode b_Po_runsMeet 8 = .ok (.iload_n 0, 1) := by decide +kernel
theorem d_Po_runsMeet_9 : decode b_Po_runsMeet 9 = .ok (.aload_n 1, 1) := by decide +kernel
theorem d_Po_runsMeet_10 : decode b_Po_runsMeet 10 = .ok (.iload_n 3, 1) := by decide +kernel
theorem d_Po_runsMeet_11 : decode b_Po_runsMeet 11 = .ok (.invokestatic 33, 3) := by decide +kernel
theorem d_Po_runsMeet_14 : decode b_Po_runsMeet 14 = .ok (.lstore 8, 2) := by decide +kernel
theorem d_Po_runsMeet_16 : decode b_Po_runsMeet 16 = .ok (.iload_n 0, 1) := by decide +kernel
theorem d_Po_runsMeet_17 : decode b_Po_runsMeet 17 = .ok (.aload_n 1, 1) := by decide +kernel
theorem d_Po_runsMeet_18 : decode b_Po_runsMeet 18 = .ok (.iload 4, 2) := by decide +kernel
theorem d_Po_runsMeet_20 : decode b_Po_runsMeet 20 = .ok (.invokestatic 33, 3) := by decide +kernel
theorem d_Po_runsMeet_23 : decode b_Po_runsMeet 23 = .ok (.lstore 10, 2) := by decide +kernel
theorem d_Po_runsMeet_25 : decode b_Po_runsMeet 25 = .ok (.iload_n 0, 1) := by decide +kernel
theorem d_Po_runsMeet_26 : decode b_Po_runsMeet 26 = .ok (.aload_n 1, 1) := by decide +kernel
theorem d_Po_runsMeet_27 : decode b_Po_runsMeet 27 = .ok (.iload 5, 2) := by decide +kernel
theorem d_Po_runsMeet_29 : decode b_Po_runsMeet 29 = .ok (.invokestatic 33, 3) := by decide +kernel
theorem d_Po_runsMeet_32 : decode b_Po_runsMeet 32 = .ok (.lstore 12, 2) := by decide +kernel
theorem d_Po_runsMeet_34 : decode b_Po_runsMeet 34 = .ok (.lload 6, 2) := by decide +kernel
theorem d_Po_runsMeet_36 : decode b_Po_runsMeet 36 = .ok (.lload 8, 2) := by decide +kernel
theorem d_Po_runsMeet_38 : decode b_Po_runsMeet 38 = .ok (.invokestatic 41, 3) := by decide +kernel
theorem d_Po_runsMeet_41 : decode b_Po_runsMeet 41 = .ok (.lload 10, 2) := by decide +kernel
theorem d_Po_runsMeet_43 : decode b_Po_runsMeet 43 = .ok (.lload 12, 2) := by decide +kernel
theorem d_Po_runsMeet_45 : decode b_Po_runsMeet 45 = .ok (.invokestatic 47, 3) := by decide +kernel
theorem d_Po_runsMeet_48 : decode b_Po_runsMeet 48 = .ok (.lcmp, 1) := by decide +kernel
theorem d_Po_runsMeet_49 : decode b_Po_runsMeet 49 = .ok (.ifCond .ge 25, 3) := by decide +kernel
theorem d_Po_runsMeet_52 : decode b_Po_runsMeet 52 = .ok (.lload 10, 2) := by decide +kernel
theorem d_Po_runsMeet_54 : decode b_Po_runsMeet 54 = .ok (.lload 12, 2) := by decide +kernel
theorem d_Po_runsMeet_56 : decode b_Po_runsMeet 56 = .ok (.invokestatic 41, 3) := by decide +kernel
theorem d_Po_runsMeet_59 : decode b_Po_runsMeet 59 = .ok (.lload 6, 2) := by decide +kernel
theorem d_Po_runsMeet_61 : decode b_Po_runsMeet 61 = .ok (.lload 8, 2) := by decide +kernel
theorem d_Po_runsMeet_63 : decode b_Po_runsMeet 63 = .ok (.invokestatic 47, 3) := by decide +kernel
theorem d_Po_runsMeet_66 : decode b_Po_runsMeet 66 = .ok (.lcmp, 1) := by decide +kernel
theorem d_Po_runsMeet_67 : decode b_Po_runsMeet 67 = .ok (.ifCond .ge 7, 3) := by decide +kernel
theorem d_Po_runsMeet_70 : decode b_Po_runsMeet 70 = .ok (.iconst 1, 1) := by decide +kernel
theorem d_Po_runsMeet_71 : decode b_Po_runsMeet 71 = .ok (.goto 4, 3) := by decide +kernel
theorem d_Po_runsMeet_74 : decode b_Po_runsMeet 74 = .ok (.iconst 0, 1) := by decide +kernel
theorem d_Po_runsMeet_75 : decode b_Po_runsMeet 75 = .ok (.ireturn, 1) := by decide +kernel
theorem d_Ru_init_0 : decode b_Ru_init 0 = .ok (.aload_n 0, 1) := by decide +kernel
theorem d_Ru_init_1 : decode b_Ru_init 1 = .ok (.invokespecial 1, 3) := by decide +kernel
theorem d_Ru_init_4 : decode b_Ru_init 4 = .ok (.aload_n 0, 1) := by decide +kernel
theorem d_Ru_init_5 : decode b_Ru_init 5 = .ok (.iconst 0, 1) := by decide +kernel
theorem d_Ru_init_6 : decode b_Ru_init 6 = .ok (.putfield 7, 3) := by decide +kernel
theorem d_Ru_init_9 : decode b_Ru_init 9 = .ok (.aload_n 0, 1) := by decide +kernel
theorem d_Ru_init_10 : decode b_Ru_init 10 = .ok (.iconst 0, 1) := by decide +kernel
theorem d_Ru_init_11 : decode b_Ru_init 11 = .ok (.putfield 13, 3) := by decide +kernel
theorem d_Ru_init_14 : decode b_Ru_init 14 = .ok (.aload_n 0, 1) := by decide +kernel
theorem d_Ru_init_15 : decode b_Ru_init 15 = .ok (.lconst 0, 1) := by decide +kernel
theorem d_Ru_init_16 : decode b_Ru_init 16 = .ok (.putfield 17, 3) := by decide +kernel
theorem d_Ru_init_19 : decode b_Ru_init 19 = .ok (.aload_n 0, 1) := by decide +kernel
theorem d_Ru_init_20 : decode b_Ru_init 20 = .ok (.lconst 0, 1) := by decide +kernel
theorem d_Ru_init_21 : decode b_Ru_init 21 = .ok (.putfield 21, 3) := by decide +kernel
theorem d_Ru_init_24 : decode b_Ru_init 24 = .ok (.aload_n 0, 1) := by decide +kernel
theorem d_Ru_init_25 : decode b_Ru_init 25 = .ok (.lconst 0, 1) := by decide +kernel
theorem d_Ru_init_26 : decode b_Ru_init 26 = .ok (.putfield 24, 3) := by decide +kernel
theorem d_Ru_init_29 : decode b_Ru_init 29 = .ok (.aload_n 0, 1) := by decide +kernel
theorem d_Ru_init_30 : decode b_Ru_init 30 = .ok (.new 27, 3) := by decide +kernel
theorem d_Ru_init_33 : decode b_Ru_init 33 = .ok (.dup, 1) := by decide +kernel
theorem d_Ru_init_34 : decode b_Ru_init 34 = .ok (.invokespecial 29, 3) := by decide +kernel
theorem d_Ru_init_37 : decode b_Ru_init 37 = .ok (.putfield 30, 3) := by decide +kernel
theorem d_Ru_init_40 : decode b_Ru_init 40 = .ok (.aload_n 0, 1) := by decide +kernel
theorem d_Ru_init_41 : decode b_Ru_init 41 = .ok (.new 27, 3) := by decide +kernel
theorem d_Ru_init_44 : decode b_Ru_init 44 = .ok (.dup, 1) := by decide +kernel
theorem d_Ru_init_45 : decode b_Ru_init 45 = .ok (.invokespecial 29, 3) := by decide +kernel
theorem d_Ru_init_48 : decode b_Ru_init 48 = .ok (.putfield 34, 3) := by decide +kernel
theorem d_Ru_init_51 : decode b_Ru_init 51 = .ok (.return_, 1) := by decide +kernel
theorem d_Ru_layRight_0 : decode b_Ru_layRight 0 = .ok (.aload_n 0, 1) := by decide +kernel
theorem d_Ru_layRight_1 : decode b_Ru_layRight 1 = .ok (.iconst 0, 1) := by decide +kernel
theorem d_Ru_layRight_2 : decode b_Ru_layRight 2 = .ok (.putfield 7, 3) := by decide +kernel
theorem d_Ru_layRight_5 : decode b_Ru_layRight 5 = .ok (.aload_n 0, 1) := by decide +kernel
theorem d_Ru_layRight_6 : decode b_Ru_layRight 6 = .ok (.lload_n 3, 1) := by decide +kernel
theorem d_Ru_layRight_7 : decode b_Ru_layRight 7 = .ok (.putfield 17, 3) := by decide +kernel
theorem d_Ru_layRight_10 : decode b_Ru_layRight 10 = .ok (.aload_n 0, 1) := by decide +kernel
theorem d_Ru_layRight_11 : decode b_Ru_layRight 11 = .ok (.iconst 2, 1) := by decide +kernel
theorem d_Ru_layRight_12 : decode b_Ru_layRight 12 = .ok (.aload_n 1, 1) := by decide +kernel
theorem d_Ru_layRight_13 : decode b_Ru_layRight 13 = .ok (.iload_n 2, 1) := by decide +kernel
theorem d_Ru_layRight_14 : decode b_Ru_layRight 14 = .ok (.iaload, 1) := by decide +kernel
theorem d_Ru_layRight_15 : decode b_Ru_layRight 15 = .ok (.imul, 1) := by decide +kernel
theorem d_Ru_layRight_16 : decode b_Ru_layRight 16 = .ok (.aload_n 1, 1) := by decide +kernel
theorem d_Ru_layRight_17 : decode b_Ru_layRight 17 = .ok (.iload_n 2, 1) := by decide +kernel
theorem d_Ru_layRight_18 : decode b_Ru_layRight 18 = .ok (.iconst 1, 1) := by decide +kernel
theorem d_Ru_layRight_19 : decode b_Ru_layRight 19 = .ok (.iadd, 1) := by decide +kernel
theorem d_Ru_layRight_20 : decode b_Ru_layRight 20 = .ok (.iaload, 1) := by decide +kernel
theorem d_Ru_layRight_21 : decode b_Ru_layRight 21 = .ok (.isub, 1) := by decide +kernel
theorem d_Ru_layRight_22 : decode b_Ru_layRight 22 = .ok (.i2l, 1) := by decide +kernel
theorem d_Ru_layRight_23 : decode b_Ru_layRight 23 = .ok (.putfield 21, 3) := by decide +kernel
theorem d_Ru_layRight_26 : decode b_Ru_layRight 26 = .ok (.aload_n 0, 1) := by decide +kernel
theorem d_Ru_layRight_27 : decode b_Ru_layRight 27 = .ok (.aload_n 1, 1) := by decide +kernel
theorem d_Ru_layRight_28 : decode b_Ru_layRight 28 = .ok (.iload_n 2, 1) := by decide +kernel
theorem d_Ru_layRight_29 : decode b_Ru_layRight 29 = .ok (.iconst 1, 1) := by decide +kernel
theorem d_Ru_layRight_30 : decode b_Ru_layRight 30 = .ok (.iadd, 1) := by decide +kernel
theorem d_Ru_layRight_31 : decode b_Ru_layRight 31 = .ok (.iaload, 1) := by decide +kernel
theorem d_Ru_layRight_32 : decode b_Ru_layRight 32 = .ok (.aload_n 1, 1) := by decide +kernel
theorem d_Ru_layRight_33 : decode b_Ru_layRight 33 = .ok (.iload_n 2, 1) := by decide +kernel
theorem d_Ru_layRight_34 : decode b_Ru_layRight 34 = .ok (.iconst 2, 1) := by decide +kernel
theorem d_Ru_layRight_35 : decode b_Ru_layRight 35 = .ok (.iadd, 1) := by decide +kernel
theorem d_Ru_layRight_36 : decode b_Ru_layRight 36 = .ok (.iaload, 1) := by decide +kernel
theorem d_Ru_layRight_37 : decode b_Ru_layRight 37 = .ok (.isub, 1) := by decide +kernel
theorem d_Ru_layRight_38 : decode b_Ru_layRight 38 = .ok (.aload_n 1, 1) := by decide +kernel
theorem d_Ru_layRight_39 : decode b_Ru_layRight 39 = .ok (.iload_n 2, 1) := by decide +kernel
theorem d_Ru_layRight_40 : decode b_Ru_layRight 40 = .ok (.iconst 3, 1) := by decide +kernel
theorem d_Ru_layRight_41 : decode b_Ru_layRight 41 = .ok (.iadd, 1) := by decide +kernel
theorem d_Ru_layRight_42 : decode b_Ru_layRight 42 = .ok (.iaload, 1) := by decide +kernel
theorem d_Ru_layRight_43 : decode b_Ru_layRight 43 = .ok (.isub, 1) := by decide +kernel
theorem d_Ru_layRight_44 : decode b_Ru_layRight 44 = .ok (.i2l, 1) := by decide +kernel
theorem d_Ru_layRight_45 : decode b_Ru_layRight 45 = .ok (.putfield 24, 3) := by decide +kernel
theorem d_Ru_layRight_48 : decode b_Ru_layRight 48 = .ok (.return_, 1) := by decide +kernel
theorem d_Ru_layUp_0 : decode b_Ru_layUp 0 = .ok (.aload_n 0, 1) := by decide +kernel
theorem d_Ru_layUp_1 : decode b_Ru_layUp 1 = .ok (.iconst 1, 1) := by decide +kernel
theorem d_Ru_layUp_2 : decode b_Ru_layUp 2 = .ok (.putfield 7, 3) := by decide +kernel
theorem d_Ru_layUp_5 : decode b_Ru_layUp 5 = .ok (.aload_n 0, 1) := by decide +kernel
theorem d_Ru_layUp_6 : decode b_Ru_layUp 6 = .ok (.iconst 0, 1) := by decide +kernel
theorem d_Ru_layUp_7 : decode b_Ru_layUp 7 = .ok (.aload_n 1, 1) := by decide +kernel
theorem d_Ru_layUp_8 : decode b_Ru_layUp 8 = .ok (.iload_n 2, 1) := by decide +kernel
theorem d_Ru_layUp_9 : decode b_Ru_layUp 9 = .ok (.invokestatic 37, 3) := by decide +kernel
theorem d_Ru_layUp_12 : decode b_Ru_layUp 12 = .ok (.invokestatic 43, 3) := by decide +kernel
theorem d_Ru_layUp_15 : decode b_Ru_layUp 15 = .ok (.putfield 13, 3) := by decide +kernel
theorem d_Ru_layUp_18 : decode b_Ru_layUp 18 = .ok (.aload_n 0, 1) := by decide +kernel
theorem d_Ru_layUp_19 : decode b_Ru_layUp 19 = .ok (.lload_n 3, 1) := by decide +kernel
theorem d_Ru_layUp_20 : decode b_Ru_layUp 20 = .ok (.lload_n 3, 1) := by decide +kernel
theorem d_Ru_layUp_21 : decode b_Ru_layUp 21 = .ok (.lmul, 1) := by decide +kernel
theorem d_Ru_layUp_22 : decode b_Ru_layUp 22 = .ok (.putfield 17, 3) := by decide +kernel
theorem d_Ru_layUp_25 : decode b_Ru_layUp 25 = .ok (.aload_n 1, 1) := by decide +kernel
theorem d_Ru_layUp_26 : decode b_Ru_layUp 26 = .ok (.iload_n 2, 1) := by decide +kernel
theorem d_Ru_layUp_27 : decode b_Ru_layUp 27 = .ok (.iconst 2, 1) := by decide +kernel
theorem d_Ru_layUp_28 : decode b_Ru_layUp 28 = .ok (.iadd, 1) := by decide +kernel
theorem d_Ru_layUp_29 : decode b_Ru_layUp 29 = .ok (.iaload, 1) := by decide +kernel
theorem d_Ru_layUp_30 : decode b_Ru_layUp 30 = .ok (.aload_n 1, 1) := by decide +kernel
theorem d_Ru_layUp_31 : decode b_Ru_layUp 31 = .ok (.iload_n 2, 1) := by decide +kernel
theorem d_Ru_layUp_32 : decode b_Ru_layUp 32 = .ok (.iconst 3, 1) := by decide +kernel
theorem d_Ru_layUp_33 : decode b_Ru_layUp 33 = .ok (.iadd, 1) := by decide +kernel
theorem d_Ru_layUp_34 : decode b_Ru_layUp 34 = .ok (.iaload, 1) := by decide +kernel
theorem d_Ru_layUp_35 : decode b_Ru_layUp 35 = .ok (.isub, 1) := by decide +kernel
theorem d_Ru_layUp_36 : decode b_Ru_layUp 36 = .ok (.i2l, 1) := by decide +kernel
theorem d_Ru_layUp_37 : decode b_Ru_layUp 37 = .ok (.lstore 5, 2) := by decide +kernel
theorem d_Ru_layUp_39 : decode b_Ru_layUp 39 = .ok (.aload_n 1, 1) := by decide +kernel
theorem d_Ru_layUp_40 : decode b_Ru_layUp 40 = .ok (.iload_n 2, 1) := by decide +kernel
theorem d_Ru_layUp_41 : decode b_Ru_layUp 41 = .ok (.iconst 1, 1) := by decide +kernel
theorem d_Ru_layUp_42 : decode b_Ru_layUp 42 = .ok (.iadd, 1) := by decide +kernel
theorem d_Ru_layUp_43 : decode b_Ru_layUp 43 = .ok (.iaload, 1) := by decide +kernel
theorem d_Ru_layUp_44 : decode b_Ru_layUp 44 = .ok (.i2l, 1) := by decide +kernel
theorem d_Ru_layUp_45 : decode b_Ru_layUp 45 = .ok (.lstore 7, 2) := by decide +kernel
theorem d_Ru_layUp_47 : decode b_Ru_layUp 47 = .ok (.lload 5, 2) := by decide +kernel
theorem d_Ru_layUp_49 : decode b_Ru_layUp 49 = .ok (.lload 5, 2) := by decide +kernel
theorem d_Ru_layUp_51 : decode b_Ru_layUp 51 = .ok (.lmul, 1) := by decide +kernel
theorem d_Ru_layUp_52 : decode b_Ru_layUp 52 = .ok (.lload 7, 2) := by decide +kernel
theorem d_Ru_layUp_54 : decode b_Ru_layUp 54 = .ok (.lload 7, 2) := by decide +kernel
theorem d_Ru_layUp_56 : decode b_Ru_layUp 56 = .ok (.lmul, 1) := by decide +kernel
theorem d_Ru_layUp_57 : decode b_Ru_layUp 57 = .ok (.ladd, 1) := by decide +kernel
theorem d_Ru_layUp_58 : decode b_Ru_layUp 58 = .ok (.lstore 9, 2) := by decide +kernel
theorem d_Ru_layUp_60 : decode b_Ru_layUp 60 = .ok (.ldc2_w 49, 3) := by decide +kernel
theorem d_Ru_layUp_63 : decode b_Ru_layUp 63 = .ok (.lload 5, 2) := by decide +kernel
theorem d_Ru_layUp_65 : decode b_Ru_layUp 65 = .ok (.lmul, 1) := by decide +kernel
theorem d_Ru_layUp_66 : decode b_Ru_layUp 66 = .ok (.lload 7, 2) := by decide +kernel
theorem d_Ru_layUp_68 : decode b_Ru_layUp 68 = .ok (.lmul, 1) := by decide +kernel
theorem d_Ru_layUp_69 : decode b_Ru_layUp 69 = .ok (.lload 7, 2) := by decide +kernel
theorem d_Ru_layUp_71 : decode b_Ru_layUp 71 = .ok (.lload 7, 2) := by decide +kernel
theorem d_Ru_layUp_73 : decode b_Ru_layUp 73 = .ok (.lmul, 1) := by decide +kernel
theorem d_Ru_layUp_74 : decode b_Ru_layUp 74 = .ok (.ladd, 1) := by decide +kernel
theorem d_Ru_layUp_75 : decode b_Ru_layUp 75 = .ok (.lstore 11, 2) := by decide +kernel
theorem d_Ru_layUp_77 : decode b_Ru_layUp 77 = .ok (.aload_n 0, 1) := by decide +kernel
theorem d_Ru_layUp_78 : decode b_Ru_layUp 78 = .ok (.ldc2_w 51, 3) := by decide +kernel
theorem d_Ru_layUp_81 : decode b_Ru_layUp 81 = .ok (.lload 9, 2) := by decide +kernel
theorem d_Ru_layUp_83 : decode b_Ru_layUp 83 = .ok (.lmul, 1) := by decide +kernel
theorem d_Ru_layUp_84 : decode b_Ru_layUp 84 = .ok (.lload 11, 2) := by decide +kernel
theorem d_Ru_layUp_86 : decode b_Ru_layUp 86 = .ok (.lsub, 1) := by decide +kernel
theorem d_Ru_layUp_87 : decode b_Ru_layUp 87 = .ok (.putfield 21, 3) := by decide +kernel
theorem d_Ru_layUp_90 : decode b_Ru_layUp 90 = .ok (.aload_n 0, 1) := by decide +kernel
theorem d_Ru_layUp_91 : decode b_Ru_layUp 91 = .ok (.ldc2_w 49, 3) := by decide +kernel
theorem d_Ru_layUp_94 : decode b_Ru_layUp 94 = .ok (.lload 11, 2) := by decide +kernel
theorem d_Ru_layUp_96 : decode b_Ru_layUp 96 = .ok (.lmul, 1) := by decide +kernel
theorem d_Ru_layUp_97 : decode b_Ru_layUp 97 = .ok (.lload 9, 2) := by decide +kernel
theorem d_Ru_layUp_99 : decode b_Ru_layUp 99 = .ok (.lsub, 1) := by decide +kernel
theorem d_Ru_layUp_100 : decode b_Ru_layUp 100 = .ok (.putfield 24, 3) := by decide +kernel
theorem d_Ru_layUp_103 : decode b_Ru_layUp 103 = .ok (.return_, 1) := by decide +kernel
theorem d_Ru_nearest_0 : decode b_Ru_nearest 0 = .ok (.ldc2_w 53, 3) := by decide +kernel
theorem d_Ru_nearest_3 : decode b_Ru_nearest 3 = .ok (.lstore_n 1, 1) := by decide +kernel
theorem d_Ru_nearest_4 : decode b_Ru_nearest 4 = .ok (.ldc2_w 55, 3) := by decide +kernel
theorem d_Ru_nearest_7 : decode b_Ru_nearest 7 = .ok (.lstore_n 3, 1) := by decide +kernel
theorem d_Ru_nearest_8 : decode b_Ru_nearest 8 = .ok (.iconst 0, 1) := by decide +kernel
theorem d_Ru_nearest_9 : decode b_Ru_nearest 9 = .ok (.istore 5, 2) := by decide +kernel
theorem d_Ru_nearest_11 : decode b_Ru_nearest 11 = .ok (.iload 5, 2) := by decide +kernel
theorem d_Ru_nearest_13 : decode b_Ru_nearest 13 = .ok (.bipush 64, 2) := by decide +kernel
theorem d_Ru_nearest_15 : decode b_Ru_nearest 15 = .ok (.if_icmp .ge 48, 3) := by decide +kernel
theorem d_Ru_nearest_18 : decode b_Ru_nearest 18 = .ok (.lload_n 3, 1) := by decide +kernel
theorem d_Ru_nearest_19 : decode b_Ru_nearest 19 = .ok (.lload_n 1, 1) := by decide +kernel
theorem d_Ru_nearest_20 : decode b_Ru_nearest 20 = .ok (.lsub, 1) := by decide +kernel
theorem d_Ru_nearest_21 : decode b_Ru_nearest 21 = .ok (.lconst 1, 1) := by decide +kernel
theorem d_Ru_nearest_22 : decode b_Ru_nearest 22 = .ok (.lcmp, 1) := by decide +kernel
theorem d_Ru_nearest_23 : decode b_Ru_nearest 23 = .ok (.ifCond .le 40, 3) := by decide +kernel
theorem d_Ru_nearest_26 : decode b_Ru_nearest 26 = .ok (.lload_n 1, 1) := by decide +kernel
theorem d_Ru_nearest_27 : decode b_Ru_nearest 27 = .ok (.lload_n 3, 1) := by decide +kernel
theorem d_Ru_nearest_28 : decode b_Ru_nearest 28 = .ok (.ladd, 1) := by decide +kernel
theorem d_Ru_nearest_29 : decode b_Ru_nearest 29 = .ok (.iconst 1, 1) := by decide +kernel
theorem d_Ru_nearest_30 : decode b_Ru_nearest 30 = .ok (.lshr, 1) := by decide +kernel
theorem d_Ru_nearest_31 : decode b_Ru_nearest 31 = .ok (.lstore 6, 2) := by decide +kernel
theorem d_Ru_nearest_33 : decode b_Ru_nearest 33 = .ok (.aload_n 0, 1) := by decide +kernel
theorem d_Ru_nearest_34 : decode b_Ru_nearest 34 = .ok (.ldc2_w 49, 3) := by decide +kernel
theorem d_Ru_nearest_37 : decode b_Ru_nearest 37 = .ok (.lload 6, 2) := by decide +kernel
theorem d_Ru_nearest_39 : decode b_Ru_nearest 39 = .ok (.lmul, 1) := by decide +kernel
theorem d_Ru_nearest_40 : decode b_Ru_nearest 40 = .ok (.lconst 1, 1) := by decide +kernel
theorem d_Ru_nearest_41 : decode b_Ru_nearest 41 = .ok (.lsub, 1) := by decide +kernel
theorem d_Ru_nearest_42 : decode b_Ru_nearest 42 = .ok (.invokevirtual 57, 3) := by decide +kernel
theorem d_Ru_nearest_45 : decode b_Ru_nearest 45 = .ok (.ifCond .eq 9, 3) := by decide +kernel
theorem d_Ru_nearest_48 : decode b_Ru_nearest 48 = .ok (.lload 6, 2) := by decide +kernel
theorem d_Ru_nearest_50 : decode b_Ru_nearest 50 = .ok (.lstore_n 1, 1) := by decide +kernel
theorem d_Ru_nearest_51 : decode b_Ru_nearest 51 = .ok (.goto 6, 3) := by decide +kernel
theorem d_Ru_nearest_54 : decode b_Ru_nearest 54 = .ok (.lload 6, 2) := by decide +kernel
theorem d_Ru_nearest_56 : decode b_Ru_nearest 56 = .ok (.lstore_n 3, 1) := by decide +kernel
theorem d_Ru_nearest_57 : decode b_Ru_nearest 57 = .ok (.iinc 5 1, 3) := by decide +kernel
theorem d_Ru_nearest_60 : decode b_Ru_nearest 60 = .ok (.goto (-49), 3) := by decide +kernel
theorem d_Ru_nearest_63 : decode b_Ru_nearest 63 = .ok (.lload_n 1, 1) := by decide +kernel
theorem d_Ru_nearest_64 : decode b_Ru_nearest 64 = .ok (.lreturn, 1) := by decide +kernel
theorem d_Ru_twiceReaches_0 : decode b_Ru_twiceReaches 0 = .ok (.aload_n 0, 1) := by decide +kernel
theorem d_Ru_twiceReaches_1 : decode b_Ru_twiceReaches 1 = .ok (.getfield 7, 3) := by decide +kernel
theorem d_Ru_twiceReaches_4 : decode b_Ru_twiceReaches 4 = .ok (.ifCond .ne 18, 3) := by decide +kernel
theorem d_Ru_twiceReaches_7 : decode b_Ru_twiceReaches 7 = .ok (.aload_n 0, 1) := by decide +kernel
theorem d_Ru_twiceReaches_8 : decode b_Ru_twiceReaches 8 = .ok (.lconst 1, 1) := by decide +kernel
theorem d_Ru_twiceReaches_9 : decode b_Ru_twiceReaches 9 = .ok (.lload_n 1, 1) := by decide +kernel
theorem d_Ru_twiceReaches_10 : decode b_Ru_twiceReaches 10 = .ok (.invokevirtual 61, 3) := by decide +kernel
theorem d_Ru_twiceReaches_13 : decode b_Ru_twiceReaches 13 = .ok (.ifCond .lt 7, 3) := by decide +kernel
theorem d_Ru_twiceReaches_16 : decode b_Ru_twiceReaches 16 = .ok (.iconst 1, 1) := by decide +kernel
theorem d_Ru_twiceReaches_17 : decode b_Ru_twiceReaches 17 = .ok (.goto 4, 3) := by decide +kernel
theorem d_Ru_twiceReaches_20 : decode b_Ru_twiceReaches 20 = .ok (.iconst 0, 1) := by decide +kernel
theorem d_Ru_twiceReaches_21 : decode b_Ru_twiceReaches 21 = .ok (.ireturn, 1) := by decide +kernel
theorem d_Ru_twiceReaches_22 : decode b_Ru_twiceReaches 22 = .ok (.lload_n 1, 1) := by decide +kernel
theorem d_Ru_twiceReaches_23 : decode b_Ru_twiceReaches 23 = .ok (.lconst 0, 1) := by decide +kernel
theorem d_Ru_twiceReaches_24 : decode b_Ru_twiceReaches 24 = .ok (.lcmp, 1) := by decide +kernel
theorem d_Ru_twiceReaches_25 : decode b_Ru_twiceReaches 25 = .ok (.ifCond .ge 12, 3) := by decide +kernel
theorem d_Ru_twiceReaches_28 : decode b_Ru_twiceReaches 28 = .ok (.aload_n 0, 1) := by decide +kernel
theorem d_Ru_twiceReaches_29 : decode b_Ru_twiceReaches 29 = .ok (.getfield 13, 3) := by decide +kernel
theorem d_Ru_twiceReaches_32 : decode b_Ru_twiceReaches 32 = .ok (.ifCond .lt 5, 3) := by decide +kernel
theorem d_Ru_twiceReaches_35 : decode b_Ru_twiceReaches 35 = .ok (.iconst 1, 1) := by decide +kernel
theorem d_Ru_twiceReaches_36 : decode b_Ru_twiceReaches 36 = .ok (.ireturn, 1) := by decide +kernel
theorem d_Ru_twiceReaches_37 : decode b_Ru_twiceReaches 37 = .ok (.lload_n 1, 1) := by decide +kernel
theorem d_Ru_twiceReaches_38 : decode b_Ru_twiceReaches 38 = .ok (.lconst 0, 1) := by decide +kernel
theorem d_Ru_twiceReaches_39 : decode b_Ru_twiceReaches 39 = .ok (.lcmp, 1) := by decide +kernel
theorem d_Ru_twiceReaches_40 : decode b_Ru_twiceReaches 40 = .ok (.ifCond .le 12, 3) := by decide +kernel
theorem d_Ru_twiceReaches_43 : decode b_Ru_twiceReaches 43 = .ok (.aload_n 0, 1) := by decide +kernel
theorem d_Ru_twiceReaches_44 : decode b_Ru_twiceReaches 44 = .ok (.getfield 13, 3) := by decide +kernel
theorem d_Ru_twiceReaches_47 : decode b_Ru_twiceReaches 47 = .ok (.ifCond .gt 5, 3) := by decide +kernel
theorem d_Ru_twiceReaches_50 : decode b_Ru_twiceReaches 50 = .ok (.iconst 0, 1) := by decide +kernel
theorem d_Ru_twiceReaches_51 : decode b_Ru_twiceReaches 51 = .ok (.ireturn, 1) := by decide +kernel
theorem d_Ru_twiceReaches_52 : decode b_Ru_twiceReaches 52 = .ok (.aload_n 0, 1) := by decide +kernel
theorem d_Ru_twiceReaches_53 : decode b_Ru_twiceReaches 53 = .ok (.lload_n 1, 1) := by decide +kernel
theorem d_Ru_twiceReaches_54 : decode b_Ru_twiceReaches 54 = .ok (.lload_n 1, 1) := by decide +kernel
theorem d_Ru_twiceReaches_55 : decode b_Ru_twiceReaches 55 = .ok (.invokevirtual 61, 3) := by decide +kernel
theorem d_Ru_twiceReaches_58 : decode b_Ru_twiceReaches 58 = .ok (.istore_n 3, 1) := by decide +kernel
theorem d_Ru_twiceReaches_59 : decode b_Ru_twiceReaches 59 = .ok (.lload_n 1, 1) := by decide +kernel
theorem d_Ru_twiceReaches_60 : decode b_Ru_twiceReaches 60 = .ok (.lconst 0, 1) := by decide +kernel
theorem d_Ru_twiceReaches_61 : decode b_Ru_twiceReaches 61 = .ok (.lcmp, 1) := by decide +kernel
theorem d_Ru_twiceReaches_62 : decode b_Ru_twiceReaches 62 = .ok (.ifCond .le 15, 3) := by decide +kernel
theorem d_Ru_twiceReaches_65 : decode b_Ru_twiceReaches 65 = .ok (.iload_n 3, 1) := by decide +kernel
theorem d_Ru_twiceReaches_66 : decode b_Ru_twiceReaches 66 = .ok (.ifCond .lt 7, 3) := by decide +kernel
theorem d_Ru_twiceReaches_69 : decode b_Ru_twiceReaches 69 = .ok (.iconst 1, 1) := by decide +kernel
theorem d_Ru_twiceReaches_70 : decode b_Ru_twiceReaches 70 = .ok (.goto 16, 3) := by decide +kernel
theorem d_Ru_twiceReaches_73 : decode b_Ru_twiceReaches 73 = .ok (.iconst 0, 1) := by decide +kernel
theorem d_Ru_twiceReaches_74 : decode b_Ru_twiceReaches 74 = .ok (.goto 12, 3) := by decide +kernel
theorem d_Ru_twiceReaches_77 : decode b_Ru_twiceReaches 77 = .ok (.iload_n 3, 1) := by decide +kernel
theorem d_Ru_twiceReaches_78 : decode b_Ru_twiceReaches 78 = .ok (.ifCond .gt 7, 3) := by decide +kernel
theorem d_Ru_twiceReaches_81 : decode b_Ru_twiceReaches 81 = .ok (.iconst 1, 1) := by decide +kernel
theorem d_Ru_twiceReaches_82 : decode b_Ru_twiceReaches 82 = .ok (.goto 4, 3) := by decide +kernel
theorem d_Ru_twiceReaches_85 : decode b_Ru_twiceReaches 85 = .ok (.iconst 0, 1) := by decide +kernel
theorem d_Ru_twiceReaches_86 : decode b_Ru_twiceReaches 86 = .ok (.ireturn, 1) := by decide +kernel
theorem d_Ru_compareScaled_0 : decode b_Ru_compareScaled 0 = .ok (.aload_n 0, 1) := by decide +kernel
theorem d_Ru_compareScaled_1 : decode b_Ru_compareScaled 1 = .ok (.getfield 30, 3) := by decide +kernel
theorem d_Ru_compareScaled_4 : decode b_Ru_compareScaled 4 = .ok (.invokevirtual 65, 3) := by decide +kernel
theorem d_Ru_compareScaled_7 : decode b_Ru_compareScaled 7 = .ok (.aload_n 0, 1) := by decide +kernel
theorem d_Ru_compareScaled_8 : decode b_Ru_compareScaled 8 = .ok (.getfield 30, 3) := by decide +kernel
theorem d_Ru_compareScaled_11 : decode b_Ru_compareScaled 11 = .ok (.aload_n 0, 1) := by decide +kernel
theorem d_Ru_compareScaled_12 : decode b_Ru_compareScaled 12 = .ok (.getfield 17, 3) := by decide +kernel
theorem d_Ru_compareScaled_15 : decode b_Ru_compareScaled 15 = .ok (.aload_n 0, 1) := by decide +kernel
theorem d_Ru_compareScaled_16 : decode b_Ru_compareScaled 16 = .ok (.getfield 21, 3) := by decide +kernel
theorem d_Ru_compareScaled_19 : decode b_Ru_compareScaled 19 = .ok (.invokevirtual 68, 3) := by decide +kernel
theorem d_Ru_compareScaled_22 : decode b_Ru_compareScaled 22 = .ok (.aload_n 0, 1) := by decide +kernel
theorem d_Ru_compareScaled_23 : decode b_Ru_compareScaled 23 = .ok (.getfield 30, 3) := by decide +kernel
theorem d_Ru_compareScaled_26 : decode b_Ru_compareScaled 26 = .ok (.lload_n 1, 1) := by decide +kernel
theorem d_Ru_compareScaled_27 : decode b_Ru_compareScaled 27 = .ok (.lneg, 1) := by decide +kernel
theorem d_Ru_compareScaled_28 : decode b_Ru_compareScaled 28 = .ok (.lload_n 3, 1) := by decide +kernel
theorem d_Ru_compareScaled_29 : decode b_Ru_compareScaled 29 = .ok (.invokevirtual 68, 3) := by decide +kernel
theorem d_Ru_compareScaled_32 : decode b_Ru_compareScaled 32 = .ok (.aload_n 0, 1) := by decide +kernel
theorem d_Ru_compareScaled_33 : decode b_Ru_compareScaled 33 = .ok (.getfield 34, 3) := by decide +kernel
theorem d_Ru_compareScaled_36 : decode b_Ru_compareScaled 36 = .ok (.invokevirtual 65, 3) := by decide +kernel
theorem d_Ru_compareScaled_39 : decode b_Ru_compareScaled 39 = .ok (.aload_n 0, 1) := by decide +kernel
theorem d_Ru_compareScaled_40 : decode b_Ru_compareScaled 40 = .ok (.getfield 34, 3) := by decide +kernel
theorem d_Ru_compareScaled_43 : decode b_Ru_compareScaled 43 = .ok (.aload_n 0, 1) := by decide +kernel
theorem d_Ru_compareScaled_44 : decode b_Ru_compareScaled 44 = .ok (.getfield 17, 3) := by decide +kernel
theorem d_Ru_compareScaled_47 : decode b_Ru_compareScaled 47 = .ok (.aload_n 0, 1) := by decide +kernel
theorem d_Ru_compareScaled_48 : decode b_Ru_compareScaled 48 = .ok (.getfield 24, 3) := by decide +kernel
theorem d_Ru_compareScaled_51 : decode b_Ru_compareScaled 51 = .ok (.invokevirtual 68, 3) := by decide +kernel
theorem d_Ru_compareScaled_54 : decode b_Ru_compareScaled 54 = .ok (.aload_n 0, 1) := by decide +kernel
theorem d_Ru_compareScaled_55 : decode b_Ru_compareScaled 55 = .ok (.invokevirtual 72, 3) := by decide +kernel
theorem d_Ru_compareScaled_58 : decode b_Ru_compareScaled 58 = .ok (.ireturn, 1) := by decide +kernel
theorem d_Ru_goldenSign_0 : decode b_Ru_goldenSign 0 = .ok (.iconst 0, 1) := by decide +kernel
theorem d_Ru_goldenSign_1 : decode b_Ru_goldenSign 1 = .ok (.istore_n 1, 1) := by decide +kernel
theorem d_Ru_goldenSign_2 : decode b_Ru_goldenSign 2 = .ok (.iload_n 1, 1) := by decide +kernel
theorem d_Ru_goldenSign_3 : decode b_Ru_goldenSign 3 = .ok (.sipush 1000, 3) := by decide +kernel
theorem d_Ru_goldenSign_6 : decode b_Ru_goldenSign 6 = .ok (.if_icmp .ge 69, 3) := by decide +kernel
theorem d_Ru_goldenSign_9 : decode b_Ru_goldenSign 9 = .ok (.aload_n 0, 1) := by decide +kernel
theorem d_Ru_goldenSign_10 : decode b_Ru_goldenSign 10 = .ok (.getfield 30, 3) := by decide +kernel
theorem d_Ru_goldenSign_13 : decode b_Ru_goldenSign 13 = .ok (.invokevirtual 76, 3) := by decide +kernel
theorem d_Ru_goldenSign_16 : decode b_Ru_goldenSign 16 = .ok (.istore_n 2, 1) := by decide +kernel
theorem d_Ru_goldenSign_17 : decode b_Ru_goldenSign 17 = .ok (.aload_n 0, 1) := by decide +kernel
theorem d_Ru_goldenSign_18 : decode b_Ru_goldenSign 18 = .ok (.getfield 34, 3) := by decide +kernel
theorem d_Ru_goldenSign_21 : decode b_Ru_goldenSign 21 = .ok (.invokevirtual 76, 3) := by decide +kernel
theorem d_Ru_goldenSign_24 : decode b_Ru_goldenSign 24 = .ok (.istore_n 3, 1) := by decide +kernel
theorem d_Ru_goldenSign_25 : decode b_Ru_goldenSign 25 = .ok (.iload_n 2, 1) := by decide +kernel
theorem d_Ru_goldenSign_26 : decode b_Ru_goldenSign 26 = .ok (.iload_n 3, 1) := by decide +kernel
theorem d_Ru_goldenSign_27 : decode b_Ru_goldenSign 27 = .ok (.imul, 1) := by decide +kernel
theorem d_Ru_goldenSign_28 : decode b_Ru_goldenSign 28 = .ok (.ifCond .lt 10, 3) := by decide +kernel
theorem d_Ru_goldenSign_31 : decode b_Ru_goldenSign 31 = .ok (.iload_n 2, 1) := by decide +kernel
theorem d_Ru_goldenSign_32 : decode b_Ru_goldenSign 32 = .ok (.iload_n 3, 1) := by decide +kernel
theorem d_Ru_goldenSign_33 : decode b_Ru_goldenSign 33 = .ok (.iadd, 1) := by decide +kernel
theorem d_Ru_goldenSign_34 : decode b_Ru_goldenSign 34 = .ok (.invokestatic 79, 3) := by decide +kernel
theorem d_Ru_goldenSign_37 : decode b_Ru_goldenSign 37 = .ok (.ireturn, 1) := by decide +kernel
theorem d_Ru_goldenSign_38 : decode b_Ru_goldenSign 38 = .ok (.aload_n 0, 1) := by decide +kernel
theorem d_Ru_goldenSign_39 : decode b_Ru_goldenSign 39 = .ok (.getfield 30, 3) := by decide +kernel
theorem d_Ru_goldenSign_42 : decode b_Ru_goldenSign 42 = .ok (.aload_n 0, 1) := by decide +kernel
theorem d_Ru_goldenSign_43 : decode b_Ru_goldenSign 43 = .ok (.getfield 34, 3) := by decide +kernel
theorem d_Ru_goldenSign_46 : decode b_Ru_goldenSign 46 = .ok (.invokevirtual 84, 3) := by decide +kernel
theorem d_Ru_goldenSign_49 : decode b_Ru_goldenSign 49 = .ok (.aload_n 0, 1) := by decide +kernel
theorem d_Ru_goldenSign_50 : decode b_Ru_goldenSign 50 = .ok (.getfield 30, 3) := by decide +kernel
theorem d_Ru_goldenSign_53 : decode b_Ru_goldenSign 53 = .ok (.astore 4, 2) := by decide +kernel
theorem d_Ru_goldenSign_55 : decode b_Ru_goldenSign 55 = .ok (.aload_n 0, 1) := by decide +kernel
theorem d_Ru_goldenSign_56 : decode b_Ru_goldenSign 56 = .ok (.aload_n 0, 1) := by decide +kernel
theorem d_Ru_goldenSign_57 : decode b_Ru_goldenSign 57 = .ok (.getfield 34, 3) := by decide +kernel
theorem d_Ru_goldenSign_60 : decode b_Ru_goldenSign 60 = .ok (.putfield 30, 3) := by decide +kernel
theorem d_Ru_goldenSign_63 : decode b_Ru_goldenSign 63 = .ok (.aload_n 0, 1) := by decide +kernel
theorem d_Ru_goldenSign_64 : decode b_Ru_goldenSign 64 = .ok (.aload 4, 2) := by decide +kernel
theorem d_Ru_goldenSign_66 : decode b_Ru_goldenSign 66 = .ok (.putfield 34, 3) := by decide +kernel
theorem d_Ru_goldenSign_69 : decode b_Ru_goldenSign 69 = .ok (.iinc 1 1, 3) := by decide +kernel
theorem d_Ru_goldenSign_72 : decode b_Ru_goldenSign 72 = .ok (.goto (-70), 3) := by decide +kernel
theorem d_Ru_goldenSign_75 : decode b_Ru_goldenSign 75 = .ok (.iconst 0, 1) := by decide +kernel
theorem d_Ru_goldenSign_76 : decode b_Ru_goldenSign 76 = .ok (.ireturn, 1) := by decide +kernel
theorem d_St_init_0 : decode b_St_init 0 = .ok (.aload_n 0, 1) := by decide +kernel
theorem d_St_init_1 : decode b_St_init 1 = .ok (.invokespecial 3, 3) := by decide +kernel
theorem d_St_init_4 : decode b_St_init 4 = .ok (.aload_n 0, 1) := by decide +kernel
theorem d_St_init_5 : decode b_St_init 5 = .ok (.sipush 2000, 3) := by decide +kernel
theorem d_St_init_8 : decode b_St_init 8 = .ok (.newarray .long, 2) := by decide +kernel
theorem d_St_init_10 : decode b_St_init 10 = .ok (.putfield 9, 3) := by decide +kernel
theorem d_St_init_13 : decode b_St_init 13 = .ok (.aload_n 0, 1) := by decide +kernel
theorem d_St_init_14 : decode b_St_init 14 = .ok (.sipush 2000, 3) := by decide +kernel
theorem d_St_init_17 : decode b_St_init 17 = .ok (.newarray .long, 2) := by decide +kernel
theorem d_St_init_19 : decode b_St_init 19 = .ok (.putfield 15, 3) := by decide +kernel
theorem d_St_init_22 : decode b_St_init 22 = .ok (.return_, 1) := by decide +kernel
theorem d_St_measureAll_0 : decode b_St_measureAll 0 = .ok (.iconst 0, 1) := by decide +kernel
theorem d_St_measureAll_1 : decode b_St_measureAll 1 = .ok (.istore_n 2, 1) := by decide +kernel
theorem d_St_measureAll_2 : decode b_St_measureAll 2 = .ok (.iload_n 2, 1) := by decide +kernel
theorem d_St_measureAll_3 : decode b_St_measureAll 3 = .ok (.aload_n 1, 1) := by decide +kernel
theorem d_St_measureAll_4 : decode b_St_measureAll 4 = .ok (.getfield 18, 3) := by decide +kernel
theorem d_St_measureAll_7 : decode b_St_measureAll 7 = .ok (.if_icmp .ge 15, 3) := by decide +kernel
theorem d_St_measureAll_10 : decode b_St_measureAll 10 = .ok (.aload_n 0, 1) := by decide +kernel
theorem d_St_measureAll_11 : decode b_St_measureAll 11 = .ok (.aload_n 1, 1) := by decide +kernel
theorem d_St_measureAll_12 : decode b_St_measureAll 12 = .ok (.iload_n 2, 1) := by decide +kernel
theorem d_St_measureAll_13 : decode b_St_measureAll 13 = .ok (.invokevirtual 24, 3) := by decide +kernel
theorem d_St_measureAll_16 : decode b_St_measureAll 16 = .ok (.iinc 2 1, 3) := by decide +kernel
theorem d_St_measureAll_19 : decode b_St_measureAll 19 = .ok (.goto (-17), 3) := by decide +kernel
theorem d_St_measureAll_22 : decode b_St_measureAll 22 = .ok (.return_, 1) := by decide +kernel
theorem d_St_measure_0 : decode b_St_measure 0 = .ok (.iconst 0, 1) := by decide +kernel
theorem d_St_measure_1 : decode b_St_measure 1 = .ok (.istore_n 3, 1) := by decide +kernel
theorem d_St_measure_2 : decode b_St_measure 2 = .ok (.iload_n 3, 1) := by decide +kernel
theorem d_St_measure_3 : decode b_St_measure 3 = .ok (.iconst 5, 1) := by decide +kernel
theorem d_St_measure_4 : decode b_St_measure 4 = .ok (.if_icmp .ge 98, 3) := by decide +kernel
theorem d_St_measure_7 : decode b_St_measure 7 = .ok (.iload_n 3, 1) := by decide +kernel
theorem d_St_measure_8 : decode b_St_measure 8 = .ok (.aload_n 1, 1) := by decide +kernel
theorem d_St_measure_9 : decode b_St_measure 9 = .ok (.getfield 28, 3) := by decide +kernel
theorem d_St_measure_12 : decode b_St_measure 12 = .ok (.iload_n 2, 1) := by decide +kernel
theorem d_St_measure_13 : decode b_St_measure 13 = .ok (.iconst 0, 1) := by decide +kernel
theorem d_St_measure_14 : decode b_St_measure 14 = .ok (.invokestatic 32, 3) := by decide +kernel
theorem d_St_measure_17 : decode b_St_measure 17 = .ok (.invokestatic 36, 3) := by decide +kernel
theorem d_St_measure_20 : decode b_St_measure 20 = .ok (.lstore 4, 2) := by decide +kernel
theorem d_St_measure_22 : decode b_St_measure 22 = .ok (.iload_n 3, 1) := by decide +kernel
theorem d_St_measure_23 : decode b_St_measure 23 = .ok (.aload_n 1, 1) := by decide +kernel
theorem d_St_measure_24 : decode b_St_measure 24 = .ok (.getfield 28, 3) := by decide +kernel
theorem d_St_measure_27 : decode b_St_measure 27 = .ok (.iload_n 2, 1) := by decide +kernel
theorem d_St_measure_28 : decode b_St_measure 28 = .ok (.iconst 1, 1) := by decide +kernel
theorem d_St_measure_29 : decode b_St_measure 29 = .ok (.invokestatic 32, 3) := by decide +kernel
theorem d_St_measure_32 : decode b_St_measure 32 = .ok (.invokestatic 36, 3) := by decide +kernel
theorem d_St_measure_35 : decode b_St_measure 35 = .ok (.lstore 6, 2) := by decide +kernel
theorem d_St_measure_37 : decode b_St_measure 37 = .ok (.iload_n 3, 1) := by decide +kernel
theorem d_St_measure_38 : decode b_St_measure 38 = .ok (.aload_n 1, 1) := by decide +kernel
theorem d_St_measure_39 : decode b_St_measure 39 = .ok (.getfield 28, 3) := by decide +kernel
theorem d_St_measure_42 : decode b_St_measure 42 = .ok (.iload_n 2, 1) := by decide +kernel
theorem d_St_measure_43 : decode b_St_measure 43 = .ok (.iconst 2, 1) := by decide +kernel
theorem d_St_measure_44 : decode b_St_measure 44 = .ok (.invokestatic 32, 3) := by decide +kernel
theorem d_St_measure_47 : decode b_St_measure 47 = .ok (.invokestatic 36, 3) := by decide +kernel
theorem d_St_measure_50 : decode b_St_measure 50 = .ok (.lstore 8, 2) := by decide +kernel
theorem d_St_measure_52 : decode b_St_measure 52 = .ok (.aload_n 0, 1) := by decide +kernel
theorem d_St_measure_53 : decode b_St_measure 53 = .ok (.getfield 9, 3) := by decide +kernel
theorem d_St_measure_56 : decode b_St_measure 56 = .ok (.iload_n 2, 1) := by decide +kernel
theorem d_St_measure_57 : decode b_St_measure 57 = .ok (.iconst 5, 1) := by decide +kernel
theorem d_St_measure_58 : decode b_St_measure 58 = .ok (.imul, 1) := by decide +kernel
theorem d_St_measure_59 : decode b_St_measure 59 = .ok (.iload_n 3, 1) := by decide +kernel
theorem d_St_measure_60 : decode b_St_measure 60 = .ok (.iadd, 1) := by decide +kernel
theorem d_St_measure_61 : decode b_St_measure 61 = .ok (.lload 4, 2) := by decide +kernel
theorem d_St_measure_63 : decode b_St_measure 63 = .ok (.lload 6, 2) := by decide +kernel
theorem d_St_measure_65 : decode b_St_measure 65 = .ok (.lload 8, 2) := by decide +kernel
theorem d_St_measure_67 : decode b_St_measure 67 = .ok (.invokestatic 42, 3) := by decide +kernel
theorem d_St_measure_70 : decode b_St_measure 70 = .ok (.invokestatic 42, 3) := by decide +kernel
theorem d_St_measure_73 : decode b_St_measure 73 = .ok (.lastore, 1) := by decide +kernel
theorem d_St_measure_74 : decode b_St_measure 74 = .ok (.aload_n 0, 1) := by decide +kernel
theorem d_St_measure_75 : decode b_St_measure 75 = .ok (.getfield 15, 3) := by decide +kernel
theorem d_St_measure_78 : decode b_St_measure 78 = .ok (.iload_n 2, 1) := by decide +kernel
theorem d_St_measure_79 : decode b_St_measure 79 = .ok (.iconst 5, 1) := by decide +kernel
theorem d_St_measure_80 : decode b_St_measure 80 = .ok (.imul, 1) := by decide +kernel
theorem d_St_measure_81 : decode b_St_measure 81 = .ok (.iload_n 3, 1) := by decide +kernel
theorem d_St_measure_82 : decode b_St_measure 82 = .ok (.iadd, 1) := by decide +kernel
theorem d_St_measure_83 : decode b_St_measure 83 = .ok (.lload 4, 2) := by decide +kernel
theorem d_St_measure_85 : decode b_St_measure 85 = .ok (.lload 6, 2) := by decide +kernel
theorem d_St_measure_87 : decode b_St_measure 87 = .ok (.lload 8, 2) := by decide +kernel
theorem d_St_measure_89 : decode b_St_measure 89 = .ok (.invokestatic 48, 3) := by decide +kernel
theorem d_St_measure_92 : decode b_St_measure 92 = .ok (.invokestatic 48, 3) := by decide +kernel
theorem d_St_measure_95 : decode b_St_measure 95 = .ok (.lastore, 1) := by decide +kernel
theorem d_St_measure_96 : decode b_St_measure 96 = .ok (.iinc 3 1, 3) := by decide +kernel
theorem d_St_measure_99 : decode b_St_measure 99 = .ok (.goto (-97), 3) := by decide +kernel
theorem d_St_measure_102 : decode b_St_measure 102 = .ok (.return_, 1) := by decide +kernel
theorem d_St_closeUp_0 : decode b_St_closeUp 0 = .ok (.iload_n 2, 1) := by decide +kernel
theorem d_St_closeUp_1 : decode b_St_closeUp 1 = .ok (.iload_n 1, 1) := by decide +kernel
theorem d_St_closeUp_2 : decode b_St_closeUp 2 = .ok (.isub, 1) := by decide +kernel
theorem d_St_closeUp_3 : decode b_St_closeUp 3 = .ok (.iconst 1, 1) := by decide +kernel
theorem d_St_closeUp_4 : decode b_St_closeUp 4 = .ok (.isub, 1) := by decide +kernel
theorem d_St_closeUp_5 : decode b_St_closeUp 5 = .ok (.iconst 5, 1) := by decide +kernel
theorem d_St_closeUp_6 : decode b_St_closeUp 6 = .ok (.imul, 1) := by decide +kernel
theorem d_St_closeUp_7 : decode b_St_closeUp 7 = .ok (.istore_n 3, 1) := by decide +kernel
theorem d_St_closeUp_8 : decode b_St_closeUp 8 = .ok (.aload_n 0, 1) := by decide +kernel
theorem d_St_closeUp_9 : decode b_St_closeUp 9 = .ok (.getfield 9, 3) := by decide +kernel
theorem d_St_closeUp_12 : decode b_St_closeUp 12 = .ok (.iload_n 1, 1) := by decide +kernel
theorem d_St_closeUp_13 : decode b_St_closeUp 13 = .ok (.iconst 1, 1) := by decide +kernel
theorem d_St_closeUp_14 : decode b_St_closeUp 14 = .ok (.iadd, 1) := by decide +kernel
theorem d_St_closeUp_15 : decode b_St_closeUp 15 = .ok (.iconst 5, 1) := by decide +kernel
theorem d_St_closeUp_16 : decode b_St_closeUp 16 = .ok (.imul, 1) := by decide +kernel
theorem d_St_closeUp_17 : decode b_St_closeUp 17 = .ok (.aload_n 0, 1) := by decide +kernel
theorem d_St_closeUp_18 : decode b_St_closeUp 18 = .ok (.getfield 9, 3) := by decide +kernel
theorem d_St_closeUp_21 : decode b_St_closeUp 21 = .ok (.iload_n 1, 1) := by decide +kernel
theorem d_St_closeUp_22 : decode b_St_closeUp 22 = .ok (.iconst 5, 1) := by decide +kernel
theorem d_St_closeUp_23 : decode b_St_closeUp 23 = .ok (.imul, 1) := by decide +kernel
theorem d_St_closeUp_24 : decode b_St_closeUp 24 = .ok (.iload_n 3, 1) := by decide +kernel
theorem d_St_closeUp_25 : decode b_St_closeUp 25 = .ok (.invokestatic 51, 3) := by decide +kernel
theorem d_St_closeUp_28 : decode b_St_closeUp 28 = .ok (.aload_n 0, 1) := by decide +kernel
theorem d_St_closeUp_29 : decode b_St_closeUp 29 = .ok (.getfield 15, 3) := by decide +kernel
theorem d_St_closeUp_32 : decode b_St_closeUp 32 = .ok (.iload_n 1, 1) := by decide +kernel
theorem d_St_closeUp_33 : decode b_St_closeUp 33 = .ok (.iconst 1, 1) := by decide +kernel
theorem d_St_closeUp_34 : decode b_St_closeUp 34 = .ok (.iadd, 1) := by decide +kernel
theorem d_St_closeUp_35 : decode b_St_closeUp 35 = .ok (.iconst 5, 1) := by decide +kernel
theorem d_St_closeUp_36 : decode b_St_closeUp 36 = .ok (.imul, 1) := by decide +kernel
theorem d_St_closeUp_37 : decode b_St_closeUp 37 = .ok (.aload_n 0, 1) := by decide +kernel
theorem d_St_closeUp_38 : decode b_St_closeUp 38 = .ok (.getfield 15, 3) := by decide +kernel
theorem d_St_closeUp_41 : decode b_St_closeUp 41 = .ok (.iload_n 1, 1) := by decide +kernel
theorem d_St_closeUp_42 : decode b_St_closeUp 42 = .ok (.iconst 5, 1) := by decide +kernel
theorem d_St_closeUp_43 : decode b_St_closeUp 43 = .ok (.imul, 1) := by decide +kernel
theorem d_St_closeUp_44 : decode b_St_closeUp 44 = .ok (.iload_n 3, 1) := by decide +kernel
theorem d_St_closeUp_45 : decode b_St_closeUp 45 = .ok (.invokestatic 51, 3) := by decide +kernel
theorem d_St_closeUp_48 : decode b_St_closeUp 48 = .ok (.return_, 1) := by decide +kernel
theorem d_St_apart_0 : decode b_St_apart 0 = .ok (.iload_n 1, 1) := by decide +kernel
theorem d_St_apart_1 : decode b_St_apart 1 = .ok (.iconst 5, 1) := by decide +kernel
theorem d_St_apart_2 : decode b_St_apart 2 = .ok (.imul, 1) := by decide +kernel
theorem d_St_apart_3 : decode b_St_apart 3 = .ok (.istore_n 3, 1) := by decide +kernel
theorem d_St_apart_4 : decode b_St_apart 4 = .ok (.iload_n 2, 1) := by decide +kernel
theorem d_St_apart_5 : decode b_St_apart 5 = .ok (.iconst 5, 1) := by decide +kernel
theorem d_St_apart_6 : decode b_St_apart 6 = .ok (.imul, 1) := by decide +kernel
theorem d_St_apart_7 : decode b_St_apart 7 = .ok (.istore 4, 2) := by decide +kernel
theorem d_St_apart_9 : decode b_St_apart 9 = .ok (.iconst 0, 1) := by decide +kernel
theorem d_St_apart_10 : decode b_St_apart 10 = .ok (.istore 5, 2) := by decide +kernel
theorem d_St_apart_12 : decode b_St_apart 12 = .ok (.iload 5, 2) := by decide +kernel
theorem d_St_apart_14 : decode b_St_apart 14 = .ok (.iconst 5, 1) := by decide +kernel
theorem d_St_apart_15 : decode b_St_apart 15 = .ok (.if_icmp .ge 57, 3) := by decide +kernel
theorem d_St_apart_18 : decode b_St_apart 18 = .ok (.aload_n 0, 1) := by decide +kernel
theorem d_St_apart_19 : decode b_St_apart 19 = .ok (.getfield 9, 3) := by decide +kernel
theorem d_St_apart_22 : decode b_St_apart 22 = .ok (.iload_n 3, 1) := by decide +kernel
theorem d_St_apart_23 : decode b_St_apart 23 = .ok (.iload 5, 2) := by decide +kernel
theorem d_St_apart_25 : decode b_St_apart 25 = .ok (.iadd, 1) := by decide +kernel
theorem d_St_apart_26 : decode b_St_apart 26 = .ok (.laload, 1) := by decide +kernel
theorem d_St_apart_27 : decode b_St_apart 27 = .ok (.aload_n 0, 1) := by decide +kernel
theorem d_St_apart_28 : decode b_St_apart 28 = .ok (.getfield 15, 3) := by decide +kernel
theorem d_St_apart_31 : decode b_St_apart 31 = .ok (.iload 4, 2) := by decide +kernel
theorem d_St_apart_33 : decode b_St_apart 33 = .ok (.iload 5, 2) := by decide +kernel
theorem d_St_apart_35 : decode b_St_apart 35 = .ok (.iadd, 1) := by decide +kernel
theorem d_St_apart_36 : decode b_St_apart 36 = .ok (.laload, 1) := by decide +kernel
theorem d_St_apart_37 : decode b_St_apart 37 = .ok (.lcmp, 1) := by decide +kernel
theorem d_St_apart_38 : decode b_St_apart 38 = .ok (.ifCond .gt 26, 3) := by decide +kernel
theorem d_St_apart_41 : decode b_St_apart 41 = .ok (.aload_n 0, 1) := by decide +kernel
theorem d_St_apart_42 : decode b_St_apart 42 = .ok (.getfield 9, 3) := by decide +kernel
theorem d_St_apart_45 : decode b_St_apart 45 = .ok (.iload 4, 2) := by decide +kernel
theorem d_St_apart_47 : decode b_St_apart 47 = .ok (.iload 5, 2) := by decide +kernel
theorem d_St_apart_49 : decode b_St_apart 49 = .ok (.iadd, 1) := by decide +kernel
theorem d_St_apart_50 : decode b_St_apart 50 = .ok (.laload, 1) := by decide +kernel
theorem d_St_apart_51 : decode b_St_apart 51 = .ok (.aload_n 0, 1) := by decide +kernel
theorem d_St_apart_52 : decode b_St_apart 52 = .ok (.getfield 15, 3) := by decide +kernel
theorem d_St_apart_55 : decode b_St_apart 55 = .ok (.iload_n 3, 1) := by decide +kernel
theorem d_St_apart_56 : decode b_St_apart 56 = .ok (.iload 5, 2) := by decide +kernel
theorem d_St_apart_58 : decode b_St_apart 58 = .ok (.iadd, 1) := by decide +kernel
theorem d_St_apart_59 : decode b_St_apart 59 = .ok (.laload, 1) := by decide +kernel
theorem d_St_apart_60 : decode b_St_apart 60 = .ok (.lcmp, 1) := by decide +kernel
theorem d_St_apart_61 : decode b_St_apart 61 = .ok (.ifCond .le 5, 3) := by decide +kernel
theorem d_St_apart_64 : decode b_St_apart 64 = .ok (.iconst 1, 1) := by decide +kernel
theorem d_St_apart_65 : decode b_St_apart 65 = .ok (.ireturn, 1) := by decide +kernel
theorem d_St_apart_66 : decode b_St_apart 66 = .ok (.iinc 5 1, 3) := by decide +kernel
theorem d_St_apart_69 : decode b_St_apart 69 = .ok (.goto (-57), 3) := by decide +kernel
theorem d_St_apart_72 : decode b_St_apart 72 = .ok (.iconst 0, 1) := by decide +kernel
theorem d_St_apart_73 : decode b_St_apart 73 = .ok (.ireturn, 1) := by decide +kernel
theorem d_St_overlap_0 : decode b_St_overlap 0 = .ok (.iload_n 1, 1) := by decide +kernel
theorem d_St_overlap_1 : decode b_St_overlap 1 = .ok (.iconst 5, 1) := by decide +kernel
theorem d_St_overlap_2 : decode b_St_overlap 2 = .ok (.imul, 1) := by decide +kernel
theorem d_St_overlap_3 : decode b_St_overlap 3 = .ok (.istore_n 3, 1) := by decide +kernel
theorem d_St_overlap_4 : decode b_St_overlap 4 = .ok (.iload_n 2, 1) := by decide +kernel
theorem d_St_overlap_5 : decode b_St_overlap 5 = .ok (.iconst 5, 1) := by decide +kernel
theorem d_St_overlap_6 : decode b_St_overlap 6 = .ok (.imul, 1) := by decide +kernel
theorem d_St_overlap_7 : decode b_St_overlap 7 = .ok (.istore 4, 2) := by decide +kernel
theorem d_St_overlap_9 : decode b_St_overlap 9 = .ok (.iconst 0, 1) := by decide +kernel
theorem d_St_overlap_10 : decode b_St_overlap 10 = .ok (.istore 5, 2) := by decide +kernel
theorem d_St_overlap_12 : decode b_St_overlap 12 = .ok (.iload 5, 2) := by decide +kernel
theorem d_St_overlap_14 : decode b_St_overlap 14 = .ok (.iconst 5, 1) := by decide +kernel
theorem d_St_overlap_15 : decode b_St_overlap 15 = .ok (.if_icmp .ge 57, 3) := by decide +kernel
theorem d_St_overlap_18 : decode b_St_overlap 18 = .ok (.aload_n 0, 1) := by decide +kernel
theorem d_St_overlap_19 : decode b_St_overlap 19 = .ok (.getfield 9, 3) := by decide +kernel
theorem d_St_overlap_22 : decode b_St_overlap 22 = .ok (.iload_n 3, 1) := by decide +kernel
theorem d_St_overlap_23 : decode b_St_overlap 23 = .ok (.iload 5, 2) := by decide +kernel
theorem d_St_overlap_25 : decode b_St_overlap 25 = .ok (.iadd, 1) := by decide +kernel
theorem d_St_overlap_26 : decode b_St_overlap 26 = .ok (.laload, 1) := by decide +kernel
theorem d_St_overlap_27 : decode b_St_overlap 27 = .ok (.aload_n 0, 1) := by decide +kernel
theorem d_St_overlap_28 : decode b_St_overlap 28 = .ok (.getfield 15, 3) := by decide +kernel
theorem d_St_overlap_31 : decode b_St_overlap 31 = .ok (.iload 4, 2) := by decide +kernel
theorem d_St_overlap_33 : decode b_St_overlap 33 = .ok (.iload 5, 2) := by decide +kernel
theorem d_St_overlap_35 : decode b_St_overlap 35 = .ok (.iadd, 1) := by decide +kernel
theorem d_St_overlap_36 : decode b_St_overlap 36 = .ok (.laload, 1) := by decide +kernel
theorem d_St_overlap_37 : decode b_St_overlap 37 = .ok (.lcmp, 1) := by decide +kernel
theorem d_St_overlap_38 : decode b_St_overlap 38 = .ok (.ifCond .ge 26, 3) := by decide +kernel
theorem d_St_overlap_41 : decode b_St_overlap 41 = .ok (.aload_n 0, 1) := by decide +kernel
theorem d_St_overlap_42 : decode b_St_overlap 42 = .ok (.getfield 9, 3) := by decide +kernel
theorem d_St_overlap_45 : decode b_St_overlap 45 = .ok (.iload 4, 2) := by decide +kernel
theorem d_St_overlap_47 : decode b_St_overlap 47 = .ok (.iload 5, 2) := by decide +kernel
theorem d_St_overlap_49 : decode b_St_overlap 49 = .ok (.iadd, 1) := by decide +kernel
theorem d_St_overlap_50 : decode b_St_overlap 50 = .ok (.laload, 1) := by decide +kernel
theorem d_St_overlap_51 : decode b_St_overlap 51 = .ok (.aload_n 0, 1) := by decide +kernel
theorem d_St_overlap_52 : decode b_St_overlap 52 = .ok (.getfield 15, 3) := by decide +kernel
theorem d_St_overlap_55 : decode b_St_overlap 55 = .ok (.iload_n 3, 1) := by decide +kernel
theorem d_St_overlap_56 : decode b_St_overlap 56 = .ok (.iload 5, 2) := by decide +kernel
theorem d_St_overlap_58 : decode b_St_overlap 58 = .ok (.iadd, 1) := by decide +kernel
theorem d_St_overlap_59 : decode b_St_overlap 59 = .ok (.laload, 1) := by decide +kernel
theorem d_St_overlap_60 : decode b_St_overlap 60 = .ok (.lcmp, 1) := by decide +kernel
theorem d_St_overlap_61 : decode b_St_overlap 61 = .ok (.ifCond .lt 5, 3) := by decide +kernel
theorem d_St_overlap_64 : decode b_St_overlap 64 = .ok (.iconst 0, 1) := by decide +kernel
theorem d_St_overlap_65 : decode b_St_overlap 65 = .ok (.ireturn, 1) := by decide +kernel
theorem d_St_overlap_66 : decode b_St_overlap 66 = .ok (.iinc 5 1, 3) := by decide +kernel
theorem d_St_overlap_69 : decode b_St_overlap 69 = .ok (.goto (-57), 3) := by decide +kernel
theorem d_St_overlap_72 : decode b_St_overlap 72 = .ok (.iconst 1, 1) := by decide +kernel
theorem d_St_overlap_73 : decode b_St_overlap 73 = .ok (.ireturn, 1) := by decide +kernel
theorem d_St_hold_0 : decode b_St_hold 0 = .ok (.iconst 0, 1) := by decide +kernel
theorem d_St_hold_1 : decode b_St_hold 1 = .ok (.istore_n 3, 1) := by decide +kernel
theorem d_St_hold_2 : decode b_St_hold 2 = .ok (.iload_n 3, 1) := by decide +kernel
theorem d_St_hold_3 : decode b_St_hold 3 = .ok (.iconst 5, 1) := by decide +kernel
theorem d_St_hold_4 : decode b_St_hold 4 = .ok (.if_icmp .ge 48, 3) := by decide +kernel
theorem d_St_hold_7 : decode b_St_hold 7 = .ok (.aload_n 2, 1) := by decide +kernel
theorem d_St_hold_8 : decode b_St_hold 8 = .ok (.iload_n 3, 1) := by decide +kernel
theorem d_St_hold_9 : decode b_St_hold 9 = .ok (.laload, 1) := by decide +kernel
theorem d_St_hold_10 : decode b_St_hold 10 = .ok (.lstore 4, 2) := by decide +kernel
theorem d_St_hold_12 : decode b_St_hold 12 = .ok (.lload 4, 2) := by decide +kernel
theorem d_St_hold_14 : decode b_St_hold 14 = .ok (.aload_n 0, 1) := by decide +kernel
theorem d_St_hold_15 : decode b_St_hold 15 = .ok (.getfield 9, 3) := by decide +kernel
theorem d_St_hold_18 : decode b_St_hold 18 = .ok (.iload_n 1, 1) := by decide +kernel
theorem d_St_hold_19 : decode b_St_hold 19 = .ok (.iconst 5, 1) := by decide +kernel
theorem d_St_hold_20 : decode b_St_hold 20 = .ok (.imul, 1) := by decide +kernel
theorem d_St_hold_21 : decode b_St_hold 21 = .ok (.iload_n 3, 1) := by decide +kernel
theorem d_St_hold_22 : decode b_St_hold 22 = .ok (.iadd, 1) := by decide +kernel
theorem d_St_hold_23 : decode b_St_hold 23 = .ok (.laload, 1) := by decide +kernel
theorem d_St_hold_24 : decode b_St_hold 24 = .ok (.lcmp, 1) := by decide +kernel
theorem d_St_hold_25 : decode b_St_hold 25 = .ok (.ifCond .lt 19, 3) := by decide +kernel
theorem d_St_hold_28 : decode b_St_hold 28 = .ok (.lload 4, 2) := by decide +kernel
theorem d_St_hold_30 : decode b_St_hold 30 = .ok (.aload_n 0, 1) := by decide +kernel
theorem d_St_hold_31 : decode b_St_hold 31 = .ok (.getfield 15, 3) := by decide +kernel
theorem d_St_hold_34 : decode b_St_hold 34 = .ok (.iload_n 1, 1) := by decide +kernel
theorem d_St_hold_35 : decode b_St_hold 35 = .ok (.iconst 5, 1) := by decide +kernel
theorem d_St_hold_36 : decode b_St_hold 36 = .ok (.imul, 1) := by decide +kernel
theorem d_St_hold_37 : decode b_St_hold 37 = .ok (.iload_n 3, 1) := by decide +kernel
theorem d_St_hold_38 : decode b_St_hold 38 = .ok (.iadd, 1) := by decide +kernel
theorem d_St_hold_39 : decode b_St_hold 39 = .ok (.laload, 1) := by decide +kernel
theorem d_St_hold_40 : decode b_St_hold 40 = .ok (.lcmp, 1) := by decide +kernel
theorem d_St_hold_41 : decode b_St_hold 41 = .ok (.ifCond .le 5, 3) := by decide +kernel
theorem d_St_hold_44 : decode b_St_hold 44 = .ok (.iconst 0, 1) := by decide +kernel
theorem d_St_hold_45 : decode b_St_hold 45 = .ok (.ireturn, 1) := by decide +kernel
theorem d_St_hold_46 : decode b_St_hold 46 = .ok (.iinc 3 1, 3) := by decide +kernel
theorem d_St_hold_49 : decode b_St_hold 49 = .ok (.goto (-47), 3) := by decide +kernel
theorem d_St_hold_52 : decode b_St_hold 52 = .ok (.iconst 1, 1) := by decide +kernel
theorem d_St_hold_53 : decode b_St_hold 53 = .ok (.ireturn, 1) := by decide +kernel
theorem d_Wi_init_0 : decode b_Wi_init 0 = .ok (.aload_n 0, 1) := by decide +kernel
theorem d_Wi_init_1 : decode b_Wi_init 1 = .ok (.invokespecial 3, 3) := by decide +kernel
theorem d_Wi_init_4 : decode b_Wi_init 4 = .ok (.aload_n 0, 1) := by decide +kernel
theorem d_Wi_init_5 : decode b_Wi_init 5 = .ok (.lconst 0, 1) := by decide +kernel
theorem d_Wi_init_6 : decode b_Wi_init 6 = .ok (.putfield 9, 3) := by decide +kernel
theorem d_Wi_init_9 : decode b_Wi_init 9 = .ok (.aload_n 0, 1) := by decide +kernel
theorem d_Wi_init_10 : decode b_Wi_init 10 = .ok (.lconst 0, 1) := by decide +kernel
theorem d_Wi_init_11 : decode b_Wi_init 11 = .ok (.putfield 13, 3) := by decide +kernel
theorem d_Wi_init_14 : decode b_Wi_init 14 = .ok (.return_, 1) := by decide +kernel
theorem d_Wi_clear_0 : decode b_Wi_clear 0 = .ok (.aload_n 0, 1) := by decide +kernel
theorem d_Wi_clear_1 : decode b_Wi_clear 1 = .ok (.lconst 0, 1) := by decide +kernel
theorem d_Wi_clear_2 : decode b_Wi_clear 2 = .ok (.putfield 9, 3) := by decide +kernel
theorem d_Wi_clear_5 : decode b_Wi_clear 5 = .ok (.aload_n 0, 1) := by decide +kernel
theorem d_Wi_clear_6 : decode b_Wi_clear 6 = .ok (.lconst 0, 1) := by decide +kernel
theorem d_Wi_clear_7 : decode b_Wi_clear 7 = .ok (.putfield 13, 3) := by decide +kernel
theorem d_Wi_clear_10 : decode b_Wi_clear 10 = .ok (.return_, 1) := by decide +kernel
theorem d_Wi_sign_0 : decode b_Wi_sign 0 = .ok (.aload_n 0, 1) := by decide +kernel
theorem d_Wi_sign_1 : decode b_Wi_sign 1 = .ok (.getfield 9, 3) := by decide +kernel
theorem d_Wi_sign_4 : decode b_Wi_sign 4 = .ok (.lconst 0, 1) := by decide +kernel
theorem d_Wi_sign_5 : decode b_Wi_sign 5 = .ok (.lcmp, 1) := by decide +kernel
theorem d_Wi_sign_6 : decode b_Wi_sign 6 = .ok (.ifCond .ne 13, 3) := by decide +kernel
theorem d_Wi_sign_9 : decode b_Wi_sign 9 = .ok (.aload_n 0, 1) := by decide +kernel
theorem d_Wi_sign_10 : decode b_Wi_sign 10 = .ok (.getfield 13, 3) := by decide +kernel
theorem d_Wi_sign_13 : decode b_Wi_sign 13 = .ok (.invokestatic 16, 3) := by decide +kernel
theorem d_Wi_sign_16 : decode b_Wi_sign 16 = .ok (.goto 10, 3) := by decide +kernel
theorem d_Wi_sign_19 : decode b_Wi_sign 19 = .ok (.aload_n 0, 1) := by decide +kernel
theorem d_Wi_sign_20 : decode b_Wi_sign 20 = .ok (.getfield 9, 3) := by decide +kernel
theorem d_Wi_sign_23 : decode b_Wi_sign 23 = .ok (.invokestatic 16, 3) := by decide +kernel
theorem d_Wi_sign_26 : decode b_Wi_sign 26 = .ok (.ireturn, 1) := by decide +kernel
theorem d_Wi_add_0 : decode b_Wi_add 0 = .ok (.aload_n 0, 1) := by decide +kernel
theorem d_Wi_add_1 : decode b_Wi_add 1 = .ok (.aload_n 1, 1) := by decide +kernel
theorem d_Wi_add_2 : decode b_Wi_add 2 = .ok (.getfield 9, 3) := by decide +kernel
theorem d_Wi_add_5 : decode b_Wi_add 5 = .ok (.aload_n 1, 1) := by decide +kernel
theorem d_Wi_add_6 : decode b_Wi_add 6 = .ok (.getfield 13, 3) := by decide +kernel
theorem d_Wi_add_9 : decode b_Wi_add 9 = .ok (.invokevirtual 22, 3) := by decide +kernel
theorem d_Wi_add_12 : decode b_Wi_add 12 = .ok (.return_, 1) := by decide +kernel
theorem d_Wi_addProduct_0 : decode b_Wi_addProduct 0 = .ok (.lload_n 1, 1) := by decide +kernel
theorem d_Wi_addProduct_1 : decode b_Wi_addProduct 1 = .ok (.bipush 26, 2) := by decide +kernel
theorem d_Wi_addProduct_3 : decode b_Wi_addProduct 3 = .ok (.lshr, 1) := by decide +kernel
theorem d_Wi_addProduct_4 : decode b_Wi_addProduct 4 = .ok (.lstore 5, 2) := by decide +kernel
theorem d_Wi_addProduct_6 : decode b_Wi_addProduct 6 = .ok (.lload_n 1, 1) := by decide +kernel
theorem d_Wi_addProduct_7 : decode b_Wi_addProduct 7 = .ok (.ldc2_w 26, 3) := by decide +kernel
theorem d_Wi_addProduct_10 : decode b_Wi_addProduct 10 = .ok (.land, 1) := by decide +kernel
theorem d_Wi_addProduct_11 : decode b_Wi_addProduct 11 = .ok (.lstore 7, 2) := by decide +kernel
theorem d_Wi_addProduct_13 : decode b_Wi_addProduct 13 = .ok (.lload_n 3, 1) := by decide +kernel
theorem d_Wi_addProduct_14 : decode b_Wi_addProduct 14 = .ok (.bipush 26, 2) := by decide +kernel
theorem d_Wi_addProduct_16 : decode b_Wi_addProduct 16 = .ok (.lshr, 1) := by decide +kernel
theorem d_Wi_addProduct_17 : decode b_Wi_addProduct 17 = .ok (.lstore 9, 2) := by decide +kernel
theorem d_Wi_addProduct_19 : decode b_Wi_addProduct 19 = .ok (.lload_n 3, 1) := by decide +kernel
theorem d_Wi_addProduct_20 : decode b_Wi_addProduct 20 = .ok (.ldc2_w 26, 3) := by decide +kernel
theorem d_Wi_addProduct_23 : decode b_Wi_addProduct 23 = .ok (.land, 1) := by decide +kernel
theorem d_Wi_addProduct_24 : decode b_Wi_addProduct 24 = .ok (.lstore 11, 2) := by decide +kernel
theorem d_Wi_addProduct_26 : decode b_Wi_addProduct 26 = .ok (.lload 5, 2) := by decide +kernel
theorem d_Wi_addProduct_28 : decode b_Wi_addProduct 28 = .ok (.lload 11, 2) := by decide +kernel
theorem d_Wi_addProduct_30 : decode b_Wi_addProduct 30 = .ok (.lmul, 1) := by decide +kernel
theorem d_Wi_addProduct_31 : decode b_Wi_addProduct 31 = .ok (.lload 7, 2) := by decide +kernel
theorem d_Wi_addProduct_33 : decode b_Wi_addProduct 33 = .ok (.lload 9, 2) := by decide +kernel
theorem d_Wi_addProduct_35 : decode b_Wi_addProduct 35 = .ok (.lmul, 1) := by decide +kernel
theorem d_Wi_addProduct_36 : decode b_Wi_addProduct 36 = .ok (.ladd, 1) := by decide +kernel
theorem d_Wi_addProduct_37 : decode b_Wi_addProduct 37 = .ok (.lstore 13, 2) := by decide +kernel
theorem d_Wi_addProduct_39 : decode b_Wi_addProduct 39 = .ok (.aload_n 0, 1) := by decide +kernel
theorem d_Wi_addProduct_40 : decode b_Wi_addProduct 40 = .ok (.lload 5, 2) := by decide +kernel
theorem d_Wi_addProduct_42 : decode b_Wi_addProduct 42 = .ok (.lload 9, 2) := by decide +kernel
theorem d_Wi_addProduct_44 : decode b_Wi_addProduct 44 = .ok (.lmul, 1) := by decide +kernel
theorem d_Wi_addProduct_45 : decode b_Wi_addProduct 45 = .ok (.lload 13, 2) := by decide +kernel
theorem d_Wi_addProduct_47 : decode b_Wi_addProduct 47 = .ok (.bipush 26, 2) := by decide +kernel
theorem d_Wi_addProduct_49 : decode b_Wi_addProduct 49 = .ok (.lshr, 1) := by decide +kernel
theorem d_Wi_addProduct_50 : decode b_Wi_addProduct 50 = .ok (.ladd, 1) := by decide +kernel
theorem d_Wi_addProduct_51 : decode b_Wi_addProduct 51 = .ok (.lload 13, 2) := by decide +kernel
theorem d_Wi_addProduct_53 : decode b_Wi_addProduct 53 = .ok (.ldc2_w 26, 3) := by decide +kernel
theorem d_Wi_addProduct_56 : decode b_Wi_addProduct 56 = .ok (.land, 1) := by decide +kernel
theorem d_Wi_addProduct_57 : decode b_Wi_addProduct 57 = .ok (.bipush 26, 2) := by decide +kernel
theorem d_Wi_addProduct_59 : decode b_Wi_addProduct 59 = .ok (.lshl, 1) := by decide +kernel
theorem d_Wi_addProduct_60 : decode b_Wi_addProduct 60 = .ok (.invokevirtual 22, 3) := by decide +kernel
theorem d_Wi_addProduct_63 : decode b_Wi_addProduct 63 = .ok (.aload_n 0, 1) := by decide +kernel
theorem d_Wi_addProduct_64 : decode b_Wi_addProduct 64 = .ok (.lconst 0, 1) := by decide +kernel
theorem d_Wi_addProduct_65 : decode b_Wi_addProduct 65 = .ok (.lload 7, 2) := by decide +kernel
theorem d_Wi_addProduct_67 : decode b_Wi_addProduct 67 = .ok (.lload 11, 2) := by decide +kernel
theorem d_Wi_addProduct_69 : decode b_Wi_addProduct 69 = .ok (.lmul, 1) := by decide +kernel
theorem d_Wi_addProduct_70 : decode b_Wi_addProduct 70 = .ok (.invokevirtual 22, 3) := by decide +kernel
theorem d_Wi_addProduct_73 : decode b_Wi_addProduct 73 = .ok (.return_, 1) := by decide +kernel
theorem d_Wi_addParts_0 : decode b_Wi_addParts 0 = .ok (.aload_n 0, 1) := by decide +kernel
theorem d_Wi_addParts_1 : decode b_Wi_addParts 1 = .ok (.getfield 13, 3) := by decide +kernel
theorem d_Wi_addParts_4 : decode b_Wi_addParts 4 = .ok (.lload_n 3, 1) := by decide +kernel
theorem d_Wi_addParts_5 : decode b_Wi_addParts 5 = .ok (.ladd, 1) := by decide +kernel
theorem d_Wi_addParts_6 : decode b_Wi_addParts 6 = .ok (.lstore 5, 2) := by decide +kernel
theorem d_Wi_addParts_8 : decode b_Wi_addParts 8 = .ok (.aload_n 0, 1) := by decide +kernel
theorem d_Wi_addParts_9 : decode b_Wi_addParts 9 = .ok (.dup, 1) := by decide +kernel
theorem d_Wi_addParts_10 : decode b_Wi_addParts 10 = .ok (.getfield 9, 3) := by decide +kernel
theorem d_Wi_addParts_13 : decode b_Wi_addParts 13 = .ok (.lload_n 1, 1) := by decide +kernel
theorem d_Wi_addParts_14 : decode b_Wi_addParts 14 = .ok (.lload 5, 2) := by decide +kernel
theorem d_Wi_addParts_16 : decode b_Wi_addParts 16 = .ok (.bipush 52, 2) := by decide +kernel
theorem d_Wi_addParts_18 : decode b_Wi_addParts 18 = .ok (.lshr, 1) := by decide +kernel
theorem d_Wi_addParts_19 : decode b_Wi_addParts 19 = .ok (.ladd, 1) := by decide +kernel
theorem d_Wi_addParts_20 : decode b_Wi_addParts 20 = .ok (.ladd, 1) := by decide +kernel
theorem d_Wi_addParts_21 : decode b_Wi_addParts 21 = .ok (.putfield 9, 3) := by decide +kernel
theorem d_Wi_addParts_24 : decode b_Wi_addParts 24 = .ok (.aload_n 0, 1) := by decide +kernel
theorem d_Wi_addParts_25 : decode b_Wi_addParts 25 = .ok (.lload 5, 2) := by decide +kernel
theorem d_Wi_addParts_27 : decode b_Wi_addParts 27 = .ok (.ldc2_w 28, 3) := by decide +kernel
theorem d_Wi_addParts_30 : decode b_Wi_addParts 30 = .ok (.land, 1) := by decide +kernel
theorem d_Wi_addParts_31 : decode b_Wi_addParts 31 = .ok (.putfield 13, 3) := by decide +kernel
theorem d_Wi_addParts_34 : decode b_Wi_addParts 34 = .ok (.return_, 1) := by decide +kernel
