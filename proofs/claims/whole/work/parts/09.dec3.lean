/-! what each instruction is -/
theorem d_Mo_init_0 : decode b_Mo_init 0 = .ok (.aload_n 0, 1) := by decide +kernel
theorem d_Mo_init_1 : decode b_Mo_init 1 = .ok (.invokespecial 1, 3) := by decide +kernel
theorem d_Mo_init_4 : decode b_Mo_init 4 = .ok (.aload_n 0, 1) := by decide +kernel
theorem d_Mo_init_5 : decode b_Mo_init 5 = .ok (.sipush 1200, 3) := by decide +kernel
theorem d_Mo_init_8 : decode b_Mo_init 8 = .ok (.newarray .int, 2) := by decide +kernel
theorem d_Mo_init_10 : decode b_Mo_init 10 = .ok (.putfield 7, 3) := by decide +kernel
theorem d_Mo_init_13 : decode b_Mo_init 13 = .ok (.aload_n 0, 1) := by decide +kernel
theorem d_Mo_init_14 : decode b_Mo_init 14 = .ok (.sipush 14400, 3) := by decide +kernel
theorem d_Mo_init_17 : decode b_Mo_init 17 = .ok (.newarray .int, 2) := by decide +kernel
theorem d_Mo_init_19 : decode b_Mo_init 19 = .ok (.putfield 13, 3) := by decide +kernel
theorem d_Mo_init_22 : decode b_Mo_init 22 = .ok (.aload_n 0, 1) := by decide +kernel
theorem d_Mo_init_23 : decode b_Mo_init 23 = .ok (.sipush 14400, 3) := by decide +kernel
theorem d_Mo_init_26 : decode b_Mo_init 26 = .ok (.newarray .int, 2) := by decide +kernel
theorem d_Mo_init_28 : decode b_Mo_init 28 = .ok (.putfield 16, 3) := by decide +kernel
theorem d_Mo_init_31 : decode b_Mo_init 31 = .ok (.aload_n 0, 1) := by decide +kernel
theorem d_Mo_init_32 : decode b_Mo_init 32 = .ok (.sipush 1200, 3) := by decide +kernel
theorem d_Mo_init_35 : decode b_Mo_init 35 = .ok (.newarray .int, 2) := by decide +kernel
theorem d_Mo_init_37 : decode b_Mo_init 37 = .ok (.putfield 19, 3) := by decide +kernel
theorem d_Mo_init_40 : decode b_Mo_init 40 = .ok (.aload_n 0, 1) := by decide +kernel
theorem d_Mo_init_41 : decode b_Mo_init 41 = .ok (.sipush 400, 3) := by decide +kernel
theorem d_Mo_init_44 : decode b_Mo_init 44 = .ok (.newarray .boolean, 2) := by decide +kernel
theorem d_Mo_init_46 : decode b_Mo_init 46 = .ok (.putfield 22, 3) := by decide +kernel
theorem d_Mo_init_49 : decode b_Mo_init 49 = .ok (.aload_n 0, 1) := by decide +kernel
theorem d_Mo_init_50 : decode b_Mo_init 50 = .ok (.iconst 4, 1) := by decide +kernel
theorem d_Mo_init_51 : decode b_Mo_init 51 = .ok (.newarray .long, 2) := by decide +kernel
theorem d_Mo_init_53 : decode b_Mo_init 53 = .ok (.putfield 26, 3) := by decide +kernel
theorem d_Mo_init_56 : decode b_Mo_init 56 = .ok (.aload_n 0, 1) := by decide +kernel
theorem d_Mo_init_57 : decode b_Mo_init 57 = .ok (.iconst 4, 1) := by decide +kernel
theorem d_Mo_init_58 : decode b_Mo_init 58 = .ok (.newarray .long, 2) := by decide +kernel
theorem d_Mo_init_60 : decode b_Mo_init 60 = .ok (.putfield 30, 3) := by decide +kernel
theorem d_Mo_init_63 : decode b_Mo_init 63 = .ok (.aload_n 0, 1) := by decide +kernel
theorem d_Mo_init_64 : decode b_Mo_init 64 = .ok (.iconst 4, 1) := by decide +kernel
theorem d_Mo_init_65 : decode b_Mo_init 65 = .ok (.newarray .long, 2) := by decide +kernel
theorem d_Mo_init_67 : decode b_Mo_init 67 = .ok (.putfield 33, 3) := by decide +kernel
theorem d_Mo_init_70 : decode b_Mo_init 70 = .ok (.aload_n 0, 1) := by decide +kernel
theorem d_Mo_init_71 : decode b_Mo_init 71 = .ok (.iconst 4, 1) := by decide +kernel
theorem d_Mo_init_72 : decode b_Mo_init 72 = .ok (.newarray .long, 2) := by decide +kernel
theorem d_Mo_init_74 : decode b_Mo_init 74 = .ok (.putfield 36, 3) := by decide +kernel
theorem d_Mo_init_77 : decode b_Mo_init 77 = .ok (.aload_n 0, 1) := by decide +kernel
theorem d_Mo_init_78 : decode b_Mo_init 78 = .ok (.iconst 4, 1) := by decide +kernel
theorem d_Mo_init_79 : decode b_Mo_init 79 = .ok (.newarray .long, 2) := by decide +kernel
theorem d_Mo_init_81 : decode b_Mo_init 81 = .ok (.putfield 39, 3) := by decide +kernel
theorem d_Mo_init_84 : decode b_Mo_init 84 = .ok (.aload_n 0, 1) := by decide +kernel
theorem d_Mo_init_85 : decode b_Mo_init 85 = .ok (.bipush 54, 2) := by decide +kernel
theorem d_Mo_init_87 : decode b_Mo_init 87 = .ok (.newarray .long, 2) := by decide +kernel
theorem d_Mo_init_89 : decode b_Mo_init 89 = .ok (.putfield 42, 3) := by decide +kernel
theorem d_Mo_init_92 : decode b_Mo_init 92 = .ok (.aload_n 0, 1) := by decide +kernel
theorem d_Mo_init_93 : decode b_Mo_init 93 = .ok (.iconst 4, 1) := by decide +kernel
theorem d_Mo_init_94 : decode b_Mo_init 94 = .ok (.newarray .long, 2) := by decide +kernel
theorem d_Mo_init_96 : decode b_Mo_init 96 = .ok (.putfield 45, 3) := by decide +kernel
theorem d_Mo_init_99 : decode b_Mo_init 99 = .ok (.aload_n 0, 1) := by decide +kernel
theorem d_Mo_init_100 : decode b_Mo_init 100 = .ok (.iconst 4, 1) := by decide +kernel
theorem d_Mo_init_101 : decode b_Mo_init 101 = .ok (.newarray .long, 2) := by decide +kernel
theorem d_Mo_init_103 : decode b_Mo_init 103 = .ok (.putfield 48, 3) := by decide +kernel
theorem d_Mo_init_106 : decode b_Mo_init 106 = .ok (.aload_n 0, 1) := by decide +kernel
theorem d_Mo_init_107 : decode b_Mo_init 107 = .ok (.iconst 4, 1) := by decide +kernel
theorem d_Mo_init_108 : decode b_Mo_init 108 = .ok (.newarray .long, 2) := by decide +kernel
theorem d_Mo_init_110 : decode b_Mo_init 110 = .ok (.putfield 51, 3) := by decide +kernel
theorem d_Mo_init_113 : decode b_Mo_init 113 = .ok (.aload_n 0, 1) := by decide +kernel
theorem d_Mo_init_114 : decode b_Mo_init 114 = .ok (.iconst 4, 1) := by decide +kernel
theorem d_Mo_init_115 : decode b_Mo_init 115 = .ok (.newarray .long, 2) := by decide +kernel
theorem d_Mo_init_117 : decode b_Mo_init 117 = .ok (.putfield 54, 3) := by decide +kernel
theorem d_Mo_init_120 : decode b_Mo_init 120 = .ok (.aload_n 0, 1) := by decide +kernel
theorem d_Mo_init_121 : decode b_Mo_init 121 = .ok (.iconst 4, 1) := by decide +kernel
theorem d_Mo_init_122 : decode b_Mo_init 122 = .ok (.newarray .long, 2) := by decide +kernel
theorem d_Mo_init_124 : decode b_Mo_init 124 = .ok (.putfield 57, 3) := by decide +kernel
theorem d_Mo_init_127 : decode b_Mo_init 127 = .ok (.aload_n 0, 1) := by decide +kernel
theorem d_Mo_init_128 : decode b_Mo_init 128 = .ok (.iconst 4, 1) := by decide +kernel
theorem d_Mo_init_129 : decode b_Mo_init 129 = .ok (.newarray .long, 2) := by decide +kernel
theorem d_Mo_init_131 : decode b_Mo_init 131 = .ok (.putfield 60, 3) := by decide +kernel
theorem d_Mo_init_134 : decode b_Mo_init 134 = .ok (.return_, 1) := by decide +kernel
theorem d_Mo_timesZ_0 : decode b_Mo_timesZ 0 = .ok (.aload_n 0, 1) := by decide +kernel
theorem d_Mo_timesZ_1 : decode b_Mo_timesZ 1 = .ok (.iconst 3, 1) := by decide +kernel
theorem d_Mo_timesZ_2 : decode b_Mo_timesZ 2 = .ok (.laload, 1) := by decide +kernel
theorem d_Mo_timesZ_3 : decode b_Mo_timesZ 3 = .ok (.lstore_n 1, 1) := by decide +kernel
theorem d_Mo_timesZ_4 : decode b_Mo_timesZ 4 = .ok (.aload_n 0, 1) := by decide +kernel
theorem d_Mo_timesZ_5 : decode b_Mo_timesZ 5 = .ok (.iconst 3, 1) := by decide +kernel
theorem d_Mo_timesZ_6 : decode b_Mo_timesZ 6 = .ok (.aload_n 0, 1) := by decide +kernel
theorem d_Mo_timesZ_7 : decode b_Mo_timesZ 7 = .ok (.iconst 2, 1) := by decide +kernel
theorem d_Mo_timesZ_8 : decode b_Mo_timesZ 8 = .ok (.laload, 1) := by decide +kernel
theorem d_Mo_timesZ_9 : decode b_Mo_timesZ 9 = .ok (.lload_n 1, 1) := by decide +kernel
theorem d_Mo_timesZ_10 : decode b_Mo_timesZ 10 = .ok (.lsub, 1) := by decide +kernel
theorem d_Mo_timesZ_11 : decode b_Mo_timesZ 11 = .ok (.lastore, 1) := by decide +kernel
theorem d_Mo_timesZ_12 : decode b_Mo_timesZ 12 = .ok (.aload_n 0, 1) := by decide +kernel
theorem d_Mo_timesZ_13 : decode b_Mo_timesZ 13 = .ok (.iconst 2, 1) := by decide +kernel
theorem d_Mo_timesZ_14 : decode b_Mo_timesZ 14 = .ok (.aload_n 0, 1) := by decide +kernel
theorem d_Mo_timesZ_15 : decode b_Mo_timesZ 15 = .ok (.iconst 1, 1) := by decide +kernel
theorem d_Mo_timesZ_16 : decode b_Mo_timesZ 16 = .ok (.laload, 1) := by decide +kernel
theorem d_Mo_timesZ_17 : decode b_Mo_timesZ 17 = .ok (.lload_n 1, 1) := by decide +kernel
theorem d_Mo_timesZ_18 : decode b_Mo_timesZ 18 = .ok (.lsub, 1) := by decide +kernel
theorem d_Mo_timesZ_19 : decode b_Mo_timesZ 19 = .ok (.lastore, 1) := by decide +kernel
theorem d_Mo_timesZ_20 : decode b_Mo_timesZ 20 = .ok (.aload_n 0, 1) := by decide +kernel
theorem d_Mo_timesZ_21 : decode b_Mo_timesZ 21 = .ok (.iconst 1, 1) := by decide +kernel
theorem d_Mo_timesZ_22 : decode b_Mo_timesZ 22 = .ok (.aload_n 0, 1) := by decide +kernel
theorem d_Mo_timesZ_23 : decode b_Mo_timesZ 23 = .ok (.iconst 0, 1) := by decide +kernel
theorem d_Mo_timesZ_24 : decode b_Mo_timesZ 24 = .ok (.laload, 1) := by decide +kernel
theorem d_Mo_timesZ_25 : decode b_Mo_timesZ 25 = .ok (.lload_n 1, 1) := by decide +kernel
theorem d_Mo_timesZ_26 : decode b_Mo_timesZ 26 = .ok (.lsub, 1) := by decide +kernel
theorem d_Mo_timesZ_27 : decode b_Mo_timesZ 27 = .ok (.lastore, 1) := by decide +kernel
theorem d_Mo_timesZ_28 : decode b_Mo_timesZ 28 = .ok (.aload_n 0, 1) := by decide +kernel
theorem d_Mo_timesZ_29 : decode b_Mo_timesZ 29 = .ok (.iconst 0, 1) := by decide +kernel
theorem d_Mo_timesZ_30 : decode b_Mo_timesZ 30 = .ok (.lload_n 1, 1) := by decide +kernel
theorem d_Mo_timesZ_31 : decode b_Mo_timesZ 31 = .ok (.lneg, 1) := by decide +kernel
theorem d_Mo_timesZ_32 : decode b_Mo_timesZ 32 = .ok (.lastore, 1) := by decide +kernel
theorem d_Mo_timesZ_33 : decode b_Mo_timesZ 33 = .ok (.return_, 1) := by decide +kernel
theorem d_Mo_copy_0 : decode b_Mo_copy 0 = .ok (.iconst 0, 1) := by decide +kernel
theorem d_Mo_copy_1 : decode b_Mo_copy 1 = .ok (.istore_n 2, 1) := by decide +kernel
theorem d_Mo_copy_2 : decode b_Mo_copy 2 = .ok (.iload_n 2, 1) := by decide +kernel
theorem d_Mo_copy_3 : decode b_Mo_copy 3 = .ok (.iconst 4, 1) := by decide +kernel
theorem d_Mo_copy_4 : decode b_Mo_copy 4 = .ok (.if_icmp .ge 15, 3) := by decide +kernel
theorem d_Mo_copy_7 : decode b_Mo_copy 7 = .ok (.aload_n 0, 1) := by decide +kernel
theorem d_Mo_copy_8 : decode b_Mo_copy 8 = .ok (.iload_n 2, 1) := by decide +kernel
theorem d_Mo_copy_9 : decode b_Mo_copy 9 = .ok (.aload_n 1, 1) := by decide +kernel
theorem d_Mo_copy_10 : decode b_Mo_copy 10 = .ok (.iload_n 2, 1) := by decide +kernel
theorem d_Mo_copy_11 : decode b_Mo_copy 11 = .ok (.laload, 1) := by decide +kernel
theorem d_Mo_copy_12 : decode b_Mo_copy 12 = .ok (.lastore, 1) := by decide +kernel
theorem d_Mo_copy_13 : decode b_Mo_copy 13 = .ok (.iinc 2 1, 3) := by decide +kernel
theorem d_Mo_copy_16 : decode b_Mo_copy 16 = .ok (.goto (-14), 3) := by decide +kernel
theorem d_Mo_copy_19 : decode b_Mo_copy 19 = .ok (.return_, 1) := by decide +kernel
theorem d_Mo_timesG_0 : decode b_Mo_timesG 0 = .ok (.aload_n 0, 1) := by decide +kernel
theorem d_Mo_timesG_1 : decode b_Mo_timesG 1 = .ok (.getfield 36, 3) := by decide +kernel
theorem d_Mo_timesG_4 : decode b_Mo_timesG 4 = .ok (.aload_n 1, 1) := by decide +kernel
theorem d_Mo_timesG_5 : decode b_Mo_timesG 5 = .ok (.invokestatic 67, 3) := by decide +kernel
theorem d_Mo_timesG_8 : decode b_Mo_timesG 8 = .ok (.aload_n 0, 1) := by decide +kernel
theorem d_Mo_timesG_9 : decode b_Mo_timesG 9 = .ok (.getfield 36, 3) := by decide +kernel
theorem d_Mo_timesG_12 : decode b_Mo_timesG 12 = .ok (.invokestatic 71, 3) := by decide +kernel
theorem d_Mo_timesG_15 : decode b_Mo_timesG 15 = .ok (.aload_n 0, 1) := by decide +kernel
theorem d_Mo_timesG_16 : decode b_Mo_timesG 16 = .ok (.getfield 36, 3) := by decide +kernel
theorem d_Mo_timesG_19 : decode b_Mo_timesG 19 = .ok (.invokestatic 71, 3) := by decide +kernel
theorem d_Mo_timesG_22 : decode b_Mo_timesG 22 = .ok (.aload_n 0, 1) := by decide +kernel
theorem d_Mo_timesG_23 : decode b_Mo_timesG 23 = .ok (.getfield 39, 3) := by decide +kernel
theorem d_Mo_timesG_26 : decode b_Mo_timesG 26 = .ok (.aload_n 0, 1) := by decide +kernel
theorem d_Mo_timesG_27 : decode b_Mo_timesG 27 = .ok (.getfield 36, 3) := by decide +kernel
theorem d_Mo_timesG_30 : decode b_Mo_timesG 30 = .ok (.invokestatic 67, 3) := by decide +kernel
theorem d_Mo_timesG_33 : decode b_Mo_timesG 33 = .ok (.aload_n 0, 1) := by decide +kernel
theorem d_Mo_timesG_34 : decode b_Mo_timesG 34 = .ok (.getfield 39, 3) := by decide +kernel
theorem d_Mo_timesG_37 : decode b_Mo_timesG 37 = .ok (.invokestatic 71, 3) := by decide +kernel
theorem d_Mo_timesG_40 : decode b_Mo_timesG 40 = .ok (.iconst 0, 1) := by decide +kernel
theorem d_Mo_timesG_41 : decode b_Mo_timesG 41 = .ok (.istore_n 2, 1) := by decide +kernel
theorem d_Mo_timesG_42 : decode b_Mo_timesG 42 = .ok (.iload_n 2, 1) := by decide +kernel
theorem d_Mo_timesG_43 : decode b_Mo_timesG 43 = .ok (.iconst 4, 1) := by decide +kernel
theorem d_Mo_timesG_44 : decode b_Mo_timesG 44 = .ok (.if_icmp .ge 26, 3) := by decide +kernel
theorem d_Mo_timesG_47 : decode b_Mo_timesG 47 = .ok (.aload_n 1, 1) := by decide +kernel
theorem d_Mo_timesG_48 : decode b_Mo_timesG 48 = .ok (.iload_n 2, 1) := by decide +kernel
theorem d_Mo_timesG_49 : decode b_Mo_timesG 49 = .ok (.aload_n 0, 1) := by decide +kernel
theorem d_Mo_timesG_50 : decode b_Mo_timesG 50 = .ok (.getfield 36, 3) := by decide +kernel
theorem d_Mo_timesG_53 : decode b_Mo_timesG 53 = .ok (.iload_n 2, 1) := by decide +kernel
theorem d_Mo_timesG_54 : decode b_Mo_timesG 54 = .ok (.laload, 1) := by decide +kernel
theorem d_Mo_timesG_55 : decode b_Mo_timesG 55 = .ok (.lneg, 1) := by decide +kernel
theorem d_Mo_timesG_56 : decode b_Mo_timesG 56 = .ok (.aload_n 0, 1) := by decide +kernel
theorem d_Mo_timesG_57 : decode b_Mo_timesG 57 = .ok (.getfield 39, 3) := by decide +kernel
theorem d_Mo_timesG_60 : decode b_Mo_timesG 60 = .ok (.iload_n 2, 1) := by decide +kernel
theorem d_Mo_timesG_61 : decode b_Mo_timesG 61 = .ok (.laload, 1) := by decide +kernel
theorem d_Mo_timesG_62 : decode b_Mo_timesG 62 = .ok (.lsub, 1) := by decide +kernel
theorem d_Mo_timesG_63 : decode b_Mo_timesG 63 = .ok (.lastore, 1) := by decide +kernel
theorem d_Mo_timesG_64 : decode b_Mo_timesG 64 = .ok (.iinc 2 1, 3) := by decide +kernel
theorem d_Mo_timesG_67 : decode b_Mo_timesG 67 = .ok (.goto (-25), 3) := by decide +kernel
theorem d_Mo_timesG_70 : decode b_Mo_timesG 70 = .ok (.return_, 1) := by decide +kernel
theorem d_Mo_overG_0 : decode b_Mo_overG 0 = .ok (.aload_n 0, 1) := by decide +kernel
theorem d_Mo_overG_1 : decode b_Mo_overG 1 = .ok (.getfield 33, 3) := by decide +kernel
theorem d_Mo_overG_4 : decode b_Mo_overG 4 = .ok (.aload_n 1, 1) := by decide +kernel
theorem d_Mo_overG_5 : decode b_Mo_overG 5 = .ok (.invokestatic 67, 3) := by decide +kernel
theorem d_Mo_overG_8 : decode b_Mo_overG 8 = .ok (.aload_n 0, 1) := by decide +kernel
theorem d_Mo_overG_9 : decode b_Mo_overG 9 = .ok (.aload_n 1, 1) := by decide +kernel
theorem d_Mo_overG_10 : decode b_Mo_overG 10 = .ok (.invokevirtual 75, 3) := by decide +kernel
theorem d_Mo_overG_13 : decode b_Mo_overG 13 = .ok (.iconst 0, 1) := by decide +kernel
theorem d_Mo_overG_14 : decode b_Mo_overG 14 = .ok (.istore_n 2, 1) := by decide +kernel
theorem d_Mo_overG_15 : decode b_Mo_overG 15 = .ok (.iload_n 2, 1) := by decide +kernel
theorem d_Mo_overG_16 : decode b_Mo_overG 16 = .ok (.iconst 4, 1) := by decide +kernel
theorem d_Mo_overG_17 : decode b_Mo_overG 17 = .ok (.if_icmp .ge 21, 3) := by decide +kernel
theorem d_Mo_overG_20 : decode b_Mo_overG 20 = .ok (.aload_n 1, 1) := by decide +kernel
theorem d_Mo_overG_21 : decode b_Mo_overG 21 = .ok (.iload_n 2, 1) := by decide +kernel
theorem d_Mo_overG_22 : decode b_Mo_overG 22 = .ok (.dup2, 1) := by decide +kernel
theorem d_Mo_overG_23 : decode b_Mo_overG 23 = .ok (.laload, 1) := by decide +kernel
theorem d_Mo_overG_24 : decode b_Mo_overG 24 = .ok (.aload_n 0, 1) := by decide +kernel
theorem d_Mo_overG_25 : decode b_Mo_overG 25 = .ok (.getfield 33, 3) := by decide +kernel
theorem d_Mo_overG_28 : decode b_Mo_overG 28 = .ok (.iload_n 2, 1) := by decide +kernel
theorem d_Mo_overG_29 : decode b_Mo_overG 29 = .ok (.laload, 1) := by decide +kernel
theorem d_Mo_overG_30 : decode b_Mo_overG 30 = .ok (.lsub, 1) := by decide +kernel
theorem d_Mo_overG_31 : decode b_Mo_overG 31 = .ok (.lastore, 1) := by decide +kernel
theorem d_Mo_overG_32 : decode b_Mo_overG 32 = .ok (.iinc 2 1, 3) := by decide +kernel
theorem d_Mo_overG_35 : decode b_Mo_overG 35 = .ok (.goto (-20), 3) := by decide +kernel
theorem d_Mo_overG_38 : decode b_Mo_overG 38 = .ok (.return_, 1) := by decide +kernel
theorem d_Mo_direction_0 : decode b_Mo_direction 0 = .ok (.iconst 0, 1) := by decide +kernel
theorem d_Mo_direction_1 : decode b_Mo_direction 1 = .ok (.istore_n 3, 1) := by decide +kernel
theorem d_Mo_direction_2 : decode b_Mo_direction 2 = .ok (.iload_n 3, 1) := by decide +kernel
theorem d_Mo_direction_3 : decode b_Mo_direction 3 = .ok (.iconst 4, 1) := by decide +kernel
theorem d_Mo_direction_4 : decode b_Mo_direction 4 = .ok (.if_icmp .ge 21, 3) := by decide +kernel
theorem d_Mo_direction_7 : decode b_Mo_direction 7 = .ok (.aload_n 1, 1) := by decide +kernel
theorem d_Mo_direction_8 : decode b_Mo_direction 8 = .ok (.iload_n 3, 1) := by decide +kernel
theorem d_Mo_direction_9 : decode b_Mo_direction 9 = .ok (.iload_n 3, 1) := by decide +kernel
theorem d_Mo_direction_10 : decode b_Mo_direction 10 = .ok (.ifCond .ne 7, 3) := by decide +kernel
theorem d_Mo_direction_13 : decode b_Mo_direction 13 = .ok (.lconst 1, 1) := by decide +kernel
theorem d_Mo_direction_14 : decode b_Mo_direction 14 = .ok (.goto 4, 3) := by decide +kernel
theorem d_Mo_direction_17 : decode b_Mo_direction 17 = .ok (.lconst 0, 1) := by decide +kernel
theorem d_Mo_direction_18 : decode b_Mo_direction 18 = .ok (.lastore, 1) := by decide +kernel
theorem d_Mo_direction_19 : decode b_Mo_direction 19 = .ok (.iinc 3 1, 3) := by decide +kernel
theorem d_Mo_direction_22 : decode b_Mo_direction 22 = .ok (.goto (-20), 3) := by decide +kernel
theorem d_Mo_direction_25 : decode b_Mo_direction 25 = .ok (.iconst 0, 1) := by decide +kernel
theorem d_Mo_direction_26 : decode b_Mo_direction 26 = .ok (.istore_n 3, 1) := by decide +kernel
theorem d_Mo_direction_27 : decode b_Mo_direction 27 = .ok (.iload_n 3, 1) := by decide +kernel
theorem d_Mo_direction_28 : decode b_Mo_direction 28 = .ok (.iload_n 2, 1) := by decide +kernel
theorem d_Mo_direction_29 : decode b_Mo_direction 29 = .ok (.if_icmp .ge 45, 3) := by decide +kernel
theorem d_Mo_direction_32 : decode b_Mo_direction 32 = .ok (.aload_n 1, 1) := by decide +kernel
theorem d_Mo_direction_33 : decode b_Mo_direction 33 = .ok (.invokestatic 71, 3) := by decide +kernel
theorem d_Mo_direction_36 : decode b_Mo_direction 36 = .ok (.aload_n 1, 1) := by decide +kernel
theorem d_Mo_direction_37 : decode b_Mo_direction 37 = .ok (.invokestatic 71, 3) := by decide +kernel
theorem d_Mo_direction_40 : decode b_Mo_direction 40 = .ok (.aload_n 1, 1) := by decide +kernel
theorem d_Mo_direction_41 : decode b_Mo_direction 41 = .ok (.invokestatic 71, 3) := by decide +kernel
theorem d_Mo_direction_44 : decode b_Mo_direction 44 = .ok (.iconst 0, 1) := by decide +kernel
theorem d_Mo_direction_45 : decode b_Mo_direction 45 = .ok (.istore 4, 2) := by decide +kernel
theorem d_Mo_direction_47 : decode b_Mo_direction 47 = .ok (.iload 4, 2) := by decide +kernel
theorem d_Mo_direction_49 : decode b_Mo_direction 49 = .ok (.iconst 4, 1) := by decide +kernel
theorem d_Mo_direction_50 : decode b_Mo_direction 50 = .ok (.if_icmp .ge 18, 3) := by decide +kernel
theorem d_Mo_direction_53 : decode b_Mo_direction 53 = .ok (.aload_n 1, 1) := by decide +kernel
theorem d_Mo_direction_54 : decode b_Mo_direction 54 = .ok (.iload 4, 2) := by decide +kernel
theorem d_Mo_direction_56 : decode b_Mo_direction 56 = .ok (.aload_n 1, 1) := by decide +kernel
theorem d_Mo_direction_57 : decode b_Mo_direction 57 = .ok (.iload 4, 2) := by decide +kernel
theorem d_Mo_direction_59 : decode b_Mo_direction 59 = .ok (.laload, 1) := by decide +kernel
theorem d_Mo_direction_60 : decode b_Mo_direction 60 = .ok (.lneg, 1) := by decide +kernel
theorem d_Mo_direction_61 : decode b_Mo_direction 61 = .ok (.lastore, 1) := by decide +kernel
theorem d_Mo_direction_62 : decode b_Mo_direction 62 = .ok (.iinc 4 1, 3) := by decide +kernel
theorem d_Mo_direction_65 : decode b_Mo_direction 65 = .ok (.goto (-18), 3) := by decide +kernel
theorem d_Mo_direction_68 : decode b_Mo_direction 68 = .ok (.iinc 3 1, 3) := by decide +kernel
theorem d_Mo_direction_71 : decode b_Mo_direction 71 = .ok (.goto (-44), 3) := by decide +kernel
theorem d_Mo_direction_74 : decode b_Mo_direction 74 = .ok (.return_, 1) := by decide +kernel
theorem d_Mo_at_0 : decode b_Mo_at 0 = .ok (.bipush 12, 2) := by decide +kernel
theorem d_Mo_at_2 : decode b_Mo_at 2 = .ok (.iload_n 1, 1) := by decide +kernel
theorem d_Mo_at_3 : decode b_Mo_at 3 = .ok (.imul, 1) := by decide +kernel
theorem d_Mo_at_4 : decode b_Mo_at 4 = .ok (.iconst 4, 1) := by decide +kernel
theorem d_Mo_at_5 : decode b_Mo_at 5 = .ok (.iload_n 2, 1) := by decide +kernel
theorem d_Mo_at_6 : decode b_Mo_at 6 = .ok (.imul, 1) := by decide +kernel
theorem d_Mo_at_7 : decode b_Mo_at 7 = .ok (.iadd, 1) := by decide +kernel
theorem d_Mo_at_8 : decode b_Mo_at 8 = .ok (.ireturn, 1) := by decide +kernel
theorem d_Mo_between_0 : decode b_Mo_between 0 = .ok (.iconst 0, 1) := by decide +kernel
theorem d_Mo_between_1 : decode b_Mo_between 1 = .ok (.istore 5, 2) := by decide +kernel
theorem d_Mo_between_3 : decode b_Mo_between 3 = .ok (.iload 5, 2) := by decide +kernel
theorem d_Mo_between_5 : decode b_Mo_between 5 = .ok (.iconst 4, 1) := by decide +kernel
theorem d_Mo_between_6 : decode b_Mo_between 6 = .ok (.if_icmp .ge 29, 3) := by decide +kernel
theorem d_Mo_between_9 : decode b_Mo_between 9 = .ok (.aload_n 1, 1) := by decide +kernel
theorem d_Mo_between_10 : decode b_Mo_between 10 = .ok (.iload 5, 2) := by decide +kernel
theorem d_Mo_between_12 : decode b_Mo_between 12 = .ok (.aload_n 2, 1) := by decide +kernel
theorem d_Mo_between_13 : decode b_Mo_between 13 = .ok (.iload 4, 2) := by decide +kernel
theorem d_Mo_between_15 : decode b_Mo_between 15 = .ok (.iload 5, 2) := by decide +kernel
theorem d_Mo_between_17 : decode b_Mo_between 17 = .ok (.iadd, 1) := by decide +kernel
theorem d_Mo_between_18 : decode b_Mo_between 18 = .ok (.iaload, 1) := by decide +kernel
theorem d_Mo_between_19 : decode b_Mo_between 19 = .ok (.i2l, 1) := by decide +kernel
theorem d_Mo_between_20 : decode b_Mo_between 20 = .ok (.aload_n 2, 1) := by decide +kernel
theorem d_Mo_between_21 : decode b_Mo_between 21 = .ok (.iload_n 3, 1) := by decide +kernel
theorem d_Mo_between_22 : decode b_Mo_between 22 = .ok (.iload 5, 2) := by decide +kernel
theorem d_Mo_between_24 : decode b_Mo_between 24 = .ok (.iadd, 1) := by decide +kernel
theorem d_Mo_between_25 : decode b_Mo_between 25 = .ok (.iaload, 1) := by decide +kernel
theorem d_Mo_between_26 : decode b_Mo_between 26 = .ok (.i2l, 1) := by decide +kernel
theorem d_Mo_between_27 : decode b_Mo_between 27 = .ok (.lsub, 1) := by decide +kernel
theorem d_Mo_between_28 : decode b_Mo_between 28 = .ok (.lastore, 1) := by decide +kernel
theorem d_Mo_between_29 : decode b_Mo_between 29 = .ok (.iinc 5 1, 3) := by decide +kernel
theorem d_Mo_between_32 : decode b_Mo_between 32 = .ok (.goto (-29), 3) := by decide +kernel
theorem d_Mo_between_35 : decode b_Mo_between 35 = .ok (.return_, 1) := by decide +kernel
theorem d_Mo_same_0 : decode b_Mo_same 0 = .ok (.iconst 0, 1) := by decide +kernel
theorem d_Mo_same_1 : decode b_Mo_same 1 = .ok (.istore_n 3, 1) := by decide +kernel
theorem d_Mo_same_2 : decode b_Mo_same 2 = .ok (.iload_n 3, 1) := by decide +kernel
theorem d_Mo_same_3 : decode b_Mo_same 3 = .ok (.iconst 4, 1) := by decide +kernel
theorem d_Mo_same_4 : decode b_Mo_same 4 = .ok (.if_icmp .ge 30, 3) := by decide +kernel
theorem d_Mo_same_7 : decode b_Mo_same 7 = .ok (.aload_n 0, 1) := by decide +kernel
theorem d_Mo_same_8 : decode b_Mo_same 8 = .ok (.getfield 13, 3) := by decide +kernel
theorem d_Mo_same_11 : decode b_Mo_same 11 = .ok (.iload_n 1, 1) := by decide +kernel
theorem d_Mo_same_12 : decode b_Mo_same 12 = .ok (.iload_n 3, 1) := by decide +kernel
theorem d_Mo_same_13 : decode b_Mo_same 13 = .ok (.iadd, 1) := by decide +kernel
theorem d_Mo_same_14 : decode b_Mo_same 14 = .ok (.iaload, 1) := by decide +kernel
theorem d_Mo_same_15 : decode b_Mo_same 15 = .ok (.aload_n 0, 1) := by decide +kernel
theorem d_Mo_same_16 : decode b_Mo_same 16 = .ok (.getfield 13, 3) := by decide +kernel
theorem d_Mo_same_19 : decode b_Mo_same 19 = .ok (.iload_n 2, 1) := by decide +kernel
theorem d_Mo_same_20 : decode b_Mo_same 20 = .ok (.iload_n 3, 1) := by decide +kernel
theorem d_Mo_same_21 : decode b_Mo_same 21 = .ok (.iadd, 1) := by decide +kernel
theorem d_Mo_same_22 : decode b_Mo_same 22 = .ok (.iaload, 1) := by decide +kernel
theorem d_Mo_same_23 : decode b_Mo_same 23 = .ok (.if_icmp .eq 5, 3) := by decide +kernel
theorem d_Mo_same_26 : decode b_Mo_same 26 = .ok (.iconst 0, 1) := by decide +kernel
theorem d_Mo_same_27 : decode b_Mo_same 27 = .ok (.ireturn, 1) := by decide +kernel
theorem d_Mo_same_28 : decode b_Mo_same 28 = .ok (.iinc 3 1, 3) := by decide +kernel
theorem d_Mo_same_31 : decode b_Mo_same 31 = .ok (.goto (-29), 3) := by decide +kernel
theorem d_Mo_same_34 : decode b_Mo_same 34 = .ok (.iconst 1, 1) := by decide +kernel
theorem d_Mo_same_35 : decode b_Mo_same 35 = .ok (.ireturn, 1) := by decide +kernel
theorem d_Mo_be_0 : decode b_Mo_be 0 = .ok (.iconst 0, 1) := by decide +kernel
theorem d_Mo_be_1 : decode b_Mo_be 1 = .ok (.istore 4, 2) := by decide +kernel
theorem d_Mo_be_3 : decode b_Mo_be 3 = .ok (.iload 4, 2) := by decide +kernel
theorem d_Mo_be_5 : decode b_Mo_be 5 = .ok (.bipush 9, 2) := by decide +kernel
theorem d_Mo_be_7 : decode b_Mo_be 7 = .ok (.if_icmp .ge 42, 3) := by decide +kernel
theorem d_Mo_be_10 : decode b_Mo_be 10 = .ok (.aload_n 0, 1) := by decide +kernel
theorem d_Mo_be_11 : decode b_Mo_be 11 = .ok (.getfield 42, 3) := by decide +kernel
theorem d_Mo_be_14 : decode b_Mo_be 14 = .ok (.bipush 9, 2) := by decide +kernel
theorem d_Mo_be_16 : decode b_Mo_be 16 = .ok (.iload_n 1, 1) := by decide +kernel
theorem d_Mo_be_17 : decode b_Mo_be 17 = .ok (.imul, 1) := by decide +kernel
theorem d_Mo_be_18 : decode b_Mo_be 18 = .ok (.iload 4, 2) := by decide +kernel
theorem d_Mo_be_20 : decode b_Mo_be 20 = .ok (.iadd, 1) := by decide +kernel
theorem d_Mo_be_21 : decode b_Mo_be 21 = .ok (.iload 4, 2) := by decide +kernel
theorem d_Mo_be_23 : decode b_Mo_be 23 = .ok (.iconst 3, 1) := by decide +kernel
theorem d_Mo_be_24 : decode b_Mo_be 24 = .ok (.if_icmp .ge 17, 3) := by decide +kernel
theorem d_Mo_be_27 : decode b_Mo_be 27 = .ok (.lload_n 2, 1) := by decide +kernel
theorem d_Mo_be_28 : decode b_Mo_be 28 = .ok (.bipush 24, 2) := by decide +kernel
theorem d_Mo_be_30 : decode b_Mo_be 30 = .ok (.iload 4, 2) := by decide +kernel
theorem d_Mo_be_32 : decode b_Mo_be 32 = .ok (.imul, 1) := by decide +kernel
theorem d_Mo_be_33 : decode b_Mo_be 33 = .ok (.lshr, 1) := by decide +kernel
theorem d_Mo_be_34 : decode b_Mo_be 34 = .ok (.ldc2_w 78, 3) := by decide +kernel
theorem d_Mo_be_37 : decode b_Mo_be 37 = .ok (.land, 1) := by decide +kernel
theorem d_Mo_be_38 : decode b_Mo_be 38 = .ok (.goto 4, 3) := by decide +kernel
theorem d_Mo_be_41 : decode b_Mo_be 41 = .ok (.lconst 0, 1) := by decide +kernel
theorem d_Mo_be_42 : decode b_Mo_be 42 = .ok (.lastore, 1) := by decide +kernel
theorem d_Mo_be_43 : decode b_Mo_be 43 = .ok (.iinc 4 1, 3) := by decide +kernel
theorem d_Mo_be_46 : decode b_Mo_be 46 = .ok (.goto (-43), 3) := by decide +kernel
theorem d_Mo_be_49 : decode b_Mo_be 49 = .ok (.return_, 1) := by decide +kernel
theorem d_Mo_product_0 : decode b_Mo_product 0 = .ok (.iconst 0, 1) := by decide +kernel
theorem d_Mo_product_1 : decode b_Mo_product 1 = .ok (.istore 4, 2) := by decide +kernel
theorem d_Mo_product_3 : decode b_Mo_product 3 = .ok (.iload 4, 2) := by decide +kernel
theorem d_Mo_product_5 : decode b_Mo_product 5 = .ok (.bipush 9, 2) := by decide +kernel
theorem d_Mo_product_7 : decode b_Mo_product 7 = .ok (.if_icmp .ge 22, 3) := by decide +kernel
theorem d_Mo_product_10 : decode b_Mo_product 10 = .ok (.aload_n 0, 1) := by decide +kernel
theorem d_Mo_product_11 : decode b_Mo_product 11 = .ok (.getfield 42, 3) := by decide +kernel
theorem d_Mo_product_14 : decode b_Mo_product 14 = .ok (.bipush 9, 2) := by decide +kernel
theorem d_Mo_product_16 : decode b_Mo_product 16 = .ok (.iload_n 1, 1) := by decide +kernel
theorem d_Mo_product_17 : decode b_Mo_product 17 = .ok (.imul, 1) := by decide +kernel
theorem d_Mo_product_18 : decode b_Mo_product 18 = .ok (.iload 4, 2) := by decide +kernel
theorem d_Mo_product_20 : decode b_Mo_product 20 = .ok (.iadd, 1) := by decide +kernel
theorem d_Mo_product_21 : decode b_Mo_product 21 = .ok (.lconst 0, 1) := by decide +kernel
theorem d_Mo_product_22 : decode b_Mo_product 22 = .ok (.lastore, 1) := by decide +kernel
theorem d_Mo_product_23 : decode b_Mo_product 23 = .ok (.iinc 4 1, 3) := by decide +kernel
theorem d_Mo_product_26 : decode b_Mo_product 26 = .ok (.goto (-23), 3) := by decide +kernel
theorem d_Mo_product_29 : decode b_Mo_product 29 = .ok (.iconst 0, 1) := by decide +kernel
theorem d_Mo_product_30 : decode b_Mo_product 30 = .ok (.istore 4, 2) := by decide +kernel
theorem d_Mo_product_32 : decode b_Mo_product 32 = .ok (.iload 4, 2) := by decide +kernel
theorem d_Mo_product_34 : decode b_Mo_product 34 = .ok (.bipush 9, 2) := by decide +kernel
theorem d_Mo_product_36 : decode b_Mo_product 36 = .ok (.if_icmp .ge 105, 3) := by decide +kernel
theorem d_Mo_product_39 : decode b_Mo_product 39 = .ok (.lconst 0, 1) := by decide +kernel
theorem d_Mo_product_40 : decode b_Mo_product 40 = .ok (.lstore 5, 2) := by decide +kernel
theorem d_Mo_product_42 : decode b_Mo_product 42 = .ok (.iconst 0, 1) := by decide +kernel
theorem d_Mo_product_43 : decode b_Mo_product 43 = .ok (.istore 7, 2) := by decide +kernel
theorem d_Mo_product_45 : decode b_Mo_product 45 = .ok (.iload 4, 2) := by decide +kernel
theorem d_Mo_product_47 : decode b_Mo_product 47 = .ok (.iload 7, 2) := by decide +kernel
theorem d_Mo_product_49 : decode b_Mo_product 49 = .ok (.iadd, 1) := by decide +kernel
theorem d_Mo_product_50 : decode b_Mo_product 50 = .ok (.bipush 9, 2) := by decide +kernel
theorem d_Mo_product_52 : decode b_Mo_product 52 = .ok (.if_icmp .ge 83, 3) := by decide +kernel
theorem d_Mo_product_55 : decode b_Mo_product 55 = .ok (.aload_n 0, 1) := by decide +kernel
theorem d_Mo_product_56 : decode b_Mo_product 56 = .ok (.getfield 42, 3) := by decide +kernel
theorem d_Mo_product_59 : decode b_Mo_product 59 = .ok (.bipush 9, 2) := by decide +kernel
theorem d_Mo_product_61 : decode b_Mo_product 61 = .ok (.iload_n 1, 1) := by decide +kernel
theorem d_Mo_product_62 : decode b_Mo_product 62 = .ok (.imul, 1) := by decide +kernel
theorem d_Mo_product_63 : decode b_Mo_product 63 = .ok (.iload 4, 2) := by decide +kernel
theorem d_Mo_product_65 : decode b_Mo_product 65 = .ok (.iadd, 1) := by decide +kernel
theorem d_Mo_product_66 : decode b_Mo_product 66 = .ok (.iload 7, 2) := by decide +kernel
theorem d_Mo_product_68 : decode b_Mo_product 68 = .ok (.iadd, 1) := by decide +kernel
theorem d_Mo_product_69 : decode b_Mo_product 69 = .ok (.laload, 1) := by decide +kernel
theorem d_Mo_product_70 : decode b_Mo_product 70 = .ok (.aload_n 0, 1) := by decide +kernel
theorem d_Mo_product_71 : decode b_Mo_product 71 = .ok (.getfield 42, 3) := by decide +kernel
theorem d_Mo_product_74 : decode b_Mo_product 74 = .ok (.bipush 9, 2) := by decide +kernel
theorem d_Mo_product_76 : decode b_Mo_product 76 = .ok (.iload_n 2, 1) := by decide +kernel
theorem d_Mo_product_77 : decode b_Mo_product 77 = .ok (.imul, 1) := by decide +kernel
theorem d_Mo_product_78 : decode b_Mo_product 78 = .ok (.iload 4, 2) := by decide +kernel
theorem d_Mo_product_80 : decode b_Mo_product 80 = .ok (.iadd, 1) := by decide +kernel
theorem d_Mo_product_81 : decode b_Mo_product 81 = .ok (.laload, 1) := by decide +kernel
theorem d_Mo_product_82 : decode b_Mo_product 82 = .ok (.aload_n 0, 1) := by decide +kernel
theorem d_Mo_product_83 : decode b_Mo_product 83 = .ok (.getfield 42, 3) := by decide +kernel
theorem d_Mo_product_86 : decode b_Mo_product 86 = .ok (.bipush 9, 2) := by decide +kernel
theorem d_Mo_product_88 : decode b_Mo_product 88 = .ok (.iload_n 3, 1) := by decide +kernel
theorem d_Mo_product_89 : decode b_Mo_product 89 = .ok (.imul, 1) := by decide +kernel
theorem d_Mo_product_90 : decode b_Mo_product 90 = .ok (.iload 7, 2) := by decide +kernel
theorem d_Mo_product_92 : decode b_Mo_product 92 = .ok (.iadd, 1) := by decide +kernel
theorem d_Mo_product_93 : decode b_Mo_product 93 = .ok (.laload, 1) := by decide +kernel
theorem d_Mo_product_94 : decode b_Mo_product 94 = .ok (.lmul, 1) := by decide +kernel
theorem d_Mo_product_95 : decode b_Mo_product 95 = .ok (.ladd, 1) := by decide +kernel
theorem d_Mo_product_96 : decode b_Mo_product 96 = .ok (.lload 5, 2) := by decide +kernel
theorem d_Mo_product_98 : decode b_Mo_product 98 = .ok (.ladd, 1) := by decide +kernel
theorem d_Mo_product_99 : decode b_Mo_product 99 = .ok (.lstore 8, 2) := by decide +kernel
theorem d_Mo_product_101 : decode b_Mo_product 101 = .ok (.aload_n 0, 1) := by decide +kernel
theorem d_Mo_product_102 : decode b_Mo_product 102 = .ok (.getfield 42, 3) := by decide +kernel
theorem d_Mo_product_105 : decode b_Mo_product 105 = .ok (.bipush 9, 2) := by decide +kernel
theorem d_Mo_product_107 : decode b_Mo_product 107 = .ok (.iload_n 1, 1) := by decide +kernel
theorem d_Mo_product_108 : decode b_Mo_product 108 = .ok (.imul, 1) := by decide +kernel
theorem d_Mo_product_109 : decode b_Mo_product 109 = .ok (.iload 4, 2) := by decide +kernel
theorem d_Mo_product_111 : decode b_Mo_product 111 = .ok (.iadd, 1) := by decide +kernel
theorem d_Mo_product_112 : decode b_Mo_product 112 = .ok (.iload 7, 2) := by decide +kernel
theorem d_Mo_product_114 : decode b_Mo_product 114 = .ok (.iadd, 1) := by decide +kernel
theorem d_Mo_product_115 : decode b_Mo_product 115 = .ok (.lload 8, 2) := by decide +kernel
theorem d_Mo_product_117 : decode b_Mo_product 117 = .ok (.ldc2_w 78, 3) := by decide +kernel
theorem d_Mo_product_120 : decode b_Mo_product 120 = .ok (.land, 1) := by decide +kernel
theorem d_Mo_product_121 : decode b_Mo_product 121 = .ok (.lastore, 1) := by decide +kernel
theorem d_Mo_product_122 : decode b_Mo_product 122 = .ok (.lload 8, 2) := by decide +kernel
theorem d_Mo_product_124 : decode b_Mo_product 124 = .ok (.bipush 24, 2) := by decide +kernel
theorem d_Mo_product_126 : decode b_Mo_product 126 = .ok (.lshr, 1) := by decide +kernel
theorem d_Mo_product_127 : decode b_Mo_product 127 = .ok (.lstore 5, 2) := by decide +kernel
theorem d_Mo_product_129 : decode b_Mo_product 129 = .ok (.iinc 7 1, 3) := by decide +kernel
theorem d_Mo_product_132 : decode b_Mo_product 132 = .ok (.goto (-87), 3) := by decide +kernel
theorem d_Mo_product_135 : decode b_Mo_product 135 = .ok (.iinc 4 1, 3) := by decide +kernel
theorem d_Mo_product_138 : decode b_Mo_product 138 = .ok (.goto (-106), 3) := by decide +kernel
theorem d_Mo_product_141 : decode b_Mo_product 141 = .ok (.return_, 1) := by decide +kernel
theorem d_Mo_compare_0 : decode b_Mo_compare 0 = .ok (.bipush 8, 2) := by decide +kernel
theorem d_Mo_compare_2 : decode b_Mo_compare 2 = .ok (.istore_n 3, 1) := by decide +kernel
theorem d_Mo_compare_3 : decode b_Mo_compare 3 = .ok (.iload_n 3, 1) := by decide +kernel
theorem d_Mo_compare_4 : decode b_Mo_compare 4 = .ok (.ifCond .lt 67, 3) := by decide +kernel
theorem d_Mo_compare_7 : decode b_Mo_compare 7 = .ok (.aload_n 0, 1) := by decide +kernel
theorem d_Mo_compare_8 : decode b_Mo_compare 8 = .ok (.getfield 42, 3) := by decide +kernel
theorem d_Mo_compare_11 : decode b_Mo_compare 11 = .ok (.bipush 9, 2) := by decide +kernel
theorem d_Mo_compare_13 : decode b_Mo_compare 13 = .ok (.iload_n 1, 1) := by decide +kernel
theorem d_Mo_compare_14 : decode b_Mo_compare 14 = .ok (.imul, 1) := by decide +kernel
theorem d_Mo_compare_15 : decode b_Mo_compare 15 = .ok (.iload_n 3, 1) := by decide +kernel
theorem d_Mo_compare_16 : decode b_Mo_compare 16 = .ok (.iadd, 1) := by decide +kernel
theorem d_Mo_compare_17 : decode b_Mo_compare 17 = .ok (.laload, 1) := by decide +kernel
theorem d_Mo_compare_18 : decode b_Mo_compare 18 = .ok (.aload_n 0, 1) := by decide +kernel
theorem d_Mo_compare_19 : decode b_Mo_compare 19 = .ok (.getfield 42, 3) := by decide +kernel
theorem d_Mo_compare_22 : decode b_Mo_compare 22 = .ok (.bipush 9, 2) := by decide +kernel
theorem d_Mo_compare_24 : decode b_Mo_compare 24 = .ok (.iload_n 2, 1) := by decide +kernel
theorem d_Mo_compare_25 : decode b_Mo_compare 25 = .ok (.imul, 1) := by decide +kernel
theorem d_Mo_compare_26 : decode b_Mo_compare 26 = .ok (.iload_n 3, 1) := by decide +kernel
theorem d_Mo_compare_27 : decode b_Mo_compare 27 = .ok (.iadd, 1) := by decide +kernel
theorem d_Mo_compare_28 : decode b_Mo_compare 28 = .ok (.laload, 1) := by decide +kernel
theorem d_Mo_compare_29 : decode b_Mo_compare 29 = .ok (.lcmp, 1) := by decide +kernel
theorem d_Mo_compare_30 : decode b_Mo_compare 30 = .ok (.ifCond .eq 35, 3) := by decide +kernel
theorem d_Mo_compare_33 : decode b_Mo_compare 33 = .ok (.aload_n 0, 1) := by decide +kernel
theorem d_Mo_compare_34 : decode b_Mo_compare 34 = .ok (.getfield 42, 3) := by decide +kernel
theorem d_Mo_compare_37 : decode b_Mo_compare 37 = .ok (.bipush 9, 2) := by decide +kernel
theorem d_Mo_compare_39 : decode b_Mo_compare 39 = .ok (.iload_n 1, 1) := by decide +kernel
theorem d_Mo_compare_40 : decode b_Mo_compare 40 = .ok (.imul, 1) := by decide +kernel
theorem d_Mo_compare_41 : decode b_Mo_compare 41 = .ok (.iload_n 3, 1) := by decide +kernel
theorem d_Mo_compare_42 : decode b_Mo_compare 42 = .ok (.iadd, 1) := by decide +kernel
theorem d_Mo_compare_43 : decode b_Mo_compare 43 = .ok (.laload, 1) := by decide +kernel
theorem d_Mo_compare_44 : decode b_Mo_compare 44 = .ok (.aload_n 0, 1) := by decide +kernel
theorem d_Mo_compare_45 : decode b_Mo_compare 45 = .ok (.getfield 42, 3) := by decide +kernel
theorem d_Mo_compare_48 : decode b_Mo_compare 48 = .ok (.bipush 9, 2) := by decide +kernel
theorem d_Mo_compare_50 : decode b_Mo_compare 50 = .ok (.iload_n 2, 1) := by decide +kernel
theorem d_Mo_compare_51 : decode b_Mo_compare 51 = .ok (.imul, 1) := by decide +kernel
theorem d_Mo_compare_52 : decode b_Mo_compare 52 = .ok (.iload_n 3, 1) := by decide +kernel
theorem d_Mo_compare_53 : decode b_Mo_compare 53 = .ok (.iadd, 1) := by decide +kernel
theorem d_Mo_compare_54 : decode b_Mo_compare 54 = .ok (.laload, 1) := by decide +kernel
theorem d_Mo_compare_55 : decode b_Mo_compare 55 = .ok (.lcmp, 1) := by decide +kernel
theorem d_Mo_compare_56 : decode b_Mo_compare 56 = .ok (.ifCond .ge 7, 3) := by decide +kernel
theorem d_Mo_compare_59 : decode b_Mo_compare 59 = .ok (.iconst (-1), 1) := by decide +kernel
theorem d_Mo_compare_60 : decode b_Mo_compare 60 = .ok (.goto 4, 3) := by decide +kernel
theorem d_Mo_compare_63 : decode b_Mo_compare 63 = .ok (.iconst 1, 1) := by decide +kernel
theorem d_Mo_compare_64 : decode b_Mo_compare 64 = .ok (.ireturn, 1) := by decide +kernel
theorem d_Mo_compare_65 : decode b_Mo_compare 65 = .ok (.iinc 3 (-1), 3) := by decide +kernel
theorem d_Mo_compare_68 : decode b_Mo_compare 68 = .ok (.goto (-65), 3) := by decide +kernel
theorem d_Mo_compare_71 : decode b_Mo_compare 71 = .ok (.iconst 0, 1) := by decide +kernel
theorem d_Mo_compare_72 : decode b_Mo_compare 72 = .ok (.ireturn, 1) := by decide +kernel
theorem d_Mo_size_0 : decode b_Mo_size 0 = .ok (.lload_n 0, 1) := by decide +kernel
theorem d_Mo_size_1 : decode b_Mo_size 1 = .ok (.lconst 0, 1) := by decide +kernel
theorem d_Mo_size_2 : decode b_Mo_size 2 = .ok (.lcmp, 1) := by decide +kernel
theorem d_Mo_size_3 : decode b_Mo_size 3 = .ok (.ifCond .ge 8, 3) := by decide +kernel
theorem d_Mo_size_6 : decode b_Mo_size 6 = .ok (.lload_n 0, 1) := by decide +kernel
theorem d_Mo_size_7 : decode b_Mo_size 7 = .ok (.lneg, 1) := by decide +kernel
theorem d_Mo_size_8 : decode b_Mo_size 8 = .ok (.goto 4, 3) := by decide +kernel
theorem d_Mo_size_11 : decode b_Mo_size 11 = .ok (.lload_n 0, 1) := by decide +kernel
theorem d_Mo_size_12 : decode b_Mo_size 12 = .ok (.lreturn, 1) := by decide +kernel
theorem d_Mo_rootSign_0 : decode b_Mo_rootSign 0 = .ok (.lload_n 1, 1) := by decide +kernel
theorem d_Mo_rootSign_1 : decode b_Mo_rootSign 1 = .ok (.lconst 0, 1) := by decide +kernel
theorem d_Mo_rootSign_2 : decode b_Mo_rootSign 2 = .ok (.lcmp, 1) := by decide +kernel
theorem d_Mo_rootSign_3 : decode b_Mo_rootSign 3 = .ok (.ifCond .lt 27, 3) := by decide +kernel
theorem d_Mo_rootSign_6 : decode b_Mo_rootSign 6 = .ok (.lload_n 3, 1) := by decide +kernel
theorem d_Mo_rootSign_7 : decode b_Mo_rootSign 7 = .ok (.lconst 0, 1) := by decide +kernel
theorem d_Mo_rootSign_8 : decode b_Mo_rootSign 8 = .ok (.lcmp, 1) := by decide +kernel
theorem d_Mo_rootSign_9 : decode b_Mo_rootSign 9 = .ok (.ifCond .lt 21, 3) := by decide +kernel
theorem d_Mo_rootSign_12 : decode b_Mo_rootSign 12 = .ok (.lload_n 1, 1) := by decide +kernel
theorem d_Mo_rootSign_13 : decode b_Mo_rootSign 13 = .ok (.lconst 0, 1) := by decide +kernel
theorem d_Mo_rootSign_14 : decode b_Mo_rootSign 14 = .ok (.lcmp, 1) := by decide +kernel
theorem d_Mo_rootSign_15 : decode b_Mo_rootSign 15 = .ok (.ifCond .ne 13, 3) := by decide +kernel
theorem d_Mo_rootSign_18 : decode b_Mo_rootSign 18 = .ok (.lload_n 3, 1) := by decide +kernel
theorem d_Mo_rootSign_19 : decode b_Mo_rootSign 19 = .ok (.lconst 0, 1) := by decide +kernel
theorem d_Mo_rootSign_20 : decode b_Mo_rootSign 20 = .ok (.lcmp, 1) := by decide +kernel
theorem d_Mo_rootSign_21 : decode b_Mo_rootSign 21 = .ok (.ifCond .ne 7, 3) := by decide +kernel
theorem d_Mo_rootSign_24 : decode b_Mo_rootSign 24 = .ok (.iconst 0, 1) := by decide +kernel
theorem d_Mo_rootSign_25 : decode b_Mo_rootSign 25 = .ok (.goto 4, 3) := by decide +kernel
theorem d_Mo_rootSign_28 : decode b_Mo_rootSign 28 = .ok (.iconst 1, 1) := by decide +kernel
theorem d_Mo_rootSign_29 : decode b_Mo_rootSign 29 = .ok (.ireturn, 1) := by decide +kernel
theorem d_Mo_rootSign_30 : decode b_Mo_rootSign 30 = .ok (.lload_n 1, 1) := by decide +kernel
theorem d_Mo_rootSign_31 : decode b_Mo_rootSign 31 = .ok (.lconst 0, 1) := by decide +kernel
theorem d_Mo_rootSign_32 : decode b_Mo_rootSign 32 = .ok (.lcmp, 1) := by decide +kernel
theorem d_Mo_rootSign_33 : decode b_Mo_rootSign 33 = .ok (.ifCond .gt 11, 3) := by decide +kernel
theorem d_Mo_rootSign_36 : decode b_Mo_rootSign 36 = .ok (.lload_n 3, 1) := by decide +kernel
theorem d_Mo_rootSign_37 : decode b_Mo_rootSign 37 = .ok (.lconst 0, 1) := by decide +kernel
theorem d_Mo_rootSign_38 : decode b_Mo_rootSign 38 = .ok (.lcmp, 1) := by decide +kernel
theorem d_Mo_rootSign_39 : decode b_Mo_rootSign 39 = .ok (.ifCond .gt 5, 3) := by decide +kernel
theorem d_Mo_rootSign_42 : decode b_Mo_rootSign 42 = .ok (.iconst (-1), 1) := by decide +kernel
theorem d_Mo_rootSign_43 : decode b_Mo_rootSign 43 = .ok (.ireturn, 1) := by decide +kernel
theorem d_Mo_rootSign_44 : decode b_Mo_rootSign 44 = .ok (.aload_n 0, 1) := by decide +kernel
theorem d_Mo_rootSign_45 : decode b_Mo_rootSign 45 = .ok (.iconst 0, 1) := by decide +kernel
theorem d_Mo_rootSign_46 : decode b_Mo_rootSign 46 = .ok (.lload_n 1, 1) := by decide +kernel
theorem d_Mo_rootSign_47 : decode b_Mo_rootSign 47 = .ok (.invokestatic 80, 3) := by decide +kernel
theorem d_Mo_rootSign_50 : decode b_Mo_rootSign 50 = .ok (.invokevirtual 84, 3) := by decide +kernel
theorem d_Mo_rootSign_53 : decode b_Mo_rootSign 53 = .ok (.aload_n 0, 1) := by decide +kernel
theorem d_Mo_rootSign_54 : decode b_Mo_rootSign 54 = .ok (.iconst 1, 1) := by decide +kernel
theorem d_Mo_rootSign_55 : decode b_Mo_rootSign 55 = .ok (.iconst 0, 1) := by decide +kernel
theorem d_Mo_rootSign_56 : decode b_Mo_rootSign 56 = .ok (.iconst 0, 1) := by decide +kernel
theorem d_Mo_rootSign_57 : decode b_Mo_rootSign 57 = .ok (.invokevirtual 88, 3) := by decide +kernel
theorem d_Mo_rootSign_60 : decode b_Mo_rootSign 60 = .ok (.aload_n 0, 1) := by decide +kernel
theorem d_Mo_rootSign_61 : decode b_Mo_rootSign 61 = .ok (.iconst 0, 1) := by decide +kernel
theorem d_Mo_rootSign_62 : decode b_Mo_rootSign 62 = .ok (.lload_n 3, 1) := by decide +kernel
theorem d_Mo_rootSign_63 : decode b_Mo_rootSign 63 = .ok (.invokestatic 80, 3) := by decide +kernel
theorem d_Mo_rootSign_66 : decode b_Mo_rootSign 66 = .ok (.invokevirtual 84, 3) := by decide +kernel
theorem d_Mo_rootSign_69 : decode b_Mo_rootSign 69 = .ok (.aload_n 0, 1) := by decide +kernel
theorem d_Mo_rootSign_70 : decode b_Mo_rootSign 70 = .ok (.iconst 2, 1) := by decide +kernel
theorem d_Mo_rootSign_71 : decode b_Mo_rootSign 71 = .ok (.iconst 0, 1) := by decide +kernel
theorem d_Mo_rootSign_72 : decode b_Mo_rootSign 72 = .ok (.iconst 0, 1) := by decide +kernel
theorem d_Mo_rootSign_73 : decode b_Mo_rootSign 73 = .ok (.invokevirtual 88, 3) := by decide +kernel
theorem d_Mo_rootSign_76 : decode b_Mo_rootSign 76 = .ok (.aload_n 0, 1) := by decide +kernel
theorem d_Mo_rootSign_77 : decode b_Mo_rootSign 77 = .ok (.iconst 0, 1) := by decide +kernel
theorem d_Mo_rootSign_78 : decode b_Mo_rootSign 78 = .ok (.ldc2_w 92, 3) := by decide +kernel
theorem d_Mo_rootSign_81 : decode b_Mo_rootSign 81 = .ok (.invokevirtual 84, 3) := by decide +kernel
theorem d_Mo_rootSign_84 : decode b_Mo_rootSign 84 = .ok (.aload_n 0, 1) := by decide +kernel
theorem d_Mo_rootSign_85 : decode b_Mo_rootSign 85 = .ok (.iconst 3, 1) := by decide +kernel
theorem d_Mo_rootSign_86 : decode b_Mo_rootSign 86 = .ok (.iconst 2, 1) := by decide +kernel
theorem d_Mo_rootSign_87 : decode b_Mo_rootSign 87 = .ok (.iconst 0, 1) := by decide +kernel
theorem d_Mo_rootSign_88 : decode b_Mo_rootSign 88 = .ok (.invokevirtual 88, 3) := by decide +kernel
theorem d_Mo_rootSign_91 : decode b_Mo_rootSign 91 = .ok (.aload_n 0, 1) := by decide +kernel
theorem d_Mo_rootSign_92 : decode b_Mo_rootSign 92 = .ok (.iconst 1, 1) := by decide +kernel
theorem d_Mo_rootSign_93 : decode b_Mo_rootSign 93 = .ok (.iconst 3, 1) := by decide +kernel
theorem d_Mo_rootSign_94 : decode b_Mo_rootSign 94 = .ok (.invokevirtual 94, 3) := by decide +kernel
theorem d_Mo_rootSign_97 : decode b_Mo_rootSign 97 = .ok (.ifCond .le 7, 3) := by decide +kernel
theorem d_Mo_rootSign_100 : decode b_Mo_rootSign 100 = .ok (.iconst 1, 1) := by decide +kernel
theorem d_Mo_rootSign_101 : decode b_Mo_rootSign 101 = .ok (.goto 4, 3) := by decide +kernel
theorem d_Mo_rootSign_104 : decode b_Mo_rootSign 104 = .ok (.iconst 0, 1) := by decide +kernel
theorem d_Mo_rootSign_105 : decode b_Mo_rootSign 105 = .ok (.lload_n 1, 1) := by decide +kernel
theorem d_Mo_rootSign_106 : decode b_Mo_rootSign 106 = .ok (.lconst 0, 1) := by decide +kernel
theorem d_Mo_rootSign_107 : decode b_Mo_rootSign 107 = .ok (.lcmp, 1) := by decide +kernel
theorem d_Mo_rootSign_108 : decode b_Mo_rootSign 108 = .ok (.ifCond .le 7, 3) := by decide +kernel
theorem d_Mo_rootSign_111 : decode b_Mo_rootSign 111 = .ok (.iconst 1, 1) := by decide +kernel
theorem d_Mo_rootSign_112 : decode b_Mo_rootSign 112 = .ok (.goto 4, 3) := by decide +kernel
theorem d_Mo_rootSign_115 : decode b_Mo_rootSign 115 = .ok (.iconst 0, 1) := by decide +kernel
theorem d_Mo_rootSign_116 : decode b_Mo_rootSign 116 = .ok (.if_icmp .ne 7, 3) := by decide +kernel
theorem d_Mo_rootSign_119 : decode b_Mo_rootSign 119 = .ok (.iconst 1, 1) := by decide +kernel
theorem d_Mo_rootSign_120 : decode b_Mo_rootSign 120 = .ok (.goto 4, 3) := by decide +kernel
theorem d_Mo_rootSign_123 : decode b_Mo_rootSign 123 = .ok (.iconst (-1), 1) := by decide +kernel
theorem d_Mo_rootSign_124 : decode b_Mo_rootSign 124 = .ok (.ireturn, 1) := by decide +kernel
theorem d_Mo_sign_0 : decode b_Mo_sign 0 = .ok (.aload_n 0, 1) := by decide +kernel
theorem d_Mo_sign_1 : decode b_Mo_sign 1 = .ok (.ldc2_w 98, 3) := by decide +kernel
theorem d_Mo_sign_4 : decode b_Mo_sign 4 = .ok (.lload_n 1, 1) := by decide +kernel
theorem d_Mo_sign_5 : decode b_Mo_sign 5 = .ok (.lmul, 1) := by decide +kernel
theorem d_Mo_sign_6 : decode b_Mo_sign 6 = .ok (.lload_n 3, 1) := by decide +kernel
theorem d_Mo_sign_7 : decode b_Mo_sign 7 = .ok (.ladd, 1) := by decide +kernel
theorem d_Mo_sign_8 : decode b_Mo_sign 8 = .ok (.lload_n 3, 1) := by decide +kernel
theorem d_Mo_sign_9 : decode b_Mo_sign 9 = .ok (.invokevirtual 100, 3) := by decide +kernel
theorem d_Mo_sign_12 : decode b_Mo_sign 12 = .ok (.ireturn, 1) := by decide +kernel
theorem d_Mo_conjugate_0 : decode b_Mo_conjugate 0 = .ok (.iconst 0, 1) := by decide +kernel
theorem d_Mo_conjugate_1 : decode b_Mo_conjugate 1 = .ok (.istore_n 1, 1) := by decide +kernel
theorem d_Mo_conjugate_2 : decode b_Mo_conjugate 2 = .ok (.iload_n 1, 1) := by decide +kernel
theorem d_Mo_conjugate_3 : decode b_Mo_conjugate 3 = .ok (.iconst 4, 1) := by decide +kernel
theorem d_Mo_conjugate_4 : decode b_Mo_conjugate 4 = .ok (.if_icmp .ge 16, 3) := by decide +kernel
theorem d_Mo_conjugate_7 : decode b_Mo_conjugate 7 = .ok (.aload_n 0, 1) := by decide +kernel
theorem d_Mo_conjugate_8 : decode b_Mo_conjugate 8 = .ok (.getfield 45, 3) := by decide +kernel
theorem d_Mo_conjugate_11 : decode b_Mo_conjugate 11 = .ok (.iload_n 1, 1) := by decide +kernel
theorem d_Mo_conjugate_12 : decode b_Mo_conjugate 12 = .ok (.lconst 0, 1) := by decide +kernel
theorem d_Mo_conjugate_13 : decode b_Mo_conjugate 13 = .ok (.lastore, 1) := by decide +kernel
theorem d_Mo_conjugate_14 : decode b_Mo_conjugate 14 = .ok (.iinc 1 1, 3) := by decide +kernel
theorem d_Mo_conjugate_17 : decode b_Mo_conjugate 17 = .ok (.goto (-15), 3) := by decide +kernel
theorem d_Mo_conjugate_20 : decode b_Mo_conjugate 20 = .ok (.iconst 0, 1) := by decide +kernel
theorem d_Mo_conjugate_21 : decode b_Mo_conjugate 21 = .ok (.istore_n 1, 1) := by decide +kernel
theorem d_Mo_conjugate_22 : decode b_Mo_conjugate 22 = .ok (.iload_n 1, 1) := by decide +kernel
theorem d_Mo_conjugate_23 : decode b_Mo_conjugate 23 = .ok (.iconst 4, 1) := by decide +kernel
theorem d_Mo_conjugate_24 : decode b_Mo_conjugate 24 = .ok (.if_icmp .ge 91, 3) := by decide +kernel
theorem d_Mo_conjugate_27 : decode b_Mo_conjugate 27 = .ok (.iconst 0, 1) := by decide +kernel
theorem d_Mo_conjugate_28 : decode b_Mo_conjugate 28 = .ok (.istore_n 2, 1) := by decide +kernel
theorem d_Mo_conjugate_29 : decode b_Mo_conjugate 29 = .ok (.iload_n 2, 1) := by decide +kernel
theorem d_Mo_conjugate_30 : decode b_Mo_conjugate 30 = .ok (.iconst 4, 1) := by decide +kernel
theorem d_Mo_conjugate_31 : decode b_Mo_conjugate 31 = .ok (.if_icmp .ge 78, 3) := by decide +kernel
theorem d_Mo_conjugate_34 : decode b_Mo_conjugate 34 = .ok (.iload_n 2, 1) := by decide +kernel
theorem d_Mo_conjugate_35 : decode b_Mo_conjugate 35 = .ok (.iload_n 1, 1) := by decide +kernel
theorem d_Mo_conjugate_36 : decode b_Mo_conjugate 36 = .ok (.isub, 1) := by decide +kernel
theorem d_Mo_conjugate_37 : decode b_Mo_conjugate 37 = .ok (.iconst 5, 1) := by decide +kernel
theorem d_Mo_conjugate_38 : decode b_Mo_conjugate 38 = .ok (.iadd, 1) := by decide +kernel
theorem d_Mo_conjugate_39 : decode b_Mo_conjugate 39 = .ok (.iconst 5, 1) := by decide +kernel
theorem d_Mo_conjugate_40 : decode b_Mo_conjugate 40 = .ok (.irem, 1) := by decide +kernel
theorem d_Mo_conjugate_41 : decode b_Mo_conjugate 41 = .ok (.istore_n 3, 1) := by decide +kernel
theorem d_Mo_conjugate_42 : decode b_Mo_conjugate 42 = .ok (.aload_n 0, 1) := by decide +kernel
theorem d_Mo_conjugate_43 : decode b_Mo_conjugate 43 = .ok (.getfield 26, 3) := by decide +kernel
theorem d_Mo_conjugate_46 : decode b_Mo_conjugate 46 = .ok (.iload_n 1, 1) := by decide +kernel
theorem d_Mo_conjugate_47 : decode b_Mo_conjugate 47 = .ok (.laload, 1) := by decide +kernel
theorem d_Mo_conjugate_48 : decode b_Mo_conjugate 48 = .ok (.aload_n 0, 1) := by decide +kernel
theorem d_Mo_conjugate_49 : decode b_Mo_conjugate 49 = .ok (.getfield 30, 3) := by decide +kernel
theorem d_Mo_conjugate_52 : decode b_Mo_conjugate 52 = .ok (.iload_n 2, 1) := by decide +kernel
theorem d_Mo_conjugate_53 : decode b_Mo_conjugate 53 = .ok (.laload, 1) := by decide +kernel
theorem d_Mo_conjugate_54 : decode b_Mo_conjugate 54 = .ok (.lmul, 1) := by decide +kernel
theorem d_Mo_conjugate_55 : decode b_Mo_conjugate 55 = .ok (.lstore 4, 2) := by decide +kernel
theorem d_Mo_conjugate_57 : decode b_Mo_conjugate 57 = .ok (.iload_n 3, 1) := by decide +kernel
theorem d_Mo_conjugate_58 : decode b_Mo_conjugate 58 = .ok (.iconst 4, 1) := by decide +kernel
theorem d_Mo_conjugate_59 : decode b_Mo_conjugate 59 = .ok (.if_icmp .ge 17, 3) := by decide +kernel
theorem d_Mo_conjugate_62 : decode b_Mo_conjugate 62 = .ok (.aload_n 0, 1) := by decide +kernel
theorem d_Mo_conjugate_63 : decode b_Mo_conjugate 63 = .ok (.getfield 45, 3) := by decide +kernel
theorem d_Mo_conjugate_66 : decode b_Mo_conjugate 66 = .ok (.iload_n 3, 1) := by decide +kernel
theorem d_Mo_conjugate_67 : decode b_Mo_conjugate 67 = .ok (.dup2, 1) := by decide +kernel
theorem d_Mo_conjugate_68 : decode b_Mo_conjugate 68 = .ok (.laload, 1) := by decide +kernel
theorem d_Mo_conjugate_69 : decode b_Mo_conjugate 69 = .ok (.lload 4, 2) := by decide +kernel
theorem d_Mo_conjugate_71 : decode b_Mo_conjugate 71 = .ok (.ladd, 1) := by decide +kernel
theorem d_Mo_conjugate_72 : decode b_Mo_conjugate 72 = .ok (.lastore, 1) := by decide +kernel
theorem d_Mo_conjugate_73 : decode b_Mo_conjugate 73 = .ok (.goto 30, 3) := by decide +kernel
theorem d_Mo_conjugate_76 : decode b_Mo_conjugate 76 = .ok (.iconst 0, 1) := by decide +kernel
theorem d_Mo_conjugate_77 : decode b_Mo_conjugate 77 = .ok (.istore 6, 2) := by decide +kernel
theorem d_Mo_conjugate_79 : decode b_Mo_conjugate 79 = .ok (.iload 6, 2) := by decide +kernel
theorem d_Mo_conjugate_81 : decode b_Mo_conjugate 81 = .ok (.iconst 4, 1) := by decide +kernel
theorem d_Mo_conjugate_82 : decode b_Mo_conjugate 82 = .ok (.if_icmp .ge 21, 3) := by decide +kernel
theorem d_Mo_conjugate_85 : decode b_Mo_conjugate 85 = .ok (.aload_n 0, 1) := by decide +kernel
theorem d_Mo_conjugate_86 : decode b_Mo_conjugate 86 = .ok (.getfield 45, 3) := by decide +kernel
theorem d_Mo_conjugate_89 : decode b_Mo_conjugate 89 = .ok (.iload 6, 2) := by decide +kernel
theorem d_Mo_conjugate_91 : decode b_Mo_conjugate 91 = .ok (.dup2, 1) := by decide +kernel
theorem d_Mo_conjugate_92 : decode b_Mo_conjugate 92 = .ok (.laload, 1) := by decide +kernel
theorem d_Mo_conjugate_93 : decode b_Mo_conjugate 93 = .ok (.lload 4, 2) := by decide +kernel
theorem d_Mo_conjugate_95 : decode b_Mo_conjugate 95 = .ok (.lsub, 1) := by decide +kernel
theorem d_Mo_conjugate_96 : decode b_Mo_conjugate 96 = .ok (.lastore, 1) := by decide +kernel
theorem d_Mo_conjugate_97 : decode b_Mo_conjugate 97 = .ok (.iinc 6 1, 3) := by decide +kernel
theorem d_Mo_conjugate_100 : decode b_Mo_conjugate 100 = .ok (.goto (-21), 3) := by decide +kernel
theorem d_Mo_conjugate_103 : decode b_Mo_conjugate 103 = .ok (.iinc 2 1, 3) := by decide +kernel
theorem d_Mo_conjugate_106 : decode b_Mo_conjugate 106 = .ok (.goto (-77), 3) := by decide +kernel
theorem d_Mo_conjugate_109 : decode b_Mo_conjugate 109 = .ok (.iinc 1 1, 3) := by decide +kernel
theorem d_Mo_conjugate_112 : decode b_Mo_conjugate 112 = .ok (.goto (-90), 3) := by decide +kernel
theorem d_Mo_conjugate_115 : decode b_Mo_conjugate 115 = .ok (.return_, 1) := by decide +kernel
theorem d_Mo_turn_0 : decode b_Mo_turn 0 = .ok (.aload_n 0, 1) := by decide +kernel
theorem d_Mo_turn_1 : decode b_Mo_turn 1 = .ok (.invokevirtual 104, 3) := by decide +kernel
theorem d_Mo_turn_4 : decode b_Mo_turn 4 = .ok (.aload_n 0, 1) := by decide +kernel
theorem d_Mo_turn_5 : decode b_Mo_turn 5 = .ok (.aload_n 0, 1) := by decide +kernel
theorem d_Mo_turn_6 : decode b_Mo_turn 6 = .ok (.getfield 45, 3) := by decide +kernel
theorem d_Mo_turn_9 : decode b_Mo_turn 9 = .ok (.iconst 2, 1) := by decide +kernel
theorem d_Mo_turn_10 : decode b_Mo_turn 10 = .ok (.laload, 1) := by decide +kernel
theorem d_Mo_turn_11 : decode b_Mo_turn 11 = .ok (.aload_n 0, 1) := by decide +kernel
theorem d_Mo_turn_12 : decode b_Mo_turn 12 = .ok (.getfield 45, 3) := by decide +kernel
theorem d_Mo_turn_15 : decode b_Mo_turn 15 = .ok (.iconst 3, 1) := by decide +kernel
theorem d_Mo_turn_16 : decode b_Mo_turn 16 = .ok (.laload, 1) := by decide +kernel
theorem d_Mo_turn_17 : decode b_Mo_turn 17 = .ok (.lsub, 1) := by decide +kernel
theorem d_Mo_turn_18 : decode b_Mo_turn 18 = .ok (.aload_n 0, 1) := by decide +kernel
theorem d_Mo_turn_19 : decode b_Mo_turn 19 = .ok (.getfield 45, 3) := by decide +kernel
theorem d_Mo_turn_22 : decode b_Mo_turn 22 = .ok (.iconst 1, 1) := by decide +kernel
theorem d_Mo_turn_23 : decode b_Mo_turn 23 = .ok (.laload, 1) := by decide +kernel
theorem d_Mo_turn_24 : decode b_Mo_turn 24 = .ok (.invokevirtual 107, 3) := by decide +kernel
theorem d_Mo_turn_27 : decode b_Mo_turn 27 = .ok (.ireturn, 1) := by decide +kernel
theorem d_Mo_along_0 : decode b_Mo_along 0 = .ok (.aload_n 0, 1) := by decide +kernel
theorem d_Mo_along_1 : decode b_Mo_along 1 = .ok (.invokevirtual 104, 3) := by decide +kernel
theorem d_Mo_along_4 : decode b_Mo_along 4 = .ok (.aload_n 0, 1) := by decide +kernel
theorem d_Mo_along_5 : decode b_Mo_along 5 = .ok (.ldc2_w 98, 3) := by decide +kernel
theorem d_Mo_along_8 : decode b_Mo_along 8 = .ok (.aload_n 0, 1) := by decide +kernel
theorem d_Mo_along_9 : decode b_Mo_along 9 = .ok (.getfield 45, 3) := by decide +kernel
theorem d_Mo_along_12 : decode b_Mo_along 12 = .ok (.iconst 0, 1) := by decide +kernel
theorem d_Mo_along_13 : decode b_Mo_along 13 = .ok (.laload, 1) := by decide +kernel
theorem d_Mo_along_14 : decode b_Mo_along 14 = .ok (.lmul, 1) := by decide +kernel
theorem d_Mo_along_15 : decode b_Mo_along 15 = .ok (.aload_n 0, 1) := by decide +kernel
theorem d_Mo_along_16 : decode b_Mo_along 16 = .ok (.getfield 45, 3) := by decide +kernel
theorem d_Mo_along_19 : decode b_Mo_along 19 = .ok (.iconst 1, 1) := by decide +kernel
theorem d_Mo_along_20 : decode b_Mo_along 20 = .ok (.laload, 1) := by decide +kernel
theorem d_Mo_along_21 : decode b_Mo_along 21 = .ok (.lsub, 1) := by decide +kernel
theorem d_Mo_along_22 : decode b_Mo_along 22 = .ok (.aload_n 0, 1) := by decide +kernel
theorem d_Mo_along_23 : decode b_Mo_along 23 = .ok (.getfield 45, 3) := by decide +kernel
theorem d_Mo_along_26 : decode b_Mo_along 26 = .ok (.iconst 1, 1) := by decide +kernel
theorem d_Mo_along_27 : decode b_Mo_along 27 = .ok (.laload, 1) := by decide +kernel
theorem d_Mo_along_28 : decode b_Mo_along 28 = .ok (.aload_n 0, 1) := by decide +kernel
theorem d_Mo_along_29 : decode b_Mo_along 29 = .ok (.getfield 45, 3) := by decide +kernel
theorem d_Mo_along_32 : decode b_Mo_along 32 = .ok (.iconst 2, 1) := by decide +kernel
theorem d_Mo_along_33 : decode b_Mo_along 33 = .ok (.laload, 1) := by decide +kernel
theorem d_Mo_along_34 : decode b_Mo_along 34 = .ok (.lsub, 1) := by decide +kernel
theorem d_Mo_along_35 : decode b_Mo_along 35 = .ok (.aload_n 0, 1) := by decide +kernel
theorem d_Mo_along_36 : decode b_Mo_along 36 = .ok (.getfield 45, 3) := by decide +kernel
theorem d_Mo_along_39 : decode b_Mo_along 39 = .ok (.iconst 3, 1) := by decide +kernel
theorem d_Mo_along_40 : decode b_Mo_along 40 = .ok (.laload, 1) := by decide +kernel
theorem d_Mo_along_41 : decode b_Mo_along 41 = .ok (.lsub, 1) := by decide +kernel
theorem d_Mo_along_42 : decode b_Mo_along 42 = .ok (.invokevirtual 107, 3) := by decide +kernel
theorem d_Mo_along_45 : decode b_Mo_along 45 = .ok (.ireturn, 1) := by decide +kernel
theorem d_Mo_side_0 : decode b_Mo_side 0 = .ok (.aload_n 0, 1) := by decide +kernel
theorem d_Mo_side_1 : decode b_Mo_side 1 = .ok (.aload_n 0, 1) := by decide +kernel
theorem d_Mo_side_2 : decode b_Mo_side 2 = .ok (.getfield 26, 3) := by decide +kernel
theorem d_Mo_side_5 : decode b_Mo_side 5 = .ok (.aload_n 0, 1) := by decide +kernel
theorem d_Mo_side_6 : decode b_Mo_side 6 = .ok (.getfield 13, 3) := by decide +kernel
theorem d_Mo_side_9 : decode b_Mo_side 9 = .ok (.iload_n 1, 1) := by decide +kernel
theorem d_Mo_side_10 : decode b_Mo_side 10 = .ok (.iload_n 2, 1) := by decide +kernel
theorem d_Mo_side_11 : decode b_Mo_side 11 = .ok (.invokevirtual 110, 3) := by decide +kernel
theorem d_Mo_side_14 : decode b_Mo_side 14 = .ok (.aload_n 0, 1) := by decide +kernel
theorem d_Mo_side_15 : decode b_Mo_side 15 = .ok (.aload_n 0, 1) := by decide +kernel
theorem d_Mo_side_16 : decode b_Mo_side 16 = .ok (.getfield 30, 3) := by decide +kernel
theorem d_Mo_side_19 : decode b_Mo_side 19 = .ok (.aload_n 0, 1) := by decide +kernel
theorem d_Mo_side_20 : decode b_Mo_side 20 = .ok (.getfield 13, 3) := by decide +kernel
theorem d_Mo_side_23 : decode b_Mo_side 23 = .ok (.iload_n 1, 1) := by decide +kernel
theorem d_Mo_side_24 : decode b_Mo_side 24 = .ok (.iload_n 3, 1) := by decide +kernel
theorem d_Mo_side_25 : decode b_Mo_side 25 = .ok (.invokevirtual 110, 3) := by decide +kernel
theorem d_Mo_side_28 : decode b_Mo_side 28 = .ok (.aload_n 0, 1) := by decide +kernel
theorem d_Mo_side_29 : decode b_Mo_side 29 = .ok (.invokevirtual 114, 3) := by decide +kernel
theorem d_Mo_side_32 : decode b_Mo_side 32 = .ok (.ireturn, 1) := by decide +kernel
theorem d_Mo_parts_0 : decode b_Mo_parts 0 = .ok (.iconst 0, 1) := by decide +kernel
theorem d_Mo_parts_1 : decode b_Mo_parts 1 = .ok (.istore_n 3, 1) := by decide +kernel
theorem d_Mo_parts_2 : decode b_Mo_parts 2 = .ok (.iload_n 3, 1) := by decide +kernel
theorem d_Mo_parts_3 : decode b_Mo_parts 3 = .ok (.iconst 3, 1) := by decide +kernel
theorem d_Mo_parts_4 : decode b_Mo_parts 4 = .ok (.if_icmp .ge 106, 3) := by decide +kernel
theorem d_Mo_parts_7 : decode b_Mo_parts 7 = .ok (.aload_n 0, 1) := by decide +kernel
theorem d_Mo_parts_8 : decode b_Mo_parts 8 = .ok (.iload_n 1, 1) := by decide +kernel
theorem d_Mo_parts_9 : decode b_Mo_parts 9 = .ok (.iload_n 3, 1) := by decide +kernel
theorem d_Mo_parts_10 : decode b_Mo_parts 10 = .ok (.invokevirtual 118, 3) := by decide +kernel
theorem d_Mo_parts_13 : decode b_Mo_parts 13 = .ok (.istore 4, 2) := by decide +kernel
theorem d_Mo_parts_15 : decode b_Mo_parts 15 = .ok (.aload_n 0, 1) := by decide +kernel
theorem d_Mo_parts_16 : decode b_Mo_parts 16 = .ok (.iload_n 1, 1) := by decide +kernel
theorem d_Mo_parts_17 : decode b_Mo_parts 17 = .ok (.iload_n 3, 1) := by decide +kernel
theorem d_Mo_parts_18 : decode b_Mo_parts 18 = .ok (.iconst 1, 1) := by decide +kernel
theorem d_Mo_parts_19 : decode b_Mo_parts 19 = .ok (.iadd, 1) := by decide +kernel
theorem d_Mo_parts_20 : decode b_Mo_parts 20 = .ok (.iconst 3, 1) := by decide +kernel
theorem d_Mo_parts_21 : decode b_Mo_parts 21 = .ok (.irem, 1) := by decide +kernel
theorem d_Mo_parts_22 : decode b_Mo_parts 22 = .ok (.invokevirtual 118, 3) := by decide +kernel
theorem d_Mo_parts_25 : decode b_Mo_parts 25 = .ok (.istore 5, 2) := by decide +kernel
theorem d_Mo_parts_27 : decode b_Mo_parts 27 = .ok (.aload_n 0, 1) := by decide +kernel
theorem d_Mo_parts_28 : decode b_Mo_parts 28 = .ok (.iload 4, 2) := by decide +kernel
theorem d_Mo_parts_30 : decode b_Mo_parts 30 = .ok (.iload 5, 2) := by decide +kernel
theorem d_Mo_parts_32 : decode b_Mo_parts 32 = .ok (.aload_n 0, 1) := by decide +kernel
theorem d_Mo_parts_33 : decode b_Mo_parts 33 = .ok (.iload_n 1, 1) := by decide +kernel
theorem d_Mo_parts_34 : decode b_Mo_parts 34 = .ok (.iload_n 3, 1) := by decide +kernel
theorem d_Mo_parts_35 : decode b_Mo_parts 35 = .ok (.iconst 2, 1) := by decide +kernel
theorem d_Mo_parts_36 : decode b_Mo_parts 36 = .ok (.iadd, 1) := by decide +kernel
theorem d_Mo_parts_37 : decode b_Mo_parts 37 = .ok (.iconst 3, 1) := by decide +kernel
theorem d_Mo_parts_38 : decode b_Mo_parts 38 = .ok (.irem, 1) := by decide +kernel
theorem d_Mo_parts_39 : decode b_Mo_parts 39 = .ok (.invokevirtual 118, 3) := by decide +kernel
theorem d_Mo_parts_42 : decode b_Mo_parts 42 = .ok (.invokevirtual 121, 3) := by decide +kernel
theorem d_Mo_parts_45 : decode b_Mo_parts 45 = .ok (.istore 6, 2) := by decide +kernel
theorem d_Mo_parts_47 : decode b_Mo_parts 47 = .ok (.iconst 1, 1) := by decide +kernel
theorem d_Mo_parts_48 : decode b_Mo_parts 48 = .ok (.istore 7, 2) := by decide +kernel
theorem d_Mo_parts_50 : decode b_Mo_parts 50 = .ok (.iconst 0, 1) := by decide +kernel
theorem d_Mo_parts_51 : decode b_Mo_parts 51 = .ok (.istore 8, 2) := by decide +kernel
theorem d_Mo_parts_53 : decode b_Mo_parts 53 = .ok (.iload 8, 2) := by decide +kernel
theorem d_Mo_parts_55 : decode b_Mo_parts 55 = .ok (.iconst 3, 1) := by decide +kernel
theorem d_Mo_parts_56 : decode b_Mo_parts 56 = .ok (.if_icmp .ge 41, 3) := by decide +kernel
theorem d_Mo_parts_59 : decode b_Mo_parts 59 = .ok (.iload 7, 2) := by decide +kernel
theorem d_Mo_parts_61 : decode b_Mo_parts 61 = .ok (.ifCond .eq 36, 3) := by decide +kernel
theorem d_Mo_parts_64 : decode b_Mo_parts 64 = .ok (.aload_n 0, 1) := by decide +kernel
theorem d_Mo_parts_65 : decode b_Mo_parts 65 = .ok (.iload 4, 2) := by decide +kernel
theorem d_Mo_parts_67 : decode b_Mo_parts 67 = .ok (.iload 5, 2) := by decide +kernel
theorem d_Mo_parts_69 : decode b_Mo_parts 69 = .ok (.aload_n 0, 1) := by decide +kernel
theorem d_Mo_parts_70 : decode b_Mo_parts 70 = .ok (.iload_n 2, 1) := by decide +kernel
theorem d_Mo_parts_71 : decode b_Mo_parts 71 = .ok (.iload 8, 2) := by decide +kernel
theorem d_Mo_parts_73 : decode b_Mo_parts 73 = .ok (.invokevirtual 118, 3) := by decide +kernel
theorem d_Mo_parts_76 : decode b_Mo_parts 76 = .ok (.invokevirtual 121, 3) := by decide +kernel
theorem d_Mo_parts_79 : decode b_Mo_parts 79 = .ok (.iload 6, 2) := by decide +kernel
theorem d_Mo_parts_81 : decode b_Mo_parts 81 = .ok (.if_icmp .eq 7, 3) := by decide +kernel
theorem d_Mo_parts_84 : decode b_Mo_parts 84 = .ok (.iconst 1, 1) := by decide +kernel
theorem d_Mo_parts_85 : decode b_Mo_parts 85 = .ok (.goto 4, 3) := by decide +kernel
theorem d_Mo_parts_88 : decode b_Mo_parts 88 = .ok (.iconst 0, 1) := by decide +kernel
theorem d_Mo_parts_89 : decode b_Mo_parts 89 = .ok (.istore 7, 2) := by decide +kernel
theorem d_Mo_parts_91 : decode b_Mo_parts 91 = .ok (.iinc 8 1, 3) := by decide +kernel
theorem d_Mo_parts_94 : decode b_Mo_parts 94 = .ok (.goto (-41), 3) := by decide +kernel
theorem d_Mo_parts_97 : decode b_Mo_parts 97 = .ok (.iload 7, 2) := by decide +kernel
theorem d_Mo_parts_99 : decode b_Mo_parts 99 = .ok (.ifCond .eq 5, 3) := by decide +kernel
theorem d_Mo_parts_102 : decode b_Mo_parts 102 = .ok (.iconst 1, 1) := by decide +kernel
theorem d_Mo_parts_103 : decode b_Mo_parts 103 = .ok (.ireturn, 1) := by decide +kernel
theorem d_Mo_parts_104 : decode b_Mo_parts 104 = .ok (.iinc 3 1, 3) := by decide +kernel
theorem d_Mo_parts_107 : decode b_Mo_parts 107 = .ok (.goto (-105), 3) := by decide +kernel
theorem d_Mo_parts_110 : decode b_Mo_parts 110 = .ok (.iconst 0, 1) := by decide +kernel
theorem d_Mo_parts_111 : decode b_Mo_parts 111 = .ok (.ireturn, 1) := by decide +kernel
theorem d_Mo_from_0 : decode b_Mo_from 0 = .ok (.aload_n 0, 1) := by decide +kernel
theorem d_Mo_from_1 : decode b_Mo_from 1 = .ok (.iload_n 1, 1) := by decide +kernel
theorem d_Mo_from_2 : decode b_Mo_from 2 = .ok (.iload_n 2, 1) := by decide +kernel
theorem d_Mo_from_3 : decode b_Mo_from 3 = .ok (.iconst 2, 1) := by decide +kernel
theorem d_Mo_from_4 : decode b_Mo_from 4 = .ok (.if_icmp .ne 7, 3) := by decide +kernel
theorem d_Mo_from_7 : decode b_Mo_from 7 = .ok (.iconst 1, 1) := by decide +kernel
theorem d_Mo_from_8 : decode b_Mo_from 8 = .ok (.goto 22, 3) := by decide +kernel
theorem d_Mo_from_11 : decode b_Mo_from 11 = .ok (.iload_n 2, 1) := by decide +kernel
theorem d_Mo_from_12 : decode b_Mo_from 12 = .ok (.ifCond .ne 17, 3) := by decide +kernel
theorem d_Mo_from_15 : decode b_Mo_from 15 = .ok (.aload_n 0, 1) := by decide +kernel
theorem d_Mo_from_16 : decode b_Mo_from 16 = .ok (.getfield 7, 3) := by decide +kernel
theorem d_Mo_from_19 : decode b_Mo_from 19 = .ok (.iload_n 1, 1) := by decide +kernel
theorem d_Mo_from_20 : decode b_Mo_from 20 = .ok (.iaload, 1) := by decide +kernel
theorem d_Mo_from_21 : decode b_Mo_from 21 = .ok (.iconst 1, 1) := by decide +kernel
theorem d_Mo_from_22 : decode b_Mo_from 22 = .ok (.if_icmp .ne 7, 3) := by decide +kernel
theorem d_Mo_from_25 : decode b_Mo_from 25 = .ok (.iconst 1, 1) := by decide +kernel
theorem d_Mo_from_26 : decode b_Mo_from 26 = .ok (.goto 4, 3) := by decide +kernel
theorem d_Mo_from_29 : decode b_Mo_from 29 = .ok (.iconst 0, 1) := by decide +kernel
theorem d_Mo_from_30 : decode b_Mo_from 30 = .ok (.invokevirtual 118, 3) := by decide +kernel
theorem d_Mo_from_33 : decode b_Mo_from 33 = .ok (.ireturn, 1) := by decide +kernel
theorem d_Mo_to_0 : decode b_Mo_to 0 = .ok (.aload_n 0, 1) := by decide +kernel
theorem d_Mo_to_1 : decode b_Mo_to 1 = .ok (.iload_n 1, 1) := by decide +kernel
theorem d_Mo_to_2 : decode b_Mo_to 2 = .ok (.iload_n 2, 1) := by decide +kernel
theorem d_Mo_to_3 : decode b_Mo_to 3 = .ok (.ifCond .ne 21, 3) := by decide +kernel
theorem d_Mo_to_6 : decode b_Mo_to 6 = .ok (.aload_n 0, 1) := by decide +kernel
theorem d_Mo_to_7 : decode b_Mo_to 7 = .ok (.getfield 7, 3) := by decide +kernel
theorem d_Mo_to_10 : decode b_Mo_to 10 = .ok (.iload_n 1, 1) := by decide +kernel
theorem d_Mo_to_11 : decode b_Mo_to 11 = .ok (.iaload, 1) := by decide +kernel
theorem d_Mo_to_12 : decode b_Mo_to 12 = .ok (.iconst 1, 1) := by decide +kernel
theorem d_Mo_to_13 : decode b_Mo_to 13 = .ok (.if_icmp .ne 7, 3) := by decide +kernel
theorem d_Mo_to_16 : decode b_Mo_to 16 = .ok (.iconst 0, 1) := by decide +kernel
theorem d_Mo_to_17 : decode b_Mo_to 17 = .ok (.goto 8, 3) := by decide +kernel
theorem d_Mo_to_20 : decode b_Mo_to 20 = .ok (.iconst 1, 1) := by decide +kernel
theorem d_Mo_to_21 : decode b_Mo_to 21 = .ok (.goto 4, 3) := by decide +kernel
theorem d_Mo_to_24 : decode b_Mo_to 24 = .ok (.iconst 2, 1) := by decide +kernel
theorem d_Mo_to_25 : decode b_Mo_to 25 = .ok (.invokevirtual 118, 3) := by decide +kernel
theorem d_Mo_to_28 : decode b_Mo_to 28 = .ok (.ireturn, 1) := by decide +kernel
theorem d_Mo_mark_0 : decode b_Mo_mark 0 = .ok (.iload_n 2, 1) := by decide +kernel
theorem d_Mo_mark_1 : decode b_Mo_mark 1 = .ok (.iconst 2, 1) := by decide +kernel
theorem d_Mo_mark_2 : decode b_Mo_mark 2 = .ok (.if_icmp .ne 14, 3) := by decide +kernel
theorem d_Mo_mark_5 : decode b_Mo_mark 5 = .ok (.iconst 2, 1) := by decide +kernel
theorem d_Mo_mark_6 : decode b_Mo_mark 6 = .ok (.aload_n 0, 1) := by decide +kernel
theorem d_Mo_mark_7 : decode b_Mo_mark 7 = .ok (.getfield 7, 3) := by decide +kernel
theorem d_Mo_mark_10 : decode b_Mo_mark 10 = .ok (.iload_n 1, 1) := by decide +kernel
theorem d_Mo_mark_11 : decode b_Mo_mark 11 = .ok (.iaload, 1) := by decide +kernel
theorem d_Mo_mark_12 : decode b_Mo_mark 12 = .ok (.iadd, 1) := by decide +kernel
theorem d_Mo_mark_13 : decode b_Mo_mark 13 = .ok (.goto 4, 3) := by decide +kernel
theorem d_Mo_mark_16 : decode b_Mo_mark 16 = .ok (.iload_n 2, 1) := by decide +kernel
theorem d_Mo_mark_17 : decode b_Mo_mark 17 = .ok (.ireturn, 1) := by decide +kernel
theorem d_Mo_within_0 : decode b_Mo_within 0 = .ok (.aload_n 0, 1) := by decide +kernel
theorem d_Mo_within_1 : decode b_Mo_within 1 = .ok (.aload_n 0, 1) := by decide +kernel
theorem d_Mo_within_2 : decode b_Mo_within 2 = .ok (.getfield 26, 3) := by decide +kernel
theorem d_Mo_within_5 : decode b_Mo_within 5 = .ok (.aload_n 0, 1) := by decide +kernel
theorem d_Mo_within_6 : decode b_Mo_within 6 = .ok (.getfield 13, 3) := by decide +kernel
theorem d_Mo_within_9 : decode b_Mo_within 9 = .ok (.iload_n 1, 1) := by decide +kernel
theorem d_Mo_within_10 : decode b_Mo_within 10 = .ok (.iload_n 2, 1) := by decide +kernel
theorem d_Mo_within_11 : decode b_Mo_within 11 = .ok (.invokevirtual 110, 3) := by decide +kernel
theorem d_Mo_within_14 : decode b_Mo_within 14 = .ok (.aload_n 0, 1) := by decide +kernel
theorem d_Mo_within_15 : decode b_Mo_within 15 = .ok (.aload_n 0, 1) := by decide +kernel
theorem d_Mo_within_16 : decode b_Mo_within 16 = .ok (.getfield 30, 3) := by decide +kernel
theorem d_Mo_within_19 : decode b_Mo_within 19 = .ok (.aload_n 0, 1) := by decide +kernel
theorem d_Mo_within_20 : decode b_Mo_within 20 = .ok (.getfield 13, 3) := by decide +kernel
theorem d_Mo_within_23 : decode b_Mo_within 23 = .ok (.iload_n 1, 1) := by decide +kernel
theorem d_Mo_within_24 : decode b_Mo_within 24 = .ok (.iload_n 3, 1) := by decide +kernel
theorem d_Mo_within_25 : decode b_Mo_within 25 = .ok (.invokevirtual 110, 3) := by decide +kernel
theorem d_Mo_within_28 : decode b_Mo_within 28 = .ok (.aload_n 0, 1) := by decide +kernel
theorem d_Mo_within_29 : decode b_Mo_within 29 = .ok (.invokevirtual 114, 3) := by decide +kernel
theorem d_Mo_within_32 : decode b_Mo_within 32 = .ok (.ifCond .ne 10, 3) := by decide +kernel
theorem d_Mo_within_35 : decode b_Mo_within 35 = .ok (.aload_n 0, 1) := by decide +kernel
theorem d_Mo_within_36 : decode b_Mo_within 36 = .ok (.invokevirtual 125, 3) := by decide +kernel
theorem d_Mo_within_39 : decode b_Mo_within 39 = .ok (.ifCond .gt 5, 3) := by decide +kernel
theorem d_Mo_within_42 : decode b_Mo_within 42 = .ok (.iconst 0, 1) := by decide +kernel
theorem d_Mo_within_43 : decode b_Mo_within 43 = .ok (.ireturn, 1) := by decide +kernel
theorem d_Mo_within_44 : decode b_Mo_within 44 = .ok (.aload_n 0, 1) := by decide +kernel
theorem d_Mo_within_45 : decode b_Mo_within 45 = .ok (.aload_n 0, 1) := by decide +kernel
theorem d_Mo_within_46 : decode b_Mo_within 46 = .ok (.getfield 26, 3) := by decide +kernel
theorem d_Mo_within_49 : decode b_Mo_within 49 = .ok (.aload_n 0, 1) := by decide +kernel
theorem d_Mo_within_50 : decode b_Mo_within 50 = .ok (.getfield 13, 3) := by decide +kernel
theorem d_Mo_within_53 : decode b_Mo_within 53 = .ok (.iload_n 2, 1) := by decide +kernel
theorem d_Mo_within_54 : decode b_Mo_within 54 = .ok (.iload_n 1, 1) := by decide +kernel
theorem d_Mo_within_55 : decode b_Mo_within 55 = .ok (.invokevirtual 110, 3) := by decide +kernel
theorem d_Mo_within_58 : decode b_Mo_within 58 = .ok (.aload_n 0, 1) := by decide +kernel
theorem d_Mo_within_59 : decode b_Mo_within 59 = .ok (.aload_n 0, 1) := by decide +kernel
theorem d_Mo_within_60 : decode b_Mo_within 60 = .ok (.getfield 30, 3) := by decide +kernel
theorem d_Mo_within_63 : decode b_Mo_within 63 = .ok (.aload_n 0, 1) := by decide +kernel
theorem d_Mo_within_64 : decode b_Mo_within 64 = .ok (.getfield 13, 3) := by decide +kernel
theorem d_Mo_within_67 : decode b_Mo_within 67 = .ok (.iload_n 2, 1) := by decide +kernel
theorem d_Mo_within_68 : decode b_Mo_within 68 = .ok (.iload_n 3, 1) := by decide +kernel
theorem d_Mo_within_69 : decode b_Mo_within 69 = .ok (.invokevirtual 110, 3) := by decide +kernel
theorem d_Mo_within_72 : decode b_Mo_within 72 = .ok (.aload_n 0, 1) := by decide +kernel
theorem d_Mo_within_73 : decode b_Mo_within 73 = .ok (.invokevirtual 125, 3) := by decide +kernel
theorem d_Mo_within_76 : decode b_Mo_within 76 = .ok (.ifCond .le 7, 3) := by decide +kernel
theorem d_Mo_within_79 : decode b_Mo_within 79 = .ok (.iconst 1, 1) := by decide +kernel
theorem d_Mo_within_80 : decode b_Mo_within 80 = .ok (.goto 4, 3) := by decide +kernel
theorem d_Mo_within_83 : decode b_Mo_within 83 = .ok (.iconst 0, 1) := by decide +kernel
theorem d_Mo_within_84 : decode b_Mo_within 84 = .ok (.ireturn, 1) := by decide +kernel
theorem d_Mo_overlap_0 : decode b_Mo_overlap 0 = .ok (.aload_n 0, 1) := by decide +kernel
theorem d_Mo_overlap_1 : decode b_Mo_overlap 1 = .ok (.iload_n 1, 1) := by decide +kernel
theorem d_Mo_overlap_2 : decode b_Mo_overlap 2 = .ok (.iload_n 2, 1) := by decide +kernel
theorem d_Mo_overlap_3 : decode b_Mo_overlap 3 = .ok (.invokevirtual 128, 3) := by decide +kernel
theorem d_Mo_overlap_6 : decode b_Mo_overlap 6 = .ok (.istore 5, 2) := by decide +kernel
theorem d_Mo_overlap_8 : decode b_Mo_overlap 8 = .ok (.aload_n 0, 1) := by decide +kernel
theorem d_Mo_overlap_9 : decode b_Mo_overlap 9 = .ok (.iload_n 1, 1) := by decide +kernel
theorem d_Mo_overlap_10 : decode b_Mo_overlap 10 = .ok (.iload_n 2, 1) := by decide +kernel
theorem d_Mo_overlap_11 : decode b_Mo_overlap 11 = .ok (.invokevirtual 131, 3) := by decide +kernel
theorem d_Mo_overlap_14 : decode b_Mo_overlap 14 = .ok (.istore 6, 2) := by decide +kernel
theorem d_Mo_overlap_16 : decode b_Mo_overlap 16 = .ok (.aload_n 0, 1) := by decide +kernel
theorem d_Mo_overlap_17 : decode b_Mo_overlap 17 = .ok (.iload_n 3, 1) := by decide +kernel
theorem d_Mo_overlap_18 : decode b_Mo_overlap 18 = .ok (.iload 4, 2) := by decide +kernel
theorem d_Mo_overlap_20 : decode b_Mo_overlap 20 = .ok (.invokevirtual 128, 3) := by decide +kernel
theorem d_Mo_overlap_23 : decode b_Mo_overlap 23 = .ok (.istore 7, 2) := by decide +kernel
theorem d_Mo_overlap_25 : decode b_Mo_overlap 25 = .ok (.aload_n 0, 1) := by decide +kernel
theorem d_Mo_overlap_26 : decode b_Mo_overlap 26 = .ok (.iload_n 3, 1) := by decide +kernel
theorem d_Mo_overlap_27 : decode b_Mo_overlap 27 = .ok (.iload 4, 2) := by decide +kernel
theorem d_Mo_overlap_29 : decode b_Mo_overlap 29 = .ok (.invokevirtual 131, 3) := by decide +kernel
theorem d_Mo_overlap_32 : decode b_Mo_overlap 32 = .ok (.istore 8, 2) := by decide +kernel
theorem d_Mo_overlap_34 : decode b_Mo_overlap 34 = .ok (.aload_n 0, 1) := by decide +kernel
theorem d_Mo_overlap_35 : decode b_Mo_overlap 35 = .ok (.iload 5, 2) := by decide +kernel
theorem d_Mo_overlap_37 : decode b_Mo_overlap 37 = .ok (.iload 7, 2) := by decide +kernel
theorem d_Mo_overlap_39 : decode b_Mo_overlap 39 = .ok (.invokevirtual 134, 3) := by decide +kernel
theorem d_Mo_overlap_42 : decode b_Mo_overlap 42 = .ok (.ifCond .eq 14, 3) := by decide +kernel
theorem d_Mo_overlap_45 : decode b_Mo_overlap 45 = .ok (.aload_n 0, 1) := by decide +kernel
theorem d_Mo_overlap_46 : decode b_Mo_overlap 46 = .ok (.iload 6, 2) := by decide +kernel
theorem d_Mo_overlap_48 : decode b_Mo_overlap 48 = .ok (.iload 8, 2) := by decide +kernel
theorem d_Mo_overlap_50 : decode b_Mo_overlap 50 = .ok (.invokevirtual 134, 3) := by decide +kernel
theorem d_Mo_overlap_53 : decode b_Mo_overlap 53 = .ok (.ifCond .ne 25, 3) := by decide +kernel
theorem d_Mo_overlap_56 : decode b_Mo_overlap 56 = .ok (.aload_n 0, 1) := by decide +kernel
theorem d_Mo_overlap_57 : decode b_Mo_overlap 57 = .ok (.iload 5, 2) := by decide +kernel
theorem d_Mo_overlap_59 : decode b_Mo_overlap 59 = .ok (.iload 8, 2) := by decide +kernel
theorem d_Mo_overlap_61 : decode b_Mo_overlap 61 = .ok (.invokevirtual 134, 3) := by decide +kernel
theorem d_Mo_overlap_64 : decode b_Mo_overlap 64 = .ok (.ifCond .eq 16, 3) := by decide +kernel
theorem d_Mo_overlap_67 : decode b_Mo_overlap 67 = .ok (.aload_n 0, 1) := by decide +kernel
theorem d_Mo_overlap_68 : decode b_Mo_overlap 68 = .ok (.iload 6, 2) := by decide +kernel
theorem d_Mo_overlap_70 : decode b_Mo_overlap 70 = .ok (.iload 7, 2) := by decide +kernel
theorem d_Mo_overlap_72 : decode b_Mo_overlap 72 = .ok (.invokevirtual 134, 3) := by decide +kernel
theorem d_Mo_overlap_75 : decode b_Mo_overlap 75 = .ok (.ifCond .eq 5, 3) := by decide +kernel
theorem d_Mo_overlap_78 : decode b_Mo_overlap 78 = .ok (.iconst 1, 1) := by decide +kernel
theorem d_Mo_overlap_79 : decode b_Mo_overlap 79 = .ok (.ireturn, 1) := by decide +kernel
theorem d_Mo_overlap_80 : decode b_Mo_overlap 80 = .ok (.aload_n 0, 1) := by decide +kernel
theorem d_Mo_overlap_81 : decode b_Mo_overlap 81 = .ok (.iload 5, 2) := by decide +kernel
theorem d_Mo_overlap_83 : decode b_Mo_overlap 83 = .ok (.iload 6, 2) := by decide +kernel
theorem d_Mo_overlap_85 : decode b_Mo_overlap 85 = .ok (.iload 7, 2) := by decide +kernel
theorem d_Mo_overlap_87 : decode b_Mo_overlap 87 = .ok (.invokevirtual 121, 3) := by decide +kernel
theorem d_Mo_overlap_90 : decode b_Mo_overlap 90 = .ok (.ifCond .ne 16, 3) := by decide +kernel
theorem d_Mo_overlap_93 : decode b_Mo_overlap 93 = .ok (.aload_n 0, 1) := by decide +kernel
theorem d_Mo_overlap_94 : decode b_Mo_overlap 94 = .ok (.iload 5, 2) := by decide +kernel
theorem d_Mo_overlap_96 : decode b_Mo_overlap 96 = .ok (.iload 6, 2) := by decide +kernel
theorem d_Mo_overlap_98 : decode b_Mo_overlap 98 = .ok (.iload 8, 2) := by decide +kernel
theorem d_Mo_overlap_100 : decode b_Mo_overlap 100 = .ok (.invokevirtual 121, 3) := by decide +kernel
theorem d_Mo_overlap_103 : decode b_Mo_overlap 103 = .ok (.ifCond .eq 5, 3) := by decide +kernel
theorem d_Mo_overlap_106 : decode b_Mo_overlap 106 = .ok (.iconst 0, 1) := by decide +kernel
theorem d_Mo_overlap_107 : decode b_Mo_overlap 107 = .ok (.ireturn, 1) := by decide +kernel
theorem d_Mo_overlap_108 : decode b_Mo_overlap 108 = .ok (.aload_n 0, 1) := by decide +kernel
theorem d_Mo_overlap_109 : decode b_Mo_overlap 109 = .ok (.iload 5, 2) := by decide +kernel
theorem d_Mo_overlap_111 : decode b_Mo_overlap 111 = .ok (.iload 6, 2) := by decide +kernel
theorem d_Mo_overlap_113 : decode b_Mo_overlap 113 = .ok (.iload 7, 2) := by decide +kernel
theorem d_Mo_overlap_115 : decode b_Mo_overlap 115 = .ok (.invokevirtual 138, 3) := by decide +kernel
theorem d_Mo_overlap_118 : decode b_Mo_overlap 118 = .ok (.ifCond .ne 42, 3) := by decide +kernel
theorem d_Mo_overlap_121 : decode b_Mo_overlap 121 = .ok (.aload_n 0, 1) := by decide +kernel
theorem d_Mo_overlap_122 : decode b_Mo_overlap 122 = .ok (.iload 5, 2) := by decide +kernel
theorem d_Mo_overlap_124 : decode b_Mo_overlap 124 = .ok (.iload 6, 2) := by decide +kernel
theorem d_Mo_overlap_126 : decode b_Mo_overlap 126 = .ok (.iload 8, 2) := by decide +kernel
theorem d_Mo_overlap_128 : decode b_Mo_overlap 128 = .ok (.invokevirtual 138, 3) := by decide +kernel
theorem d_Mo_overlap_131 : decode b_Mo_overlap 131 = .ok (.ifCond .ne 29, 3) := by decide +kernel
theorem d_Mo_overlap_134 : decode b_Mo_overlap 134 = .ok (.aload_n 0, 1) := by decide +kernel
theorem d_Mo_overlap_135 : decode b_Mo_overlap 135 = .ok (.iload 7, 2) := by decide +kernel
theorem d_Mo_overlap_137 : decode b_Mo_overlap 137 = .ok (.iload 8, 2) := by decide +kernel
theorem d_Mo_overlap_139 : decode b_Mo_overlap 139 = .ok (.iload 5, 2) := by decide +kernel
theorem d_Mo_overlap_141 : decode b_Mo_overlap 141 = .ok (.invokevirtual 138, 3) := by decide +kernel
theorem d_Mo_overlap_144 : decode b_Mo_overlap 144 = .ok (.ifCond .ne 16, 3) := by decide +kernel
theorem d_Mo_overlap_147 : decode b_Mo_overlap 147 = .ok (.aload_n 0, 1) := by decide +kernel
theorem d_Mo_overlap_148 : decode b_Mo_overlap 148 = .ok (.iload 7, 2) := by decide +kernel
theorem d_Mo_overlap_150 : decode b_Mo_overlap 150 = .ok (.iload 8, 2) := by decide +kernel
theorem d_Mo_overlap_152 : decode b_Mo_overlap 152 = .ok (.iload 6, 2) := by decide +kernel
theorem d_Mo_overlap_154 : decode b_Mo_overlap 154 = .ok (.invokevirtual 138, 3) := by decide +kernel
theorem d_Mo_overlap_157 : decode b_Mo_overlap 157 = .ok (.ifCond .eq 7, 3) := by decide +kernel
theorem d_Mo_overlap_160 : decode b_Mo_overlap 160 = .ok (.iconst 1, 1) := by decide +kernel
theorem d_Mo_overlap_161 : decode b_Mo_overlap 161 = .ok (.goto 4, 3) := by decide +kernel
theorem d_Mo_overlap_164 : decode b_Mo_overlap 164 = .ok (.iconst 0, 1) := by decide +kernel
theorem d_Mo_overlap_165 : decode b_Mo_overlap 165 = .ok (.ireturn, 1) := by decide +kernel
theorem d_Mo_isNear_0 : decode b_Mo_isNear 0 = .ok (.aload_n 0, 1) := by decide +kernel
theorem d_Mo_isNear_1 : decode b_Mo_isNear 1 = .ok (.aload_n 0, 1) := by decide +kernel
theorem d_Mo_isNear_2 : decode b_Mo_isNear 2 = .ok (.getfield 26, 3) := by decide +kernel
theorem d_Mo_isNear_5 : decode b_Mo_isNear 5 = .ok (.aload_n 0, 1) := by decide +kernel
theorem d_Mo_isNear_6 : decode b_Mo_isNear 6 = .ok (.getfield 13, 3) := by decide +kernel
theorem d_Mo_isNear_9 : decode b_Mo_isNear 9 = .ok (.aload_n 0, 1) := by decide +kernel
theorem d_Mo_isNear_10 : decode b_Mo_isNear 10 = .ok (.iload_n 1, 1) := by decide +kernel
theorem d_Mo_isNear_11 : decode b_Mo_isNear 11 = .ok (.iconst 0, 1) := by decide +kernel
theorem d_Mo_isNear_12 : decode b_Mo_isNear 12 = .ok (.invokevirtual 118, 3) := by decide +kernel
theorem d_Mo_isNear_15 : decode b_Mo_isNear 15 = .ok (.aload_n 0, 1) := by decide +kernel
theorem d_Mo_isNear_16 : decode b_Mo_isNear 16 = .ok (.iload_n 2, 1) := by decide +kernel
theorem d_Mo_isNear_17 : decode b_Mo_isNear 17 = .ok (.iconst 0, 1) := by decide +kernel
theorem d_Mo_isNear_18 : decode b_Mo_isNear 18 = .ok (.invokevirtual 118, 3) := by decide +kernel
theorem d_Mo_isNear_21 : decode b_Mo_isNear 21 = .ok (.invokevirtual 110, 3) := by decide +kernel
theorem d_Mo_isNear_24 : decode b_Mo_isNear 24 = .ok (.aload_n 0, 1) := by decide +kernel
theorem d_Mo_isNear_25 : decode b_Mo_isNear 25 = .ok (.getfield 30, 3) := by decide +kernel
theorem d_Mo_isNear_28 : decode b_Mo_isNear 28 = .ok (.aload_n 0, 1) := by decide +kernel
theorem d_Mo_isNear_29 : decode b_Mo_isNear 29 = .ok (.getfield 26, 3) := by decide +kernel
theorem d_Mo_isNear_32 : decode b_Mo_isNear 32 = .ok (.invokestatic 67, 3) := by decide +kernel
theorem d_Mo_isNear_35 : decode b_Mo_isNear 35 = .ok (.aload_n 0, 1) := by decide +kernel
theorem d_Mo_isNear_36 : decode b_Mo_isNear 36 = .ok (.invokevirtual 104, 3) := by decide +kernel
theorem d_Mo_isNear_39 : decode b_Mo_isNear 39 = .ok (.aload_n 0, 1) := by decide +kernel
theorem d_Mo_isNear_40 : decode b_Mo_isNear 40 = .ok (.ldc2_w 98, 3) := by decide +kernel
theorem d_Mo_isNear_43 : decode b_Mo_isNear 43 = .ok (.aload_n 0, 1) := by decide +kernel
theorem d_Mo_isNear_44 : decode b_Mo_isNear 44 = .ok (.getfield 45, 3) := by decide +kernel
theorem d_Mo_isNear_47 : decode b_Mo_isNear 47 = .ok (.iconst 0, 1) := by decide +kernel
theorem d_Mo_isNear_48 : decode b_Mo_isNear 48 = .ok (.laload, 1) := by decide +kernel
theorem d_Mo_isNear_49 : decode b_Mo_isNear 49 = .ok (.lmul, 1) := by decide +kernel
theorem d_Mo_isNear_50 : decode b_Mo_isNear 50 = .ok (.aload_n 0, 1) := by decide +kernel
theorem d_Mo_isNear_51 : decode b_Mo_isNear 51 = .ok (.getfield 45, 3) := by decide +kernel
theorem d_Mo_isNear_54 : decode b_Mo_isNear 54 = .ok (.iconst 1, 1) := by decide +kernel
theorem d_Mo_isNear_55 : decode b_Mo_isNear 55 = .ok (.laload, 1) := by decide +kernel
theorem d_Mo_isNear_56 : decode b_Mo_isNear 56 = .ok (.lsub, 1) := by decide +kernel
theorem d_Mo_isNear_57 : decode b_Mo_isNear 57 = .ok (.ldc2_w 142, 3) := by decide +kernel
theorem d_Mo_isNear_60 : decode b_Mo_isNear 60 = .ok (.lsub, 1) := by decide +kernel
theorem d_Mo_isNear_61 : decode b_Mo_isNear 61 = .ok (.aload_n 0, 1) := by decide +kernel
theorem d_Mo_isNear_62 : decode b_Mo_isNear 62 = .ok (.getfield 45, 3) := by decide +kernel
theorem d_Mo_isNear_65 : decode b_Mo_isNear 65 = .ok (.iconst 1, 1) := by decide +kernel
theorem d_Mo_isNear_66 : decode b_Mo_isNear 66 = .ok (.laload, 1) := by decide +kernel
theorem d_Mo_isNear_67 : decode b_Mo_isNear 67 = .ok (.aload_n 0, 1) := by decide +kernel
theorem d_Mo_isNear_68 : decode b_Mo_isNear 68 = .ok (.getfield 45, 3) := by decide +kernel
theorem d_Mo_isNear_71 : decode b_Mo_isNear 71 = .ok (.iconst 2, 1) := by decide +kernel
theorem d_Mo_isNear_72 : decode b_Mo_isNear 72 = .ok (.laload, 1) := by decide +kernel
theorem d_Mo_isNear_73 : decode b_Mo_isNear 73 = .ok (.lsub, 1) := by decide +kernel
theorem d_Mo_isNear_74 : decode b_Mo_isNear 74 = .ok (.aload_n 0, 1) := by decide +kernel
theorem d_Mo_isNear_75 : decode b_Mo_isNear 75 = .ok (.getfield 45, 3) := by decide +kernel
theorem d_Mo_isNear_78 : decode b_Mo_isNear 78 = .ok (.iconst 3, 1) := by decide +kernel
theorem d_Mo_isNear_79 : decode b_Mo_isNear 79 = .ok (.laload, 1) := by decide +kernel
theorem d_Mo_isNear_80 : decode b_Mo_isNear 80 = .ok (.lsub, 1) := by decide +kernel
theorem d_Mo_isNear_81 : decode b_Mo_isNear 81 = .ok (.invokevirtual 107, 3) := by decide +kernel
theorem d_Mo_isNear_84 : decode b_Mo_isNear 84 = .ok (.ifCond .gt 7, 3) := by decide +kernel
theorem d_Mo_isNear_87 : decode b_Mo_isNear 87 = .ok (.iconst 1, 1) := by decide +kernel
theorem d_Mo_isNear_88 : decode b_Mo_isNear 88 = .ok (.goto 4, 3) := by decide +kernel
theorem d_Mo_isNear_91 : decode b_Mo_isNear 91 = .ok (.iconst 0, 1) := by decide +kernel
theorem d_Mo_isNear_92 : decode b_Mo_isNear 92 = .ok (.ireturn, 1) := by decide +kernel
theorem d_Mo_against_0 : decode b_Mo_against 0 = .ok (.aload_n 0, 1) := by decide +kernel
theorem d_Mo_against_1 : decode b_Mo_against 1 = .ok (.iload_n 1, 1) := by decide +kernel
theorem d_Mo_against_2 : decode b_Mo_against 2 = .ok (.iload_n 2, 1) := by decide +kernel
theorem d_Mo_against_3 : decode b_Mo_against 3 = .ok (.invokevirtual 144, 3) := by decide +kernel
theorem d_Mo_against_6 : decode b_Mo_against 6 = .ok (.ifCond .ne 5, 3) := by decide +kernel
theorem d_Mo_against_9 : decode b_Mo_against 9 = .ok (.iconst 0, 1) := by decide +kernel
theorem d_Mo_against_10 : decode b_Mo_against 10 = .ok (.ireturn, 1) := by decide +kernel
theorem d_Mo_against_11 : decode b_Mo_against 11 = .ok (.aload_n 0, 1) := by decide +kernel
theorem d_Mo_against_12 : decode b_Mo_against 12 = .ok (.iload_n 1, 1) := by decide +kernel
theorem d_Mo_against_13 : decode b_Mo_against 13 = .ok (.iload_n 2, 1) := by decide +kernel
theorem d_Mo_against_14 : decode b_Mo_against 14 = .ok (.invokevirtual 147, 3) := by decide +kernel
theorem d_Mo_against_17 : decode b_Mo_against 17 = .ok (.ifCond .ne 14, 3) := by decide +kernel
theorem d_Mo_against_20 : decode b_Mo_against 20 = .ok (.aload_n 0, 1) := by decide +kernel
theorem d_Mo_against_21 : decode b_Mo_against 21 = .ok (.iload_n 2, 1) := by decide +kernel
theorem d_Mo_against_22 : decode b_Mo_against 22 = .ok (.iload_n 1, 1) := by decide +kernel
theorem d_Mo_against_23 : decode b_Mo_against 23 = .ok (.invokevirtual 147, 3) := by decide +kernel
theorem d_Mo_against_26 : decode b_Mo_against 26 = .ok (.ifCond .ne 5, 3) := by decide +kernel
theorem d_Mo_against_29 : decode b_Mo_against 29 = .ok (.iconst 1, 1) := by decide +kernel
theorem d_Mo_against_30 : decode b_Mo_against 30 = .ok (.ireturn, 1) := by decide +kernel
theorem d_Mo_against_31 : decode b_Mo_against 31 = .ok (.iconst 0, 1) := by decide +kernel
theorem d_Mo_against_32 : decode b_Mo_against 32 = .ok (.istore_n 3, 1) := by decide +kernel
theorem d_Mo_against_33 : decode b_Mo_against 33 = .ok (.iload_n 3, 1) := by decide +kernel
theorem d_Mo_against_34 : decode b_Mo_against 34 = .ok (.iconst 3, 1) := by decide +kernel
theorem d_Mo_against_35 : decode b_Mo_against 35 = .ok (.if_icmp .ge 97, 3) := by decide +kernel
theorem d_Mo_against_38 : decode b_Mo_against 38 = .ok (.iconst 0, 1) := by decide +kernel
theorem d_Mo_against_39 : decode b_Mo_against 39 = .ok (.istore 4, 2) := by decide +kernel
theorem d_Mo_against_41 : decode b_Mo_against 41 = .ok (.iload 4, 2) := by decide +kernel
theorem d_Mo_against_43 : decode b_Mo_against 43 = .ok (.iconst 3, 1) := by decide +kernel
theorem d_Mo_against_44 : decode b_Mo_against 44 = .ok (.if_icmp .ge 82, 3) := by decide +kernel
theorem d_Mo_against_47 : decode b_Mo_against 47 = .ok (.aload_n 0, 1) := by decide +kernel
theorem d_Mo_against_48 : decode b_Mo_against 48 = .ok (.iload_n 1, 1) := by decide +kernel
theorem d_Mo_against_49 : decode b_Mo_against 49 = .ok (.iload_n 3, 1) := by decide +kernel
theorem d_Mo_against_50 : decode b_Mo_against 50 = .ok (.iload_n 2, 1) := by decide +kernel
theorem d_Mo_against_51 : decode b_Mo_against 51 = .ok (.iload 4, 2) := by decide +kernel
theorem d_Mo_against_53 : decode b_Mo_against 53 = .ok (.invokevirtual 150, 3) := by decide +kernel
theorem d_Mo_against_56 : decode b_Mo_against 56 = .ok (.ifCond .ne 6, 3) := by decide +kernel
theorem d_Mo_against_59 : decode b_Mo_against 59 = .ok (.goto 61, 3) := by decide +kernel
theorem d_Mo_against_62 : decode b_Mo_against 62 = .ok (.aload_n 0, 1) := by decide +kernel
theorem d_Mo_against_63 : decode b_Mo_against 63 = .ok (.iload_n 1, 1) := by decide +kernel
theorem d_Mo_against_64 : decode b_Mo_against 64 = .ok (.iload_n 3, 1) := by decide +kernel
theorem d_Mo_against_65 : decode b_Mo_against 65 = .ok (.invokevirtual 154, 3) := by decide +kernel
theorem d_Mo_against_68 : decode b_Mo_against 68 = .ok (.aload_n 0, 1) := by decide +kernel
theorem d_Mo_against_69 : decode b_Mo_against 69 = .ok (.iload_n 2, 1) := by decide +kernel
theorem d_Mo_against_70 : decode b_Mo_against 70 = .ok (.iload 4, 2) := by decide +kernel
theorem d_Mo_against_72 : decode b_Mo_against 72 = .ok (.invokevirtual 154, 3) := by decide +kernel
theorem d_Mo_against_75 : decode b_Mo_against 75 = .ok (.if_icmp .ne 43, 3) := by decide +kernel
theorem d_Mo_against_78 : decode b_Mo_against 78 = .ok (.aload_n 0, 1) := by decide +kernel
theorem d_Mo_against_79 : decode b_Mo_against 79 = .ok (.aload_n 0, 1) := by decide +kernel
theorem d_Mo_against_80 : decode b_Mo_against 80 = .ok (.iload_n 1, 1) := by decide +kernel
theorem d_Mo_against_81 : decode b_Mo_against 81 = .ok (.iload_n 3, 1) := by decide +kernel
theorem d_Mo_against_82 : decode b_Mo_against 82 = .ok (.invokevirtual 128, 3) := by decide +kernel
theorem d_Mo_against_85 : decode b_Mo_against 85 = .ok (.aload_n 0, 1) := by decide +kernel
theorem d_Mo_against_86 : decode b_Mo_against 86 = .ok (.iload_n 2, 1) := by decide +kernel
theorem d_Mo_against_87 : decode b_Mo_against 87 = .ok (.iload 4, 2) := by decide +kernel
theorem d_Mo_against_89 : decode b_Mo_against 89 = .ok (.invokevirtual 128, 3) := by decide +kernel
theorem d_Mo_against_92 : decode b_Mo_against 92 = .ok (.invokevirtual 134, 3) := by decide +kernel
theorem d_Mo_against_95 : decode b_Mo_against 95 = .ok (.ifCond .eq 23, 3) := by decide +kernel
theorem d_Mo_against_98 : decode b_Mo_against 98 = .ok (.aload_n 0, 1) := by decide +kernel
theorem d_Mo_against_99 : decode b_Mo_against 99 = .ok (.aload_n 0, 1) := by decide +kernel
theorem d_Mo_against_100 : decode b_Mo_against 100 = .ok (.iload_n 1, 1) := by decide +kernel
theorem d_Mo_against_101 : decode b_Mo_against 101 = .ok (.iload_n 3, 1) := by decide +kernel
theorem d_Mo_against_102 : decode b_Mo_against 102 = .ok (.invokevirtual 131, 3) := by decide +kernel
theorem d_Mo_against_105 : decode b_Mo_against 105 = .ok (.aload_n 0, 1) := by decide +kernel
theorem d_Mo_against_106 : decode b_Mo_against 106 = .ok (.iload_n 2, 1) := by decide +kernel
theorem d_Mo_against_107 : decode b_Mo_against 107 = .ok (.iload 4, 2) := by decide +kernel
theorem d_Mo_against_109 : decode b_Mo_against 109 = .ok (.invokevirtual 131, 3) := by decide +kernel
theorem d_Mo_against_112 : decode b_Mo_against 112 = .ok (.invokevirtual 134, 3) := by decide +kernel
theorem d_Mo_against_115 : decode b_Mo_against 115 = .ok (.ifCond .ne 5, 3) := by decide +kernel
theorem d_Mo_against_118 : decode b_Mo_against 118 = .ok (.iconst 1, 1) := by decide +kernel
theorem d_Mo_against_119 : decode b_Mo_against 119 = .ok (.ireturn, 1) := by decide +kernel
theorem d_Mo_against_120 : decode b_Mo_against 120 = .ok (.iinc 4 1, 3) := by decide +kernel
theorem d_Mo_against_123 : decode b_Mo_against 123 = .ok (.goto (-82), 3) := by decide +kernel
theorem d_Mo_against_126 : decode b_Mo_against 126 = .ok (.iinc 3 1, 3) := by decide +kernel
theorem d_Mo_against_129 : decode b_Mo_against 129 = .ok (.goto (-96), 3) := by decide +kernel
theorem d_Mo_against_132 : decode b_Mo_against 132 = .ok (.iconst 0, 1) := by decide +kernel
theorem d_Mo_against_133 : decode b_Mo_against 133 = .ok (.ireturn, 1) := by decide +kernel
theorem d_Mo_fits_0 : decode b_Mo_fits 0 = .ok (.iconst 0, 1) := by decide +kernel
theorem d_Mo_fits_1 : decode b_Mo_fits 1 = .ok (.istore_n 1, 1) := by decide +kernel
theorem d_Mo_fits_2 : decode b_Mo_fits 2 = .ok (.iload_n 1, 1) := by decide +kernel
theorem d_Mo_fits_3 : decode b_Mo_fits 3 = .ok (.iconst 4, 1) := by decide +kernel
theorem d_Mo_fits_4 : decode b_Mo_fits 4 = .ok (.if_icmp .ge 24, 3) := by decide +kernel
theorem d_Mo_fits_7 : decode b_Mo_fits 7 = .ok (.aload_n 0, 1) := by decide +kernel
theorem d_Mo_fits_8 : decode b_Mo_fits 8 = .ok (.iload_n 1, 1) := by decide +kernel
theorem d_Mo_fits_9 : decode b_Mo_fits 9 = .ok (.laload, 1) := by decide +kernel
theorem d_Mo_fits_10 : decode b_Mo_fits 10 = .ok (.invokestatic 80, 3) := by decide +kernel
theorem d_Mo_fits_13 : decode b_Mo_fits 13 = .ok (.ldc2_w 157, 3) := by decide +kernel
theorem d_Mo_fits_16 : decode b_Mo_fits 16 = .ok (.lcmp, 1) := by decide +kernel
theorem d_Mo_fits_17 : decode b_Mo_fits 17 = .ok (.ifCond .le 5, 3) := by decide +kernel
theorem d_Mo_fits_20 : decode b_Mo_fits 20 = .ok (.iconst 0, 1) := by decide +kernel
theorem d_Mo_fits_21 : decode b_Mo_fits 21 = .ok (.ireturn, 1) := by decide +kernel
theorem d_Mo_fits_22 : decode b_Mo_fits 22 = .ok (.iinc 1 1, 3) := by decide +kernel
theorem d_Mo_fits_25 : decode b_Mo_fits 25 = .ok (.goto (-23), 3) := by decide +kernel
theorem d_Mo_fits_28 : decode b_Mo_fits 28 = .ok (.iconst 1, 1) := by decide +kernel
theorem d_Mo_fits_29 : decode b_Mo_fits 29 = .ok (.ireturn, 1) := by decide +kernel
theorem d_Mo_set_0 : decode b_Mo_set 0 = .ok (.iconst 0, 1) := by decide +kernel
theorem d_Mo_set_1 : decode b_Mo_set 1 = .ok (.istore_n 3, 1) := by decide +kernel
theorem d_Mo_set_2 : decode b_Mo_set 2 = .ok (.iload_n 3, 1) := by decide +kernel
theorem d_Mo_set_3 : decode b_Mo_set 3 = .ok (.iconst 4, 1) := by decide +kernel
theorem d_Mo_set_4 : decode b_Mo_set 4 = .ok (.if_icmp .ge 21, 3) := by decide +kernel
theorem d_Mo_set_7 : decode b_Mo_set 7 = .ok (.aload_n 0, 1) := by decide +kernel
theorem d_Mo_set_8 : decode b_Mo_set 8 = .ok (.getfield 13, 3) := by decide +kernel
theorem d_Mo_set_11 : decode b_Mo_set 11 = .ok (.iload_n 1, 1) := by decide +kernel
theorem d_Mo_set_12 : decode b_Mo_set 12 = .ok (.iload_n 3, 1) := by decide +kernel
theorem d_Mo_set_13 : decode b_Mo_set 13 = .ok (.iadd, 1) := by decide +kernel
theorem d_Mo_set_14 : decode b_Mo_set 14 = .ok (.aload_n 2, 1) := by decide +kernel
theorem d_Mo_set_15 : decode b_Mo_set 15 = .ok (.iload_n 3, 1) := by decide +kernel
theorem d_Mo_set_16 : decode b_Mo_set 16 = .ok (.laload, 1) := by decide +kernel
theorem d_Mo_set_17 : decode b_Mo_set 17 = .ok (.l2i, 1) := by decide +kernel
theorem d_Mo_set_18 : decode b_Mo_set 18 = .ok (.iastore, 1) := by decide +kernel
theorem d_Mo_set_19 : decode b_Mo_set 19 = .ok (.iinc 3 1, 3) := by decide +kernel
theorem d_Mo_set_22 : decode b_Mo_set 22 = .ok (.goto (-20), 3) := by decide +kernel
theorem d_Mo_set_25 : decode b_Mo_set 25 = .ok (.return_, 1) := by decide +kernel
theorem d_Mo_put_0 : decode b_Mo_put 0 = .ok (.aload_n 0, 1) := by decide +kernel
theorem d_Mo_put_1 : decode b_Mo_put 1 = .ok (.getfield 7, 3) := by decide +kernel
theorem d_Mo_put_4 : decode b_Mo_put 4 = .ok (.aload_n 0, 1) := by decide +kernel
theorem d_Mo_put_5 : decode b_Mo_put 5 = .ok (.getfield 159, 3) := by decide +kernel
theorem d_Mo_put_8 : decode b_Mo_put 8 = .ok (.iload_n 1, 1) := by decide +kernel
theorem d_Mo_put_9 : decode b_Mo_put 9 = .ok (.iastore, 1) := by decide +kernel
theorem d_Mo_put_10 : decode b_Mo_put 10 = .ok (.aload_n 0, 1) := by decide +kernel
theorem d_Mo_put_11 : decode b_Mo_put 11 = .ok (.aload_n 0, 1) := by decide +kernel
theorem d_Mo_put_12 : decode b_Mo_put 12 = .ok (.aload_n 0, 1) := by decide +kernel
theorem d_Mo_put_13 : decode b_Mo_put 13 = .ok (.getfield 159, 3) := by decide +kernel
theorem d_Mo_put_16 : decode b_Mo_put 16 = .ok (.iconst 0, 1) := by decide +kernel
theorem d_Mo_put_17 : decode b_Mo_put 17 = .ok (.invokevirtual 118, 3) := by decide +kernel
theorem d_Mo_put_20 : decode b_Mo_put 20 = .ok (.aload_n 0, 1) := by decide +kernel
theorem d_Mo_put_21 : decode b_Mo_put 21 = .ok (.getfield 48, 3) := by decide +kernel
theorem d_Mo_put_24 : decode b_Mo_put 24 = .ok (.invokevirtual 162, 3) := by decide +kernel
theorem d_Mo_put_27 : decode b_Mo_put 27 = .ok (.aload_n 0, 1) := by decide +kernel
theorem d_Mo_put_28 : decode b_Mo_put 28 = .ok (.aload_n 0, 1) := by decide +kernel
theorem d_Mo_put_29 : decode b_Mo_put 29 = .ok (.aload_n 0, 1) := by decide +kernel
theorem d_Mo_put_30 : decode b_Mo_put 30 = .ok (.getfield 159, 3) := by decide +kernel
theorem d_Mo_put_33 : decode b_Mo_put 33 = .ok (.iconst 1, 1) := by decide +kernel
theorem d_Mo_put_34 : decode b_Mo_put 34 = .ok (.invokevirtual 118, 3) := by decide +kernel
theorem d_Mo_put_37 : decode b_Mo_put 37 = .ok (.aload_n 0, 1) := by decide +kernel
theorem d_Mo_put_38 : decode b_Mo_put 38 = .ok (.getfield 51, 3) := by decide +kernel
theorem d_Mo_put_41 : decode b_Mo_put 41 = .ok (.invokevirtual 162, 3) := by decide +kernel
theorem d_Mo_put_44 : decode b_Mo_put 44 = .ok (.aload_n 0, 1) := by decide +kernel
theorem d_Mo_put_45 : decode b_Mo_put 45 = .ok (.aload_n 0, 1) := by decide +kernel
theorem d_Mo_put_46 : decode b_Mo_put 46 = .ok (.aload_n 0, 1) := by decide +kernel
theorem d_Mo_put_47 : decode b_Mo_put 47 = .ok (.getfield 159, 3) := by decide +kernel
theorem d_Mo_put_50 : decode b_Mo_put 50 = .ok (.iconst 2, 1) := by decide +kernel
theorem d_Mo_put_51 : decode b_Mo_put 51 = .ok (.invokevirtual 118, 3) := by decide +kernel
theorem d_Mo_put_54 : decode b_Mo_put 54 = .ok (.aload_n 0, 1) := by decide +kernel
theorem d_Mo_put_55 : decode b_Mo_put 55 = .ok (.getfield 54, 3) := by decide +kernel
theorem d_Mo_put_58 : decode b_Mo_put 58 = .ok (.invokevirtual 162, 3) := by decide +kernel
theorem d_Mo_put_61 : decode b_Mo_put 61 = .ok (.aload_n 0, 1) := by decide +kernel
theorem d_Mo_put_62 : decode b_Mo_put 62 = .ok (.dup, 1) := by decide +kernel
theorem d_Mo_put_63 : decode b_Mo_put 63 = .ok (.getfield 159, 3) := by decide +kernel
theorem d_Mo_put_66 : decode b_Mo_put 66 = .ok (.iconst 1, 1) := by decide +kernel
theorem d_Mo_put_67 : decode b_Mo_put 67 = .ok (.iadd, 1) := by decide +kernel
theorem d_Mo_put_68 : decode b_Mo_put 68 = .ok (.putfield 159, 3) := by decide +kernel
theorem d_Mo_put_71 : decode b_Mo_put 71 = .ok (.return_, 1) := by decide +kernel
