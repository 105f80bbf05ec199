/-! what each instruction is -/
theorem d_Mo_spread_0 : decode b_Mo_spread 0 = .ok (.aload_n 0, 1) := by decide +kernel
theorem d_Mo_spread_1 : decode b_Mo_spread 1 = .ok (.aload_n 0, 1) := by decide +kernel
theorem d_Mo_spread_2 : decode b_Mo_spread 2 = .ok (.getfield 26, 3) := by decide +kernel
theorem d_Mo_spread_5 : decode b_Mo_spread 5 = .ok (.iload_n 2, 1) := by decide +kernel
theorem d_Mo_spread_6 : decode b_Mo_spread 6 = .ok (.invokevirtual 166, 3) := by decide +kernel
theorem d_Mo_spread_9 : decode b_Mo_spread 9 = .ok (.aload_n 0, 1) := by decide +kernel
theorem d_Mo_spread_10 : decode b_Mo_spread 10 = .ok (.aload_n 0, 1) := by decide +kernel
theorem d_Mo_spread_11 : decode b_Mo_spread 11 = .ok (.getfield 30, 3) := by decide +kernel
theorem d_Mo_spread_14 : decode b_Mo_spread 14 = .ok (.iload_n 3, 1) := by decide +kernel
theorem d_Mo_spread_15 : decode b_Mo_spread 15 = .ok (.invokevirtual 166, 3) := by decide +kernel
theorem d_Mo_spread_18 : decode b_Mo_spread 18 = .ok (.iconst 0, 1) := by decide +kernel
theorem d_Mo_spread_19 : decode b_Mo_spread 19 = .ok (.istore 4, 2) := by decide +kernel
theorem d_Mo_spread_21 : decode b_Mo_spread 21 = .ok (.iload 4, 2) := by decide +kernel
theorem d_Mo_spread_23 : decode b_Mo_spread 23 = .ok (.iconst 4, 1) := by decide +kernel
theorem d_Mo_spread_24 : decode b_Mo_spread 24 = .ok (.if_icmp .ge 53, 3) := by decide +kernel
theorem d_Mo_spread_27 : decode b_Mo_spread 27 = .ok (.aload_n 0, 1) := by decide +kernel
theorem d_Mo_spread_28 : decode b_Mo_spread 28 = .ok (.getfield 51, 3) := by decide +kernel
theorem d_Mo_spread_31 : decode b_Mo_spread 31 = .ok (.iload 4, 2) := by decide +kernel
theorem d_Mo_spread_33 : decode b_Mo_spread 33 = .ok (.aload_n 0, 1) := by decide +kernel
theorem d_Mo_spread_34 : decode b_Mo_spread 34 = .ok (.getfield 48, 3) := by decide +kernel
theorem d_Mo_spread_37 : decode b_Mo_spread 37 = .ok (.iload 4, 2) := by decide +kernel
theorem d_Mo_spread_39 : decode b_Mo_spread 39 = .ok (.laload, 1) := by decide +kernel
theorem d_Mo_spread_40 : decode b_Mo_spread 40 = .ok (.aload_n 0, 1) := by decide +kernel
theorem d_Mo_spread_41 : decode b_Mo_spread 41 = .ok (.getfield 26, 3) := by decide +kernel
theorem d_Mo_spread_44 : decode b_Mo_spread 44 = .ok (.iload 4, 2) := by decide +kernel
theorem d_Mo_spread_46 : decode b_Mo_spread 46 = .ok (.laload, 1) := by decide +kernel
theorem d_Mo_spread_47 : decode b_Mo_spread 47 = .ok (.ladd, 1) := by decide +kernel
theorem d_Mo_spread_48 : decode b_Mo_spread 48 = .ok (.lastore, 1) := by decide +kernel
theorem d_Mo_spread_49 : decode b_Mo_spread 49 = .ok (.aload_n 0, 1) := by decide +kernel
theorem d_Mo_spread_50 : decode b_Mo_spread 50 = .ok (.getfield 54, 3) := by decide +kernel
theorem d_Mo_spread_53 : decode b_Mo_spread 53 = .ok (.iload 4, 2) := by decide +kernel
theorem d_Mo_spread_55 : decode b_Mo_spread 55 = .ok (.aload_n 0, 1) := by decide +kernel
theorem d_Mo_spread_56 : decode b_Mo_spread 56 = .ok (.getfield 48, 3) := by decide +kernel
theorem d_Mo_spread_59 : decode b_Mo_spread 59 = .ok (.iload 4, 2) := by decide +kernel
theorem d_Mo_spread_61 : decode b_Mo_spread 61 = .ok (.laload, 1) := by decide +kernel
theorem d_Mo_spread_62 : decode b_Mo_spread 62 = .ok (.aload_n 0, 1) := by decide +kernel
theorem d_Mo_spread_63 : decode b_Mo_spread 63 = .ok (.getfield 30, 3) := by decide +kernel
theorem d_Mo_spread_66 : decode b_Mo_spread 66 = .ok (.iload 4, 2) := by decide +kernel
theorem d_Mo_spread_68 : decode b_Mo_spread 68 = .ok (.laload, 1) := by decide +kernel
theorem d_Mo_spread_69 : decode b_Mo_spread 69 = .ok (.ladd, 1) := by decide +kernel
theorem d_Mo_spread_70 : decode b_Mo_spread 70 = .ok (.lastore, 1) := by decide +kernel
theorem d_Mo_spread_71 : decode b_Mo_spread 71 = .ok (.iinc 4 1, 3) := by decide +kernel
theorem d_Mo_spread_74 : decode b_Mo_spread 74 = .ok (.goto (-53), 3) := by decide +kernel
theorem d_Mo_spread_77 : decode b_Mo_spread 77 = .ok (.return_, 1) := by decide +kernel
theorem d_Mo_seed_0 : decode b_Mo_seed 0 = .ok (.aload_n 0, 1) := by decide +kernel
theorem d_Mo_seed_1 : decode b_Mo_seed 1 = .ok (.iconst 0, 1) := by decide +kernel
theorem d_Mo_seed_2 : decode b_Mo_seed 2 = .ok (.putfield 63, 3) := by decide +kernel
theorem d_Mo_seed_5 : decode b_Mo_seed 5 = .ok (.iload_n 1, 1) := by decide +kernel
theorem d_Mo_seed_6 : decode b_Mo_seed 6 = .ok (.ifCond .lt 8, 3) := by decide +kernel
theorem d_Mo_seed_9 : decode b_Mo_seed 9 = .ok (.iload_n 1, 1) := by decide +kernel
theorem d_Mo_seed_10 : decode b_Mo_seed 10 = .ok (.iconst 3, 1) := by decide +kernel
theorem d_Mo_seed_11 : decode b_Mo_seed 11 = .ok (.if_icmp .le 5, 3) := by decide +kernel
theorem d_Mo_seed_14 : decode b_Mo_seed 14 = .ok (.iconst (-1), 1) := by decide +kernel
theorem d_Mo_seed_15 : decode b_Mo_seed 15 = .ok (.ireturn, 1) := by decide +kernel
theorem d_Mo_seed_16 : decode b_Mo_seed 16 = .ok (.aload_n 0, 1) := by decide +kernel
theorem d_Mo_seed_17 : decode b_Mo_seed 17 = .ok (.iconst 0, 1) := by decide +kernel
theorem d_Mo_seed_18 : decode b_Mo_seed 18 = .ok (.putfield 159, 3) := by decide +kernel
theorem d_Mo_seed_21 : decode b_Mo_seed 21 = .ok (.aload_n 0, 1) := by decide +kernel
theorem d_Mo_seed_22 : decode b_Mo_seed 22 = .ok (.iconst 0, 1) := by decide +kernel
theorem d_Mo_seed_23 : decode b_Mo_seed 23 = .ok (.putfield 170, 3) := by decide +kernel
theorem d_Mo_seed_26 : decode b_Mo_seed 26 = .ok (.iconst 0, 1) := by decide +kernel
theorem d_Mo_seed_27 : decode b_Mo_seed 27 = .ok (.istore_n 2, 1) := by decide +kernel
theorem d_Mo_seed_28 : decode b_Mo_seed 28 = .ok (.iload_n 2, 1) := by decide +kernel
theorem d_Mo_seed_29 : decode b_Mo_seed 29 = .ok (.iconst 4, 1) := by decide +kernel
theorem d_Mo_seed_30 : decode b_Mo_seed 30 = .ok (.if_icmp .ge 16, 3) := by decide +kernel
theorem d_Mo_seed_33 : decode b_Mo_seed 33 = .ok (.aload_n 0, 1) := by decide +kernel
theorem d_Mo_seed_34 : decode b_Mo_seed 34 = .ok (.getfield 48, 3) := by decide +kernel
theorem d_Mo_seed_37 : decode b_Mo_seed 37 = .ok (.iload_n 2, 1) := by decide +kernel
theorem d_Mo_seed_38 : decode b_Mo_seed 38 = .ok (.lconst 0, 1) := by decide +kernel
theorem d_Mo_seed_39 : decode b_Mo_seed 39 = .ok (.lastore, 1) := by decide +kernel
theorem d_Mo_seed_40 : decode b_Mo_seed 40 = .ok (.iinc 2 1, 3) := by decide +kernel
theorem d_Mo_seed_43 : decode b_Mo_seed 43 = .ok (.goto (-15), 3) := by decide +kernel
theorem d_Mo_seed_46 : decode b_Mo_seed 46 = .ok (.iconst 0, 1) := by decide +kernel
theorem d_Mo_seed_47 : decode b_Mo_seed 47 = .ok (.istore_n 2, 1) := by decide +kernel
theorem d_Mo_seed_48 : decode b_Mo_seed 48 = .ok (.iload_n 2, 1) := by decide +kernel
theorem d_Mo_seed_49 : decode b_Mo_seed 49 = .ok (.bipush 10, 2) := by decide +kernel
theorem d_Mo_seed_51 : decode b_Mo_seed 51 = .ok (.if_icmp .ge 55, 3) := by decide +kernel
theorem d_Mo_seed_54 : decode b_Mo_seed 54 = .ok (.iload_n 1, 1) := by decide +kernel
theorem d_Mo_seed_55 : decode b_Mo_seed 55 = .ok (.ifCond .ne 51, 3) := by decide +kernel
theorem d_Mo_seed_58 : decode b_Mo_seed 58 = .ok (.aload_n 0, 1) := by decide +kernel
theorem d_Mo_seed_59 : decode b_Mo_seed 59 = .ok (.iconst 0, 1) := by decide +kernel
theorem d_Mo_seed_60 : decode b_Mo_seed 60 = .ok (.iload_n 2, 1) := by decide +kernel
theorem d_Mo_seed_61 : decode b_Mo_seed 61 = .ok (.iconst 2, 1) := by decide +kernel
theorem d_Mo_seed_62 : decode b_Mo_seed 62 = .ok (.irem, 1) := by decide +kernel
theorem d_Mo_seed_63 : decode b_Mo_seed 63 = .ok (.ifCond .ne 7, 3) := by decide +kernel
theorem d_Mo_seed_66 : decode b_Mo_seed 66 = .ok (.iload_n 2, 1) := by decide +kernel
theorem d_Mo_seed_67 : decode b_Mo_seed 67 = .ok (.goto 9, 3) := by decide +kernel
theorem d_Mo_seed_70 : decode b_Mo_seed 70 = .ok (.iload_n 2, 1) := by decide +kernel
theorem d_Mo_seed_71 : decode b_Mo_seed 71 = .ok (.iconst 1, 1) := by decide +kernel
theorem d_Mo_seed_72 : decode b_Mo_seed 72 = .ok (.iadd, 1) := by decide +kernel
theorem d_Mo_seed_73 : decode b_Mo_seed 73 = .ok (.bipush 10, 2) := by decide +kernel
theorem d_Mo_seed_75 : decode b_Mo_seed 75 = .ok (.irem, 1) := by decide +kernel
theorem d_Mo_seed_76 : decode b_Mo_seed 76 = .ok (.iload_n 2, 1) := by decide +kernel
theorem d_Mo_seed_77 : decode b_Mo_seed 77 = .ok (.iconst 2, 1) := by decide +kernel
theorem d_Mo_seed_78 : decode b_Mo_seed 78 = .ok (.irem, 1) := by decide +kernel
theorem d_Mo_seed_79 : decode b_Mo_seed 79 = .ok (.ifCond .ne 12, 3) := by decide +kernel
theorem d_Mo_seed_82 : decode b_Mo_seed 82 = .ok (.iload_n 2, 1) := by decide +kernel
theorem d_Mo_seed_83 : decode b_Mo_seed 83 = .ok (.iconst 1, 1) := by decide +kernel
theorem d_Mo_seed_84 : decode b_Mo_seed 84 = .ok (.iadd, 1) := by decide +kernel
theorem d_Mo_seed_85 : decode b_Mo_seed 85 = .ok (.bipush 10, 2) := by decide +kernel
theorem d_Mo_seed_87 : decode b_Mo_seed 87 = .ok (.irem, 1) := by decide +kernel
theorem d_Mo_seed_88 : decode b_Mo_seed 88 = .ok (.goto 4, 3) := by decide +kernel
theorem d_Mo_seed_91 : decode b_Mo_seed 91 = .ok (.iload_n 2, 1) := by decide +kernel
theorem d_Mo_seed_92 : decode b_Mo_seed 92 = .ok (.invokevirtual 173, 3) := by decide +kernel
theorem d_Mo_seed_95 : decode b_Mo_seed 95 = .ok (.aload_n 0, 1) := by decide +kernel
theorem d_Mo_seed_96 : decode b_Mo_seed 96 = .ok (.iconst 0, 1) := by decide +kernel
theorem d_Mo_seed_97 : decode b_Mo_seed 97 = .ok (.invokevirtual 176, 3) := by decide +kernel
theorem d_Mo_seed_100 : decode b_Mo_seed 100 = .ok (.iinc 2 1, 3) := by decide +kernel
theorem d_Mo_seed_103 : decode b_Mo_seed 103 = .ok (.goto (-55), 3) := by decide +kernel
theorem d_Mo_seed_106 : decode b_Mo_seed 106 = .ok (.iload_n 1, 1) := by decide +kernel
theorem d_Mo_seed_107 : decode b_Mo_seed 107 = .ok (.iconst 1, 1) := by decide +kernel
theorem d_Mo_seed_108 : decode b_Mo_seed 108 = .ok (.if_icmp .eq 8, 3) := by decide +kernel
theorem d_Mo_seed_111 : decode b_Mo_seed 111 = .ok (.iload_n 1, 1) := by decide +kernel
theorem d_Mo_seed_112 : decode b_Mo_seed 112 = .ok (.iconst 2, 1) := by decide +kernel
theorem d_Mo_seed_113 : decode b_Mo_seed 113 = .ok (.if_icmp .ne 28, 3) := by decide +kernel
theorem d_Mo_seed_116 : decode b_Mo_seed 116 = .ok (.aload_n 0, 1) := by decide +kernel
theorem d_Mo_seed_117 : decode b_Mo_seed 117 = .ok (.iload_n 1, 1) := by decide +kernel
theorem d_Mo_seed_118 : decode b_Mo_seed 118 = .ok (.iconst 1, 1) := by decide +kernel
theorem d_Mo_seed_119 : decode b_Mo_seed 119 = .ok (.isub, 1) := by decide +kernel
theorem d_Mo_seed_120 : decode b_Mo_seed 120 = .ok (.iconst 0, 1) := by decide +kernel
theorem d_Mo_seed_121 : decode b_Mo_seed 121 = .ok (.iload_n 1, 1) := by decide +kernel
theorem d_Mo_seed_122 : decode b_Mo_seed 122 = .ok (.iconst 1, 1) := by decide +kernel
theorem d_Mo_seed_123 : decode b_Mo_seed 123 = .ok (.if_icmp .ne 7, 3) := by decide +kernel
theorem d_Mo_seed_126 : decode b_Mo_seed 126 = .ok (.iconst 1, 1) := by decide +kernel
theorem d_Mo_seed_127 : decode b_Mo_seed 127 = .ok (.goto 4, 3) := by decide +kernel
theorem d_Mo_seed_130 : decode b_Mo_seed 130 = .ok (.iconst 3, 1) := by decide +kernel
theorem d_Mo_seed_131 : decode b_Mo_seed 131 = .ok (.invokevirtual 173, 3) := by decide +kernel
theorem d_Mo_seed_134 : decode b_Mo_seed 134 = .ok (.aload_n 0, 1) := by decide +kernel
theorem d_Mo_seed_135 : decode b_Mo_seed 135 = .ok (.iload_n 1, 1) := by decide +kernel
theorem d_Mo_seed_136 : decode b_Mo_seed 136 = .ok (.iconst 1, 1) := by decide +kernel
theorem d_Mo_seed_137 : decode b_Mo_seed 137 = .ok (.isub, 1) := by decide +kernel
theorem d_Mo_seed_138 : decode b_Mo_seed 138 = .ok (.invokevirtual 176, 3) := by decide +kernel
theorem d_Mo_seed_141 : decode b_Mo_seed 141 = .ok (.aload_n 0, 1) := by decide +kernel
theorem d_Mo_seed_142 : decode b_Mo_seed 142 = .ok (.getfield 159, 3) := by decide +kernel
theorem d_Mo_seed_145 : decode b_Mo_seed 145 = .ok (.ireturn, 1) := by decide +kernel
theorem d_Mo_place_0 : decode b_Mo_place 0 = .ok (.aload_n 0, 1) := by decide +kernel
theorem d_Mo_place_1 : decode b_Mo_place 1 = .ok (.iconst 0, 1) := by decide +kernel
theorem d_Mo_place_2 : decode b_Mo_place 2 = .ok (.putfield 63, 3) := by decide +kernel
theorem d_Mo_place_5 : decode b_Mo_place 5 = .ok (.iload_n 1, 1) := by decide +kernel
theorem d_Mo_place_6 : decode b_Mo_place 6 = .ok (.ifCond .lt 30, 3) := by decide +kernel
theorem d_Mo_place_9 : decode b_Mo_place 9 = .ok (.iload_n 1, 1) := by decide +kernel
theorem d_Mo_place_10 : decode b_Mo_place 10 = .ok (.iconst 1, 1) := by decide +kernel
theorem d_Mo_place_11 : decode b_Mo_place 11 = .ok (.if_icmp .gt 25, 3) := by decide +kernel
theorem d_Mo_place_14 : decode b_Mo_place 14 = .ok (.iload 6, 2) := by decide +kernel
theorem d_Mo_place_16 : decode b_Mo_place 16 = .ok (.ifCond .lt 20, 3) := by decide +kernel
theorem d_Mo_place_19 : decode b_Mo_place 19 = .ok (.iload 6, 2) := by decide +kernel
theorem d_Mo_place_21 : decode b_Mo_place 21 = .ok (.bipush 9, 2) := by decide +kernel
theorem d_Mo_place_23 : decode b_Mo_place 23 = .ok (.if_icmp .gt 13, 3) := by decide +kernel
theorem d_Mo_place_26 : decode b_Mo_place 26 = .ok (.aload_n 0, 1) := by decide +kernel
theorem d_Mo_place_27 : decode b_Mo_place 27 = .ok (.getfield 159, 3) := by decide +kernel
theorem d_Mo_place_30 : decode b_Mo_place 30 = .ok (.sipush 400, 3) := by decide +kernel
theorem d_Mo_place_33 : decode b_Mo_place 33 = .ok (.if_icmp .ne 5, 3) := by decide +kernel
theorem d_Mo_place_36 : decode b_Mo_place 36 = .ok (.iconst (-1), 1) := by decide +kernel
theorem d_Mo_place_37 : decode b_Mo_place 37 = .ok (.ireturn, 1) := by decide +kernel
theorem d_Mo_place_38 : decode b_Mo_place 38 = .ok (.aload_n 0, 1) := by decide +kernel
theorem d_Mo_place_39 : decode b_Mo_place 39 = .ok (.getfield 48, 3) := by decide +kernel
theorem d_Mo_place_42 : decode b_Mo_place 42 = .ok (.iconst 0, 1) := by decide +kernel
theorem d_Mo_place_43 : decode b_Mo_place 43 = .ok (.iload_n 2, 1) := by decide +kernel
theorem d_Mo_place_44 : decode b_Mo_place 44 = .ok (.i2l, 1) := by decide +kernel
theorem d_Mo_place_45 : decode b_Mo_place 45 = .ok (.lastore, 1) := by decide +kernel
theorem d_Mo_place_46 : decode b_Mo_place 46 = .ok (.aload_n 0, 1) := by decide +kernel
theorem d_Mo_place_47 : decode b_Mo_place 47 = .ok (.getfield 48, 3) := by decide +kernel
theorem d_Mo_place_50 : decode b_Mo_place 50 = .ok (.iconst 1, 1) := by decide +kernel
theorem d_Mo_place_51 : decode b_Mo_place 51 = .ok (.iload_n 3, 1) := by decide +kernel
theorem d_Mo_place_52 : decode b_Mo_place 52 = .ok (.i2l, 1) := by decide +kernel
theorem d_Mo_place_53 : decode b_Mo_place 53 = .ok (.lastore, 1) := by decide +kernel
theorem d_Mo_place_54 : decode b_Mo_place 54 = .ok (.aload_n 0, 1) := by decide +kernel
theorem d_Mo_place_55 : decode b_Mo_place 55 = .ok (.getfield 48, 3) := by decide +kernel
theorem d_Mo_place_58 : decode b_Mo_place 58 = .ok (.iconst 2, 1) := by decide +kernel
theorem d_Mo_place_59 : decode b_Mo_place 59 = .ok (.iload 4, 2) := by decide +kernel
theorem d_Mo_place_61 : decode b_Mo_place 61 = .ok (.i2l, 1) := by decide +kernel
theorem d_Mo_place_62 : decode b_Mo_place 62 = .ok (.lastore, 1) := by decide +kernel
theorem d_Mo_place_63 : decode b_Mo_place 63 = .ok (.aload_n 0, 1) := by decide +kernel
theorem d_Mo_place_64 : decode b_Mo_place 64 = .ok (.getfield 48, 3) := by decide +kernel
theorem d_Mo_place_67 : decode b_Mo_place 67 = .ok (.iconst 3, 1) := by decide +kernel
theorem d_Mo_place_68 : decode b_Mo_place 68 = .ok (.iload 5, 2) := by decide +kernel
theorem d_Mo_place_70 : decode b_Mo_place 70 = .ok (.i2l, 1) := by decide +kernel
theorem d_Mo_place_71 : decode b_Mo_place 71 = .ok (.lastore, 1) := by decide +kernel
theorem d_Mo_place_72 : decode b_Mo_place 72 = .ok (.iload_n 1, 1) := by decide +kernel
theorem d_Mo_place_73 : decode b_Mo_place 73 = .ok (.ifCond .ne 7, 3) := by decide +kernel
theorem d_Mo_place_76 : decode b_Mo_place 76 = .ok (.iconst 1, 1) := by decide +kernel
theorem d_Mo_place_77 : decode b_Mo_place 77 = .ok (.goto 4, 3) := by decide +kernel
theorem d_Mo_place_80 : decode b_Mo_place 80 = .ok (.iconst 3, 1) := by decide +kernel
theorem d_Mo_place_81 : decode b_Mo_place 81 = .ok (.istore 8, 2) := by decide +kernel
theorem d_Mo_place_83 : decode b_Mo_place 83 = .ok (.aload_n 0, 1) := by decide +kernel
theorem d_Mo_place_84 : decode b_Mo_place 84 = .ok (.iload_n 1, 1) := by decide +kernel
theorem d_Mo_place_85 : decode b_Mo_place 85 = .ok (.iload 6, 2) := by decide +kernel
theorem d_Mo_place_87 : decode b_Mo_place 87 = .ok (.iload 6, 2) := by decide +kernel
theorem d_Mo_place_89 : decode b_Mo_place 89 = .ok (.iload 7, 2) := by decide +kernel
theorem d_Mo_place_91 : decode b_Mo_place 91 = .ok (.ifCond .eq 8, 3) := by decide +kernel
theorem d_Mo_place_94 : decode b_Mo_place 94 = .ok (.iload 8, 2) := by decide +kernel
theorem d_Mo_place_96 : decode b_Mo_place 96 = .ok (.goto 8, 3) := by decide +kernel
theorem d_Mo_place_99 : decode b_Mo_place 99 = .ok (.bipush 10, 2) := by decide +kernel
theorem d_Mo_place_101 : decode b_Mo_place 101 = .ok (.iload 8, 2) := by decide +kernel
theorem d_Mo_place_103 : decode b_Mo_place 103 = .ok (.isub, 1) := by decide +kernel
theorem d_Mo_place_104 : decode b_Mo_place 104 = .ok (.iadd, 1) := by decide +kernel
theorem d_Mo_place_105 : decode b_Mo_place 105 = .ok (.bipush 10, 2) := by decide +kernel
theorem d_Mo_place_107 : decode b_Mo_place 107 = .ok (.irem, 1) := by decide +kernel
theorem d_Mo_place_108 : decode b_Mo_place 108 = .ok (.invokevirtual 173, 3) := by decide +kernel
theorem d_Mo_place_111 : decode b_Mo_place 111 = .ok (.aload_n 0, 1) := by decide +kernel
theorem d_Mo_place_112 : decode b_Mo_place 112 = .ok (.getfield 48, 3) := by decide +kernel
theorem d_Mo_place_115 : decode b_Mo_place 115 = .ok (.invokestatic 180, 3) := by decide +kernel
theorem d_Mo_place_118 : decode b_Mo_place 118 = .ok (.ifCond .eq 23, 3) := by decide +kernel
theorem d_Mo_place_121 : decode b_Mo_place 121 = .ok (.aload_n 0, 1) := by decide +kernel
theorem d_Mo_place_122 : decode b_Mo_place 122 = .ok (.getfield 51, 3) := by decide +kernel
theorem d_Mo_place_125 : decode b_Mo_place 125 = .ok (.invokestatic 180, 3) := by decide +kernel
theorem d_Mo_place_128 : decode b_Mo_place 128 = .ok (.ifCond .eq 13, 3) := by decide +kernel
theorem d_Mo_place_131 : decode b_Mo_place 131 = .ok (.aload_n 0, 1) := by decide +kernel
theorem d_Mo_place_132 : decode b_Mo_place 132 = .ok (.getfield 54, 3) := by decide +kernel
theorem d_Mo_place_135 : decode b_Mo_place 135 = .ok (.invokestatic 180, 3) := by decide +kernel
theorem d_Mo_place_138 : decode b_Mo_place 138 = .ok (.ifCond .ne 5, 3) := by decide +kernel
theorem d_Mo_place_141 : decode b_Mo_place 141 = .ok (.iconst (-1), 1) := by decide +kernel
theorem d_Mo_place_142 : decode b_Mo_place 142 = .ok (.ireturn, 1) := by decide +kernel
theorem d_Mo_place_143 : decode b_Mo_place 143 = .ok (.aload_n 0, 1) := by decide +kernel
theorem d_Mo_place_144 : decode b_Mo_place 144 = .ok (.iload_n 1, 1) := by decide +kernel
theorem d_Mo_place_145 : decode b_Mo_place 145 = .ok (.invokevirtual 176, 3) := by decide +kernel
theorem d_Mo_place_148 : decode b_Mo_place 148 = .ok (.iconst 0, 1) := by decide +kernel
theorem d_Mo_place_149 : decode b_Mo_place 149 = .ok (.istore 9, 2) := by decide +kernel
theorem d_Mo_place_151 : decode b_Mo_place 151 = .ok (.iload 9, 2) := by decide +kernel
theorem d_Mo_place_153 : decode b_Mo_place 153 = .ok (.aload_n 0, 1) := by decide +kernel
theorem d_Mo_place_154 : decode b_Mo_place 154 = .ok (.getfield 159, 3) := by decide +kernel
theorem d_Mo_place_157 : decode b_Mo_place 157 = .ok (.iconst 1, 1) := by decide +kernel
theorem d_Mo_place_158 : decode b_Mo_place 158 = .ok (.isub, 1) := by decide +kernel
theorem d_Mo_place_159 : decode b_Mo_place 159 = .ok (.if_icmp .ge 39, 3) := by decide +kernel
theorem d_Mo_place_162 : decode b_Mo_place 162 = .ok (.aload_n 0, 1) := by decide +kernel
theorem d_Mo_place_163 : decode b_Mo_place 163 = .ok (.iload 9, 2) := by decide +kernel
theorem d_Mo_place_165 : decode b_Mo_place 165 = .ok (.aload_n 0, 1) := by decide +kernel
theorem d_Mo_place_166 : decode b_Mo_place 166 = .ok (.getfield 159, 3) := by decide +kernel
theorem d_Mo_place_169 : decode b_Mo_place 169 = .ok (.iconst 1, 1) := by decide +kernel
theorem d_Mo_place_170 : decode b_Mo_place 170 = .ok (.isub, 1) := by decide +kernel
theorem d_Mo_place_171 : decode b_Mo_place 171 = .ok (.invokevirtual 184, 3) := by decide +kernel
theorem d_Mo_place_174 : decode b_Mo_place 174 = .ok (.ifCond .ne 6, 3) := by decide +kernel
theorem d_Mo_place_177 : decode b_Mo_place 177 = .ok (.goto 15, 3) := by decide +kernel
theorem d_Mo_place_180 : decode b_Mo_place 180 = .ok (.aload_n 0, 1) := by decide +kernel
theorem d_Mo_place_181 : decode b_Mo_place 181 = .ok (.dup, 1) := by decide +kernel
theorem d_Mo_place_182 : decode b_Mo_place 182 = .ok (.getfield 159, 3) := by decide +kernel
theorem d_Mo_place_185 : decode b_Mo_place 185 = .ok (.iconst 1, 1) := by decide +kernel
theorem d_Mo_place_186 : decode b_Mo_place 186 = .ok (.isub, 1) := by decide +kernel
theorem d_Mo_place_187 : decode b_Mo_place 187 = .ok (.putfield 159, 3) := by decide +kernel
theorem d_Mo_place_190 : decode b_Mo_place 190 = .ok (.iconst (-1), 1) := by decide +kernel
theorem d_Mo_place_191 : decode b_Mo_place 191 = .ok (.ireturn, 1) := by decide +kernel
theorem d_Mo_place_192 : decode b_Mo_place 192 = .ok (.iinc 9 1, 3) := by decide +kernel
theorem d_Mo_place_195 : decode b_Mo_place 195 = .ok (.goto (-44), 3) := by decide +kernel
theorem d_Mo_place_198 : decode b_Mo_place 198 = .ok (.aload_n 0, 1) := by decide +kernel
theorem d_Mo_place_199 : decode b_Mo_place 199 = .ok (.getfield 159, 3) := by decide +kernel
theorem d_Mo_place_202 : decode b_Mo_place 202 = .ok (.iconst 1, 1) := by decide +kernel
theorem d_Mo_place_203 : decode b_Mo_place 203 = .ok (.isub, 1) := by decide +kernel
theorem d_Mo_place_204 : decode b_Mo_place 204 = .ok (.ireturn, 1) := by decide +kernel
theorem d_Mo_remove_0 : decode b_Mo_remove 0 = .ok (.aload_n 0, 1) := by decide +kernel
theorem d_Mo_remove_1 : decode b_Mo_remove 1 = .ok (.iconst 0, 1) := by decide +kernel
theorem d_Mo_remove_2 : decode b_Mo_remove 2 = .ok (.putfield 63, 3) := by decide +kernel
theorem d_Mo_remove_5 : decode b_Mo_remove 5 = .ok (.iload_n 1, 1) := by decide +kernel
theorem d_Mo_remove_6 : decode b_Mo_remove 6 = .ok (.ifCond .lt 11, 3) := by decide +kernel
theorem d_Mo_remove_9 : decode b_Mo_remove 9 = .ok (.iload_n 1, 1) := by decide +kernel
theorem d_Mo_remove_10 : decode b_Mo_remove 10 = .ok (.aload_n 0, 1) := by decide +kernel
theorem d_Mo_remove_11 : decode b_Mo_remove 11 = .ok (.getfield 159, 3) := by decide +kernel
theorem d_Mo_remove_14 : decode b_Mo_remove 14 = .ok (.if_icmp .lt 5, 3) := by decide +kernel
theorem d_Mo_remove_17 : decode b_Mo_remove 17 = .ok (.iconst 0, 1) := by decide +kernel
theorem d_Mo_remove_18 : decode b_Mo_remove 18 = .ok (.ireturn, 1) := by decide +kernel
theorem d_Mo_remove_19 : decode b_Mo_remove 19 = .ok (.iload_n 1, 1) := by decide +kernel
theorem d_Mo_remove_20 : decode b_Mo_remove 20 = .ok (.istore_n 2, 1) := by decide +kernel
theorem d_Mo_remove_21 : decode b_Mo_remove 21 = .ok (.iload_n 2, 1) := by decide +kernel
theorem d_Mo_remove_22 : decode b_Mo_remove 22 = .ok (.iconst 1, 1) := by decide +kernel
theorem d_Mo_remove_23 : decode b_Mo_remove 23 = .ok (.iadd, 1) := by decide +kernel
theorem d_Mo_remove_24 : decode b_Mo_remove 24 = .ok (.aload_n 0, 1) := by decide +kernel
theorem d_Mo_remove_25 : decode b_Mo_remove 25 = .ok (.getfield 159, 3) := by decide +kernel
theorem d_Mo_remove_28 : decode b_Mo_remove 28 = .ok (.if_icmp .ge 61, 3) := by decide +kernel
theorem d_Mo_remove_31 : decode b_Mo_remove 31 = .ok (.aload_n 0, 1) := by decide +kernel
theorem d_Mo_remove_32 : decode b_Mo_remove 32 = .ok (.getfield 7, 3) := by decide +kernel
theorem d_Mo_remove_35 : decode b_Mo_remove 35 = .ok (.iload_n 2, 1) := by decide +kernel
theorem d_Mo_remove_36 : decode b_Mo_remove 36 = .ok (.aload_n 0, 1) := by decide +kernel
theorem d_Mo_remove_37 : decode b_Mo_remove 37 = .ok (.getfield 7, 3) := by decide +kernel
theorem d_Mo_remove_40 : decode b_Mo_remove 40 = .ok (.iload_n 2, 1) := by decide +kernel
theorem d_Mo_remove_41 : decode b_Mo_remove 41 = .ok (.iconst 1, 1) := by decide +kernel
theorem d_Mo_remove_42 : decode b_Mo_remove 42 = .ok (.iadd, 1) := by decide +kernel
theorem d_Mo_remove_43 : decode b_Mo_remove 43 = .ok (.iaload, 1) := by decide +kernel
theorem d_Mo_remove_44 : decode b_Mo_remove 44 = .ok (.iastore, 1) := by decide +kernel
theorem d_Mo_remove_45 : decode b_Mo_remove 45 = .ok (.iconst 0, 1) := by decide +kernel
theorem d_Mo_remove_46 : decode b_Mo_remove 46 = .ok (.istore_n 3, 1) := by decide +kernel
theorem d_Mo_remove_47 : decode b_Mo_remove 47 = .ok (.iload_n 3, 1) := by decide +kernel
theorem d_Mo_remove_48 : decode b_Mo_remove 48 = .ok (.bipush 12, 2) := by decide +kernel
theorem d_Mo_remove_50 : decode b_Mo_remove 50 = .ok (.if_icmp .ge 33, 3) := by decide +kernel
theorem d_Mo_remove_53 : decode b_Mo_remove 53 = .ok (.aload_n 0, 1) := by decide +kernel
theorem d_Mo_remove_54 : decode b_Mo_remove 54 = .ok (.getfield 13, 3) := by decide +kernel
theorem d_Mo_remove_57 : decode b_Mo_remove 57 = .ok (.bipush 12, 2) := by decide +kernel
theorem d_Mo_remove_59 : decode b_Mo_remove 59 = .ok (.iload_n 2, 1) := by decide +kernel
theorem d_Mo_remove_60 : decode b_Mo_remove 60 = .ok (.imul, 1) := by decide +kernel
theorem d_Mo_remove_61 : decode b_Mo_remove 61 = .ok (.iload_n 3, 1) := by decide +kernel
theorem d_Mo_remove_62 : decode b_Mo_remove 62 = .ok (.iadd, 1) := by decide +kernel
theorem d_Mo_remove_63 : decode b_Mo_remove 63 = .ok (.aload_n 0, 1) := by decide +kernel
theorem d_Mo_remove_64 : decode b_Mo_remove 64 = .ok (.getfield 13, 3) := by decide +kernel
theorem d_Mo_remove_67 : decode b_Mo_remove 67 = .ok (.bipush 12, 2) := by decide +kernel
theorem d_Mo_remove_69 : decode b_Mo_remove 69 = .ok (.iload_n 2, 1) := by decide +kernel
theorem d_Mo_remove_70 : decode b_Mo_remove 70 = .ok (.iconst 1, 1) := by decide +kernel
theorem d_Mo_remove_71 : decode b_Mo_remove 71 = .ok (.iadd, 1) := by decide +kernel
theorem d_Mo_remove_72 : decode b_Mo_remove 72 = .ok (.imul, 1) := by decide +kernel
theorem d_Mo_remove_73 : decode b_Mo_remove 73 = .ok (.iload_n 3, 1) := by decide +kernel
theorem d_Mo_remove_74 : decode b_Mo_remove 74 = .ok (.iadd, 1) := by decide +kernel
theorem d_Mo_remove_75 : decode b_Mo_remove 75 = .ok (.iaload, 1) := by decide +kernel
theorem d_Mo_remove_76 : decode b_Mo_remove 76 = .ok (.iastore, 1) := by decide +kernel
theorem d_Mo_remove_77 : decode b_Mo_remove 77 = .ok (.iinc 3 1, 3) := by decide +kernel
theorem d_Mo_remove_80 : decode b_Mo_remove 80 = .ok (.goto (-33), 3) := by decide +kernel
theorem d_Mo_remove_83 : decode b_Mo_remove 83 = .ok (.iinc 2 1, 3) := by decide +kernel
theorem d_Mo_remove_86 : decode b_Mo_remove 86 = .ok (.goto (-65), 3) := by decide +kernel
theorem d_Mo_remove_89 : decode b_Mo_remove 89 = .ok (.aload_n 0, 1) := by decide +kernel
theorem d_Mo_remove_90 : decode b_Mo_remove 90 = .ok (.dup, 1) := by decide +kernel
theorem d_Mo_remove_91 : decode b_Mo_remove 91 = .ok (.getfield 159, 3) := by decide +kernel
theorem d_Mo_remove_94 : decode b_Mo_remove 94 = .ok (.iconst 1, 1) := by decide +kernel
theorem d_Mo_remove_95 : decode b_Mo_remove 95 = .ok (.isub, 1) := by decide +kernel
theorem d_Mo_remove_96 : decode b_Mo_remove 96 = .ok (.putfield 159, 3) := by decide +kernel
theorem d_Mo_remove_99 : decode b_Mo_remove 99 = .ok (.iconst 1, 1) := by decide +kernel
theorem d_Mo_remove_100 : decode b_Mo_remove 100 = .ok (.ireturn, 1) := by decide +kernel
theorem d_Mo_emit_0 : decode b_Mo_emit 0 = .ok (.aload_n 0, 1) := by decide +kernel
theorem d_Mo_emit_1 : decode b_Mo_emit 1 = .ok (.getfield 19, 3) := by decide +kernel
theorem d_Mo_emit_4 : decode b_Mo_emit 4 = .ok (.aload_n 0, 1) := by decide +kernel
theorem d_Mo_emit_5 : decode b_Mo_emit 5 = .ok (.getfield 187, 3) := by decide +kernel
theorem d_Mo_emit_8 : decode b_Mo_emit 8 = .ok (.iload_n 1, 1) := by decide +kernel
theorem d_Mo_emit_9 : decode b_Mo_emit 9 = .ok (.iastore, 1) := by decide +kernel
theorem d_Mo_emit_10 : decode b_Mo_emit 10 = .ok (.iconst 0, 1) := by decide +kernel
theorem d_Mo_emit_11 : decode b_Mo_emit 11 = .ok (.istore 5, 2) := by decide +kernel
theorem d_Mo_emit_13 : decode b_Mo_emit 13 = .ok (.iload 5, 2) := by decide +kernel
theorem d_Mo_emit_15 : decode b_Mo_emit 15 = .ok (.iconst 4, 1) := by decide +kernel
theorem d_Mo_emit_16 : decode b_Mo_emit 16 = .ok (.if_icmp .ge 75, 3) := by decide +kernel
theorem d_Mo_emit_19 : decode b_Mo_emit 19 = .ok (.aload_n 0, 1) := by decide +kernel
theorem d_Mo_emit_20 : decode b_Mo_emit 20 = .ok (.getfield 16, 3) := by decide +kernel
theorem d_Mo_emit_23 : decode b_Mo_emit 23 = .ok (.bipush 12, 2) := by decide +kernel
theorem d_Mo_emit_25 : decode b_Mo_emit 25 = .ok (.aload_n 0, 1) := by decide +kernel
theorem d_Mo_emit_26 : decode b_Mo_emit 26 = .ok (.getfield 187, 3) := by decide +kernel
theorem d_Mo_emit_29 : decode b_Mo_emit 29 = .ok (.imul, 1) := by decide +kernel
theorem d_Mo_emit_30 : decode b_Mo_emit 30 = .ok (.iload 5, 2) := by decide +kernel
theorem d_Mo_emit_32 : decode b_Mo_emit 32 = .ok (.iadd, 1) := by decide +kernel
theorem d_Mo_emit_33 : decode b_Mo_emit 33 = .ok (.aload_n 2, 1) := by decide +kernel
theorem d_Mo_emit_34 : decode b_Mo_emit 34 = .ok (.iload 5, 2) := by decide +kernel
theorem d_Mo_emit_36 : decode b_Mo_emit 36 = .ok (.laload, 1) := by decide +kernel
theorem d_Mo_emit_37 : decode b_Mo_emit 37 = .ok (.l2i, 1) := by decide +kernel
theorem d_Mo_emit_38 : decode b_Mo_emit 38 = .ok (.iastore, 1) := by decide +kernel
theorem d_Mo_emit_39 : decode b_Mo_emit 39 = .ok (.aload_n 0, 1) := by decide +kernel
theorem d_Mo_emit_40 : decode b_Mo_emit 40 = .ok (.getfield 16, 3) := by decide +kernel
theorem d_Mo_emit_43 : decode b_Mo_emit 43 = .ok (.bipush 12, 2) := by decide +kernel
theorem d_Mo_emit_45 : decode b_Mo_emit 45 = .ok (.aload_n 0, 1) := by decide +kernel
theorem d_Mo_emit_46 : decode b_Mo_emit 46 = .ok (.getfield 187, 3) := by decide +kernel
theorem d_Mo_emit_49 : decode b_Mo_emit 49 = .ok (.imul, 1) := by decide +kernel
theorem d_Mo_emit_50 : decode b_Mo_emit 50 = .ok (.iconst 4, 1) := by decide +kernel
theorem d_Mo_emit_51 : decode b_Mo_emit 51 = .ok (.iadd, 1) := by decide +kernel
theorem d_Mo_emit_52 : decode b_Mo_emit 52 = .ok (.iload 5, 2) := by decide +kernel
theorem d_Mo_emit_54 : decode b_Mo_emit 54 = .ok (.iadd, 1) := by decide +kernel
theorem d_Mo_emit_55 : decode b_Mo_emit 55 = .ok (.aload_n 3, 1) := by decide +kernel
theorem d_Mo_emit_56 : decode b_Mo_emit 56 = .ok (.iload 5, 2) := by decide +kernel
theorem d_Mo_emit_58 : decode b_Mo_emit 58 = .ok (.laload, 1) := by decide +kernel
theorem d_Mo_emit_59 : decode b_Mo_emit 59 = .ok (.l2i, 1) := by decide +kernel
theorem d_Mo_emit_60 : decode b_Mo_emit 60 = .ok (.iastore, 1) := by decide +kernel
theorem d_Mo_emit_61 : decode b_Mo_emit 61 = .ok (.aload_n 0, 1) := by decide +kernel
theorem d_Mo_emit_62 : decode b_Mo_emit 62 = .ok (.getfield 16, 3) := by decide +kernel
theorem d_Mo_emit_65 : decode b_Mo_emit 65 = .ok (.bipush 12, 2) := by decide +kernel
theorem d_Mo_emit_67 : decode b_Mo_emit 67 = .ok (.aload_n 0, 1) := by decide +kernel
theorem d_Mo_emit_68 : decode b_Mo_emit 68 = .ok (.getfield 187, 3) := by decide +kernel
theorem d_Mo_emit_71 : decode b_Mo_emit 71 = .ok (.imul, 1) := by decide +kernel
theorem d_Mo_emit_72 : decode b_Mo_emit 72 = .ok (.bipush 8, 2) := by decide +kernel
theorem d_Mo_emit_74 : decode b_Mo_emit 74 = .ok (.iadd, 1) := by decide +kernel
theorem d_Mo_emit_75 : decode b_Mo_emit 75 = .ok (.iload 5, 2) := by decide +kernel
theorem d_Mo_emit_77 : decode b_Mo_emit 77 = .ok (.iadd, 1) := by decide +kernel
theorem d_Mo_emit_78 : decode b_Mo_emit 78 = .ok (.aload 4, 2) := by decide +kernel
theorem d_Mo_emit_80 : decode b_Mo_emit 80 = .ok (.iload 5, 2) := by decide +kernel
theorem d_Mo_emit_82 : decode b_Mo_emit 82 = .ok (.laload, 1) := by decide +kernel
theorem d_Mo_emit_83 : decode b_Mo_emit 83 = .ok (.l2i, 1) := by decide +kernel
theorem d_Mo_emit_84 : decode b_Mo_emit 84 = .ok (.iastore, 1) := by decide +kernel
theorem d_Mo_emit_85 : decode b_Mo_emit 85 = .ok (.iinc 5 1, 3) := by decide +kernel
theorem d_Mo_emit_88 : decode b_Mo_emit 88 = .ok (.goto (-75), 3) := by decide +kernel
theorem d_Mo_emit_91 : decode b_Mo_emit 91 = .ok (.aload_n 0, 1) := by decide +kernel
theorem d_Mo_emit_92 : decode b_Mo_emit 92 = .ok (.dup, 1) := by decide +kernel
theorem d_Mo_emit_93 : decode b_Mo_emit 93 = .ok (.getfield 187, 3) := by decide +kernel
theorem d_Mo_emit_96 : decode b_Mo_emit 96 = .ok (.iconst 1, 1) := by decide +kernel
theorem d_Mo_emit_97 : decode b_Mo_emit 97 = .ok (.iadd, 1) := by decide +kernel
theorem d_Mo_emit_98 : decode b_Mo_emit 98 = .ok (.putfield 187, 3) := by decide +kernel
theorem d_Mo_emit_101 : decode b_Mo_emit 101 = .ok (.return_, 1) := by decide +kernel
theorem d_Mo_get_0 : decode b_Mo_get 0 = .ok (.iconst 0, 1) := by decide +kernel
theorem d_Mo_get_1 : decode b_Mo_get 1 = .ok (.istore 4, 2) := by decide +kernel
theorem d_Mo_get_3 : decode b_Mo_get 3 = .ok (.iload 4, 2) := by decide +kernel
theorem d_Mo_get_5 : decode b_Mo_get 5 = .ok (.iconst 4, 1) := by decide +kernel
theorem d_Mo_get_6 : decode b_Mo_get 6 = .ok (.if_icmp .ge 28, 3) := by decide +kernel
theorem d_Mo_get_9 : decode b_Mo_get 9 = .ok (.aload_n 1, 1) := by decide +kernel
theorem d_Mo_get_10 : decode b_Mo_get 10 = .ok (.iload 4, 2) := by decide +kernel
theorem d_Mo_get_12 : decode b_Mo_get 12 = .ok (.aload_n 0, 1) := by decide +kernel
theorem d_Mo_get_13 : decode b_Mo_get 13 = .ok (.getfield 13, 3) := by decide +kernel
theorem d_Mo_get_16 : decode b_Mo_get 16 = .ok (.aload_n 0, 1) := by decide +kernel
theorem d_Mo_get_17 : decode b_Mo_get 17 = .ok (.iload_n 2, 1) := by decide +kernel
theorem d_Mo_get_18 : decode b_Mo_get 18 = .ok (.iload_n 3, 1) := by decide +kernel
theorem d_Mo_get_19 : decode b_Mo_get 19 = .ok (.invokevirtual 118, 3) := by decide +kernel
theorem d_Mo_get_22 : decode b_Mo_get 22 = .ok (.iload 4, 2) := by decide +kernel
theorem d_Mo_get_24 : decode b_Mo_get 24 = .ok (.iadd, 1) := by decide +kernel
theorem d_Mo_get_25 : decode b_Mo_get 25 = .ok (.iaload, 1) := by decide +kernel
theorem d_Mo_get_26 : decode b_Mo_get 26 = .ok (.i2l, 1) := by decide +kernel
theorem d_Mo_get_27 : decode b_Mo_get 27 = .ok (.lastore, 1) := by decide +kernel
theorem d_Mo_get_28 : decode b_Mo_get 28 = .ok (.iinc 4 1, 3) := by decide +kernel
theorem d_Mo_get_31 : decode b_Mo_get 31 = .ok (.goto (-28), 3) := by decide +kernel
theorem d_Mo_get_34 : decode b_Mo_get 34 = .ok (.return_, 1) := by decide +kernel
theorem d_Mo_golden_0 : decode b_Mo_golden 0 = .ok (.iconst 0, 1) := by decide +kernel
theorem d_Mo_golden_1 : decode b_Mo_golden 1 = .ok (.istore 4, 2) := by decide +kernel
theorem d_Mo_golden_3 : decode b_Mo_golden 3 = .ok (.iload 4, 2) := by decide +kernel
theorem d_Mo_golden_5 : decode b_Mo_golden 5 = .ok (.iconst 4, 1) := by decide +kernel
theorem d_Mo_golden_6 : decode b_Mo_golden 6 = .ok (.if_icmp .ge 22, 3) := by decide +kernel
theorem d_Mo_golden_9 : decode b_Mo_golden 9 = .ok (.aload_n 1, 1) := by decide +kernel
theorem d_Mo_golden_10 : decode b_Mo_golden 10 = .ok (.iload 4, 2) := by decide +kernel
theorem d_Mo_golden_12 : decode b_Mo_golden 12 = .ok (.aload_n 3, 1) := by decide +kernel
theorem d_Mo_golden_13 : decode b_Mo_golden 13 = .ok (.iload 4, 2) := by decide +kernel
theorem d_Mo_golden_15 : decode b_Mo_golden 15 = .ok (.laload, 1) := by decide +kernel
theorem d_Mo_golden_16 : decode b_Mo_golden 16 = .ok (.aload_n 2, 1) := by decide +kernel
theorem d_Mo_golden_17 : decode b_Mo_golden 17 = .ok (.iload 4, 2) := by decide +kernel
theorem d_Mo_golden_19 : decode b_Mo_golden 19 = .ok (.laload, 1) := by decide +kernel
theorem d_Mo_golden_20 : decode b_Mo_golden 20 = .ok (.lsub, 1) := by decide +kernel
theorem d_Mo_golden_21 : decode b_Mo_golden 21 = .ok (.lastore, 1) := by decide +kernel
theorem d_Mo_golden_22 : decode b_Mo_golden 22 = .ok (.iinc 4 1, 3) := by decide +kernel
theorem d_Mo_golden_25 : decode b_Mo_golden 25 = .ok (.goto (-22), 3) := by decide +kernel
theorem d_Mo_golden_28 : decode b_Mo_golden 28 = .ok (.aload_n 0, 1) := by decide +kernel
theorem d_Mo_golden_29 : decode b_Mo_golden 29 = .ok (.aload_n 1, 1) := by decide +kernel
theorem d_Mo_golden_30 : decode b_Mo_golden 30 = .ok (.invokevirtual 190, 3) := by decide +kernel
theorem d_Mo_golden_33 : decode b_Mo_golden 33 = .ok (.iconst 0, 1) := by decide +kernel
theorem d_Mo_golden_34 : decode b_Mo_golden 34 = .ok (.istore 4, 2) := by decide +kernel
theorem d_Mo_golden_36 : decode b_Mo_golden 36 = .ok (.iload 4, 2) := by decide +kernel
theorem d_Mo_golden_38 : decode b_Mo_golden 38 = .ok (.iconst 4, 1) := by decide +kernel
theorem d_Mo_golden_39 : decode b_Mo_golden 39 = .ok (.if_icmp .ge 20, 3) := by decide +kernel
theorem d_Mo_golden_42 : decode b_Mo_golden 42 = .ok (.aload_n 1, 1) := by decide +kernel
theorem d_Mo_golden_43 : decode b_Mo_golden 43 = .ok (.iload 4, 2) := by decide +kernel
theorem d_Mo_golden_45 : decode b_Mo_golden 45 = .ok (.dup2, 1) := by decide +kernel
theorem d_Mo_golden_46 : decode b_Mo_golden 46 = .ok (.laload, 1) := by decide +kernel
theorem d_Mo_golden_47 : decode b_Mo_golden 47 = .ok (.aload_n 2, 1) := by decide +kernel
theorem d_Mo_golden_48 : decode b_Mo_golden 48 = .ok (.iload 4, 2) := by decide +kernel
theorem d_Mo_golden_50 : decode b_Mo_golden 50 = .ok (.laload, 1) := by decide +kernel
theorem d_Mo_golden_51 : decode b_Mo_golden 51 = .ok (.ladd, 1) := by decide +kernel
theorem d_Mo_golden_52 : decode b_Mo_golden 52 = .ok (.lastore, 1) := by decide +kernel
theorem d_Mo_golden_53 : decode b_Mo_golden 53 = .ok (.iinc 4 1, 3) := by decide +kernel
theorem d_Mo_golden_56 : decode b_Mo_golden 56 = .ok (.goto (-20), 3) := by decide +kernel
theorem d_Mo_golden_59 : decode b_Mo_golden 59 = .ok (.return_, 1) := by decide +kernel
theorem d_Mo_adopt_0 : decode b_Mo_adopt 0 = .ok (.aload_n 0, 1) := by decide +kernel
theorem d_Mo_adopt_1 : decode b_Mo_adopt 1 = .ok (.aload_n 0, 1) := by decide +kernel
theorem d_Mo_adopt_2 : decode b_Mo_adopt 2 = .ok (.getfield 187, 3) := by decide +kernel
theorem d_Mo_adopt_5 : decode b_Mo_adopt 5 = .ok (.putfield 159, 3) := by decide +kernel
theorem d_Mo_adopt_8 : decode b_Mo_adopt 8 = .ok (.iconst 0, 1) := by decide +kernel
theorem d_Mo_adopt_9 : decode b_Mo_adopt 9 = .ok (.istore_n 1, 1) := by decide +kernel
theorem d_Mo_adopt_10 : decode b_Mo_adopt 10 = .ok (.iload_n 1, 1) := by decide +kernel
theorem d_Mo_adopt_11 : decode b_Mo_adopt 11 = .ok (.aload_n 0, 1) := by decide +kernel
theorem d_Mo_adopt_12 : decode b_Mo_adopt 12 = .ok (.getfield 159, 3) := by decide +kernel
theorem d_Mo_adopt_15 : decode b_Mo_adopt 15 = .ok (.if_icmp .ge 21, 3) := by decide +kernel
theorem d_Mo_adopt_18 : decode b_Mo_adopt 18 = .ok (.aload_n 0, 1) := by decide +kernel
theorem d_Mo_adopt_19 : decode b_Mo_adopt 19 = .ok (.getfield 7, 3) := by decide +kernel
theorem d_Mo_adopt_22 : decode b_Mo_adopt 22 = .ok (.iload_n 1, 1) := by decide +kernel
theorem d_Mo_adopt_23 : decode b_Mo_adopt 23 = .ok (.aload_n 0, 1) := by decide +kernel
theorem d_Mo_adopt_24 : decode b_Mo_adopt 24 = .ok (.getfield 19, 3) := by decide +kernel
theorem d_Mo_adopt_27 : decode b_Mo_adopt 27 = .ok (.iload_n 1, 1) := by decide +kernel
theorem d_Mo_adopt_28 : decode b_Mo_adopt 28 = .ok (.iaload, 1) := by decide +kernel
theorem d_Mo_adopt_29 : decode b_Mo_adopt 29 = .ok (.iastore, 1) := by decide +kernel
theorem d_Mo_adopt_30 : decode b_Mo_adopt 30 = .ok (.iinc 1 1, 3) := by decide +kernel
theorem d_Mo_adopt_33 : decode b_Mo_adopt 33 = .ok (.goto (-23), 3) := by decide +kernel
theorem d_Mo_adopt_36 : decode b_Mo_adopt 36 = .ok (.iconst 0, 1) := by decide +kernel
theorem d_Mo_adopt_37 : decode b_Mo_adopt 37 = .ok (.istore_n 1, 1) := by decide +kernel
theorem d_Mo_adopt_38 : decode b_Mo_adopt 38 = .ok (.iload_n 1, 1) := by decide +kernel
theorem d_Mo_adopt_39 : decode b_Mo_adopt 39 = .ok (.bipush 12, 2) := by decide +kernel
theorem d_Mo_adopt_41 : decode b_Mo_adopt 41 = .ok (.aload_n 0, 1) := by decide +kernel
theorem d_Mo_adopt_42 : decode b_Mo_adopt 42 = .ok (.getfield 159, 3) := by decide +kernel
theorem d_Mo_adopt_45 : decode b_Mo_adopt 45 = .ok (.imul, 1) := by decide +kernel
theorem d_Mo_adopt_46 : decode b_Mo_adopt 46 = .ok (.if_icmp .ge 21, 3) := by decide +kernel
theorem d_Mo_adopt_49 : decode b_Mo_adopt 49 = .ok (.aload_n 0, 1) := by decide +kernel
theorem d_Mo_adopt_50 : decode b_Mo_adopt 50 = .ok (.getfield 13, 3) := by decide +kernel
theorem d_Mo_adopt_53 : decode b_Mo_adopt 53 = .ok (.iload_n 1, 1) := by decide +kernel
theorem d_Mo_adopt_54 : decode b_Mo_adopt 54 = .ok (.aload_n 0, 1) := by decide +kernel
theorem d_Mo_adopt_55 : decode b_Mo_adopt 55 = .ok (.getfield 16, 3) := by decide +kernel
theorem d_Mo_adopt_58 : decode b_Mo_adopt 58 = .ok (.iload_n 1, 1) := by decide +kernel
theorem d_Mo_adopt_59 : decode b_Mo_adopt 59 = .ok (.iaload, 1) := by decide +kernel
theorem d_Mo_adopt_60 : decode b_Mo_adopt 60 = .ok (.iastore, 1) := by decide +kernel
theorem d_Mo_adopt_61 : decode b_Mo_adopt 61 = .ok (.iinc 1 1, 3) := by decide +kernel
theorem d_Mo_adopt_64 : decode b_Mo_adopt 64 = .ok (.goto (-26), 3) := by decide +kernel
theorem d_Mo_adopt_67 : decode b_Mo_adopt 67 = .ok (.return_, 1) := by decide +kernel
theorem d_Mo_inflate_0 : decode b_Mo_inflate 0 = .ok (.aload_n 0, 1) := by decide +kernel
theorem d_Mo_inflate_1 : decode b_Mo_inflate 1 = .ok (.iconst 0, 1) := by decide +kernel
theorem d_Mo_inflate_2 : decode b_Mo_inflate 2 = .ok (.putfield 63, 3) := by decide +kernel
theorem d_Mo_inflate_5 : decode b_Mo_inflate 5 = .ok (.iconst 0, 1) := by decide +kernel
theorem d_Mo_inflate_6 : decode b_Mo_inflate 6 = .ok (.istore_n 1, 1) := by decide +kernel
theorem d_Mo_inflate_7 : decode b_Mo_inflate 7 = .ok (.iconst 0, 1) := by decide +kernel
theorem d_Mo_inflate_8 : decode b_Mo_inflate 8 = .ok (.istore_n 2, 1) := by decide +kernel
theorem d_Mo_inflate_9 : decode b_Mo_inflate 9 = .ok (.iload_n 2, 1) := by decide +kernel
theorem d_Mo_inflate_10 : decode b_Mo_inflate 10 = .ok (.aload_n 0, 1) := by decide +kernel
theorem d_Mo_inflate_11 : decode b_Mo_inflate 11 = .ok (.getfield 159, 3) := by decide +kernel
theorem d_Mo_inflate_14 : decode b_Mo_inflate 14 = .ok (.if_icmp .ge 20, 3) := by decide +kernel
theorem d_Mo_inflate_17 : decode b_Mo_inflate 17 = .ok (.iload_n 1, 1) := by decide +kernel
theorem d_Mo_inflate_18 : decode b_Mo_inflate 18 = .ok (.iconst 2, 1) := by decide +kernel
theorem d_Mo_inflate_19 : decode b_Mo_inflate 19 = .ok (.aload_n 0, 1) := by decide +kernel
theorem d_Mo_inflate_20 : decode b_Mo_inflate 20 = .ok (.getfield 7, 3) := by decide +kernel
theorem d_Mo_inflate_23 : decode b_Mo_inflate 23 = .ok (.iload_n 2, 1) := by decide +kernel
theorem d_Mo_inflate_24 : decode b_Mo_inflate 24 = .ok (.iaload, 1) := by decide +kernel
theorem d_Mo_inflate_25 : decode b_Mo_inflate 25 = .ok (.iadd, 1) := by decide +kernel
theorem d_Mo_inflate_26 : decode b_Mo_inflate 26 = .ok (.iadd, 1) := by decide +kernel
theorem d_Mo_inflate_27 : decode b_Mo_inflate 27 = .ok (.istore_n 1, 1) := by decide +kernel
theorem d_Mo_inflate_28 : decode b_Mo_inflate 28 = .ok (.iinc 2 1, 3) := by decide +kernel
theorem d_Mo_inflate_31 : decode b_Mo_inflate 31 = .ok (.goto (-22), 3) := by decide +kernel
theorem d_Mo_inflate_34 : decode b_Mo_inflate 34 = .ok (.iload_n 1, 1) := by decide +kernel
theorem d_Mo_inflate_35 : decode b_Mo_inflate 35 = .ok (.sipush 400, 3) := by decide +kernel
theorem d_Mo_inflate_38 : decode b_Mo_inflate 38 = .ok (.if_icmp .le 5, 3) := by decide +kernel
theorem d_Mo_inflate_41 : decode b_Mo_inflate 41 = .ok (.iconst (-1), 1) := by decide +kernel
theorem d_Mo_inflate_42 : decode b_Mo_inflate 42 = .ok (.ireturn, 1) := by decide +kernel
theorem d_Mo_inflate_43 : decode b_Mo_inflate 43 = .ok (.aload_n 0, 1) := by decide +kernel
theorem d_Mo_inflate_44 : decode b_Mo_inflate 44 = .ok (.iconst 0, 1) := by decide +kernel
theorem d_Mo_inflate_45 : decode b_Mo_inflate 45 = .ok (.putfield 187, 3) := by decide +kernel
theorem d_Mo_inflate_48 : decode b_Mo_inflate 48 = .ok (.iconst 0, 1) := by decide +kernel
theorem d_Mo_inflate_49 : decode b_Mo_inflate 49 = .ok (.istore_n 2, 1) := by decide +kernel
theorem d_Mo_inflate_50 : decode b_Mo_inflate 50 = .ok (.iload_n 2, 1) := by decide +kernel
theorem d_Mo_inflate_51 : decode b_Mo_inflate 51 = .ok (.aload_n 0, 1) := by decide +kernel
theorem d_Mo_inflate_52 : decode b_Mo_inflate 52 = .ok (.getfield 159, 3) := by decide +kernel
theorem d_Mo_inflate_55 : decode b_Mo_inflate 55 = .ok (.if_icmp .ge 274, 3) := by decide +kernel
theorem d_Mo_inflate_58 : decode b_Mo_inflate 58 = .ok (.aload_n 0, 1) := by decide +kernel
theorem d_Mo_inflate_59 : decode b_Mo_inflate 59 = .ok (.aload_n 0, 1) := by decide +kernel
theorem d_Mo_inflate_60 : decode b_Mo_inflate 60 = .ok (.getfield 48, 3) := by decide +kernel
theorem d_Mo_inflate_63 : decode b_Mo_inflate 63 = .ok (.iload_n 2, 1) := by decide +kernel
theorem d_Mo_inflate_64 : decode b_Mo_inflate 64 = .ok (.iconst 0, 1) := by decide +kernel
theorem d_Mo_inflate_65 : decode b_Mo_inflate 65 = .ok (.invokevirtual 193, 3) := by decide +kernel
theorem d_Mo_inflate_68 : decode b_Mo_inflate 68 = .ok (.aload_n 0, 1) := by decide +kernel
theorem d_Mo_inflate_69 : decode b_Mo_inflate 69 = .ok (.aload_n 0, 1) := by decide +kernel
theorem d_Mo_inflate_70 : decode b_Mo_inflate 70 = .ok (.getfield 51, 3) := by decide +kernel
theorem d_Mo_inflate_73 : decode b_Mo_inflate 73 = .ok (.iload_n 2, 1) := by decide +kernel
theorem d_Mo_inflate_74 : decode b_Mo_inflate 74 = .ok (.iconst 1, 1) := by decide +kernel
theorem d_Mo_inflate_75 : decode b_Mo_inflate 75 = .ok (.invokevirtual 193, 3) := by decide +kernel
theorem d_Mo_inflate_78 : decode b_Mo_inflate 78 = .ok (.aload_n 0, 1) := by decide +kernel
theorem d_Mo_inflate_79 : decode b_Mo_inflate 79 = .ok (.aload_n 0, 1) := by decide +kernel
theorem d_Mo_inflate_80 : decode b_Mo_inflate 80 = .ok (.getfield 54, 3) := by decide +kernel
theorem d_Mo_inflate_83 : decode b_Mo_inflate 83 = .ok (.iload_n 2, 1) := by decide +kernel
theorem d_Mo_inflate_84 : decode b_Mo_inflate 84 = .ok (.iconst 2, 1) := by decide +kernel
theorem d_Mo_inflate_85 : decode b_Mo_inflate 85 = .ok (.invokevirtual 193, 3) := by decide +kernel
theorem d_Mo_inflate_88 : decode b_Mo_inflate 88 = .ok (.aload_n 0, 1) := by decide +kernel
theorem d_Mo_inflate_89 : decode b_Mo_inflate 89 = .ok (.aload_n 0, 1) := by decide +kernel
theorem d_Mo_inflate_90 : decode b_Mo_inflate 90 = .ok (.getfield 48, 3) := by decide +kernel
theorem d_Mo_inflate_93 : decode b_Mo_inflate 93 = .ok (.invokevirtual 75, 3) := by decide +kernel
theorem d_Mo_inflate_96 : decode b_Mo_inflate 96 = .ok (.aload_n 0, 1) := by decide +kernel
theorem d_Mo_inflate_97 : decode b_Mo_inflate 97 = .ok (.aload_n 0, 1) := by decide +kernel
theorem d_Mo_inflate_98 : decode b_Mo_inflate 98 = .ok (.getfield 51, 3) := by decide +kernel
theorem d_Mo_inflate_101 : decode b_Mo_inflate 101 = .ok (.invokevirtual 75, 3) := by decide +kernel
theorem d_Mo_inflate_104 : decode b_Mo_inflate 104 = .ok (.aload_n 0, 1) := by decide +kernel
theorem d_Mo_inflate_105 : decode b_Mo_inflate 105 = .ok (.aload_n 0, 1) := by decide +kernel
theorem d_Mo_inflate_106 : decode b_Mo_inflate 106 = .ok (.getfield 54, 3) := by decide +kernel
theorem d_Mo_inflate_109 : decode b_Mo_inflate 109 = .ok (.invokevirtual 75, 3) := by decide +kernel
theorem d_Mo_inflate_112 : decode b_Mo_inflate 112 = .ok (.aload_n 0, 1) := by decide +kernel
theorem d_Mo_inflate_113 : decode b_Mo_inflate 113 = .ok (.getfield 48, 3) := by decide +kernel
theorem d_Mo_inflate_116 : decode b_Mo_inflate 116 = .ok (.invokestatic 180, 3) := by decide +kernel
theorem d_Mo_inflate_119 : decode b_Mo_inflate 119 = .ok (.ifCond .eq 23, 3) := by decide +kernel
theorem d_Mo_inflate_122 : decode b_Mo_inflate 122 = .ok (.aload_n 0, 1) := by decide +kernel
theorem d_Mo_inflate_123 : decode b_Mo_inflate 123 = .ok (.getfield 51, 3) := by decide +kernel
theorem d_Mo_inflate_126 : decode b_Mo_inflate 126 = .ok (.invokestatic 180, 3) := by decide +kernel
theorem d_Mo_inflate_129 : decode b_Mo_inflate 129 = .ok (.ifCond .eq 13, 3) := by decide +kernel
theorem d_Mo_inflate_132 : decode b_Mo_inflate 132 = .ok (.aload_n 0, 1) := by decide +kernel
theorem d_Mo_inflate_133 : decode b_Mo_inflate 133 = .ok (.getfield 54, 3) := by decide +kernel
theorem d_Mo_inflate_136 : decode b_Mo_inflate 136 = .ok (.invokestatic 180, 3) := by decide +kernel
theorem d_Mo_inflate_139 : decode b_Mo_inflate 139 = .ok (.ifCond .ne 5, 3) := by decide +kernel
theorem d_Mo_inflate_142 : decode b_Mo_inflate 142 = .ok (.iconst (-1), 1) := by decide +kernel
theorem d_Mo_inflate_143 : decode b_Mo_inflate 143 = .ok (.ireturn, 1) := by decide +kernel
theorem d_Mo_inflate_144 : decode b_Mo_inflate 144 = .ok (.aload_n 0, 1) := by decide +kernel
theorem d_Mo_inflate_145 : decode b_Mo_inflate 145 = .ok (.getfield 7, 3) := by decide +kernel
theorem d_Mo_inflate_148 : decode b_Mo_inflate 148 = .ok (.iload_n 2, 1) := by decide +kernel
theorem d_Mo_inflate_149 : decode b_Mo_inflate 149 = .ok (.iaload, 1) := by decide +kernel
theorem d_Mo_inflate_150 : decode b_Mo_inflate 150 = .ok (.ifCond .ne 68, 3) := by decide +kernel
theorem d_Mo_inflate_153 : decode b_Mo_inflate 153 = .ok (.aload_n 0, 1) := by decide +kernel
theorem d_Mo_inflate_154 : decode b_Mo_inflate 154 = .ok (.aload_n 0, 1) := by decide +kernel
theorem d_Mo_inflate_155 : decode b_Mo_inflate 155 = .ok (.getfield 57, 3) := by decide +kernel
theorem d_Mo_inflate_158 : decode b_Mo_inflate 158 = .ok (.aload_n 0, 1) := by decide +kernel
theorem d_Mo_inflate_159 : decode b_Mo_inflate 159 = .ok (.getfield 48, 3) := by decide +kernel
theorem d_Mo_inflate_162 : decode b_Mo_inflate 162 = .ok (.aload_n 0, 1) := by decide +kernel
theorem d_Mo_inflate_163 : decode b_Mo_inflate 163 = .ok (.getfield 51, 3) := by decide +kernel
theorem d_Mo_inflate_166 : decode b_Mo_inflate 166 = .ok (.invokevirtual 197, 3) := by decide +kernel
theorem d_Mo_inflate_169 : decode b_Mo_inflate 169 = .ok (.aload_n 0, 1) := by decide +kernel
theorem d_Mo_inflate_170 : decode b_Mo_inflate 170 = .ok (.getfield 57, 3) := by decide +kernel
theorem d_Mo_inflate_173 : decode b_Mo_inflate 173 = .ok (.invokestatic 180, 3) := by decide +kernel
theorem d_Mo_inflate_176 : decode b_Mo_inflate 176 = .ok (.ifCond .ne 5, 3) := by decide +kernel
theorem d_Mo_inflate_179 : decode b_Mo_inflate 179 = .ok (.iconst (-1), 1) := by decide +kernel
theorem d_Mo_inflate_180 : decode b_Mo_inflate 180 = .ok (.ireturn, 1) := by decide +kernel
theorem d_Mo_inflate_181 : decode b_Mo_inflate 181 = .ok (.aload_n 0, 1) := by decide +kernel
theorem d_Mo_inflate_182 : decode b_Mo_inflate 182 = .ok (.iconst 0, 1) := by decide +kernel
theorem d_Mo_inflate_183 : decode b_Mo_inflate 183 = .ok (.aload_n 0, 1) := by decide +kernel
theorem d_Mo_inflate_184 : decode b_Mo_inflate 184 = .ok (.getfield 54, 3) := by decide +kernel
theorem d_Mo_inflate_187 : decode b_Mo_inflate 187 = .ok (.aload_n 0, 1) := by decide +kernel
theorem d_Mo_inflate_188 : decode b_Mo_inflate 188 = .ok (.getfield 57, 3) := by decide +kernel
theorem d_Mo_inflate_191 : decode b_Mo_inflate 191 = .ok (.aload_n 0, 1) := by decide +kernel
theorem d_Mo_inflate_192 : decode b_Mo_inflate 192 = .ok (.getfield 51, 3) := by decide +kernel
theorem d_Mo_inflate_195 : decode b_Mo_inflate 195 = .ok (.invokevirtual 201, 3) := by decide +kernel
theorem d_Mo_inflate_198 : decode b_Mo_inflate 198 = .ok (.aload_n 0, 1) := by decide +kernel
theorem d_Mo_inflate_199 : decode b_Mo_inflate 199 = .ok (.iconst 1, 1) := by decide +kernel
theorem d_Mo_inflate_200 : decode b_Mo_inflate 200 = .ok (.aload_n 0, 1) := by decide +kernel
theorem d_Mo_inflate_201 : decode b_Mo_inflate 201 = .ok (.getfield 57, 3) := by decide +kernel
theorem d_Mo_inflate_204 : decode b_Mo_inflate 204 = .ok (.aload_n 0, 1) := by decide +kernel
theorem d_Mo_inflate_205 : decode b_Mo_inflate 205 = .ok (.getfield 54, 3) := by decide +kernel
theorem d_Mo_inflate_208 : decode b_Mo_inflate 208 = .ok (.aload_n 0, 1) := by decide +kernel
theorem d_Mo_inflate_209 : decode b_Mo_inflate 209 = .ok (.getfield 48, 3) := by decide +kernel
theorem d_Mo_inflate_212 : decode b_Mo_inflate 212 = .ok (.invokevirtual 201, 3) := by decide +kernel
theorem d_Mo_inflate_215 : decode b_Mo_inflate 215 = .ok (.goto 108, 3) := by decide +kernel
theorem d_Mo_inflate_218 : decode b_Mo_inflate 218 = .ok (.aload_n 0, 1) := by decide +kernel
theorem d_Mo_inflate_219 : decode b_Mo_inflate 219 = .ok (.aload_n 0, 1) := by decide +kernel
theorem d_Mo_inflate_220 : decode b_Mo_inflate 220 = .ok (.getfield 57, 3) := by decide +kernel
theorem d_Mo_inflate_223 : decode b_Mo_inflate 223 = .ok (.aload_n 0, 1) := by decide +kernel
theorem d_Mo_inflate_224 : decode b_Mo_inflate 224 = .ok (.getfield 51, 3) := by decide +kernel
theorem d_Mo_inflate_227 : decode b_Mo_inflate 227 = .ok (.aload_n 0, 1) := by decide +kernel
theorem d_Mo_inflate_228 : decode b_Mo_inflate 228 = .ok (.getfield 48, 3) := by decide +kernel
theorem d_Mo_inflate_231 : decode b_Mo_inflate 231 = .ok (.invokevirtual 197, 3) := by decide +kernel
theorem d_Mo_inflate_234 : decode b_Mo_inflate 234 = .ok (.aload_n 0, 1) := by decide +kernel
theorem d_Mo_inflate_235 : decode b_Mo_inflate 235 = .ok (.aload_n 0, 1) := by decide +kernel
theorem d_Mo_inflate_236 : decode b_Mo_inflate 236 = .ok (.getfield 60, 3) := by decide +kernel
theorem d_Mo_inflate_239 : decode b_Mo_inflate 239 = .ok (.aload_n 0, 1) := by decide +kernel
theorem d_Mo_inflate_240 : decode b_Mo_inflate 240 = .ok (.getfield 51, 3) := by decide +kernel
theorem d_Mo_inflate_243 : decode b_Mo_inflate 243 = .ok (.aload_n 0, 1) := by decide +kernel
theorem d_Mo_inflate_244 : decode b_Mo_inflate 244 = .ok (.getfield 54, 3) := by decide +kernel
theorem d_Mo_inflate_247 : decode b_Mo_inflate 247 = .ok (.invokevirtual 197, 3) := by decide +kernel
theorem d_Mo_inflate_250 : decode b_Mo_inflate 250 = .ok (.aload_n 0, 1) := by decide +kernel
theorem d_Mo_inflate_251 : decode b_Mo_inflate 251 = .ok (.getfield 57, 3) := by decide +kernel
theorem d_Mo_inflate_254 : decode b_Mo_inflate 254 = .ok (.invokestatic 180, 3) := by decide +kernel
theorem d_Mo_inflate_257 : decode b_Mo_inflate 257 = .ok (.ifCond .eq 13, 3) := by decide +kernel
theorem d_Mo_inflate_260 : decode b_Mo_inflate 260 = .ok (.aload_n 0, 1) := by decide +kernel
theorem d_Mo_inflate_261 : decode b_Mo_inflate 261 = .ok (.getfield 60, 3) := by decide +kernel
theorem d_Mo_inflate_264 : decode b_Mo_inflate 264 = .ok (.invokestatic 180, 3) := by decide +kernel
theorem d_Mo_inflate_267 : decode b_Mo_inflate 267 = .ok (.ifCond .ne 5, 3) := by decide +kernel
theorem d_Mo_inflate_270 : decode b_Mo_inflate 270 = .ok (.iconst (-1), 1) := by decide +kernel
theorem d_Mo_inflate_271 : decode b_Mo_inflate 271 = .ok (.ireturn, 1) := by decide +kernel
theorem d_Mo_inflate_272 : decode b_Mo_inflate 272 = .ok (.aload_n 0, 1) := by decide +kernel
theorem d_Mo_inflate_273 : decode b_Mo_inflate 273 = .ok (.iconst 1, 1) := by decide +kernel
theorem d_Mo_inflate_274 : decode b_Mo_inflate 274 = .ok (.aload_n 0, 1) := by decide +kernel
theorem d_Mo_inflate_275 : decode b_Mo_inflate 275 = .ok (.getfield 60, 3) := by decide +kernel
theorem d_Mo_inflate_278 : decode b_Mo_inflate 278 = .ok (.aload_n 0, 1) := by decide +kernel
theorem d_Mo_inflate_279 : decode b_Mo_inflate 279 = .ok (.getfield 54, 3) := by decide +kernel
theorem d_Mo_inflate_282 : decode b_Mo_inflate 282 = .ok (.aload_n 0, 1) := by decide +kernel
theorem d_Mo_inflate_283 : decode b_Mo_inflate 283 = .ok (.getfield 48, 3) := by decide +kernel
theorem d_Mo_inflate_286 : decode b_Mo_inflate 286 = .ok (.invokevirtual 201, 3) := by decide +kernel
theorem d_Mo_inflate_289 : decode b_Mo_inflate 289 = .ok (.aload_n 0, 1) := by decide +kernel
theorem d_Mo_inflate_290 : decode b_Mo_inflate 290 = .ok (.iconst 1, 1) := by decide +kernel
theorem d_Mo_inflate_291 : decode b_Mo_inflate 291 = .ok (.aload_n 0, 1) := by decide +kernel
theorem d_Mo_inflate_292 : decode b_Mo_inflate 292 = .ok (.getfield 57, 3) := by decide +kernel
theorem d_Mo_inflate_295 : decode b_Mo_inflate 295 = .ok (.aload_n 0, 1) := by decide +kernel
theorem d_Mo_inflate_296 : decode b_Mo_inflate 296 = .ok (.getfield 60, 3) := by decide +kernel
theorem d_Mo_inflate_299 : decode b_Mo_inflate 299 = .ok (.aload_n 0, 1) := by decide +kernel
theorem d_Mo_inflate_300 : decode b_Mo_inflate 300 = .ok (.getfield 51, 3) := by decide +kernel
theorem d_Mo_inflate_303 : decode b_Mo_inflate 303 = .ok (.invokevirtual 201, 3) := by decide +kernel
theorem d_Mo_inflate_306 : decode b_Mo_inflate 306 = .ok (.aload_n 0, 1) := by decide +kernel
theorem d_Mo_inflate_307 : decode b_Mo_inflate 307 = .ok (.iconst 0, 1) := by decide +kernel
theorem d_Mo_inflate_308 : decode b_Mo_inflate 308 = .ok (.aload_n 0, 1) := by decide +kernel
theorem d_Mo_inflate_309 : decode b_Mo_inflate 309 = .ok (.getfield 60, 3) := by decide +kernel
theorem d_Mo_inflate_312 : decode b_Mo_inflate 312 = .ok (.aload_n 0, 1) := by decide +kernel
theorem d_Mo_inflate_313 : decode b_Mo_inflate 313 = .ok (.getfield 57, 3) := by decide +kernel
theorem d_Mo_inflate_316 : decode b_Mo_inflate 316 = .ok (.aload_n 0, 1) := by decide +kernel
theorem d_Mo_inflate_317 : decode b_Mo_inflate 317 = .ok (.getfield 48, 3) := by decide +kernel
theorem d_Mo_inflate_320 : decode b_Mo_inflate 320 = .ok (.invokevirtual 201, 3) := by decide +kernel
theorem d_Mo_inflate_323 : decode b_Mo_inflate 323 = .ok (.iinc 2 1, 3) := by decide +kernel
theorem d_Mo_inflate_326 : decode b_Mo_inflate 326 = .ok (.goto (-276), 3) := by decide +kernel
theorem d_Mo_inflate_329 : decode b_Mo_inflate 329 = .ok (.aload_n 0, 1) := by decide +kernel
theorem d_Mo_inflate_330 : decode b_Mo_inflate 330 = .ok (.invokevirtual 205, 3) := by decide +kernel
theorem d_Mo_inflate_333 : decode b_Mo_inflate 333 = .ok (.aload_n 0, 1) := by decide +kernel
theorem d_Mo_inflate_334 : decode b_Mo_inflate 334 = .ok (.dup, 1) := by decide +kernel
theorem d_Mo_inflate_335 : decode b_Mo_inflate 335 = .ok (.getfield 170, 3) := by decide +kernel
theorem d_Mo_inflate_338 : decode b_Mo_inflate 338 = .ok (.iconst 1, 1) := by decide +kernel
theorem d_Mo_inflate_339 : decode b_Mo_inflate 339 = .ok (.iadd, 1) := by decide +kernel
theorem d_Mo_inflate_340 : decode b_Mo_inflate 340 = .ok (.putfield 170, 3) := by decide +kernel
theorem d_Mo_inflate_343 : decode b_Mo_inflate 343 = .ok (.aload_n 0, 1) := by decide +kernel
theorem d_Mo_inflate_344 : decode b_Mo_inflate 344 = .ok (.getfield 159, 3) := by decide +kernel
theorem d_Mo_inflate_347 : decode b_Mo_inflate 347 = .ok (.ireturn, 1) := by decide +kernel
theorem d_Mo_findAt_0 : decode b_Mo_findAt 0 = .ok (.iconst 0, 1) := by decide +kernel
theorem d_Mo_findAt_1 : decode b_Mo_findAt 1 = .ok (.istore_n 2, 1) := by decide +kernel
theorem d_Mo_findAt_2 : decode b_Mo_findAt 2 = .ok (.iload_n 2, 1) := by decide +kernel
theorem d_Mo_findAt_3 : decode b_Mo_findAt 3 = .ok (.aload_n 0, 1) := by decide +kernel
theorem d_Mo_findAt_4 : decode b_Mo_findAt 4 = .ok (.getfield 159, 3) := by decide +kernel
theorem d_Mo_findAt_7 : decode b_Mo_findAt 7 = .ok (.if_icmp .ge 59, 3) := by decide +kernel
theorem d_Mo_findAt_10 : decode b_Mo_findAt 10 = .ok (.aload_n 0, 1) := by decide +kernel
theorem d_Mo_findAt_11 : decode b_Mo_findAt 11 = .ok (.getfield 7, 3) := by decide +kernel
theorem d_Mo_findAt_14 : decode b_Mo_findAt 14 = .ok (.iload_n 2, 1) := by decide +kernel
theorem d_Mo_findAt_15 : decode b_Mo_findAt 15 = .ok (.iaload, 1) := by decide +kernel
theorem d_Mo_findAt_16 : decode b_Mo_findAt 16 = .ok (.iconst 1, 1) := by decide +kernel
theorem d_Mo_findAt_17 : decode b_Mo_findAt 17 = .ok (.if_icmp .ne 43, 3) := by decide +kernel
theorem d_Mo_findAt_20 : decode b_Mo_findAt 20 = .ok (.aload_n 0, 1) := by decide +kernel
theorem d_Mo_findAt_21 : decode b_Mo_findAt 21 = .ok (.aload_n 0, 1) := by decide +kernel
theorem d_Mo_findAt_22 : decode b_Mo_findAt 22 = .ok (.iload_n 2, 1) := by decide +kernel
theorem d_Mo_findAt_23 : decode b_Mo_findAt 23 = .ok (.iconst 0, 1) := by decide +kernel
theorem d_Mo_findAt_24 : decode b_Mo_findAt 24 = .ok (.invokevirtual 118, 3) := by decide +kernel
theorem d_Mo_findAt_27 : decode b_Mo_findAt 27 = .ok (.aload_n 0, 1) := by decide +kernel
theorem d_Mo_findAt_28 : decode b_Mo_findAt 28 = .ok (.iload_n 1, 1) := by decide +kernel
theorem d_Mo_findAt_29 : decode b_Mo_findAt 29 = .ok (.iconst 1, 1) := by decide +kernel
theorem d_Mo_findAt_30 : decode b_Mo_findAt 30 = .ok (.invokevirtual 118, 3) := by decide +kernel
theorem d_Mo_findAt_33 : decode b_Mo_findAt 33 = .ok (.invokevirtual 134, 3) := by decide +kernel
theorem d_Mo_findAt_36 : decode b_Mo_findAt 36 = .ok (.ifCond .eq 24, 3) := by decide +kernel
theorem d_Mo_findAt_39 : decode b_Mo_findAt 39 = .ok (.aload_n 0, 1) := by decide +kernel
theorem d_Mo_findAt_40 : decode b_Mo_findAt 40 = .ok (.aload_n 0, 1) := by decide +kernel
theorem d_Mo_findAt_41 : decode b_Mo_findAt 41 = .ok (.iload_n 2, 1) := by decide +kernel
theorem d_Mo_findAt_42 : decode b_Mo_findAt 42 = .ok (.iconst 1, 1) := by decide +kernel
theorem d_Mo_findAt_43 : decode b_Mo_findAt 43 = .ok (.invokevirtual 118, 3) := by decide +kernel
theorem d_Mo_findAt_46 : decode b_Mo_findAt 46 = .ok (.aload_n 0, 1) := by decide +kernel
theorem d_Mo_findAt_47 : decode b_Mo_findAt 47 = .ok (.iload_n 1, 1) := by decide +kernel
theorem d_Mo_findAt_48 : decode b_Mo_findAt 48 = .ok (.iconst 0, 1) := by decide +kernel
theorem d_Mo_findAt_49 : decode b_Mo_findAt 49 = .ok (.invokevirtual 118, 3) := by decide +kernel
theorem d_Mo_findAt_52 : decode b_Mo_findAt 52 = .ok (.invokevirtual 134, 3) := by decide +kernel
theorem d_Mo_findAt_55 : decode b_Mo_findAt 55 = .ok (.ifCond .eq 5, 3) := by decide +kernel
theorem d_Mo_findAt_58 : decode b_Mo_findAt 58 = .ok (.iload_n 2, 1) := by decide +kernel
theorem d_Mo_findAt_59 : decode b_Mo_findAt 59 = .ok (.ireturn, 1) := by decide +kernel
theorem d_Mo_findAt_60 : decode b_Mo_findAt 60 = .ok (.iinc 2 1, 3) := by decide +kernel
theorem d_Mo_findAt_63 : decode b_Mo_findAt 63 = .ok (.goto (-61), 3) := by decide +kernel
theorem d_Mo_findAt_66 : decode b_Mo_findAt 66 = .ok (.iconst (-1), 1) := by decide +kernel
theorem d_Mo_findAt_67 : decode b_Mo_findAt 67 = .ok (.ireturn, 1) := by decide +kernel
theorem d_Mo_findBeside_0 : decode b_Mo_findBeside 0 = .ok (.iconst 0, 1) := by decide +kernel
theorem d_Mo_findBeside_1 : decode b_Mo_findBeside 1 = .ok (.istore_n 2, 1) := by decide +kernel
theorem d_Mo_findBeside_2 : decode b_Mo_findBeside 2 = .ok (.iload_n 2, 1) := by decide +kernel
theorem d_Mo_findBeside_3 : decode b_Mo_findBeside 3 = .ok (.aload_n 0, 1) := by decide +kernel
theorem d_Mo_findBeside_4 : decode b_Mo_findBeside 4 = .ok (.getfield 159, 3) := by decide +kernel
theorem d_Mo_findBeside_7 : decode b_Mo_findBeside 7 = .ok (.if_icmp .ge 54, 3) := by decide +kernel
theorem d_Mo_findBeside_10 : decode b_Mo_findBeside 10 = .ok (.iload_n 2, 1) := by decide +kernel
theorem d_Mo_findBeside_11 : decode b_Mo_findBeside 11 = .ok (.iload_n 1, 1) := by decide +kernel
theorem d_Mo_findBeside_12 : decode b_Mo_findBeside 12 = .ok (.if_icmp .eq 43, 3) := by decide +kernel
theorem d_Mo_findBeside_15 : decode b_Mo_findBeside 15 = .ok (.aload_n 0, 1) := by decide +kernel
theorem d_Mo_findBeside_16 : decode b_Mo_findBeside 16 = .ok (.aload_n 0, 1) := by decide +kernel
theorem d_Mo_findBeside_17 : decode b_Mo_findBeside 17 = .ok (.iload_n 2, 1) := by decide +kernel
theorem d_Mo_findBeside_18 : decode b_Mo_findBeside 18 = .ok (.iconst 0, 1) := by decide +kernel
theorem d_Mo_findBeside_19 : decode b_Mo_findBeside 19 = .ok (.invokevirtual 118, 3) := by decide +kernel
theorem d_Mo_findBeside_22 : decode b_Mo_findBeside 22 = .ok (.aload_n 0, 1) := by decide +kernel
theorem d_Mo_findBeside_23 : decode b_Mo_findBeside 23 = .ok (.iload_n 1, 1) := by decide +kernel
theorem d_Mo_findBeside_24 : decode b_Mo_findBeside 24 = .ok (.iconst 0, 1) := by decide +kernel
theorem d_Mo_findBeside_25 : decode b_Mo_findBeside 25 = .ok (.invokevirtual 118, 3) := by decide +kernel
theorem d_Mo_findBeside_28 : decode b_Mo_findBeside 28 = .ok (.invokevirtual 134, 3) := by decide +kernel
theorem d_Mo_findBeside_31 : decode b_Mo_findBeside 31 = .ok (.ifCond .eq 24, 3) := by decide +kernel
theorem d_Mo_findBeside_34 : decode b_Mo_findBeside 34 = .ok (.aload_n 0, 1) := by decide +kernel
theorem d_Mo_findBeside_35 : decode b_Mo_findBeside 35 = .ok (.aload_n 0, 1) := by decide +kernel
theorem d_Mo_findBeside_36 : decode b_Mo_findBeside 36 = .ok (.iload_n 2, 1) := by decide +kernel
theorem d_Mo_findBeside_37 : decode b_Mo_findBeside 37 = .ok (.iconst 2, 1) := by decide +kernel
theorem d_Mo_findBeside_38 : decode b_Mo_findBeside 38 = .ok (.invokevirtual 118, 3) := by decide +kernel
theorem d_Mo_findBeside_41 : decode b_Mo_findBeside 41 = .ok (.aload_n 0, 1) := by decide +kernel
theorem d_Mo_findBeside_42 : decode b_Mo_findBeside 42 = .ok (.iload_n 1, 1) := by decide +kernel
theorem d_Mo_findBeside_43 : decode b_Mo_findBeside 43 = .ok (.iconst 2, 1) := by decide +kernel
theorem d_Mo_findBeside_44 : decode b_Mo_findBeside 44 = .ok (.invokevirtual 118, 3) := by decide +kernel
theorem d_Mo_findBeside_47 : decode b_Mo_findBeside 47 = .ok (.invokevirtual 134, 3) := by decide +kernel
theorem d_Mo_findBeside_50 : decode b_Mo_findBeside 50 = .ok (.ifCond .eq 5, 3) := by decide +kernel
theorem d_Mo_findBeside_53 : decode b_Mo_findBeside 53 = .ok (.iload_n 2, 1) := by decide +kernel
theorem d_Mo_findBeside_54 : decode b_Mo_findBeside 54 = .ok (.ireturn, 1) := by decide +kernel
theorem d_Mo_findBeside_55 : decode b_Mo_findBeside 55 = .ok (.iinc 2 1, 3) := by decide +kernel
theorem d_Mo_findBeside_58 : decode b_Mo_findBeside 58 = .ok (.goto (-56), 3) := by decide +kernel
theorem d_Mo_findBeside_61 : decode b_Mo_findBeside 61 = .ok (.iconst (-1), 1) := by decide +kernel
theorem d_Mo_findBeside_62 : decode b_Mo_findBeside 62 = .ok (.ireturn, 1) := by decide +kernel
theorem d_Mo_join_0 : decode b_Mo_join 0 = .ok (.iconst 0, 1) := by decide +kernel
theorem d_Mo_join_1 : decode b_Mo_join 1 = .ok (.istore 5, 2) := by decide +kernel
theorem d_Mo_join_3 : decode b_Mo_join 3 = .ok (.iload 5, 2) := by decide +kernel
theorem d_Mo_join_5 : decode b_Mo_join 5 = .ok (.iconst 4, 1) := by decide +kernel
theorem d_Mo_join_6 : decode b_Mo_join 6 = .ok (.if_icmp .ge 61, 3) := by decide +kernel
theorem d_Mo_join_9 : decode b_Mo_join 9 = .ok (.aload_n 0, 1) := by decide +kernel
theorem d_Mo_join_10 : decode b_Mo_join 10 = .ok (.getfield 48, 3) := by decide +kernel
theorem d_Mo_join_13 : decode b_Mo_join 13 = .ok (.iload 5, 2) := by decide +kernel
theorem d_Mo_join_15 : decode b_Mo_join 15 = .ok (.aload_n 0, 1) := by decide +kernel
theorem d_Mo_join_16 : decode b_Mo_join 16 = .ok (.getfield 13, 3) := by decide +kernel
theorem d_Mo_join_19 : decode b_Mo_join 19 = .ok (.iload_n 2, 1) := by decide +kernel
theorem d_Mo_join_20 : decode b_Mo_join 20 = .ok (.iload 5, 2) := by decide +kernel
theorem d_Mo_join_22 : decode b_Mo_join 22 = .ok (.iadd, 1) := by decide +kernel
theorem d_Mo_join_23 : decode b_Mo_join 23 = .ok (.iaload, 1) := by decide +kernel
theorem d_Mo_join_24 : decode b_Mo_join 24 = .ok (.i2l, 1) := by decide +kernel
theorem d_Mo_join_25 : decode b_Mo_join 25 = .ok (.lastore, 1) := by decide +kernel
theorem d_Mo_join_26 : decode b_Mo_join 26 = .ok (.aload_n 0, 1) := by decide +kernel
theorem d_Mo_join_27 : decode b_Mo_join 27 = .ok (.getfield 51, 3) := by decide +kernel
theorem d_Mo_join_30 : decode b_Mo_join 30 = .ok (.iload 5, 2) := by decide +kernel
theorem d_Mo_join_32 : decode b_Mo_join 32 = .ok (.aload_n 0, 1) := by decide +kernel
theorem d_Mo_join_33 : decode b_Mo_join 33 = .ok (.getfield 13, 3) := by decide +kernel
theorem d_Mo_join_36 : decode b_Mo_join 36 = .ok (.iload_n 3, 1) := by decide +kernel
theorem d_Mo_join_37 : decode b_Mo_join 37 = .ok (.iload 5, 2) := by decide +kernel
theorem d_Mo_join_39 : decode b_Mo_join 39 = .ok (.iadd, 1) := by decide +kernel
theorem d_Mo_join_40 : decode b_Mo_join 40 = .ok (.iaload, 1) := by decide +kernel
theorem d_Mo_join_41 : decode b_Mo_join 41 = .ok (.i2l, 1) := by decide +kernel
theorem d_Mo_join_42 : decode b_Mo_join 42 = .ok (.lastore, 1) := by decide +kernel
theorem d_Mo_join_43 : decode b_Mo_join 43 = .ok (.aload_n 0, 1) := by decide +kernel
theorem d_Mo_join_44 : decode b_Mo_join 44 = .ok (.getfield 54, 3) := by decide +kernel
theorem d_Mo_join_47 : decode b_Mo_join 47 = .ok (.iload 5, 2) := by decide +kernel
theorem d_Mo_join_49 : decode b_Mo_join 49 = .ok (.aload_n 0, 1) := by decide +kernel
theorem d_Mo_join_50 : decode b_Mo_join 50 = .ok (.getfield 13, 3) := by decide +kernel
theorem d_Mo_join_53 : decode b_Mo_join 53 = .ok (.iload 4, 2) := by decide +kernel
theorem d_Mo_join_55 : decode b_Mo_join 55 = .ok (.iload 5, 2) := by decide +kernel
theorem d_Mo_join_57 : decode b_Mo_join 57 = .ok (.iadd, 1) := by decide +kernel
theorem d_Mo_join_58 : decode b_Mo_join 58 = .ok (.iaload, 1) := by decide +kernel
theorem d_Mo_join_59 : decode b_Mo_join 59 = .ok (.i2l, 1) := by decide +kernel
theorem d_Mo_join_60 : decode b_Mo_join 60 = .ok (.lastore, 1) := by decide +kernel
theorem d_Mo_join_61 : decode b_Mo_join 61 = .ok (.iinc 5 1, 3) := by decide +kernel
theorem d_Mo_join_64 : decode b_Mo_join 64 = .ok (.goto (-61), 3) := by decide +kernel
theorem d_Mo_join_67 : decode b_Mo_join 67 = .ok (.aload_n 0, 1) := by decide +kernel
theorem d_Mo_join_68 : decode b_Mo_join 68 = .ok (.aload_n 0, 1) := by decide +kernel
theorem d_Mo_join_69 : decode b_Mo_join 69 = .ok (.getfield 48, 3) := by decide +kernel
theorem d_Mo_join_72 : decode b_Mo_join 72 = .ok (.invokevirtual 190, 3) := by decide +kernel
theorem d_Mo_join_75 : decode b_Mo_join 75 = .ok (.aload_n 0, 1) := by decide +kernel
theorem d_Mo_join_76 : decode b_Mo_join 76 = .ok (.aload_n 0, 1) := by decide +kernel
theorem d_Mo_join_77 : decode b_Mo_join 77 = .ok (.getfield 51, 3) := by decide +kernel
theorem d_Mo_join_80 : decode b_Mo_join 80 = .ok (.invokevirtual 190, 3) := by decide +kernel
theorem d_Mo_join_83 : decode b_Mo_join 83 = .ok (.aload_n 0, 1) := by decide +kernel
theorem d_Mo_join_84 : decode b_Mo_join 84 = .ok (.aload_n 0, 1) := by decide +kernel
theorem d_Mo_join_85 : decode b_Mo_join 85 = .ok (.getfield 54, 3) := by decide +kernel
theorem d_Mo_join_88 : decode b_Mo_join 88 = .ok (.invokevirtual 190, 3) := by decide +kernel
theorem d_Mo_join_91 : decode b_Mo_join 91 = .ok (.aload_n 0, 1) := by decide +kernel
theorem d_Mo_join_92 : decode b_Mo_join 92 = .ok (.iload_n 1, 1) := by decide +kernel
theorem d_Mo_join_93 : decode b_Mo_join 93 = .ok (.aload_n 0, 1) := by decide +kernel
theorem d_Mo_join_94 : decode b_Mo_join 94 = .ok (.getfield 48, 3) := by decide +kernel
theorem d_Mo_join_97 : decode b_Mo_join 97 = .ok (.aload_n 0, 1) := by decide +kernel
theorem d_Mo_join_98 : decode b_Mo_join 98 = .ok (.getfield 51, 3) := by decide +kernel
theorem d_Mo_join_101 : decode b_Mo_join 101 = .ok (.aload_n 0, 1) := by decide +kernel
theorem d_Mo_join_102 : decode b_Mo_join 102 = .ok (.getfield 54, 3) := by decide +kernel
theorem d_Mo_join_105 : decode b_Mo_join 105 = .ok (.invokevirtual 201, 3) := by decide +kernel
theorem d_Mo_join_108 : decode b_Mo_join 108 = .ok (.aload_n 0, 1) := by decide +kernel
theorem d_Mo_join_109 : decode b_Mo_join 109 = .ok (.getfield 48, 3) := by decide +kernel
theorem d_Mo_join_112 : decode b_Mo_join 112 = .ok (.invokestatic 180, 3) := by decide +kernel
theorem d_Mo_join_115 : decode b_Mo_join 115 = .ok (.ifCond .eq 27, 3) := by decide +kernel
theorem d_Mo_join_118 : decode b_Mo_join 118 = .ok (.aload_n 0, 1) := by decide +kernel
theorem d_Mo_join_119 : decode b_Mo_join 119 = .ok (.getfield 51, 3) := by decide +kernel
theorem d_Mo_join_122 : decode b_Mo_join 122 = .ok (.invokestatic 180, 3) := by decide +kernel
theorem d_Mo_join_125 : decode b_Mo_join 125 = .ok (.ifCond .eq 17, 3) := by decide +kernel
theorem d_Mo_join_128 : decode b_Mo_join 128 = .ok (.aload_n 0, 1) := by decide +kernel
theorem d_Mo_join_129 : decode b_Mo_join 129 = .ok (.getfield 54, 3) := by decide +kernel
theorem d_Mo_join_132 : decode b_Mo_join 132 = .ok (.invokestatic 180, 3) := by decide +kernel
theorem d_Mo_join_135 : decode b_Mo_join 135 = .ok (.ifCond .eq 7, 3) := by decide +kernel
theorem d_Mo_join_138 : decode b_Mo_join 138 = .ok (.iconst 1, 1) := by decide +kernel
theorem d_Mo_join_139 : decode b_Mo_join 139 = .ok (.goto 4, 3) := by decide +kernel
theorem d_Mo_join_142 : decode b_Mo_join 142 = .ok (.iconst 0, 1) := by decide +kernel
theorem d_Mo_join_143 : decode b_Mo_join 143 = .ok (.ireturn, 1) := by decide +kernel
theorem d_Mo_deflate_0 : decode b_Mo_deflate 0 = .ok (.aload_n 0, 1) := by decide +kernel
theorem d_Mo_deflate_1 : decode b_Mo_deflate 1 = .ok (.iconst 0, 1) := by decide +kernel
theorem d_Mo_deflate_2 : decode b_Mo_deflate 2 = .ok (.putfield 63, 3) := by decide +kernel
theorem d_Mo_deflate_5 : decode b_Mo_deflate 5 = .ok (.aload_n 0, 1) := by decide +kernel
theorem d_Mo_deflate_6 : decode b_Mo_deflate 6 = .ok (.getfield 159, 3) := by decide +kernel
theorem d_Mo_deflate_9 : decode b_Mo_deflate 9 = .ok (.ifCond .ne 5, 3) := by decide +kernel
theorem d_Mo_deflate_12 : decode b_Mo_deflate 12 = .ok (.iconst (-1), 1) := by decide +kernel
theorem d_Mo_deflate_13 : decode b_Mo_deflate 13 = .ok (.ireturn, 1) := by decide +kernel
theorem d_Mo_deflate_14 : decode b_Mo_deflate 14 = .ok (.iconst 0, 1) := by decide +kernel
theorem d_Mo_deflate_15 : decode b_Mo_deflate 15 = .ok (.istore_n 1, 1) := by decide +kernel
theorem d_Mo_deflate_16 : decode b_Mo_deflate 16 = .ok (.iload_n 1, 1) := by decide +kernel
theorem d_Mo_deflate_17 : decode b_Mo_deflate 17 = .ok (.sipush 400, 3) := by decide +kernel
theorem d_Mo_deflate_20 : decode b_Mo_deflate 20 = .ok (.if_icmp .ge 16, 3) := by decide +kernel
theorem d_Mo_deflate_23 : decode b_Mo_deflate 23 = .ok (.aload_n 0, 1) := by decide +kernel
theorem d_Mo_deflate_24 : decode b_Mo_deflate 24 = .ok (.getfield 22, 3) := by decide +kernel
theorem d_Mo_deflate_27 : decode b_Mo_deflate 27 = .ok (.iload_n 1, 1) := by decide +kernel
theorem d_Mo_deflate_28 : decode b_Mo_deflate 28 = .ok (.iconst 0, 1) := by decide +kernel
theorem d_Mo_deflate_29 : decode b_Mo_deflate 29 = .ok (.bastore, 1) := by decide +kernel
theorem d_Mo_deflate_30 : decode b_Mo_deflate 30 = .ok (.iinc 1 1, 3) := by decide +kernel
theorem d_Mo_deflate_33 : decode b_Mo_deflate 33 = .ok (.goto (-17), 3) := by decide +kernel
theorem d_Mo_deflate_36 : decode b_Mo_deflate 36 = .ok (.aload_n 0, 1) := by decide +kernel
theorem d_Mo_deflate_37 : decode b_Mo_deflate 37 = .ok (.iconst 0, 1) := by decide +kernel
theorem d_Mo_deflate_38 : decode b_Mo_deflate 38 = .ok (.putfield 187, 3) := by decide +kernel
theorem d_Mo_deflate_41 : decode b_Mo_deflate 41 = .ok (.iconst 1, 1) := by decide +kernel
theorem d_Mo_deflate_42 : decode b_Mo_deflate 42 = .ok (.istore_n 1, 1) := by decide +kernel
theorem d_Mo_deflate_43 : decode b_Mo_deflate 43 = .ok (.iconst 0, 1) := by decide +kernel
theorem d_Mo_deflate_44 : decode b_Mo_deflate 44 = .ok (.istore_n 2, 1) := by decide +kernel
theorem d_Mo_deflate_45 : decode b_Mo_deflate 45 = .ok (.iload_n 2, 1) := by decide +kernel
theorem d_Mo_deflate_46 : decode b_Mo_deflate 46 = .ok (.aload_n 0, 1) := by decide +kernel
theorem d_Mo_deflate_47 : decode b_Mo_deflate 47 = .ok (.getfield 159, 3) := by decide +kernel
theorem d_Mo_deflate_50 : decode b_Mo_deflate 50 = .ok (.if_icmp .ge 186, 3) := by decide +kernel
theorem d_Mo_deflate_53 : decode b_Mo_deflate 53 = .ok (.aload_n 0, 1) := by decide +kernel
theorem d_Mo_deflate_54 : decode b_Mo_deflate 54 = .ok (.getfield 7, 3) := by decide +kernel
theorem d_Mo_deflate_57 : decode b_Mo_deflate 57 = .ok (.iload_n 2, 1) := by decide +kernel
theorem d_Mo_deflate_58 : decode b_Mo_deflate 58 = .ok (.iaload, 1) := by decide +kernel
theorem d_Mo_deflate_59 : decode b_Mo_deflate 59 = .ok (.ifCond .eq 6, 3) := by decide +kernel
theorem d_Mo_deflate_62 : decode b_Mo_deflate 62 = .ok (.goto 168, 3) := by decide +kernel
theorem d_Mo_deflate_65 : decode b_Mo_deflate 65 = .ok (.aload_n 0, 1) := by decide +kernel
theorem d_Mo_deflate_66 : decode b_Mo_deflate 66 = .ok (.iload_n 2, 1) := by decide +kernel
theorem d_Mo_deflate_67 : decode b_Mo_deflate 67 = .ok (.invokevirtual 208, 3) := by decide +kernel
theorem d_Mo_deflate_70 : decode b_Mo_deflate 70 = .ok (.istore_n 3, 1) := by decide +kernel
theorem d_Mo_deflate_71 : decode b_Mo_deflate 71 = .ok (.aload_n 0, 1) := by decide +kernel
theorem d_Mo_deflate_72 : decode b_Mo_deflate 72 = .ok (.iload_n 2, 1) := by decide +kernel
theorem d_Mo_deflate_73 : decode b_Mo_deflate 73 = .ok (.invokevirtual 212, 3) := by decide +kernel
theorem d_Mo_deflate_76 : decode b_Mo_deflate 76 = .ok (.istore 4, 2) := by decide +kernel
theorem d_Mo_deflate_78 : decode b_Mo_deflate 78 = .ok (.iload_n 3, 1) := by decide +kernel
theorem d_Mo_deflate_79 : decode b_Mo_deflate 79 = .ok (.iconst (-1), 1) := by decide +kernel
theorem d_Mo_deflate_80 : decode b_Mo_deflate 80 = .ok (.if_icmp .eq 150, 3) := by decide +kernel
theorem d_Mo_deflate_83 : decode b_Mo_deflate 83 = .ok (.iload 4, 2) := by decide +kernel
theorem d_Mo_deflate_85 : decode b_Mo_deflate 85 = .ok (.iconst (-1), 1) := by decide +kernel
theorem d_Mo_deflate_86 : decode b_Mo_deflate 86 = .ok (.if_icmp .eq 144, 3) := by decide +kernel
theorem d_Mo_deflate_89 : decode b_Mo_deflate 89 = .ok (.aload_n 0, 1) := by decide +kernel
theorem d_Mo_deflate_90 : decode b_Mo_deflate 90 = .ok (.getfield 22, 3) := by decide +kernel
theorem d_Mo_deflate_93 : decode b_Mo_deflate 93 = .ok (.iload_n 3, 1) := by decide +kernel
theorem d_Mo_deflate_94 : decode b_Mo_deflate 94 = .ok (.baload, 1) := by decide +kernel
theorem d_Mo_deflate_95 : decode b_Mo_deflate 95 = .ok (.ifCond .ne 135, 3) := by decide +kernel
theorem d_Mo_deflate_98 : decode b_Mo_deflate 98 = .ok (.aload_n 0, 1) := by decide +kernel
theorem d_Mo_deflate_99 : decode b_Mo_deflate 99 = .ok (.getfield 7, 3) := by decide +kernel
theorem d_Mo_deflate_102 : decode b_Mo_deflate 102 = .ok (.iload 4, 2) := by decide +kernel
theorem d_Mo_deflate_104 : decode b_Mo_deflate 104 = .ok (.iaload, 1) := by decide +kernel
theorem d_Mo_deflate_105 : decode b_Mo_deflate 105 = .ok (.iconst 1, 1) := by decide +kernel
theorem d_Mo_deflate_106 : decode b_Mo_deflate 106 = .ok (.if_icmp .ne 16, 3) := by decide +kernel
theorem d_Mo_deflate_109 : decode b_Mo_deflate 109 = .ok (.aload_n 0, 1) := by decide +kernel
theorem d_Mo_deflate_110 : decode b_Mo_deflate 110 = .ok (.getfield 22, 3) := by decide +kernel
theorem d_Mo_deflate_113 : decode b_Mo_deflate 113 = .ok (.iload 4, 2) := by decide +kernel
theorem d_Mo_deflate_115 : decode b_Mo_deflate 115 = .ok (.baload, 1) := by decide +kernel
theorem d_Mo_deflate_116 : decode b_Mo_deflate 116 = .ok (.ifCond .eq 6, 3) := by decide +kernel
theorem d_Mo_deflate_119 : decode b_Mo_deflate 119 = .ok (.goto 111, 3) := by decide +kernel
theorem d_Mo_deflate_122 : decode b_Mo_deflate 122 = .ok (.aload_n 0, 1) := by decide +kernel
theorem d_Mo_deflate_123 : decode b_Mo_deflate 123 = .ok (.getfield 7, 3) := by decide +kernel
theorem d_Mo_deflate_126 : decode b_Mo_deflate 126 = .ok (.iload 4, 2) := by decide +kernel
theorem d_Mo_deflate_128 : decode b_Mo_deflate 128 = .ok (.iaload, 1) := by decide +kernel
theorem d_Mo_deflate_129 : decode b_Mo_deflate 129 = .ok (.ifCond .ne 42, 3) := by decide +kernel
theorem d_Mo_deflate_132 : decode b_Mo_deflate 132 = .ok (.iload_n 1, 1) := by decide +kernel
theorem d_Mo_deflate_133 : decode b_Mo_deflate 133 = .ok (.ifCond .eq 33, 3) := by decide +kernel
theorem d_Mo_deflate_136 : decode b_Mo_deflate 136 = .ok (.aload_n 0, 1) := by decide +kernel
theorem d_Mo_deflate_137 : decode b_Mo_deflate 137 = .ok (.iconst 0, 1) := by decide +kernel
theorem d_Mo_deflate_138 : decode b_Mo_deflate 138 = .ok (.aload_n 0, 1) := by decide +kernel
theorem d_Mo_deflate_139 : decode b_Mo_deflate 139 = .ok (.iload_n 3, 1) := by decide +kernel
theorem d_Mo_deflate_140 : decode b_Mo_deflate 140 = .ok (.iconst 2, 1) := by decide +kernel
theorem d_Mo_deflate_141 : decode b_Mo_deflate 141 = .ok (.invokevirtual 118, 3) := by decide +kernel
theorem d_Mo_deflate_144 : decode b_Mo_deflate 144 = .ok (.aload_n 0, 1) := by decide +kernel
theorem d_Mo_deflate_145 : decode b_Mo_deflate 145 = .ok (.iload_n 2, 1) := by decide +kernel
theorem d_Mo_deflate_146 : decode b_Mo_deflate 146 = .ok (.iconst 2, 1) := by decide +kernel
theorem d_Mo_deflate_147 : decode b_Mo_deflate 147 = .ok (.invokevirtual 118, 3) := by decide +kernel
theorem d_Mo_deflate_150 : decode b_Mo_deflate 150 = .ok (.aload_n 0, 1) := by decide +kernel
theorem d_Mo_deflate_151 : decode b_Mo_deflate 151 = .ok (.iload_n 2, 1) := by decide +kernel
theorem d_Mo_deflate_152 : decode b_Mo_deflate 152 = .ok (.iconst 0, 1) := by decide +kernel
theorem d_Mo_deflate_153 : decode b_Mo_deflate 153 = .ok (.invokevirtual 118, 3) := by decide +kernel
theorem d_Mo_deflate_156 : decode b_Mo_deflate 156 = .ok (.invokevirtual 215, 3) := by decide +kernel
theorem d_Mo_deflate_159 : decode b_Mo_deflate 159 = .ok (.ifCond .eq 7, 3) := by decide +kernel
theorem d_Mo_deflate_162 : decode b_Mo_deflate 162 = .ok (.iconst 1, 1) := by decide +kernel
theorem d_Mo_deflate_163 : decode b_Mo_deflate 163 = .ok (.goto 4, 3) := by decide +kernel
theorem d_Mo_deflate_166 : decode b_Mo_deflate 166 = .ok (.iconst 0, 1) := by decide +kernel
theorem d_Mo_deflate_167 : decode b_Mo_deflate 167 = .ok (.istore_n 1, 1) := by decide +kernel
theorem d_Mo_deflate_168 : decode b_Mo_deflate 168 = .ok (.goto 48, 3) := by decide +kernel
theorem d_Mo_deflate_171 : decode b_Mo_deflate 171 = .ok (.iload_n 1, 1) := by decide +kernel
theorem d_Mo_deflate_172 : decode b_Mo_deflate 172 = .ok (.ifCond .eq 34, 3) := by decide +kernel
theorem d_Mo_deflate_175 : decode b_Mo_deflate 175 = .ok (.aload_n 0, 1) := by decide +kernel
theorem d_Mo_deflate_176 : decode b_Mo_deflate 176 = .ok (.iconst 1, 1) := by decide +kernel
theorem d_Mo_deflate_177 : decode b_Mo_deflate 177 = .ok (.aload_n 0, 1) := by decide +kernel
theorem d_Mo_deflate_178 : decode b_Mo_deflate 178 = .ok (.iload_n 2, 1) := by decide +kernel
theorem d_Mo_deflate_179 : decode b_Mo_deflate 179 = .ok (.iconst 2, 1) := by decide +kernel
theorem d_Mo_deflate_180 : decode b_Mo_deflate 180 = .ok (.invokevirtual 118, 3) := by decide +kernel
theorem d_Mo_deflate_183 : decode b_Mo_deflate 183 = .ok (.aload_n 0, 1) := by decide +kernel
theorem d_Mo_deflate_184 : decode b_Mo_deflate 184 = .ok (.iload_n 3, 1) := by decide +kernel
theorem d_Mo_deflate_185 : decode b_Mo_deflate 185 = .ok (.iconst 2, 1) := by decide +kernel
theorem d_Mo_deflate_186 : decode b_Mo_deflate 186 = .ok (.invokevirtual 118, 3) := by decide +kernel
theorem d_Mo_deflate_189 : decode b_Mo_deflate 189 = .ok (.aload_n 0, 1) := by decide +kernel
theorem d_Mo_deflate_190 : decode b_Mo_deflate 190 = .ok (.iload 4, 2) := by decide +kernel
theorem d_Mo_deflate_192 : decode b_Mo_deflate 192 = .ok (.iconst 1, 1) := by decide +kernel
theorem d_Mo_deflate_193 : decode b_Mo_deflate 193 = .ok (.invokevirtual 118, 3) := by decide +kernel
theorem d_Mo_deflate_196 : decode b_Mo_deflate 196 = .ok (.invokevirtual 215, 3) := by decide +kernel
theorem d_Mo_deflate_199 : decode b_Mo_deflate 199 = .ok (.ifCond .eq 7, 3) := by decide +kernel
theorem d_Mo_deflate_202 : decode b_Mo_deflate 202 = .ok (.iconst 1, 1) := by decide +kernel
theorem d_Mo_deflate_203 : decode b_Mo_deflate 203 = .ok (.goto 4, 3) := by decide +kernel
theorem d_Mo_deflate_206 : decode b_Mo_deflate 206 = .ok (.iconst 0, 1) := by decide +kernel
theorem d_Mo_deflate_207 : decode b_Mo_deflate 207 = .ok (.istore_n 1, 1) := by decide +kernel
theorem d_Mo_deflate_208 : decode b_Mo_deflate 208 = .ok (.aload_n 0, 1) := by decide +kernel
theorem d_Mo_deflate_209 : decode b_Mo_deflate 209 = .ok (.getfield 22, 3) := by decide +kernel
theorem d_Mo_deflate_212 : decode b_Mo_deflate 212 = .ok (.iload 4, 2) := by decide +kernel
theorem d_Mo_deflate_214 : decode b_Mo_deflate 214 = .ok (.iconst 1, 1) := by decide +kernel
theorem d_Mo_deflate_215 : decode b_Mo_deflate 215 = .ok (.bastore, 1) := by decide +kernel
theorem d_Mo_deflate_216 : decode b_Mo_deflate 216 = .ok (.aload_n 0, 1) := by decide +kernel
theorem d_Mo_deflate_217 : decode b_Mo_deflate 217 = .ok (.getfield 22, 3) := by decide +kernel
theorem d_Mo_deflate_220 : decode b_Mo_deflate 220 = .ok (.iload_n 2, 1) := by decide +kernel
theorem d_Mo_deflate_221 : decode b_Mo_deflate 221 = .ok (.iconst 1, 1) := by decide +kernel
theorem d_Mo_deflate_222 : decode b_Mo_deflate 222 = .ok (.bastore, 1) := by decide +kernel
theorem d_Mo_deflate_223 : decode b_Mo_deflate 223 = .ok (.aload_n 0, 1) := by decide +kernel
theorem d_Mo_deflate_224 : decode b_Mo_deflate 224 = .ok (.getfield 22, 3) := by decide +kernel
theorem d_Mo_deflate_227 : decode b_Mo_deflate 227 = .ok (.iload_n 3, 1) := by decide +kernel
theorem d_Mo_deflate_228 : decode b_Mo_deflate 228 = .ok (.iconst 1, 1) := by decide +kernel
theorem d_Mo_deflate_229 : decode b_Mo_deflate 229 = .ok (.bastore, 1) := by decide +kernel
theorem d_Mo_deflate_230 : decode b_Mo_deflate 230 = .ok (.iinc 2 1, 3) := by decide +kernel
theorem d_Mo_deflate_233 : decode b_Mo_deflate 233 = .ok (.goto (-188), 3) := by decide +kernel
theorem d_Mo_deflate_236 : decode b_Mo_deflate 236 = .ok (.iload_n 1, 1) := by decide +kernel
theorem d_Mo_deflate_237 : decode b_Mo_deflate 237 = .ok (.ifCond .ne 5, 3) := by decide +kernel
theorem d_Mo_deflate_240 : decode b_Mo_deflate 240 = .ok (.iconst (-1), 1) := by decide +kernel
theorem d_Mo_deflate_241 : decode b_Mo_deflate 241 = .ok (.ireturn, 1) := by decide +kernel
theorem d_Mo_deflate_242 : decode b_Mo_deflate 242 = .ok (.iconst 0, 1) := by decide +kernel
theorem d_Mo_deflate_243 : decode b_Mo_deflate 243 = .ok (.istore_n 2, 1) := by decide +kernel
theorem d_Mo_deflate_244 : decode b_Mo_deflate 244 = .ok (.iconst 0, 1) := by decide +kernel
theorem d_Mo_deflate_245 : decode b_Mo_deflate 245 = .ok (.istore_n 3, 1) := by decide +kernel
theorem d_Mo_deflate_246 : decode b_Mo_deflate 246 = .ok (.iload_n 3, 1) := by decide +kernel
theorem d_Mo_deflate_247 : decode b_Mo_deflate 247 = .ok (.aload_n 0, 1) := by decide +kernel
theorem d_Mo_deflate_248 : decode b_Mo_deflate 248 = .ok (.getfield 159, 3) := by decide +kernel
theorem d_Mo_deflate_251 : decode b_Mo_deflate 251 = .ok (.if_icmp .ge 26, 3) := by decide +kernel
theorem d_Mo_deflate_254 : decode b_Mo_deflate 254 = .ok (.iload_n 2, 1) := by decide +kernel
theorem d_Mo_deflate_255 : decode b_Mo_deflate 255 = .ok (.aload_n 0, 1) := by decide +kernel
theorem d_Mo_deflate_256 : decode b_Mo_deflate 256 = .ok (.getfield 22, 3) := by decide +kernel
theorem d_Mo_deflate_259 : decode b_Mo_deflate 259 = .ok (.iload_n 3, 1) := by decide +kernel
theorem d_Mo_deflate_260 : decode b_Mo_deflate 260 = .ok (.baload, 1) := by decide +kernel
theorem d_Mo_deflate_261 : decode b_Mo_deflate 261 = .ok (.ifCond .eq 7, 3) := by decide +kernel
theorem d_Mo_deflate_264 : decode b_Mo_deflate 264 = .ok (.iconst 0, 1) := by decide +kernel
theorem d_Mo_deflate_265 : decode b_Mo_deflate 265 = .ok (.goto 4, 3) := by decide +kernel
theorem d_Mo_deflate_268 : decode b_Mo_deflate 268 = .ok (.iconst 1, 1) := by decide +kernel
theorem d_Mo_deflate_269 : decode b_Mo_deflate 269 = .ok (.iadd, 1) := by decide +kernel
theorem d_Mo_deflate_270 : decode b_Mo_deflate 270 = .ok (.istore_n 2, 1) := by decide +kernel
theorem d_Mo_deflate_271 : decode b_Mo_deflate 271 = .ok (.iinc 3 1, 3) := by decide +kernel
theorem d_Mo_deflate_274 : decode b_Mo_deflate 274 = .ok (.goto (-28), 3) := by decide +kernel
theorem d_Mo_deflate_277 : decode b_Mo_deflate 277 = .ok (.aload_n 0, 1) := by decide +kernel
theorem d_Mo_deflate_278 : decode b_Mo_deflate 278 = .ok (.invokevirtual 205, 3) := by decide +kernel
theorem d_Mo_deflate_281 : decode b_Mo_deflate 281 = .ok (.aload_n 0, 1) := by decide +kernel
theorem d_Mo_deflate_282 : decode b_Mo_deflate 282 = .ok (.dup, 1) := by decide +kernel
theorem d_Mo_deflate_283 : decode b_Mo_deflate 283 = .ok (.getfield 170, 3) := by decide +kernel
theorem d_Mo_deflate_286 : decode b_Mo_deflate 286 = .ok (.iconst 1, 1) := by decide +kernel
theorem d_Mo_deflate_287 : decode b_Mo_deflate 287 = .ok (.isub, 1) := by decide +kernel
theorem d_Mo_deflate_288 : decode b_Mo_deflate 288 = .ok (.putfield 170, 3) := by decide +kernel
theorem d_Mo_deflate_291 : decode b_Mo_deflate 291 = .ok (.iload_n 2, 1) := by decide +kernel
theorem d_Mo_deflate_292 : decode b_Mo_deflate 292 = .ok (.ireturn, 1) := by decide +kernel
theorem d_Mo_clash_0 : decode b_Mo_clash 0 = .ok (.aload_n 0, 1) := by decide +kernel
theorem d_Mo_clash_1 : decode b_Mo_clash 1 = .ok (.iconst 0, 1) := by decide +kernel
theorem d_Mo_clash_2 : decode b_Mo_clash 2 = .ok (.putfield 63, 3) := by decide +kernel
theorem d_Mo_clash_5 : decode b_Mo_clash 5 = .ok (.iconst 0, 1) := by decide +kernel
theorem d_Mo_clash_6 : decode b_Mo_clash 6 = .ok (.istore_n 1, 1) := by decide +kernel
theorem d_Mo_clash_7 : decode b_Mo_clash 7 = .ok (.iload_n 1, 1) := by decide +kernel
theorem d_Mo_clash_8 : decode b_Mo_clash 8 = .ok (.aload_n 0, 1) := by decide +kernel
theorem d_Mo_clash_9 : decode b_Mo_clash 9 = .ok (.getfield 159, 3) := by decide +kernel
theorem d_Mo_clash_12 : decode b_Mo_clash 12 = .ok (.if_icmp .ge 35, 3) := by decide +kernel
theorem d_Mo_clash_15 : decode b_Mo_clash 15 = .ok (.iconst 0, 1) := by decide +kernel
theorem d_Mo_clash_16 : decode b_Mo_clash 16 = .ok (.istore_n 2, 1) := by decide +kernel
theorem d_Mo_clash_17 : decode b_Mo_clash 17 = .ok (.iload_n 2, 1) := by decide +kernel
theorem d_Mo_clash_18 : decode b_Mo_clash 18 = .ok (.iload_n 1, 1) := by decide +kernel
theorem d_Mo_clash_19 : decode b_Mo_clash 19 = .ok (.if_icmp .ge 22, 3) := by decide +kernel
theorem d_Mo_clash_22 : decode b_Mo_clash 22 = .ok (.aload_n 0, 1) := by decide +kernel
theorem d_Mo_clash_23 : decode b_Mo_clash 23 = .ok (.iload_n 2, 1) := by decide +kernel
theorem d_Mo_clash_24 : decode b_Mo_clash 24 = .ok (.iload_n 1, 1) := by decide +kernel
theorem d_Mo_clash_25 : decode b_Mo_clash 25 = .ok (.invokevirtual 184, 3) := by decide +kernel
theorem d_Mo_clash_28 : decode b_Mo_clash 28 = .ok (.ifCond .eq 7, 3) := by decide +kernel
theorem d_Mo_clash_31 : decode b_Mo_clash 31 = .ok (.iload_n 1, 1) := by decide +kernel
theorem d_Mo_clash_32 : decode b_Mo_clash 32 = .ok (.iconst 1, 1) := by decide +kernel
theorem d_Mo_clash_33 : decode b_Mo_clash 33 = .ok (.iadd, 1) := by decide +kernel
theorem d_Mo_clash_34 : decode b_Mo_clash 34 = .ok (.ireturn, 1) := by decide +kernel
theorem d_Mo_clash_35 : decode b_Mo_clash 35 = .ok (.iinc 2 1, 3) := by decide +kernel
theorem d_Mo_clash_38 : decode b_Mo_clash 38 = .ok (.goto (-21), 3) := by decide +kernel
theorem d_Mo_clash_41 : decode b_Mo_clash 41 = .ok (.iinc 1 1, 3) := by decide +kernel
theorem d_Mo_clash_44 : decode b_Mo_clash 44 = .ok (.goto (-37), 3) := by decide +kernel
theorem d_Mo_clash_47 : decode b_Mo_clash 47 = .ok (.iconst 0, 1) := by decide +kernel
theorem d_Mo_clash_48 : decode b_Mo_clash 48 = .ok (.ireturn, 1) := by decide +kernel
theorem d_Mo_end_0 : decode b_Mo_end 0 = .ok (.iload_n 0, 1) := by decide +kernel
theorem d_Mo_end_1 : decode b_Mo_end 1 = .ok (.ifCond .ne 7, 3) := by decide +kernel
theorem d_Mo_end_4 : decode b_Mo_end 4 = .ok (.iload_n 1, 1) := by decide +kernel
theorem d_Mo_end_5 : decode b_Mo_end 5 = .ok (.goto 17, 3) := by decide +kernel
theorem d_Mo_end_8 : decode b_Mo_end 8 = .ok (.iload_n 0, 1) := by decide +kernel
theorem d_Mo_end_9 : decode b_Mo_end 9 = .ok (.iconst 1, 1) := by decide +kernel
theorem d_Mo_end_10 : decode b_Mo_end 10 = .ok (.if_icmp .ne 9, 3) := by decide +kernel
theorem d_Mo_end_13 : decode b_Mo_end 13 = .ok (.iconst 2, 1) := by decide +kernel
theorem d_Mo_end_14 : decode b_Mo_end 14 = .ok (.iload_n 1, 1) := by decide +kernel
theorem d_Mo_end_15 : decode b_Mo_end 15 = .ok (.imul, 1) := by decide +kernel
theorem d_Mo_end_16 : decode b_Mo_end 16 = .ok (.goto 6, 3) := by decide +kernel
theorem d_Mo_end_19 : decode b_Mo_end 19 = .ok (.iconst 1, 1) := by decide +kernel
theorem d_Mo_end_20 : decode b_Mo_end 20 = .ok (.iload_n 1, 1) := by decide +kernel
theorem d_Mo_end_21 : decode b_Mo_end 21 = .ok (.iadd, 1) := by decide +kernel
theorem d_Mo_end_22 : decode b_Mo_end 22 = .ok (.ireturn, 1) := by decide +kernel
theorem d_Mo_hasEdge_0 : decode b_Mo_hasEdge 0 = .ok (.iconst 0, 1) := by decide +kernel
theorem d_Mo_hasEdge_1 : decode b_Mo_hasEdge 1 = .ok (.istore 4, 2) := by decide +kernel
theorem d_Mo_hasEdge_3 : decode b_Mo_hasEdge 3 = .ok (.iload 4, 2) := by decide +kernel
theorem d_Mo_hasEdge_5 : decode b_Mo_hasEdge 5 = .ok (.iconst 3, 1) := by decide +kernel
theorem d_Mo_hasEdge_6 : decode b_Mo_hasEdge 6 = .ok (.if_icmp .ge 77, 3) := by decide +kernel
theorem d_Mo_hasEdge_9 : decode b_Mo_hasEdge 9 = .ok (.aload_n 0, 1) := by decide +kernel
theorem d_Mo_hasEdge_10 : decode b_Mo_hasEdge 10 = .ok (.iload_n 1, 1) := by decide +kernel
theorem d_Mo_hasEdge_11 : decode b_Mo_hasEdge 11 = .ok (.iload 4, 2) := by decide +kernel
theorem d_Mo_hasEdge_13 : decode b_Mo_hasEdge 13 = .ok (.iconst 0, 1) := by decide +kernel
theorem d_Mo_hasEdge_14 : decode b_Mo_hasEdge 14 = .ok (.invokestatic 218, 3) := by decide +kernel
theorem d_Mo_hasEdge_17 : decode b_Mo_hasEdge 17 = .ok (.invokevirtual 118, 3) := by decide +kernel
theorem d_Mo_hasEdge_20 : decode b_Mo_hasEdge 20 = .ok (.istore 5, 2) := by decide +kernel
theorem d_Mo_hasEdge_22 : decode b_Mo_hasEdge 22 = .ok (.aload_n 0, 1) := by decide +kernel
theorem d_Mo_hasEdge_23 : decode b_Mo_hasEdge 23 = .ok (.iload_n 1, 1) := by decide +kernel
theorem d_Mo_hasEdge_24 : decode b_Mo_hasEdge 24 = .ok (.iload 4, 2) := by decide +kernel
theorem d_Mo_hasEdge_26 : decode b_Mo_hasEdge 26 = .ok (.iconst 1, 1) := by decide +kernel
theorem d_Mo_hasEdge_27 : decode b_Mo_hasEdge 27 = .ok (.invokestatic 218, 3) := by decide +kernel
theorem d_Mo_hasEdge_30 : decode b_Mo_hasEdge 30 = .ok (.invokevirtual 118, 3) := by decide +kernel
theorem d_Mo_hasEdge_33 : decode b_Mo_hasEdge 33 = .ok (.istore 6, 2) := by decide +kernel
theorem d_Mo_hasEdge_35 : decode b_Mo_hasEdge 35 = .ok (.aload_n 0, 1) := by decide +kernel
theorem d_Mo_hasEdge_36 : decode b_Mo_hasEdge 36 = .ok (.iload 5, 2) := by decide +kernel
theorem d_Mo_hasEdge_38 : decode b_Mo_hasEdge 38 = .ok (.iload_n 2, 1) := by decide +kernel
theorem d_Mo_hasEdge_39 : decode b_Mo_hasEdge 39 = .ok (.invokevirtual 134, 3) := by decide +kernel
theorem d_Mo_hasEdge_42 : decode b_Mo_hasEdge 42 = .ok (.ifCond .eq 13, 3) := by decide +kernel
theorem d_Mo_hasEdge_45 : decode b_Mo_hasEdge 45 = .ok (.aload_n 0, 1) := by decide +kernel
theorem d_Mo_hasEdge_46 : decode b_Mo_hasEdge 46 = .ok (.iload 6, 2) := by decide +kernel
theorem d_Mo_hasEdge_48 : decode b_Mo_hasEdge 48 = .ok (.iload_n 3, 1) := by decide +kernel
theorem d_Mo_hasEdge_49 : decode b_Mo_hasEdge 49 = .ok (.invokevirtual 134, 3) := by decide +kernel
theorem d_Mo_hasEdge_52 : decode b_Mo_hasEdge 52 = .ok (.ifCond .ne 23, 3) := by decide +kernel
theorem d_Mo_hasEdge_55 : decode b_Mo_hasEdge 55 = .ok (.aload_n 0, 1) := by decide +kernel
theorem d_Mo_hasEdge_56 : decode b_Mo_hasEdge 56 = .ok (.iload 5, 2) := by decide +kernel
theorem d_Mo_hasEdge_58 : decode b_Mo_hasEdge 58 = .ok (.iload_n 3, 1) := by decide +kernel
theorem d_Mo_hasEdge_59 : decode b_Mo_hasEdge 59 = .ok (.invokevirtual 134, 3) := by decide +kernel
theorem d_Mo_hasEdge_62 : decode b_Mo_hasEdge 62 = .ok (.ifCond .eq 15, 3) := by decide +kernel
theorem d_Mo_hasEdge_65 : decode b_Mo_hasEdge 65 = .ok (.aload_n 0, 1) := by decide +kernel
theorem d_Mo_hasEdge_66 : decode b_Mo_hasEdge 66 = .ok (.iload 6, 2) := by decide +kernel
theorem d_Mo_hasEdge_68 : decode b_Mo_hasEdge 68 = .ok (.iload_n 2, 1) := by decide +kernel
theorem d_Mo_hasEdge_69 : decode b_Mo_hasEdge 69 = .ok (.invokevirtual 134, 3) := by decide +kernel
theorem d_Mo_hasEdge_72 : decode b_Mo_hasEdge 72 = .ok (.ifCond .eq 5, 3) := by decide +kernel
theorem d_Mo_hasEdge_75 : decode b_Mo_hasEdge 75 = .ok (.iconst 1, 1) := by decide +kernel
theorem d_Mo_hasEdge_76 : decode b_Mo_hasEdge 76 = .ok (.ireturn, 1) := by decide +kernel
theorem d_Mo_hasEdge_77 : decode b_Mo_hasEdge 77 = .ok (.iinc 4 1, 3) := by decide +kernel
theorem d_Mo_hasEdge_80 : decode b_Mo_hasEdge 80 = .ok (.goto (-77), 3) := by decide +kernel
theorem d_Mo_hasEdge_83 : decode b_Mo_hasEdge 83 = .ok (.iconst 0, 1) := by decide +kernel
theorem d_Mo_hasEdge_84 : decode b_Mo_hasEdge 84 = .ok (.ireturn, 1) := by decide +kernel
theorem d_Mo_edges_0 : decode b_Mo_edges 0 = .ok (.iconst 0, 1) := by decide +kernel
theorem d_Mo_edges_1 : decode b_Mo_edges 1 = .ok (.istore_n 1, 1) := by decide +kernel
theorem d_Mo_edges_2 : decode b_Mo_edges 2 = .ok (.iconst 0, 1) := by decide +kernel
theorem d_Mo_edges_3 : decode b_Mo_edges 3 = .ok (.istore_n 2, 1) := by decide +kernel
theorem d_Mo_edges_4 : decode b_Mo_edges 4 = .ok (.iload_n 2, 1) := by decide +kernel
theorem d_Mo_edges_5 : decode b_Mo_edges 5 = .ok (.aload_n 0, 1) := by decide +kernel
theorem d_Mo_edges_6 : decode b_Mo_edges 6 = .ok (.getfield 159, 3) := by decide +kernel
theorem d_Mo_edges_9 : decode b_Mo_edges 9 = .ok (.if_icmp .ge 103, 3) := by decide +kernel
theorem d_Mo_edges_12 : decode b_Mo_edges 12 = .ok (.iconst 0, 1) := by decide +kernel
theorem d_Mo_edges_13 : decode b_Mo_edges 13 = .ok (.istore_n 3, 1) := by decide +kernel
theorem d_Mo_edges_14 : decode b_Mo_edges 14 = .ok (.iload_n 3, 1) := by decide +kernel
theorem d_Mo_edges_15 : decode b_Mo_edges 15 = .ok (.iconst 3, 1) := by decide +kernel
theorem d_Mo_edges_16 : decode b_Mo_edges 16 = .ok (.if_icmp .ge 90, 3) := by decide +kernel
theorem d_Mo_edges_19 : decode b_Mo_edges 19 = .ok (.iconst 1, 1) := by decide +kernel
theorem d_Mo_edges_20 : decode b_Mo_edges 20 = .ok (.istore 4, 2) := by decide +kernel
theorem d_Mo_edges_22 : decode b_Mo_edges 22 = .ok (.iconst 0, 1) := by decide +kernel
theorem d_Mo_edges_23 : decode b_Mo_edges 23 = .ok (.istore 5, 2) := by decide +kernel
theorem d_Mo_edges_25 : decode b_Mo_edges 25 = .ok (.iload 5, 2) := by decide +kernel
theorem d_Mo_edges_27 : decode b_Mo_edges 27 = .ok (.aload_n 0, 1) := by decide +kernel
theorem d_Mo_edges_28 : decode b_Mo_edges 28 = .ok (.getfield 159, 3) := by decide +kernel
theorem d_Mo_edges_31 : decode b_Mo_edges 31 = .ok (.if_icmp .ge 56, 3) := by decide +kernel
theorem d_Mo_edges_34 : decode b_Mo_edges 34 = .ok (.iload 4, 2) := by decide +kernel
theorem d_Mo_edges_36 : decode b_Mo_edges 36 = .ok (.ifCond .eq 51, 3) := by decide +kernel
theorem d_Mo_edges_39 : decode b_Mo_edges 39 = .ok (.iload 5, 2) := by decide +kernel
theorem d_Mo_edges_41 : decode b_Mo_edges 41 = .ok (.iload_n 2, 1) := by decide +kernel
theorem d_Mo_edges_42 : decode b_Mo_edges 42 = .ok (.if_icmp .eq 32, 3) := by decide +kernel
theorem d_Mo_edges_45 : decode b_Mo_edges 45 = .ok (.aload_n 0, 1) := by decide +kernel
theorem d_Mo_edges_46 : decode b_Mo_edges 46 = .ok (.iload 5, 2) := by decide +kernel
theorem d_Mo_edges_48 : decode b_Mo_edges 48 = .ok (.aload_n 0, 1) := by decide +kernel
theorem d_Mo_edges_49 : decode b_Mo_edges 49 = .ok (.iload_n 2, 1) := by decide +kernel
theorem d_Mo_edges_50 : decode b_Mo_edges 50 = .ok (.iload_n 3, 1) := by decide +kernel
theorem d_Mo_edges_51 : decode b_Mo_edges 51 = .ok (.iconst 0, 1) := by decide +kernel
theorem d_Mo_edges_52 : decode b_Mo_edges 52 = .ok (.invokestatic 218, 3) := by decide +kernel
theorem d_Mo_edges_55 : decode b_Mo_edges 55 = .ok (.invokevirtual 118, 3) := by decide +kernel
theorem d_Mo_edges_58 : decode b_Mo_edges 58 = .ok (.aload_n 0, 1) := by decide +kernel
theorem d_Mo_edges_59 : decode b_Mo_edges 59 = .ok (.iload_n 2, 1) := by decide +kernel
theorem d_Mo_edges_60 : decode b_Mo_edges 60 = .ok (.iload_n 3, 1) := by decide +kernel
theorem d_Mo_edges_61 : decode b_Mo_edges 61 = .ok (.iconst 1, 1) := by decide +kernel
theorem d_Mo_edges_62 : decode b_Mo_edges 62 = .ok (.invokestatic 218, 3) := by decide +kernel
theorem d_Mo_edges_65 : decode b_Mo_edges 65 = .ok (.invokevirtual 118, 3) := by decide +kernel
theorem d_Mo_edges_68 : decode b_Mo_edges 68 = .ok (.invokevirtual 221, 3) := by decide +kernel
theorem d_Mo_edges_71 : decode b_Mo_edges 71 = .ok (.ifCond .ne 7, 3) := by decide +kernel
theorem d_Mo_edges_74 : decode b_Mo_edges 74 = .ok (.iconst 1, 1) := by decide +kernel
theorem d_Mo_edges_75 : decode b_Mo_edges 75 = .ok (.goto 4, 3) := by decide +kernel
theorem d_Mo_edges_78 : decode b_Mo_edges 78 = .ok (.iconst 0, 1) := by decide +kernel
theorem d_Mo_edges_79 : decode b_Mo_edges 79 = .ok (.istore 4, 2) := by decide +kernel
theorem d_Mo_edges_81 : decode b_Mo_edges 81 = .ok (.iinc 5 1, 3) := by decide +kernel
theorem d_Mo_edges_84 : decode b_Mo_edges 84 = .ok (.goto (-59), 3) := by decide +kernel
theorem d_Mo_edges_87 : decode b_Mo_edges 87 = .ok (.iload_n 1, 1) := by decide +kernel
theorem d_Mo_edges_88 : decode b_Mo_edges 88 = .ok (.iload 4, 2) := by decide +kernel
theorem d_Mo_edges_90 : decode b_Mo_edges 90 = .ok (.ifCond .eq 7, 3) := by decide +kernel
theorem d_Mo_edges_93 : decode b_Mo_edges 93 = .ok (.iconst 1, 1) := by decide +kernel
theorem d_Mo_edges_94 : decode b_Mo_edges 94 = .ok (.goto 4, 3) := by decide +kernel
theorem d_Mo_edges_97 : decode b_Mo_edges 97 = .ok (.iconst 0, 1) := by decide +kernel
theorem d_Mo_edges_98 : decode b_Mo_edges 98 = .ok (.iadd, 1) := by decide +kernel
theorem d_Mo_edges_99 : decode b_Mo_edges 99 = .ok (.istore_n 1, 1) := by decide +kernel
theorem d_Mo_edges_100 : decode b_Mo_edges 100 = .ok (.iinc 3 1, 3) := by decide +kernel
theorem d_Mo_edges_103 : decode b_Mo_edges 103 = .ok (.goto (-89), 3) := by decide +kernel
theorem d_Mo_edges_106 : decode b_Mo_edges 106 = .ok (.iinc 2 1, 3) := by decide +kernel
theorem d_Mo_edges_109 : decode b_Mo_edges 109 = .ok (.goto (-105), 3) := by decide +kernel
theorem d_Mo_edges_112 : decode b_Mo_edges 112 = .ok (.iload_n 1, 1) := by decide +kernel
theorem d_Mo_edges_113 : decode b_Mo_edges 113 = .ok (.ireturn, 1) := by decide +kernel
theorem d_Mo_points_0 : decode b_Mo_points 0 = .ok (.iconst 0, 1) := by decide +kernel
theorem d_Mo_points_1 : decode b_Mo_points 1 = .ok (.istore_n 1, 1) := by decide +kernel
theorem d_Mo_points_2 : decode b_Mo_points 2 = .ok (.iconst 0, 1) := by decide +kernel
theorem d_Mo_points_3 : decode b_Mo_points 3 = .ok (.istore_n 2, 1) := by decide +kernel
theorem d_Mo_points_4 : decode b_Mo_points 4 = .ok (.iload_n 2, 1) := by decide +kernel
theorem d_Mo_points_5 : decode b_Mo_points 5 = .ok (.iconst 3, 1) := by decide +kernel
theorem d_Mo_points_6 : decode b_Mo_points 6 = .ok (.aload_n 0, 1) := by decide +kernel
theorem d_Mo_points_7 : decode b_Mo_points 7 = .ok (.getfield 159, 3) := by decide +kernel
theorem d_Mo_points_10 : decode b_Mo_points 10 = .ok (.imul, 1) := by decide +kernel
theorem d_Mo_points_11 : decode b_Mo_points 11 = .ok (.if_icmp .ge 62, 3) := by decide +kernel
theorem d_Mo_points_14 : decode b_Mo_points 14 = .ok (.iconst 1, 1) := by decide +kernel
theorem d_Mo_points_15 : decode b_Mo_points 15 = .ok (.istore_n 3, 1) := by decide +kernel
theorem d_Mo_points_16 : decode b_Mo_points 16 = .ok (.iconst 0, 1) := by decide +kernel
theorem d_Mo_points_17 : decode b_Mo_points 17 = .ok (.istore 4, 2) := by decide +kernel
theorem d_Mo_points_19 : decode b_Mo_points 19 = .ok (.iload 4, 2) := by decide +kernel
theorem d_Mo_points_21 : decode b_Mo_points 21 = .ok (.iload_n 2, 1) := by decide +kernel
theorem d_Mo_points_22 : decode b_Mo_points 22 = .ok (.if_icmp .ge 33, 3) := by decide +kernel
theorem d_Mo_points_25 : decode b_Mo_points 25 = .ok (.iload_n 3, 1) := by decide +kernel
theorem d_Mo_points_26 : decode b_Mo_points 26 = .ok (.ifCond .eq 29, 3) := by decide +kernel
theorem d_Mo_points_29 : decode b_Mo_points 29 = .ok (.aload_n 0, 1) := by decide +kernel
theorem d_Mo_points_30 : decode b_Mo_points 30 = .ok (.iconst 4, 1) := by decide +kernel
theorem d_Mo_points_31 : decode b_Mo_points 31 = .ok (.iload 4, 2) := by decide +kernel
theorem d_Mo_points_33 : decode b_Mo_points 33 = .ok (.imul, 1) := by decide +kernel
theorem d_Mo_points_34 : decode b_Mo_points 34 = .ok (.iconst 4, 1) := by decide +kernel
theorem d_Mo_points_35 : decode b_Mo_points 35 = .ok (.iload_n 2, 1) := by decide +kernel
theorem d_Mo_points_36 : decode b_Mo_points 36 = .ok (.imul, 1) := by decide +kernel
theorem d_Mo_points_37 : decode b_Mo_points 37 = .ok (.invokevirtual 134, 3) := by decide +kernel
theorem d_Mo_points_40 : decode b_Mo_points 40 = .ok (.ifCond .ne 7, 3) := by decide +kernel
theorem d_Mo_points_43 : decode b_Mo_points 43 = .ok (.iconst 1, 1) := by decide +kernel
theorem d_Mo_points_44 : decode b_Mo_points 44 = .ok (.goto 4, 3) := by decide +kernel
theorem d_Mo_points_47 : decode b_Mo_points 47 = .ok (.iconst 0, 1) := by decide +kernel
theorem d_Mo_points_48 : decode b_Mo_points 48 = .ok (.istore_n 3, 1) := by decide +kernel
theorem d_Mo_points_49 : decode b_Mo_points 49 = .ok (.iinc 4 1, 3) := by decide +kernel
theorem d_Mo_points_52 : decode b_Mo_points 52 = .ok (.goto (-33), 3) := by decide +kernel
theorem d_Mo_points_55 : decode b_Mo_points 55 = .ok (.iload_n 1, 1) := by decide +kernel
theorem d_Mo_points_56 : decode b_Mo_points 56 = .ok (.iload_n 3, 1) := by decide +kernel
theorem d_Mo_points_57 : decode b_Mo_points 57 = .ok (.ifCond .eq 7, 3) := by decide +kernel
theorem d_Mo_points_60 : decode b_Mo_points 60 = .ok (.iconst 1, 1) := by decide +kernel
theorem d_Mo_points_61 : decode b_Mo_points 61 = .ok (.goto 4, 3) := by decide +kernel
theorem d_Mo_points_64 : decode b_Mo_points 64 = .ok (.iconst 0, 1) := by decide +kernel
theorem d_Mo_points_65 : decode b_Mo_points 65 = .ok (.iadd, 1) := by decide +kernel
theorem d_Mo_points_66 : decode b_Mo_points 66 = .ok (.istore_n 1, 1) := by decide +kernel
theorem d_Mo_points_67 : decode b_Mo_points 67 = .ok (.iinc 2 1, 3) := by decide +kernel
theorem d_Mo_points_70 : decode b_Mo_points 70 = .ok (.goto (-66), 3) := by decide +kernel
theorem d_Mo_points_73 : decode b_Mo_points 73 = .ok (.iload_n 1, 1) := by decide +kernel
theorem d_Mo_points_74 : decode b_Mo_points 74 = .ok (.ireturn, 1) := by decide +kernel
theorem d_Mo_wholes_0 : decode b_Mo_wholes 0 = .ok (.iconst 0, 1) := by decide +kernel
theorem d_Mo_wholes_1 : decode b_Mo_wholes 1 = .ok (.istore_n 1, 1) := by decide +kernel
theorem d_Mo_wholes_2 : decode b_Mo_wholes 2 = .ok (.iconst 0, 1) := by decide +kernel
theorem d_Mo_wholes_3 : decode b_Mo_wholes 3 = .ok (.istore_n 2, 1) := by decide +kernel
theorem d_Mo_wholes_4 : decode b_Mo_wholes 4 = .ok (.iload_n 2, 1) := by decide +kernel
theorem d_Mo_wholes_5 : decode b_Mo_wholes 5 = .ok (.aload_n 0, 1) := by decide +kernel
theorem d_Mo_wholes_6 : decode b_Mo_wholes 6 = .ok (.getfield 159, 3) := by decide +kernel
theorem d_Mo_wholes_9 : decode b_Mo_wholes 9 = .ok (.if_icmp .ge 113, 3) := by decide +kernel
theorem d_Mo_wholes_12 : decode b_Mo_wholes 12 = .ok (.iconst 0, 1) := by decide +kernel
theorem d_Mo_wholes_13 : decode b_Mo_wholes 13 = .ok (.istore_n 3, 1) := by decide +kernel
theorem d_Mo_wholes_14 : decode b_Mo_wholes 14 = .ok (.iconst 0, 1) := by decide +kernel
theorem d_Mo_wholes_15 : decode b_Mo_wholes 15 = .ok (.istore 4, 2) := by decide +kernel
theorem d_Mo_wholes_17 : decode b_Mo_wholes 17 = .ok (.iload 4, 2) := by decide +kernel
theorem d_Mo_wholes_19 : decode b_Mo_wholes 19 = .ok (.aload_n 0, 1) := by decide +kernel
theorem d_Mo_wholes_20 : decode b_Mo_wholes 20 = .ok (.getfield 159, 3) := by decide +kernel
theorem d_Mo_wholes_23 : decode b_Mo_wholes 23 = .ok (.if_icmp .ge 81, 3) := by decide +kernel
theorem d_Mo_wholes_26 : decode b_Mo_wholes 26 = .ok (.iload_n 3, 1) := by decide +kernel
theorem d_Mo_wholes_27 : decode b_Mo_wholes 27 = .ok (.ifCond .ne 77, 3) := by decide +kernel
theorem d_Mo_wholes_30 : decode b_Mo_wholes 30 = .ok (.iload 4, 2) := by decide +kernel
theorem d_Mo_wholes_32 : decode b_Mo_wholes 32 = .ok (.iload_n 2, 1) := by decide +kernel
theorem d_Mo_wholes_33 : decode b_Mo_wholes 33 = .ok (.if_icmp .eq 63, 3) := by decide +kernel
theorem d_Mo_wholes_36 : decode b_Mo_wholes 36 = .ok (.aload_n 0, 1) := by decide +kernel
theorem d_Mo_wholes_37 : decode b_Mo_wholes 37 = .ok (.getfield 7, 3) := by decide +kernel
theorem d_Mo_wholes_40 : decode b_Mo_wholes 40 = .ok (.iload 4, 2) := by decide +kernel
theorem d_Mo_wholes_42 : decode b_Mo_wholes 42 = .ok (.iaload, 1) := by decide +kernel
theorem d_Mo_wholes_43 : decode b_Mo_wholes 43 = .ok (.aload_n 0, 1) := by decide +kernel
theorem d_Mo_wholes_44 : decode b_Mo_wholes 44 = .ok (.getfield 7, 3) := by decide +kernel
theorem d_Mo_wholes_47 : decode b_Mo_wholes 47 = .ok (.iload_n 2, 1) := by decide +kernel
theorem d_Mo_wholes_48 : decode b_Mo_wholes 48 = .ok (.iaload, 1) := by decide +kernel
theorem d_Mo_wholes_49 : decode b_Mo_wholes 49 = .ok (.if_icmp .ne 47, 3) := by decide +kernel
theorem d_Mo_wholes_52 : decode b_Mo_wholes 52 = .ok (.aload_n 0, 1) := by decide +kernel
theorem d_Mo_wholes_53 : decode b_Mo_wholes 53 = .ok (.aload_n 0, 1) := by decide +kernel
theorem d_Mo_wholes_54 : decode b_Mo_wholes 54 = .ok (.iload 4, 2) := by decide +kernel
theorem d_Mo_wholes_56 : decode b_Mo_wholes 56 = .ok (.iconst 1, 1) := by decide +kernel
theorem d_Mo_wholes_57 : decode b_Mo_wholes 57 = .ok (.invokevirtual 118, 3) := by decide +kernel
theorem d_Mo_wholes_60 : decode b_Mo_wholes 60 = .ok (.aload_n 0, 1) := by decide +kernel
theorem d_Mo_wholes_61 : decode b_Mo_wholes 61 = .ok (.iload_n 2, 1) := by decide +kernel
theorem d_Mo_wholes_62 : decode b_Mo_wholes 62 = .ok (.iconst 1, 1) := by decide +kernel
theorem d_Mo_wholes_63 : decode b_Mo_wholes 63 = .ok (.invokevirtual 118, 3) := by decide +kernel
theorem d_Mo_wholes_66 : decode b_Mo_wholes 66 = .ok (.invokevirtual 134, 3) := by decide +kernel
theorem d_Mo_wholes_69 : decode b_Mo_wholes 69 = .ok (.ifCond .eq 27, 3) := by decide +kernel
theorem d_Mo_wholes_72 : decode b_Mo_wholes 72 = .ok (.aload_n 0, 1) := by decide +kernel
theorem d_Mo_wholes_73 : decode b_Mo_wholes 73 = .ok (.aload_n 0, 1) := by decide +kernel
theorem d_Mo_wholes_74 : decode b_Mo_wholes 74 = .ok (.iload 4, 2) := by decide +kernel
theorem d_Mo_wholes_76 : decode b_Mo_wholes 76 = .ok (.iconst 2, 1) := by decide +kernel
theorem d_Mo_wholes_77 : decode b_Mo_wholes 77 = .ok (.invokevirtual 118, 3) := by decide +kernel
theorem d_Mo_wholes_80 : decode b_Mo_wholes 80 = .ok (.aload_n 0, 1) := by decide +kernel
theorem d_Mo_wholes_81 : decode b_Mo_wholes 81 = .ok (.iload_n 2, 1) := by decide +kernel
theorem d_Mo_wholes_82 : decode b_Mo_wholes 82 = .ok (.iconst 2, 1) := by decide +kernel
theorem d_Mo_wholes_83 : decode b_Mo_wholes 83 = .ok (.invokevirtual 118, 3) := by decide +kernel
theorem d_Mo_wholes_86 : decode b_Mo_wholes 86 = .ok (.invokevirtual 134, 3) := by decide +kernel
theorem d_Mo_wholes_89 : decode b_Mo_wholes 89 = .ok (.ifCond .eq 7, 3) := by decide +kernel
theorem d_Mo_wholes_92 : decode b_Mo_wholes 92 = .ok (.iconst 1, 1) := by decide +kernel
theorem d_Mo_wholes_93 : decode b_Mo_wholes 93 = .ok (.goto 4, 3) := by decide +kernel
theorem d_Mo_wholes_96 : decode b_Mo_wholes 96 = .ok (.iconst 0, 1) := by decide +kernel
theorem d_Mo_wholes_97 : decode b_Mo_wholes 97 = .ok (.istore_n 3, 1) := by decide +kernel
theorem d_Mo_wholes_98 : decode b_Mo_wholes 98 = .ok (.iinc 4 1, 3) := by decide +kernel
theorem d_Mo_wholes_101 : decode b_Mo_wholes 101 = .ok (.goto (-84), 3) := by decide +kernel
theorem d_Mo_wholes_104 : decode b_Mo_wholes 104 = .ok (.iload_n 1, 1) := by decide +kernel
theorem d_Mo_wholes_105 : decode b_Mo_wholes 105 = .ok (.iload_n 3, 1) := by decide +kernel
theorem d_Mo_wholes_106 : decode b_Mo_wholes 106 = .ok (.ifCond .eq 7, 3) := by decide +kernel
theorem d_Mo_wholes_109 : decode b_Mo_wholes 109 = .ok (.iconst 1, 1) := by decide +kernel
theorem d_Mo_wholes_110 : decode b_Mo_wholes 110 = .ok (.goto 4, 3) := by decide +kernel
theorem d_Mo_wholes_113 : decode b_Mo_wholes 113 = .ok (.iconst 0, 1) := by decide +kernel
theorem d_Mo_wholes_114 : decode b_Mo_wholes 114 = .ok (.iadd, 1) := by decide +kernel
theorem d_Mo_wholes_115 : decode b_Mo_wholes 115 = .ok (.istore_n 1, 1) := by decide +kernel
theorem d_Mo_wholes_116 : decode b_Mo_wholes 116 = .ok (.iinc 2 1, 3) := by decide +kernel
theorem d_Mo_wholes_119 : decode b_Mo_wholes 119 = .ok (.goto (-115), 3) := by decide +kernel
theorem d_Mo_wholes_122 : decode b_Mo_wholes 122 = .ok (.iload_n 1, 1) := by decide +kernel
theorem d_Mo_wholes_123 : decode b_Mo_wholes 123 = .ok (.ireturn, 1) := by decide +kernel
theorem d_Mo_count_0 : decode b_Mo_count 0 = .ok (.aload_n 0, 1) := by decide +kernel
theorem d_Mo_count_1 : decode b_Mo_count 1 = .ok (.iconst 0, 1) := by decide +kernel
theorem d_Mo_count_2 : decode b_Mo_count 2 = .ok (.putfield 63, 3) := by decide +kernel
theorem d_Mo_count_5 : decode b_Mo_count 5 = .ok (.iconst 0, 1) := by decide +kernel
theorem d_Mo_count_6 : decode b_Mo_count 6 = .ok (.istore_n 2, 1) := by decide +kernel
theorem d_Mo_count_7 : decode b_Mo_count 7 = .ok (.iconst 0, 1) := by decide +kernel
theorem d_Mo_count_8 : decode b_Mo_count 8 = .ok (.istore_n 3, 1) := by decide +kernel
theorem d_Mo_count_9 : decode b_Mo_count 9 = .ok (.iload_n 3, 1) := by decide +kernel
theorem d_Mo_count_10 : decode b_Mo_count 10 = .ok (.aload_n 0, 1) := by decide +kernel
theorem d_Mo_count_11 : decode b_Mo_count 11 = .ok (.getfield 159, 3) := by decide +kernel
theorem d_Mo_count_14 : decode b_Mo_count 14 = .ok (.if_icmp .ge 26, 3) := by decide +kernel
theorem d_Mo_count_17 : decode b_Mo_count 17 = .ok (.iload_n 2, 1) := by decide +kernel
theorem d_Mo_count_18 : decode b_Mo_count 18 = .ok (.aload_n 0, 1) := by decide +kernel
theorem d_Mo_count_19 : decode b_Mo_count 19 = .ok (.getfield 7, 3) := by decide +kernel
theorem d_Mo_count_22 : decode b_Mo_count 22 = .ok (.iload_n 3, 1) := by decide +kernel
theorem d_Mo_count_23 : decode b_Mo_count 23 = .ok (.iaload, 1) := by decide +kernel
theorem d_Mo_count_24 : decode b_Mo_count 24 = .ok (.ifCond .ne 7, 3) := by decide +kernel
theorem d_Mo_count_27 : decode b_Mo_count 27 = .ok (.iconst 1, 1) := by decide +kernel
theorem d_Mo_count_28 : decode b_Mo_count 28 = .ok (.goto 4, 3) := by decide +kernel
theorem d_Mo_count_31 : decode b_Mo_count 31 = .ok (.iconst 0, 1) := by decide +kernel
theorem d_Mo_count_32 : decode b_Mo_count 32 = .ok (.iadd, 1) := by decide +kernel
theorem d_Mo_count_33 : decode b_Mo_count 33 = .ok (.istore_n 2, 1) := by decide +kernel
theorem d_Mo_count_34 : decode b_Mo_count 34 = .ok (.iinc 3 1, 3) := by decide +kernel
theorem d_Mo_count_37 : decode b_Mo_count 37 = .ok (.goto (-28), 3) := by decide +kernel
theorem d_Mo_count_40 : decode b_Mo_count 40 = .ok (.iload_n 1, 1) := by decide +kernel
theorem d_Mo_count_41 : decode b_Mo_count 41 = .ok (.tableswitch 77 0 6 #[43, 48, 50, 57, 62, 67, 72], 43) := by decide +kernel
theorem d_Mo_count_84 : decode b_Mo_count 84 = .ok (.aload_n 0, 1) := by decide +kernel
theorem d_Mo_count_85 : decode b_Mo_count 85 = .ok (.getfield 159, 3) := by decide +kernel
theorem d_Mo_count_88 : decode b_Mo_count 88 = .ok (.ireturn, 1) := by decide +kernel
theorem d_Mo_count_89 : decode b_Mo_count 89 = .ok (.iload_n 2, 1) := by decide +kernel
theorem d_Mo_count_90 : decode b_Mo_count 90 = .ok (.ireturn, 1) := by decide +kernel
theorem d_Mo_count_91 : decode b_Mo_count 91 = .ok (.aload_n 0, 1) := by decide +kernel
theorem d_Mo_count_92 : decode b_Mo_count 92 = .ok (.getfield 159, 3) := by decide +kernel
theorem d_Mo_count_95 : decode b_Mo_count 95 = .ok (.iload_n 2, 1) := by decide +kernel
theorem d_Mo_count_96 : decode b_Mo_count 96 = .ok (.isub, 1) := by decide +kernel
theorem d_Mo_count_97 : decode b_Mo_count 97 = .ok (.ireturn, 1) := by decide +kernel
theorem d_Mo_count_98 : decode b_Mo_count 98 = .ok (.aload_n 0, 1) := by decide +kernel
theorem d_Mo_count_99 : decode b_Mo_count 99 = .ok (.getfield 170, 3) := by decide +kernel
theorem d_Mo_count_102 : decode b_Mo_count 102 = .ok (.ireturn, 1) := by decide +kernel
theorem d_Mo_count_103 : decode b_Mo_count 103 = .ok (.aload_n 0, 1) := by decide +kernel
theorem d_Mo_count_104 : decode b_Mo_count 104 = .ok (.invokevirtual 224, 3) := by decide +kernel
theorem d_Mo_count_107 : decode b_Mo_count 107 = .ok (.ireturn, 1) := by decide +kernel
theorem d_Mo_count_108 : decode b_Mo_count 108 = .ok (.aload_n 0, 1) := by decide +kernel
theorem d_Mo_count_109 : decode b_Mo_count 109 = .ok (.invokevirtual 227, 3) := by decide +kernel
theorem d_Mo_count_112 : decode b_Mo_count 112 = .ok (.ireturn, 1) := by decide +kernel
theorem d_Mo_count_113 : decode b_Mo_count 113 = .ok (.aload_n 0, 1) := by decide +kernel
theorem d_Mo_count_114 : decode b_Mo_count 114 = .ok (.invokevirtual 230, 3) := by decide +kernel
theorem d_Mo_count_117 : decode b_Mo_count 117 = .ok (.ireturn, 1) := by decide +kernel
theorem d_Mo_count_118 : decode b_Mo_count 118 = .ok (.iconst (-1), 1) := by decide +kernel
theorem d_Mo_count_119 : decode b_Mo_count 119 = .ok (.ireturn, 1) := by decide +kernel
theorem d_Mo_isCorner_0 : decode b_Mo_isCorner 0 = .ok (.iload_n 1, 1) := by decide +kernel
theorem d_Mo_isCorner_1 : decode b_Mo_isCorner 1 = .ok (.ifCond .lt 24, 3) := by decide +kernel
theorem d_Mo_isCorner_4 : decode b_Mo_isCorner 4 = .ok (.iload_n 1, 1) := by decide +kernel
theorem d_Mo_isCorner_5 : decode b_Mo_isCorner 5 = .ok (.aload_n 0, 1) := by decide +kernel
theorem d_Mo_isCorner_6 : decode b_Mo_isCorner 6 = .ok (.getfield 159, 3) := by decide +kernel
theorem d_Mo_isCorner_9 : decode b_Mo_isCorner 9 = .ok (.if_icmp .ge 16, 3) := by decide +kernel
theorem d_Mo_isCorner_12 : decode b_Mo_isCorner 12 = .ok (.iload_n 2, 1) := by decide +kernel
theorem d_Mo_isCorner_13 : decode b_Mo_isCorner 13 = .ok (.ifCond .lt 12, 3) := by decide +kernel
theorem d_Mo_isCorner_16 : decode b_Mo_isCorner 16 = .ok (.iload_n 2, 1) := by decide +kernel
theorem d_Mo_isCorner_17 : decode b_Mo_isCorner 17 = .ok (.iconst 3, 1) := by decide +kernel
theorem d_Mo_isCorner_18 : decode b_Mo_isCorner 18 = .ok (.if_icmp .ge 7, 3) := by decide +kernel
theorem d_Mo_isCorner_21 : decode b_Mo_isCorner 21 = .ok (.iconst 1, 1) := by decide +kernel
theorem d_Mo_isCorner_22 : decode b_Mo_isCorner 22 = .ok (.goto 4, 3) := by decide +kernel
theorem d_Mo_isCorner_25 : decode b_Mo_isCorner 25 = .ok (.iconst 0, 1) := by decide +kernel
theorem d_Mo_isCorner_26 : decode b_Mo_isCorner 26 = .ok (.ireturn, 1) := by decide +kernel
theorem d_Mo_corner_0 : decode b_Mo_corner 0 = .ok (.aload_n 0, 1) := by decide +kernel
theorem d_Mo_corner_1 : decode b_Mo_corner 1 = .ok (.iconst 0, 1) := by decide +kernel
theorem d_Mo_corner_2 : decode b_Mo_corner 2 = .ok (.putfield 63, 3) := by decide +kernel
theorem d_Mo_corner_5 : decode b_Mo_corner 5 = .ok (.aload_n 0, 1) := by decide +kernel
theorem d_Mo_corner_6 : decode b_Mo_corner 6 = .ok (.iload_n 1, 1) := by decide +kernel
theorem d_Mo_corner_7 : decode b_Mo_corner 7 = .ok (.iload_n 2, 1) := by decide +kernel
theorem d_Mo_corner_8 : decode b_Mo_corner 8 = .ok (.invokevirtual 233, 3) := by decide +kernel
theorem d_Mo_corner_11 : decode b_Mo_corner 11 = .ok (.ifCond .eq 12, 3) := by decide +kernel
theorem d_Mo_corner_14 : decode b_Mo_corner 14 = .ok (.iload_n 3, 1) := by decide +kernel
theorem d_Mo_corner_15 : decode b_Mo_corner 15 = .ok (.ifCond .lt 8, 3) := by decide +kernel
theorem d_Mo_corner_18 : decode b_Mo_corner 18 = .ok (.iload_n 3, 1) := by decide +kernel
theorem d_Mo_corner_19 : decode b_Mo_corner 19 = .ok (.iconst 4, 1) := by decide +kernel
theorem d_Mo_corner_20 : decode b_Mo_corner 20 = .ok (.if_icmp .le 6, 3) := by decide +kernel
theorem d_Mo_corner_23 : decode b_Mo_corner 23 = .ok (.ldc 236, 2) := by decide +kernel
theorem d_Mo_corner_25 : decode b_Mo_corner 25 = .ok (.ireturn, 1) := by decide +kernel
theorem d_Mo_corner_26 : decode b_Mo_corner 26 = .ok (.iload_n 3, 1) := by decide +kernel
theorem d_Mo_corner_27 : decode b_Mo_corner 27 = .ok (.iconst 4, 1) := by decide +kernel
theorem d_Mo_corner_28 : decode b_Mo_corner 28 = .ok (.if_icmp .ne 12, 3) := by decide +kernel
theorem d_Mo_corner_31 : decode b_Mo_corner 31 = .ok (.aload_n 0, 1) := by decide +kernel
theorem d_Mo_corner_32 : decode b_Mo_corner 32 = .ok (.getfield 7, 3) := by decide +kernel
theorem d_Mo_corner_35 : decode b_Mo_corner 35 = .ok (.iload_n 1, 1) := by decide +kernel
theorem d_Mo_corner_36 : decode b_Mo_corner 36 = .ok (.iaload, 1) := by decide +kernel
theorem d_Mo_corner_37 : decode b_Mo_corner 37 = .ok (.goto 16, 3) := by decide +kernel
theorem d_Mo_corner_40 : decode b_Mo_corner 40 = .ok (.aload_n 0, 1) := by decide +kernel
theorem d_Mo_corner_41 : decode b_Mo_corner 41 = .ok (.getfield 13, 3) := by decide +kernel
theorem d_Mo_corner_44 : decode b_Mo_corner 44 = .ok (.aload_n 0, 1) := by decide +kernel
theorem d_Mo_corner_45 : decode b_Mo_corner 45 = .ok (.iload_n 1, 1) := by decide +kernel
theorem d_Mo_corner_46 : decode b_Mo_corner 46 = .ok (.iload_n 2, 1) := by decide +kernel
theorem d_Mo_corner_47 : decode b_Mo_corner 47 = .ok (.invokevirtual 118, 3) := by decide +kernel
theorem d_Mo_corner_50 : decode b_Mo_corner 50 = .ok (.iload_n 3, 1) := by decide +kernel
theorem d_Mo_corner_51 : decode b_Mo_corner 51 = .ok (.iadd, 1) := by decide +kernel
theorem d_Mo_corner_52 : decode b_Mo_corner 52 = .ok (.iaload, 1) := by decide +kernel
theorem d_Mo_corner_53 : decode b_Mo_corner 53 = .ok (.ireturn, 1) := by decide +kernel
theorem d_Mo_angle_0 : decode b_Mo_angle 0 = .ok (.iconst 0, 1) := by decide +kernel
theorem d_Mo_angle_1 : decode b_Mo_angle 1 = .ok (.istore_n 3, 1) := by decide +kernel
theorem d_Mo_angle_2 : decode b_Mo_angle 2 = .ok (.iload_n 3, 1) := by decide +kernel
theorem d_Mo_angle_3 : decode b_Mo_angle 3 = .ok (.iconst 3, 1) := by decide +kernel
theorem d_Mo_angle_4 : decode b_Mo_angle 4 = .ok (.if_icmp .ge 49, 3) := by decide +kernel
theorem d_Mo_angle_7 : decode b_Mo_angle 7 = .ok (.aload_n 0, 1) := by decide +kernel
theorem d_Mo_angle_8 : decode b_Mo_angle 8 = .ok (.aload_n 0, 1) := by decide +kernel
theorem d_Mo_angle_9 : decode b_Mo_angle 9 = .ok (.iload_n 1, 1) := by decide +kernel
theorem d_Mo_angle_10 : decode b_Mo_angle 10 = .ok (.iload_n 3, 1) := by decide +kernel
theorem d_Mo_angle_11 : decode b_Mo_angle 11 = .ok (.invokevirtual 118, 3) := by decide +kernel
theorem d_Mo_angle_14 : decode b_Mo_angle 14 = .ok (.iload_n 2, 1) := by decide +kernel
theorem d_Mo_angle_15 : decode b_Mo_angle 15 = .ok (.invokevirtual 134, 3) := by decide +kernel
theorem d_Mo_angle_18 : decode b_Mo_angle 18 = .ok (.ifCond .eq 29, 3) := by decide +kernel
theorem d_Mo_angle_21 : decode b_Mo_angle 21 = .ok (.iload_n 3, 1) := by decide +kernel
theorem d_Mo_angle_22 : decode b_Mo_angle 22 = .ok (.ifCond .ne 16, 3) := by decide +kernel
theorem d_Mo_angle_25 : decode b_Mo_angle 25 = .ok (.iconst 1, 1) := by decide +kernel
theorem d_Mo_angle_26 : decode b_Mo_angle 26 = .ok (.iconst 2, 1) := by decide +kernel
theorem d_Mo_angle_27 : decode b_Mo_angle 27 = .ok (.aload_n 0, 1) := by decide +kernel
theorem d_Mo_angle_28 : decode b_Mo_angle 28 = .ok (.getfield 7, 3) := by decide +kernel
theorem d_Mo_angle_31 : decode b_Mo_angle 31 = .ok (.iload_n 1, 1) := by decide +kernel
theorem d_Mo_angle_32 : decode b_Mo_angle 32 = .ok (.iaload, 1) := by decide +kernel
theorem d_Mo_angle_33 : decode b_Mo_angle 33 = .ok (.imul, 1) := by decide +kernel
theorem d_Mo_angle_34 : decode b_Mo_angle 34 = .ok (.iadd, 1) := by decide +kernel
theorem d_Mo_angle_35 : decode b_Mo_angle 35 = .ok (.goto 11, 3) := by decide +kernel
theorem d_Mo_angle_38 : decode b_Mo_angle 38 = .ok (.iconst 2, 1) := by decide +kernel
theorem d_Mo_angle_39 : decode b_Mo_angle 39 = .ok (.aload_n 0, 1) := by decide +kernel
theorem d_Mo_angle_40 : decode b_Mo_angle 40 = .ok (.getfield 7, 3) := by decide +kernel
theorem d_Mo_angle_43 : decode b_Mo_angle 43 = .ok (.iload_n 1, 1) := by decide +kernel
theorem d_Mo_angle_44 : decode b_Mo_angle 44 = .ok (.iaload, 1) := by decide +kernel
theorem d_Mo_angle_45 : decode b_Mo_angle 45 = .ok (.isub, 1) := by decide +kernel
theorem d_Mo_angle_46 : decode b_Mo_angle 46 = .ok (.ireturn, 1) := by decide +kernel
theorem d_Mo_angle_47 : decode b_Mo_angle 47 = .ok (.iinc 3 1, 3) := by decide +kernel
theorem d_Mo_angle_50 : decode b_Mo_angle 50 = .ok (.goto (-48), 3) := by decide +kernel
theorem d_Mo_angle_53 : decode b_Mo_angle 53 = .ok (.iconst 0, 1) := by decide +kernel
theorem d_Mo_angle_54 : decode b_Mo_angle 54 = .ok (.ireturn, 1) := by decide +kernel
theorem d_Mo_star_0 : decode b_Mo_star 0 = .ok (.aload_n 0, 1) := by decide +kernel
theorem d_Mo_star_1 : decode b_Mo_star 1 = .ok (.iconst 0, 1) := by decide +kernel
theorem d_Mo_star_2 : decode b_Mo_star 2 = .ok (.putfield 63, 3) := by decide +kernel
theorem d_Mo_star_5 : decode b_Mo_star 5 = .ok (.aload_n 0, 1) := by decide +kernel
theorem d_Mo_star_6 : decode b_Mo_star 6 = .ok (.iload_n 1, 1) := by decide +kernel
theorem d_Mo_star_7 : decode b_Mo_star 7 = .ok (.iload_n 2, 1) := by decide +kernel
theorem d_Mo_star_8 : decode b_Mo_star 8 = .ok (.invokevirtual 233, 3) := by decide +kernel
theorem d_Mo_star_11 : decode b_Mo_star 11 = .ok (.ifCond .eq 12, 3) := by decide +kernel
theorem d_Mo_star_14 : decode b_Mo_star 14 = .ok (.iload_n 3, 1) := by decide +kernel
theorem d_Mo_star_15 : decode b_Mo_star 15 = .ok (.ifCond .lt 8, 3) := by decide +kernel
theorem d_Mo_star_18 : decode b_Mo_star 18 = .ok (.iload_n 3, 1) := by decide +kernel
theorem d_Mo_star_19 : decode b_Mo_star 19 = .ok (.iconst 2, 1) := by decide +kernel
theorem d_Mo_star_20 : decode b_Mo_star 20 = .ok (.if_icmp .le 5, 3) := by decide +kernel
theorem d_Mo_star_23 : decode b_Mo_star 23 = .ok (.iconst (-1), 1) := by decide +kernel
theorem d_Mo_star_24 : decode b_Mo_star 24 = .ok (.ireturn, 1) := by decide +kernel
theorem d_Mo_star_25 : decode b_Mo_star 25 = .ok (.aload_n 0, 1) := by decide +kernel
theorem d_Mo_star_26 : decode b_Mo_star 26 = .ok (.iload_n 1, 1) := by decide +kernel
theorem d_Mo_star_27 : decode b_Mo_star 27 = .ok (.iload_n 2, 1) := by decide +kernel
theorem d_Mo_star_28 : decode b_Mo_star 28 = .ok (.invokevirtual 118, 3) := by decide +kernel
theorem d_Mo_star_31 : decode b_Mo_star 31 = .ok (.istore 4, 2) := by decide +kernel
theorem d_Mo_star_33 : decode b_Mo_star 33 = .ok (.iconst 0, 1) := by decide +kernel
theorem d_Mo_star_34 : decode b_Mo_star 34 = .ok (.istore 5, 2) := by decide +kernel
theorem d_Mo_star_36 : decode b_Mo_star 36 = .ok (.iconst 0, 1) := by decide +kernel
theorem d_Mo_star_37 : decode b_Mo_star 37 = .ok (.istore 6, 2) := by decide +kernel
theorem d_Mo_star_39 : decode b_Mo_star 39 = .ok (.iconst 1, 1) := by decide +kernel
theorem d_Mo_star_40 : decode b_Mo_star 40 = .ok (.istore 7, 2) := by decide +kernel
theorem d_Mo_star_42 : decode b_Mo_star 42 = .ok (.iconst 0, 1) := by decide +kernel
theorem d_Mo_star_43 : decode b_Mo_star 43 = .ok (.istore 8, 2) := by decide +kernel
theorem d_Mo_star_45 : decode b_Mo_star 45 = .ok (.iload 8, 2) := by decide +kernel
theorem d_Mo_star_47 : decode b_Mo_star 47 = .ok (.aload_n 0, 1) := by decide +kernel
theorem d_Mo_star_48 : decode b_Mo_star 48 = .ok (.getfield 159, 3) := by decide +kernel
theorem d_Mo_star_51 : decode b_Mo_star 51 = .ok (.if_icmp .ge 92, 3) := by decide +kernel
theorem d_Mo_star_54 : decode b_Mo_star 54 = .ok (.aload_n 0, 1) := by decide +kernel
theorem d_Mo_star_55 : decode b_Mo_star 55 = .ok (.iload 8, 2) := by decide +kernel
theorem d_Mo_star_57 : decode b_Mo_star 57 = .ok (.iload 4, 2) := by decide +kernel
theorem d_Mo_star_59 : decode b_Mo_star 59 = .ok (.invokevirtual 237, 3) := by decide +kernel
theorem d_Mo_star_62 : decode b_Mo_star 62 = .ok (.istore 9, 2) := by decide +kernel
theorem d_Mo_star_64 : decode b_Mo_star 64 = .ok (.iload 9, 2) := by decide +kernel
theorem d_Mo_star_66 : decode b_Mo_star 66 = .ok (.ifCond .ne 6, 3) := by decide +kernel
theorem d_Mo_star_69 : decode b_Mo_star 69 = .ok (.goto 68, 3) := by decide +kernel
theorem d_Mo_star_72 : decode b_Mo_star 72 = .ok (.iinc 5 1, 3) := by decide +kernel
theorem d_Mo_star_75 : decode b_Mo_star 75 = .ok (.iload 6, 2) := by decide +kernel
theorem d_Mo_star_77 : decode b_Mo_star 77 = .ok (.iload 9, 2) := by decide +kernel
theorem d_Mo_star_79 : decode b_Mo_star 79 = .ok (.iadd, 1) := by decide +kernel
theorem d_Mo_star_80 : decode b_Mo_star 80 = .ok (.istore 6, 2) := by decide +kernel
theorem d_Mo_star_82 : decode b_Mo_star 82 = .ok (.iconst 0, 1) := by decide +kernel
theorem d_Mo_star_83 : decode b_Mo_star 83 = .ok (.istore 10, 2) := by decide +kernel
theorem d_Mo_star_85 : decode b_Mo_star 85 = .ok (.iload 10, 2) := by decide +kernel
theorem d_Mo_star_87 : decode b_Mo_star 87 = .ok (.iload 8, 2) := by decide +kernel
theorem d_Mo_star_89 : decode b_Mo_star 89 = .ok (.if_icmp .ge 48, 3) := by decide +kernel
theorem d_Mo_star_92 : decode b_Mo_star 92 = .ok (.iload 7, 2) := by decide +kernel
theorem d_Mo_star_94 : decode b_Mo_star 94 = .ok (.ifCond .eq 43, 3) := by decide +kernel
theorem d_Mo_star_97 : decode b_Mo_star 97 = .ok (.iload_n 3, 1) := by decide +kernel
theorem d_Mo_star_98 : decode b_Mo_star 98 = .ok (.iconst 2, 1) := by decide +kernel
theorem d_Mo_star_99 : decode b_Mo_star 99 = .ok (.if_icmp .ne 38, 3) := by decide +kernel
theorem d_Mo_star_102 : decode b_Mo_star 102 = .ok (.aload_n 0, 1) := by decide +kernel
theorem d_Mo_star_103 : decode b_Mo_star 103 = .ok (.iload 10, 2) := by decide +kernel
theorem d_Mo_star_105 : decode b_Mo_star 105 = .ok (.iload 4, 2) := by decide +kernel
theorem d_Mo_star_107 : decode b_Mo_star 107 = .ok (.invokevirtual 237, 3) := by decide +kernel
theorem d_Mo_star_110 : decode b_Mo_star 110 = .ok (.ifCond .eq 14, 3) := by decide +kernel
theorem d_Mo_star_113 : decode b_Mo_star 113 = .ok (.aload_n 0, 1) := by decide +kernel
theorem d_Mo_star_114 : decode b_Mo_star 114 = .ok (.iload 10, 2) := by decide +kernel
theorem d_Mo_star_116 : decode b_Mo_star 116 = .ok (.iload 8, 2) := by decide +kernel
theorem d_Mo_star_118 : decode b_Mo_star 118 = .ok (.invokevirtual 184, 3) := by decide +kernel
theorem d_Mo_star_121 : decode b_Mo_star 121 = .ok (.ifCond .ne 7, 3) := by decide +kernel
theorem d_Mo_star_124 : decode b_Mo_star 124 = .ok (.iconst 1, 1) := by decide +kernel
theorem d_Mo_star_125 : decode b_Mo_star 125 = .ok (.goto 4, 3) := by decide +kernel
theorem d_Mo_star_128 : decode b_Mo_star 128 = .ok (.iconst 0, 1) := by decide +kernel
theorem d_Mo_star_129 : decode b_Mo_star 129 = .ok (.istore 7, 2) := by decide +kernel
theorem d_Mo_star_131 : decode b_Mo_star 131 = .ok (.iinc 10 1, 3) := by decide +kernel
theorem d_Mo_star_134 : decode b_Mo_star 134 = .ok (.goto (-49), 3) := by decide +kernel
theorem d_Mo_star_137 : decode b_Mo_star 137 = .ok (.iinc 8 1, 3) := by decide +kernel
theorem d_Mo_star_140 : decode b_Mo_star 140 = .ok (.goto (-95), 3) := by decide +kernel
theorem d_Mo_star_143 : decode b_Mo_star 143 = .ok (.iload_n 3, 1) := by decide +kernel
theorem d_Mo_star_144 : decode b_Mo_star 144 = .ok (.ifCond .ne 8, 3) := by decide +kernel
theorem d_Mo_star_147 : decode b_Mo_star 147 = .ok (.iload 5, 2) := by decide +kernel
theorem d_Mo_star_149 : decode b_Mo_star 149 = .ok (.goto 30, 3) := by decide +kernel
theorem d_Mo_star_152 : decode b_Mo_star 152 = .ok (.iload_n 3, 1) := by decide +kernel
theorem d_Mo_star_153 : decode b_Mo_star 153 = .ok (.iconst 1, 1) := by decide +kernel
theorem d_Mo_star_154 : decode b_Mo_star 154 = .ok (.if_icmp .ne 8, 3) := by decide +kernel
theorem d_Mo_star_157 : decode b_Mo_star 157 = .ok (.iload 6, 2) := by decide +kernel
theorem d_Mo_star_159 : decode b_Mo_star 159 = .ok (.goto 20, 3) := by decide +kernel
theorem d_Mo_star_162 : decode b_Mo_star 162 = .ok (.iload 6, 2) := by decide +kernel
theorem d_Mo_star_164 : decode b_Mo_star 164 = .ok (.bipush 10, 2) := by decide +kernel
theorem d_Mo_star_166 : decode b_Mo_star 166 = .ok (.if_icmp .ne 12, 3) := by decide +kernel
theorem d_Mo_star_169 : decode b_Mo_star 169 = .ok (.iload 7, 2) := by decide +kernel
theorem d_Mo_star_171 : decode b_Mo_star 171 = .ok (.ifCond .eq 7, 3) := by decide +kernel
theorem d_Mo_star_174 : decode b_Mo_star 174 = .ok (.iconst 1, 1) := by decide +kernel
theorem d_Mo_star_175 : decode b_Mo_star 175 = .ok (.goto 4, 3) := by decide +kernel
theorem d_Mo_star_178 : decode b_Mo_star 178 = .ok (.iconst 0, 1) := by decide +kernel
theorem d_Mo_star_179 : decode b_Mo_star 179 = .ok (.ireturn, 1) := by decide +kernel
theorem d_Mo_covers_0 : decode b_Mo_covers 0 = .ok (.iconst 0, 1) := by decide +kernel
theorem d_Mo_covers_1 : decode b_Mo_covers 1 = .ok (.istore_n 3, 1) := by decide +kernel
theorem d_Mo_covers_2 : decode b_Mo_covers 2 = .ok (.iload_n 3, 1) := by decide +kernel
theorem d_Mo_covers_3 : decode b_Mo_covers 3 = .ok (.iconst 3, 1) := by decide +kernel
theorem d_Mo_covers_4 : decode b_Mo_covers 4 = .ok (.if_icmp .ge 74, 3) := by decide +kernel
theorem d_Mo_covers_7 : decode b_Mo_covers 7 = .ok (.aload_n 0, 1) := by decide +kernel
theorem d_Mo_covers_8 : decode b_Mo_covers 8 = .ok (.iload_n 1, 1) := by decide +kernel
theorem d_Mo_covers_9 : decode b_Mo_covers 9 = .ok (.iload_n 3, 1) := by decide +kernel
theorem d_Mo_covers_10 : decode b_Mo_covers 10 = .ok (.invokevirtual 118, 3) := by decide +kernel
theorem d_Mo_covers_13 : decode b_Mo_covers 13 = .ok (.istore 4, 2) := by decide +kernel
theorem d_Mo_covers_15 : decode b_Mo_covers 15 = .ok (.aload_n 0, 1) := by decide +kernel
theorem d_Mo_covers_16 : decode b_Mo_covers 16 = .ok (.iload_n 1, 1) := by decide +kernel
theorem d_Mo_covers_17 : decode b_Mo_covers 17 = .ok (.iload_n 3, 1) := by decide +kernel
theorem d_Mo_covers_18 : decode b_Mo_covers 18 = .ok (.iconst 1, 1) := by decide +kernel
theorem d_Mo_covers_19 : decode b_Mo_covers 19 = .ok (.iadd, 1) := by decide +kernel
theorem d_Mo_covers_20 : decode b_Mo_covers 20 = .ok (.iconst 3, 1) := by decide +kernel
theorem d_Mo_covers_21 : decode b_Mo_covers 21 = .ok (.irem, 1) := by decide +kernel
theorem d_Mo_covers_22 : decode b_Mo_covers 22 = .ok (.invokevirtual 118, 3) := by decide +kernel
theorem d_Mo_covers_25 : decode b_Mo_covers 25 = .ok (.istore 5, 2) := by decide +kernel
theorem d_Mo_covers_27 : decode b_Mo_covers 27 = .ok (.aload_n 0, 1) := by decide +kernel
theorem d_Mo_covers_28 : decode b_Mo_covers 28 = .ok (.iload 4, 2) := by decide +kernel
theorem d_Mo_covers_30 : decode b_Mo_covers 30 = .ok (.iload 5, 2) := by decide +kernel
theorem d_Mo_covers_32 : decode b_Mo_covers 32 = .ok (.aload_n 0, 1) := by decide +kernel
theorem d_Mo_covers_33 : decode b_Mo_covers 33 = .ok (.iload_n 1, 1) := by decide +kernel
theorem d_Mo_covers_34 : decode b_Mo_covers 34 = .ok (.iload_n 3, 1) := by decide +kernel
theorem d_Mo_covers_35 : decode b_Mo_covers 35 = .ok (.iconst 2, 1) := by decide +kernel
theorem d_Mo_covers_36 : decode b_Mo_covers 36 = .ok (.iadd, 1) := by decide +kernel
theorem d_Mo_covers_37 : decode b_Mo_covers 37 = .ok (.iconst 3, 1) := by decide +kernel
theorem d_Mo_covers_38 : decode b_Mo_covers 38 = .ok (.irem, 1) := by decide +kernel
theorem d_Mo_covers_39 : decode b_Mo_covers 39 = .ok (.invokevirtual 118, 3) := by decide +kernel
theorem d_Mo_covers_42 : decode b_Mo_covers 42 = .ok (.invokevirtual 121, 3) := by decide +kernel
theorem d_Mo_covers_45 : decode b_Mo_covers 45 = .ok (.istore 6, 2) := by decide +kernel
theorem d_Mo_covers_47 : decode b_Mo_covers 47 = .ok (.aload_n 0, 1) := by decide +kernel
theorem d_Mo_covers_48 : decode b_Mo_covers 48 = .ok (.iload 4, 2) := by decide +kernel
theorem d_Mo_covers_50 : decode b_Mo_covers 50 = .ok (.iload 5, 2) := by decide +kernel
theorem d_Mo_covers_52 : decode b_Mo_covers 52 = .ok (.iload_n 2, 1) := by decide +kernel
theorem d_Mo_covers_53 : decode b_Mo_covers 53 = .ok (.invokevirtual 121, 3) := by decide +kernel
theorem d_Mo_covers_56 : decode b_Mo_covers 56 = .ok (.istore 7, 2) := by decide +kernel
theorem d_Mo_covers_58 : decode b_Mo_covers 58 = .ok (.iload 7, 2) := by decide +kernel
theorem d_Mo_covers_60 : decode b_Mo_covers 60 = .ok (.ifCond .eq 12, 3) := by decide +kernel
theorem d_Mo_covers_63 : decode b_Mo_covers 63 = .ok (.iload 7, 2) := by decide +kernel
theorem d_Mo_covers_65 : decode b_Mo_covers 65 = .ok (.iload 6, 2) := by decide +kernel
theorem d_Mo_covers_67 : decode b_Mo_covers 67 = .ok (.if_icmp .eq 5, 3) := by decide +kernel
theorem d_Mo_covers_70 : decode b_Mo_covers 70 = .ok (.iconst 0, 1) := by decide +kernel
theorem d_Mo_covers_71 : decode b_Mo_covers 71 = .ok (.ireturn, 1) := by decide +kernel
theorem d_Mo_covers_72 : decode b_Mo_covers 72 = .ok (.iinc 3 1, 3) := by decide +kernel
theorem d_Mo_covers_75 : decode b_Mo_covers 75 = .ok (.goto (-73), 3) := by decide +kernel
theorem d_Mo_covers_78 : decode b_Mo_covers 78 = .ok (.iconst 1, 1) := by decide +kernel
theorem d_Mo_covers_79 : decode b_Mo_covers 79 = .ok (.ireturn, 1) := by decide +kernel
theorem d_Mo_inside_0 : decode b_Mo_inside 0 = .ok (.aload_n 0, 1) := by decide +kernel
theorem d_Mo_inside_1 : decode b_Mo_inside 1 = .ok (.iconst 0, 1) := by decide +kernel
theorem d_Mo_inside_2 : decode b_Mo_inside 2 = .ok (.putfield 63, 3) := by decide +kernel
theorem d_Mo_inside_5 : decode b_Mo_inside 5 = .ok (.aload_n 0, 1) := by decide +kernel
theorem d_Mo_inside_6 : decode b_Mo_inside 6 = .ok (.getfield 48, 3) := by decide +kernel
theorem d_Mo_inside_9 : decode b_Mo_inside 9 = .ok (.iconst 0, 1) := by decide +kernel
theorem d_Mo_inside_10 : decode b_Mo_inside 10 = .ok (.iload_n 1, 1) := by decide +kernel
theorem d_Mo_inside_11 : decode b_Mo_inside 11 = .ok (.i2l, 1) := by decide +kernel
theorem d_Mo_inside_12 : decode b_Mo_inside 12 = .ok (.lastore, 1) := by decide +kernel
theorem d_Mo_inside_13 : decode b_Mo_inside 13 = .ok (.aload_n 0, 1) := by decide +kernel
theorem d_Mo_inside_14 : decode b_Mo_inside 14 = .ok (.getfield 48, 3) := by decide +kernel
theorem d_Mo_inside_17 : decode b_Mo_inside 17 = .ok (.iconst 1, 1) := by decide +kernel
theorem d_Mo_inside_18 : decode b_Mo_inside 18 = .ok (.iload_n 2, 1) := by decide +kernel
theorem d_Mo_inside_19 : decode b_Mo_inside 19 = .ok (.i2l, 1) := by decide +kernel
theorem d_Mo_inside_20 : decode b_Mo_inside 20 = .ok (.lastore, 1) := by decide +kernel
theorem d_Mo_inside_21 : decode b_Mo_inside 21 = .ok (.aload_n 0, 1) := by decide +kernel
theorem d_Mo_inside_22 : decode b_Mo_inside 22 = .ok (.getfield 48, 3) := by decide +kernel
theorem d_Mo_inside_25 : decode b_Mo_inside 25 = .ok (.iconst 2, 1) := by decide +kernel
theorem d_Mo_inside_26 : decode b_Mo_inside 26 = .ok (.iload_n 3, 1) := by decide +kernel
theorem d_Mo_inside_27 : decode b_Mo_inside 27 = .ok (.i2l, 1) := by decide +kernel
theorem d_Mo_inside_28 : decode b_Mo_inside 28 = .ok (.lastore, 1) := by decide +kernel
theorem d_Mo_inside_29 : decode b_Mo_inside 29 = .ok (.aload_n 0, 1) := by decide +kernel
theorem d_Mo_inside_30 : decode b_Mo_inside 30 = .ok (.getfield 48, 3) := by decide +kernel
theorem d_Mo_inside_33 : decode b_Mo_inside 33 = .ok (.iconst 3, 1) := by decide +kernel
theorem d_Mo_inside_34 : decode b_Mo_inside 34 = .ok (.iload 4, 2) := by decide +kernel
theorem d_Mo_inside_36 : decode b_Mo_inside 36 = .ok (.i2l, 1) := by decide +kernel
theorem d_Mo_inside_37 : decode b_Mo_inside 37 = .ok (.lastore, 1) := by decide +kernel
theorem d_Mo_inside_38 : decode b_Mo_inside 38 = .ok (.aload_n 0, 1) := by decide +kernel
theorem d_Mo_inside_39 : decode b_Mo_inside 39 = .ok (.getfield 48, 3) := by decide +kernel
theorem d_Mo_inside_42 : decode b_Mo_inside 42 = .ok (.invokestatic 180, 3) := by decide +kernel
theorem d_Mo_inside_45 : decode b_Mo_inside 45 = .ok (.ifCond .ne 5, 3) := by decide +kernel
theorem d_Mo_inside_48 : decode b_Mo_inside 48 = .ok (.iconst (-1), 1) := by decide +kernel
theorem d_Mo_inside_49 : decode b_Mo_inside 49 = .ok (.ireturn, 1) := by decide +kernel
theorem d_Mo_inside_50 : decode b_Mo_inside 50 = .ok (.sipush 4800, 3) := by decide +kernel
theorem d_Mo_inside_53 : decode b_Mo_inside 53 = .ok (.istore 5, 2) := by decide +kernel
theorem d_Mo_inside_55 : decode b_Mo_inside 55 = .ok (.aload_n 0, 1) := by decide +kernel
theorem d_Mo_inside_56 : decode b_Mo_inside 56 = .ok (.iload 5, 2) := by decide +kernel
theorem d_Mo_inside_58 : decode b_Mo_inside 58 = .ok (.aload_n 0, 1) := by decide +kernel
theorem d_Mo_inside_59 : decode b_Mo_inside 59 = .ok (.getfield 48, 3) := by decide +kernel
theorem d_Mo_inside_62 : decode b_Mo_inside 62 = .ok (.invokevirtual 162, 3) := by decide +kernel
theorem d_Mo_inside_65 : decode b_Mo_inside 65 = .ok (.iconst 0, 1) := by decide +kernel
theorem d_Mo_inside_66 : decode b_Mo_inside 66 = .ok (.istore 6, 2) := by decide +kernel
theorem d_Mo_inside_68 : decode b_Mo_inside 68 = .ok (.iload 6, 2) := by decide +kernel
theorem d_Mo_inside_70 : decode b_Mo_inside 70 = .ok (.aload_n 0, 1) := by decide +kernel
theorem d_Mo_inside_71 : decode b_Mo_inside 71 = .ok (.getfield 159, 3) := by decide +kernel
theorem d_Mo_inside_74 : decode b_Mo_inside 74 = .ok (.if_icmp .ge 23, 3) := by decide +kernel
theorem d_Mo_inside_77 : decode b_Mo_inside 77 = .ok (.aload_n 0, 1) := by decide +kernel
theorem d_Mo_inside_78 : decode b_Mo_inside 78 = .ok (.iload 6, 2) := by decide +kernel
theorem d_Mo_inside_80 : decode b_Mo_inside 80 = .ok (.iload 5, 2) := by decide +kernel
theorem d_Mo_inside_82 : decode b_Mo_inside 82 = .ok (.invokevirtual 240, 3) := by decide +kernel
theorem d_Mo_inside_85 : decode b_Mo_inside 85 = .ok (.ifCond .eq 6, 3) := by decide +kernel
theorem d_Mo_inside_88 : decode b_Mo_inside 88 = .ok (.iload 6, 2) := by decide +kernel
theorem d_Mo_inside_90 : decode b_Mo_inside 90 = .ok (.ireturn, 1) := by decide +kernel
theorem d_Mo_inside_91 : decode b_Mo_inside 91 = .ok (.iinc 6 1, 3) := by decide +kernel
theorem d_Mo_inside_94 : decode b_Mo_inside 94 = .ok (.goto (-26), 3) := by decide +kernel
theorem d_Mo_inside_97 : decode b_Mo_inside 97 = .ok (.iconst (-1), 1) := by decide +kernel
theorem d_Mo_inside_98 : decode b_Mo_inside 98 = .ok (.ireturn, 1) := by decide +kernel
theorem d_Mo_isBelow_0 : decode b_Mo_isBelow 0 = .ok (.aload_n 0, 1) := by decide +kernel
theorem d_Mo_isBelow_1 : decode b_Mo_isBelow 1 = .ok (.lload 4, 2) := by decide +kernel
theorem d_Mo_isBelow_3 : decode b_Mo_isBelow 3 = .ok (.lload 6, 2) := by decide +kernel
theorem d_Mo_isBelow_5 : decode b_Mo_isBelow 5 = .ok (.invokevirtual 107, 3) := by decide +kernel
theorem d_Mo_isBelow_8 : decode b_Mo_isBelow 8 = .ok (.istore 8, 2) := by decide +kernel
theorem d_Mo_isBelow_10 : decode b_Mo_isBelow 10 = .ok (.iload 8, 2) := by decide +kernel
theorem d_Mo_isBelow_12 : decode b_Mo_isBelow 12 = .ok (.ifCond .ne 15, 3) := by decide +kernel
theorem d_Mo_isBelow_15 : decode b_Mo_isBelow 15 = .ok (.lload_n 1, 1) := by decide +kernel
theorem d_Mo_isBelow_16 : decode b_Mo_isBelow 16 = .ok (.lconst 0, 1) := by decide +kernel
theorem d_Mo_isBelow_17 : decode b_Mo_isBelow 17 = .ok (.lcmp, 1) := by decide +kernel
theorem d_Mo_isBelow_18 : decode b_Mo_isBelow 18 = .ok (.ifCond .ge 7, 3) := by decide +kernel
theorem d_Mo_isBelow_21 : decode b_Mo_isBelow 21 = .ok (.iconst 1, 1) := by decide +kernel
theorem d_Mo_isBelow_22 : decode b_Mo_isBelow 22 = .ok (.goto 4, 3) := by decide +kernel
theorem d_Mo_isBelow_25 : decode b_Mo_isBelow 25 = .ok (.iconst 0, 1) := by decide +kernel
theorem d_Mo_isBelow_26 : decode b_Mo_isBelow 26 = .ok (.ireturn, 1) := by decide +kernel
theorem d_Mo_isBelow_27 : decode b_Mo_isBelow 27 = .ok (.lload_n 1, 1) := by decide +kernel
theorem d_Mo_isBelow_28 : decode b_Mo_isBelow 28 = .ok (.lconst 0, 1) := by decide +kernel
theorem d_Mo_isBelow_29 : decode b_Mo_isBelow 29 = .ok (.lcmp, 1) := by decide +kernel
theorem d_Mo_isBelow_30 : decode b_Mo_isBelow 30 = .ok (.ifCond .le 7, 3) := by decide +kernel
theorem d_Mo_isBelow_33 : decode b_Mo_isBelow 33 = .ok (.iconst 1, 1) := by decide +kernel
theorem d_Mo_isBelow_34 : decode b_Mo_isBelow 34 = .ok (.goto 4, 3) := by decide +kernel
theorem d_Mo_isBelow_37 : decode b_Mo_isBelow 37 = .ok (.iconst 0, 1) := by decide +kernel
theorem d_Mo_isBelow_38 : decode b_Mo_isBelow 38 = .ok (.iload 8, 2) := by decide +kernel
theorem d_Mo_isBelow_40 : decode b_Mo_isBelow 40 = .ok (.ifCond .le 7, 3) := by decide +kernel
theorem d_Mo_isBelow_43 : decode b_Mo_isBelow 43 = .ok (.iconst 1, 1) := by decide +kernel
theorem d_Mo_isBelow_44 : decode b_Mo_isBelow 44 = .ok (.goto 4, 3) := by decide +kernel
theorem d_Mo_isBelow_47 : decode b_Mo_isBelow 47 = .ok (.iconst 0, 1) := by decide +kernel
theorem d_Mo_isBelow_48 : decode b_Mo_isBelow 48 = .ok (.if_icmp .eq 15, 3) := by decide +kernel
theorem d_Mo_isBelow_51 : decode b_Mo_isBelow 51 = .ok (.lload_n 1, 1) := by decide +kernel
theorem d_Mo_isBelow_52 : decode b_Mo_isBelow 52 = .ok (.lconst 0, 1) := by decide +kernel
theorem d_Mo_isBelow_53 : decode b_Mo_isBelow 53 = .ok (.lcmp, 1) := by decide +kernel
theorem d_Mo_isBelow_54 : decode b_Mo_isBelow 54 = .ok (.ifCond .ge 7, 3) := by decide +kernel
theorem d_Mo_isBelow_57 : decode b_Mo_isBelow 57 = .ok (.iconst 1, 1) := by decide +kernel
theorem d_Mo_isBelow_58 : decode b_Mo_isBelow 58 = .ok (.goto 4, 3) := by decide +kernel
theorem d_Mo_isBelow_61 : decode b_Mo_isBelow 61 = .ok (.iconst 0, 1) := by decide +kernel
theorem d_Mo_isBelow_62 : decode b_Mo_isBelow 62 = .ok (.ireturn, 1) := by decide +kernel
theorem d_Mo_isBelow_63 : decode b_Mo_isBelow 63 = .ok (.lload 4, 2) := by decide +kernel
theorem d_Mo_isBelow_65 : decode b_Mo_isBelow 65 = .ok (.lload 4, 2) := by decide +kernel
theorem d_Mo_isBelow_67 : decode b_Mo_isBelow 67 = .ok (.lmul, 1) := by decide +kernel
theorem d_Mo_isBelow_68 : decode b_Mo_isBelow 68 = .ok (.lload 6, 2) := by decide +kernel
theorem d_Mo_isBelow_70 : decode b_Mo_isBelow 70 = .ok (.lload 6, 2) := by decide +kernel
theorem d_Mo_isBelow_72 : decode b_Mo_isBelow 72 = .ok (.lmul, 1) := by decide +kernel
theorem d_Mo_isBelow_73 : decode b_Mo_isBelow 73 = .ok (.ladd, 1) := by decide +kernel
theorem d_Mo_isBelow_74 : decode b_Mo_isBelow 74 = .ok (.lstore 9, 2) := by decide +kernel
theorem d_Mo_isBelow_76 : decode b_Mo_isBelow 76 = .ok (.ldc2_w 98, 3) := by decide +kernel
theorem d_Mo_isBelow_79 : decode b_Mo_isBelow 79 = .ok (.lload 4, 2) := by decide +kernel
theorem d_Mo_isBelow_81 : decode b_Mo_isBelow 81 = .ok (.lmul, 1) := by decide +kernel
theorem d_Mo_isBelow_82 : decode b_Mo_isBelow 82 = .ok (.lload 6, 2) := by decide +kernel
theorem d_Mo_isBelow_84 : decode b_Mo_isBelow 84 = .ok (.lmul, 1) := by decide +kernel
theorem d_Mo_isBelow_85 : decode b_Mo_isBelow 85 = .ok (.lload 6, 2) := by decide +kernel
theorem d_Mo_isBelow_87 : decode b_Mo_isBelow 87 = .ok (.lload 6, 2) := by decide +kernel
theorem d_Mo_isBelow_89 : decode b_Mo_isBelow 89 = .ok (.lmul, 1) := by decide +kernel
theorem d_Mo_isBelow_90 : decode b_Mo_isBelow 90 = .ok (.ladd, 1) := by decide +kernel
theorem d_Mo_isBelow_91 : decode b_Mo_isBelow 91 = .ok (.lstore 11, 2) := by decide +kernel
theorem d_Mo_isBelow_93 : decode b_Mo_isBelow 93 = .ok (.aload_n 0, 1) := by decide +kernel
theorem d_Mo_isBelow_94 : decode b_Mo_isBelow 94 = .ok (.lload_n 1, 1) := by decide +kernel
theorem d_Mo_isBelow_95 : decode b_Mo_isBelow 95 = .ok (.iload_n 3, 1) := by decide +kernel
theorem d_Mo_isBelow_96 : decode b_Mo_isBelow 96 = .ok (.ldc2_w 243, 3) := by decide +kernel
theorem d_Mo_isBelow_99 : decode b_Mo_isBelow 99 = .ok (.lload 9, 2) := by decide +kernel
theorem d_Mo_isBelow_101 : decode b_Mo_isBelow 101 = .ok (.lmul, 1) := by decide +kernel
theorem d_Mo_isBelow_102 : decode b_Mo_isBelow 102 = .ok (.lload 11, 2) := by decide +kernel
theorem d_Mo_isBelow_104 : decode b_Mo_isBelow 104 = .ok (.lsub, 1) := by decide +kernel
theorem d_Mo_isBelow_105 : decode b_Mo_isBelow 105 = .ok (.ldc2_w 98, 3) := by decide +kernel
theorem d_Mo_isBelow_108 : decode b_Mo_isBelow 108 = .ok (.lload 11, 2) := by decide +kernel
theorem d_Mo_isBelow_110 : decode b_Mo_isBelow 110 = .ok (.lmul, 1) := by decide +kernel
theorem d_Mo_isBelow_111 : decode b_Mo_isBelow 111 = .ok (.lload 9, 2) := by decide +kernel
theorem d_Mo_isBelow_113 : decode b_Mo_isBelow 113 = .ok (.lsub, 1) := by decide +kernel
theorem d_Mo_isBelow_114 : decode b_Mo_isBelow 114 = .ok (.invokevirtual 245, 3) := by decide +kernel
theorem d_Mo_isBelow_117 : decode b_Mo_isBelow 117 = .ok (.istore 13, 2) := by decide +kernel
theorem d_Mo_isBelow_119 : decode b_Mo_isBelow 119 = .ok (.iload 8, 2) := by decide +kernel
theorem d_Mo_isBelow_121 : decode b_Mo_isBelow 121 = .ok (.ifCond .le 16, 3) := by decide +kernel
theorem d_Mo_isBelow_124 : decode b_Mo_isBelow 124 = .ok (.iload 13, 2) := by decide +kernel
theorem d_Mo_isBelow_126 : decode b_Mo_isBelow 126 = .ok (.ifCond .lt 7, 3) := by decide +kernel
theorem d_Mo_isBelow_129 : decode b_Mo_isBelow 129 = .ok (.iconst 1, 1) := by decide +kernel
theorem d_Mo_isBelow_130 : decode b_Mo_isBelow 130 = .ok (.goto 17, 3) := by decide +kernel
theorem d_Mo_isBelow_133 : decode b_Mo_isBelow 133 = .ok (.iconst 0, 1) := by decide +kernel
theorem d_Mo_isBelow_134 : decode b_Mo_isBelow 134 = .ok (.goto 13, 3) := by decide +kernel
theorem d_Mo_isBelow_137 : decode b_Mo_isBelow 137 = .ok (.iload 13, 2) := by decide +kernel
theorem d_Mo_isBelow_139 : decode b_Mo_isBelow 139 = .ok (.ifCond .gt 7, 3) := by decide +kernel
theorem d_Mo_isBelow_142 : decode b_Mo_isBelow 142 = .ok (.iconst 1, 1) := by decide +kernel
theorem d_Mo_isBelow_143 : decode b_Mo_isBelow 143 = .ok (.goto 4, 3) := by decide +kernel
theorem d_Mo_isBelow_146 : decode b_Mo_isBelow 146 = .ok (.iconst 0, 1) := by decide +kernel
theorem d_Mo_isBelow_147 : decode b_Mo_isBelow 147 = .ok (.ireturn, 1) := by decide +kernel
theorem d_Mo_squareSign_0 : decode b_Mo_squareSign 0 = .ok (.iload_n 3, 1) := by decide +kernel
theorem d_Mo_squareSign_1 : decode b_Mo_squareSign 1 = .ok (.i2l, 1) := by decide +kernel
theorem d_Mo_squareSign_2 : decode b_Mo_squareSign 2 = .ok (.iload_n 3, 1) := by decide +kernel
theorem d_Mo_squareSign_3 : decode b_Mo_squareSign 3 = .ok (.i2l, 1) := by decide +kernel
theorem d_Mo_squareSign_4 : decode b_Mo_squareSign 4 = .ok (.lmul, 1) := by decide +kernel
theorem d_Mo_squareSign_5 : decode b_Mo_squareSign 5 = .ok (.lstore 8, 2) := by decide +kernel
theorem d_Mo_squareSign_7 : decode b_Mo_squareSign 7 = .ok (.aload_n 0, 1) := by decide +kernel
theorem d_Mo_squareSign_8 : decode b_Mo_squareSign 8 = .ok (.iconst 0, 1) := by decide +kernel
theorem d_Mo_squareSign_9 : decode b_Mo_squareSign 9 = .ok (.lload 8, 2) := by decide +kernel
theorem d_Mo_squareSign_11 : decode b_Mo_squareSign 11 = .ok (.invokevirtual 84, 3) := by decide +kernel
theorem d_Mo_squareSign_14 : decode b_Mo_squareSign 14 = .ok (.aload_n 0, 1) := by decide +kernel
theorem d_Mo_squareSign_15 : decode b_Mo_squareSign 15 = .ok (.iconst 1, 1) := by decide +kernel
theorem d_Mo_squareSign_16 : decode b_Mo_squareSign 16 = .ok (.ldc2_w 98, 3) := by decide +kernel
theorem d_Mo_squareSign_19 : decode b_Mo_squareSign 19 = .ok (.lload 4, 2) := by decide +kernel
theorem d_Mo_squareSign_21 : decode b_Mo_squareSign 21 = .ok (.lmul, 1) := by decide +kernel
theorem d_Mo_squareSign_22 : decode b_Mo_squareSign 22 = .ok (.lload 6, 2) := by decide +kernel
theorem d_Mo_squareSign_24 : decode b_Mo_squareSign 24 = .ok (.ladd, 1) := by decide +kernel
theorem d_Mo_squareSign_25 : decode b_Mo_squareSign 25 = .ok (.invokestatic 80, 3) := by decide +kernel
theorem d_Mo_squareSign_28 : decode b_Mo_squareSign 28 = .ok (.invokevirtual 84, 3) := by decide +kernel
theorem d_Mo_squareSign_31 : decode b_Mo_squareSign 31 = .ok (.aload_n 0, 1) := by decide +kernel
theorem d_Mo_squareSign_32 : decode b_Mo_squareSign 32 = .ok (.iconst 2, 1) := by decide +kernel
theorem d_Mo_squareSign_33 : decode b_Mo_squareSign 33 = .ok (.iconst 0, 1) := by decide +kernel
theorem d_Mo_squareSign_34 : decode b_Mo_squareSign 34 = .ok (.iconst 1, 1) := by decide +kernel
theorem d_Mo_squareSign_35 : decode b_Mo_squareSign 35 = .ok (.invokevirtual 88, 3) := by decide +kernel
theorem d_Mo_squareSign_38 : decode b_Mo_squareSign 38 = .ok (.aload_n 0, 1) := by decide +kernel
theorem d_Mo_squareSign_39 : decode b_Mo_squareSign 39 = .ok (.iconst 0, 1) := by decide +kernel
theorem d_Mo_squareSign_40 : decode b_Mo_squareSign 40 = .ok (.lload_n 1, 1) := by decide +kernel
theorem d_Mo_squareSign_41 : decode b_Mo_squareSign 41 = .ok (.invokestatic 80, 3) := by decide +kernel
theorem d_Mo_squareSign_44 : decode b_Mo_squareSign 44 = .ok (.invokevirtual 84, 3) := by decide +kernel
theorem d_Mo_squareSign_47 : decode b_Mo_squareSign 47 = .ok (.aload_n 0, 1) := by decide +kernel
theorem d_Mo_squareSign_48 : decode b_Mo_squareSign 48 = .ok (.iconst 3, 1) := by decide +kernel
theorem d_Mo_squareSign_49 : decode b_Mo_squareSign 49 = .ok (.iconst 0, 1) := by decide +kernel
theorem d_Mo_squareSign_50 : decode b_Mo_squareSign 50 = .ok (.iconst 0, 1) := by decide +kernel
theorem d_Mo_squareSign_51 : decode b_Mo_squareSign 51 = .ok (.invokevirtual 88, 3) := by decide +kernel
theorem d_Mo_squareSign_54 : decode b_Mo_squareSign 54 = .ok (.aload_n 0, 1) := by decide +kernel
theorem d_Mo_squareSign_55 : decode b_Mo_squareSign 55 = .ok (.iconst 0, 1) := by decide +kernel
theorem d_Mo_squareSign_56 : decode b_Mo_squareSign 56 = .ok (.ldc2_w 98, 3) := by decide +kernel
theorem d_Mo_squareSign_59 : decode b_Mo_squareSign 59 = .ok (.invokevirtual 84, 3) := by decide +kernel
theorem d_Mo_squareSign_62 : decode b_Mo_squareSign 62 = .ok (.aload_n 0, 1) := by decide +kernel
theorem d_Mo_squareSign_63 : decode b_Mo_squareSign 63 = .ok (.iconst 1, 1) := by decide +kernel
theorem d_Mo_squareSign_64 : decode b_Mo_squareSign 64 = .ok (.iconst 3, 1) := by decide +kernel
theorem d_Mo_squareSign_65 : decode b_Mo_squareSign 65 = .ok (.iconst 0, 1) := by decide +kernel
theorem d_Mo_squareSign_66 : decode b_Mo_squareSign 66 = .ok (.invokevirtual 88, 3) := by decide +kernel
theorem d_Mo_squareSign_69 : decode b_Mo_squareSign 69 = .ok (.ldc2_w 98, 3) := by decide +kernel
theorem d_Mo_squareSign_72 : decode b_Mo_squareSign 72 = .ok (.lload 4, 2) := by decide +kernel
theorem d_Mo_squareSign_74 : decode b_Mo_squareSign 74 = .ok (.lmul, 1) := by decide +kernel
theorem d_Mo_squareSign_75 : decode b_Mo_squareSign 75 = .ok (.lload 6, 2) := by decide +kernel
theorem d_Mo_squareSign_77 : decode b_Mo_squareSign 77 = .ok (.ladd, 1) := by decide +kernel
theorem d_Mo_squareSign_78 : decode b_Mo_squareSign 78 = .ok (.lconst 0, 1) := by decide +kernel
theorem d_Mo_squareSign_79 : decode b_Mo_squareSign 79 = .ok (.lcmp, 1) := by decide +kernel
theorem d_Mo_squareSign_80 : decode b_Mo_squareSign 80 = .ok (.ifCond .ge 7, 3) := by decide +kernel
theorem d_Mo_squareSign_83 : decode b_Mo_squareSign 83 = .ok (.iconst 1, 1) := by decide +kernel
theorem d_Mo_squareSign_84 : decode b_Mo_squareSign 84 = .ok (.goto 4, 3) := by decide +kernel
theorem d_Mo_squareSign_87 : decode b_Mo_squareSign 87 = .ok (.iconst 0, 1) := by decide +kernel
theorem d_Mo_squareSign_88 : decode b_Mo_squareSign 88 = .ok (.istore 10, 2) := by decide +kernel
theorem d_Mo_squareSign_90 : decode b_Mo_squareSign 90 = .ok (.iload 10, 2) := by decide +kernel
theorem d_Mo_squareSign_92 : decode b_Mo_squareSign 92 = .ok (.ifCond .eq 7, 3) := by decide +kernel
theorem d_Mo_squareSign_95 : decode b_Mo_squareSign 95 = .ok (.iconst (-1), 1) := by decide +kernel
theorem d_Mo_squareSign_96 : decode b_Mo_squareSign 96 = .ok (.goto 9, 3) := by decide +kernel
theorem d_Mo_squareSign_99 : decode b_Mo_squareSign 99 = .ok (.aload_n 0, 1) := by decide +kernel
theorem d_Mo_squareSign_100 : decode b_Mo_squareSign 100 = .ok (.iconst 2, 1) := by decide +kernel
theorem d_Mo_squareSign_101 : decode b_Mo_squareSign 101 = .ok (.iconst 1, 1) := by decide +kernel
theorem d_Mo_squareSign_102 : decode b_Mo_squareSign 102 = .ok (.invokevirtual 94, 3) := by decide +kernel
theorem d_Mo_squareSign_105 : decode b_Mo_squareSign 105 = .ok (.istore 11, 2) := by decide +kernel
theorem d_Mo_squareSign_107 : decode b_Mo_squareSign 107 = .ok (.iload 10, 2) := by decide +kernel
theorem d_Mo_squareSign_109 : decode b_Mo_squareSign 109 = .ok (.ifCond .eq 7, 3) := by decide +kernel
theorem d_Mo_squareSign_112 : decode b_Mo_squareSign 112 = .ok (.iconst 2, 1) := by decide +kernel
theorem d_Mo_squareSign_113 : decode b_Mo_squareSign 113 = .ok (.goto 13, 3) := by decide +kernel
theorem d_Mo_squareSign_116 : decode b_Mo_squareSign 116 = .ok (.iload 11, 2) := by decide +kernel
theorem d_Mo_squareSign_118 : decode b_Mo_squareSign 118 = .ok (.ifCond .lt 7, 3) := by decide +kernel
theorem d_Mo_squareSign_121 : decode b_Mo_squareSign 121 = .ok (.iconst 2, 1) := by decide +kernel
theorem d_Mo_squareSign_122 : decode b_Mo_squareSign 122 = .ok (.goto 4, 3) := by decide +kernel
theorem d_Mo_squareSign_125 : decode b_Mo_squareSign 125 = .ok (.iconst 1, 1) := by decide +kernel
theorem d_Mo_squareSign_126 : decode b_Mo_squareSign 126 = .ok (.istore 12, 2) := by decide +kernel
theorem d_Mo_squareSign_128 : decode b_Mo_squareSign 128 = .ok (.iconst 0, 1) := by decide +kernel
theorem d_Mo_squareSign_129 : decode b_Mo_squareSign 129 = .ok (.istore 13, 2) := by decide +kernel
theorem d_Mo_squareSign_131 : decode b_Mo_squareSign 131 = .ok (.iload 13, 2) := by decide +kernel
theorem d_Mo_squareSign_133 : decode b_Mo_squareSign 133 = .ok (.bipush 9, 2) := by decide +kernel
theorem d_Mo_squareSign_135 : decode b_Mo_squareSign 135 = .ok (.if_icmp .ge 32, 3) := by decide +kernel
theorem d_Mo_squareSign_138 : decode b_Mo_squareSign 138 = .ok (.aload_n 0, 1) := by decide +kernel
theorem d_Mo_squareSign_139 : decode b_Mo_squareSign 139 = .ok (.getfield 42, 3) := by decide +kernel
theorem d_Mo_squareSign_142 : decode b_Mo_squareSign 142 = .ok (.bipush 36, 2) := by decide +kernel
theorem d_Mo_squareSign_144 : decode b_Mo_squareSign 144 = .ok (.iload 13, 2) := by decide +kernel
theorem d_Mo_squareSign_146 : decode b_Mo_squareSign 146 = .ok (.iadd, 1) := by decide +kernel
theorem d_Mo_squareSign_147 : decode b_Mo_squareSign 147 = .ok (.aload_n 0, 1) := by decide +kernel
theorem d_Mo_squareSign_148 : decode b_Mo_squareSign 148 = .ok (.getfield 42, 3) := by decide +kernel
theorem d_Mo_squareSign_151 : decode b_Mo_squareSign 151 = .ok (.bipush 9, 2) := by decide +kernel
theorem d_Mo_squareSign_153 : decode b_Mo_squareSign 153 = .ok (.iload 12, 2) := by decide +kernel
theorem d_Mo_squareSign_155 : decode b_Mo_squareSign 155 = .ok (.imul, 1) := by decide +kernel
theorem d_Mo_squareSign_156 : decode b_Mo_squareSign 156 = .ok (.iload 13, 2) := by decide +kernel
theorem d_Mo_squareSign_158 : decode b_Mo_squareSign 158 = .ok (.iadd, 1) := by decide +kernel
theorem d_Mo_squareSign_159 : decode b_Mo_squareSign 159 = .ok (.laload, 1) := by decide +kernel
theorem d_Mo_squareSign_160 : decode b_Mo_squareSign 160 = .ok (.lastore, 1) := by decide +kernel
theorem d_Mo_squareSign_161 : decode b_Mo_squareSign 161 = .ok (.iinc 13 1, 3) := by decide +kernel
theorem d_Mo_squareSign_164 : decode b_Mo_squareSign 164 = .ok (.goto (-33), 3) := by decide +kernel
theorem d_Mo_squareSign_167 : decode b_Mo_squareSign 167 = .ok (.iload 10, 2) := by decide +kernel
theorem d_Mo_squareSign_169 : decode b_Mo_squareSign 169 = .ok (.ifCond .eq 12, 3) := by decide +kernel
theorem d_Mo_squareSign_172 : decode b_Mo_squareSign 172 = .ok (.aload_n 0, 1) := by decide +kernel
theorem d_Mo_squareSign_173 : decode b_Mo_squareSign 173 = .ok (.iconst 4, 1) := by decide +kernel
theorem d_Mo_squareSign_174 : decode b_Mo_squareSign 174 = .ok (.iconst 1, 1) := by decide +kernel
theorem d_Mo_squareSign_175 : decode b_Mo_squareSign 175 = .ok (.invokevirtual 249, 3) := by decide +kernel
theorem d_Mo_squareSign_178 : decode b_Mo_squareSign 178 = .ok (.goto 19, 3) := by decide +kernel
theorem d_Mo_squareSign_181 : decode b_Mo_squareSign 181 = .ok (.aload_n 0, 1) := by decide +kernel
theorem d_Mo_squareSign_182 : decode b_Mo_squareSign 182 = .ok (.iconst 4, 1) := by decide +kernel
theorem d_Mo_squareSign_183 : decode b_Mo_squareSign 183 = .ok (.iload 12, 2) := by decide +kernel
theorem d_Mo_squareSign_185 : decode b_Mo_squareSign 185 = .ok (.iconst 2, 1) := by decide +kernel
theorem d_Mo_squareSign_186 : decode b_Mo_squareSign 186 = .ok (.if_icmp .ne 7, 3) := by decide +kernel
theorem d_Mo_squareSign_189 : decode b_Mo_squareSign 189 = .ok (.iconst 1, 1) := by decide +kernel
theorem d_Mo_squareSign_190 : decode b_Mo_squareSign 190 = .ok (.goto 4, 3) := by decide +kernel
theorem d_Mo_squareSign_193 : decode b_Mo_squareSign 193 = .ok (.iconst 2, 1) := by decide +kernel
theorem d_Mo_squareSign_194 : decode b_Mo_squareSign 194 = .ok (.invokevirtual 253, 3) := by decide +kernel
theorem d_Mo_squareSign_197 : decode b_Mo_squareSign 197 = .ok (.aload_n 0, 1) := by decide +kernel
theorem d_Mo_squareSign_198 : decode b_Mo_squareSign 198 = .ok (.iconst 0, 1) := by decide +kernel
theorem d_Mo_squareSign_199 : decode b_Mo_squareSign 199 = .ok (.lload 8, 2) := by decide +kernel
theorem d_Mo_squareSign_201 : decode b_Mo_squareSign 201 = .ok (.invokevirtual 84, 3) := by decide +kernel
theorem d_Mo_squareSign_204 : decode b_Mo_squareSign 204 = .ok (.aload_n 0, 1) := by decide +kernel
theorem d_Mo_squareSign_205 : decode b_Mo_squareSign 205 = .ok (.iconst 1, 1) := by decide +kernel
theorem d_Mo_squareSign_206 : decode b_Mo_squareSign 206 = .ok (.lload 6, 2) := by decide +kernel
theorem d_Mo_squareSign_208 : decode b_Mo_squareSign 208 = .ok (.invokestatic 80, 3) := by decide +kernel
theorem d_Mo_squareSign_211 : decode b_Mo_squareSign 211 = .ok (.invokevirtual 84, 3) := by decide +kernel
theorem d_Mo_squareSign_214 : decode b_Mo_squareSign 214 = .ok (.aload_n 0, 1) := by decide +kernel
theorem d_Mo_squareSign_215 : decode b_Mo_squareSign 215 = .ok (.iconst 2, 1) := by decide +kernel
theorem d_Mo_squareSign_216 : decode b_Mo_squareSign 216 = .ok (.iconst 0, 1) := by decide +kernel
theorem d_Mo_squareSign_217 : decode b_Mo_squareSign 217 = .ok (.iconst 1, 1) := by decide +kernel
theorem d_Mo_squareSign_218 : decode b_Mo_squareSign 218 = .ok (.invokevirtual 88, 3) := by decide +kernel
theorem d_Mo_squareSign_221 : decode b_Mo_squareSign 221 = .ok (.iconst 1, 1) := by decide +kernel
theorem d_Mo_squareSign_222 : decode b_Mo_squareSign 222 = .ok (.istore 13, 2) := by decide +kernel
theorem d_Mo_squareSign_224 : decode b_Mo_squareSign 224 = .ok (.iconst 0, 1) := by decide +kernel
theorem d_Mo_squareSign_225 : decode b_Mo_squareSign 225 = .ok (.istore 14, 2) := by decide +kernel
theorem d_Mo_squareSign_227 : decode b_Mo_squareSign 227 = .ok (.iload 14, 2) := by decide +kernel
theorem d_Mo_squareSign_229 : decode b_Mo_squareSign 229 = .ok (.bipush 9, 2) := by decide +kernel
theorem d_Mo_squareSign_231 : decode b_Mo_squareSign 231 = .ok (.if_icmp .ge 36, 3) := by decide +kernel
theorem d_Mo_squareSign_234 : decode b_Mo_squareSign 234 = .ok (.iload 13, 2) := by decide +kernel
theorem d_Mo_squareSign_236 : decode b_Mo_squareSign 236 = .ok (.ifCond .eq 22, 3) := by decide +kernel
theorem d_Mo_squareSign_239 : decode b_Mo_squareSign 239 = .ok (.aload_n 0, 1) := by decide +kernel
theorem d_Mo_squareSign_240 : decode b_Mo_squareSign 240 = .ok (.getfield 42, 3) := by decide +kernel
theorem d_Mo_squareSign_243 : decode b_Mo_squareSign 243 = .ok (.bipush 36, 2) := by decide +kernel
theorem d_Mo_squareSign_245 : decode b_Mo_squareSign 245 = .ok (.iload 14, 2) := by decide +kernel
theorem d_Mo_squareSign_247 : decode b_Mo_squareSign 247 = .ok (.iadd, 1) := by decide +kernel
theorem d_Mo_squareSign_248 : decode b_Mo_squareSign 248 = .ok (.laload, 1) := by decide +kernel
theorem d_Mo_squareSign_249 : decode b_Mo_squareSign 249 = .ok (.lconst 0, 1) := by decide +kernel
theorem d_Mo_squareSign_250 : decode b_Mo_squareSign 250 = .ok (.lcmp, 1) := by decide +kernel
theorem d_Mo_squareSign_251 : decode b_Mo_squareSign 251 = .ok (.ifCond .ne 7, 3) := by decide +kernel
theorem d_Mo_squareSign_254 : decode b_Mo_squareSign 254 = .ok (.iconst 1, 1) := by decide +kernel
theorem d_Mo_squareSign_255 : decode b_Mo_squareSign 255 = .ok (.goto 4, 3) := by decide +kernel
theorem d_Mo_squareSign_258 : decode b_Mo_squareSign 258 = .ok (.iconst 0, 1) := by decide +kernel
theorem d_Mo_squareSign_259 : decode b_Mo_squareSign 259 = .ok (.istore 13, 2) := by decide +kernel
theorem d_Mo_squareSign_261 : decode b_Mo_squareSign 261 = .ok (.iinc 14 1, 3) := by decide +kernel
theorem d_Mo_squareSign_264 : decode b_Mo_squareSign 264 = .ok (.goto (-37), 3) := by decide +kernel
theorem d_Mo_squareSign_267 : decode b_Mo_squareSign 267 = .ok (.iload 13, 2) := by decide +kernel
theorem d_Mo_squareSign_269 : decode b_Mo_squareSign 269 = .ok (.ifCond .eq 7, 3) := by decide +kernel
theorem d_Mo_squareSign_272 : decode b_Mo_squareSign 272 = .ok (.iconst 0, 1) := by decide +kernel
theorem d_Mo_squareSign_273 : decode b_Mo_squareSign 273 = .ok (.goto 5, 3) := by decide +kernel
theorem d_Mo_squareSign_276 : decode b_Mo_squareSign 276 = .ok (.iload 11, 2) := by decide +kernel
theorem d_Mo_squareSign_278 : decode b_Mo_squareSign 278 = .ok (.istore 14, 2) := by decide +kernel
theorem d_Mo_squareSign_280 : decode b_Mo_squareSign 280 = .ok (.lload 6, 2) := by decide +kernel
theorem d_Mo_squareSign_282 : decode b_Mo_squareSign 282 = .ok (.lconst 0, 1) := by decide +kernel
theorem d_Mo_squareSign_283 : decode b_Mo_squareSign 283 = .ok (.lcmp, 1) := by decide +kernel
theorem d_Mo_squareSign_284 : decode b_Mo_squareSign 284 = .ok (.ifCond .ge 7, 3) := by decide +kernel
theorem d_Mo_squareSign_287 : decode b_Mo_squareSign 287 = .ok (.iconst (-1), 1) := by decide +kernel
theorem d_Mo_squareSign_288 : decode b_Mo_squareSign 288 = .ok (.goto 15, 3) := by decide +kernel
theorem d_Mo_squareSign_291 : decode b_Mo_squareSign 291 = .ok (.lload 6, 2) := by decide +kernel
theorem d_Mo_squareSign_293 : decode b_Mo_squareSign 293 = .ok (.lconst 0, 1) := by decide +kernel
theorem d_Mo_squareSign_294 : decode b_Mo_squareSign 294 = .ok (.lcmp, 1) := by decide +kernel
theorem d_Mo_squareSign_295 : decode b_Mo_squareSign 295 = .ok (.ifCond .le 7, 3) := by decide +kernel
theorem d_Mo_squareSign_298 : decode b_Mo_squareSign 298 = .ok (.iconst 1, 1) := by decide +kernel
theorem d_Mo_squareSign_299 : decode b_Mo_squareSign 299 = .ok (.goto 4, 3) := by decide +kernel
theorem d_Mo_squareSign_302 : decode b_Mo_squareSign 302 = .ok (.iconst 0, 1) := by decide +kernel
theorem d_Mo_squareSign_303 : decode b_Mo_squareSign 303 = .ok (.istore 15, 2) := by decide +kernel
theorem d_Mo_squareSign_305 : decode b_Mo_squareSign 305 = .ok (.iload 14, 2) := by decide +kernel
theorem d_Mo_squareSign_307 : decode b_Mo_squareSign 307 = .ok (.ifCond .lt 24, 3) := by decide +kernel
theorem d_Mo_squareSign_310 : decode b_Mo_squareSign 310 = .ok (.iload 15, 2) := by decide +kernel
theorem d_Mo_squareSign_312 : decode b_Mo_squareSign 312 = .ok (.ifCond .lt 19, 3) := by decide +kernel
theorem d_Mo_squareSign_315 : decode b_Mo_squareSign 315 = .ok (.iload 14, 2) := by decide +kernel
theorem d_Mo_squareSign_317 : decode b_Mo_squareSign 317 = .ok (.ifCond .ne 12, 3) := by decide +kernel
theorem d_Mo_squareSign_320 : decode b_Mo_squareSign 320 = .ok (.iload 15, 2) := by decide +kernel
theorem d_Mo_squareSign_322 : decode b_Mo_squareSign 322 = .ok (.ifCond .ne 7, 3) := by decide +kernel
theorem d_Mo_squareSign_325 : decode b_Mo_squareSign 325 = .ok (.iconst 0, 1) := by decide +kernel
theorem d_Mo_squareSign_326 : decode b_Mo_squareSign 326 = .ok (.goto 4, 3) := by decide +kernel
theorem d_Mo_squareSign_329 : decode b_Mo_squareSign 329 = .ok (.iconst 1, 1) := by decide +kernel
theorem d_Mo_squareSign_330 : decode b_Mo_squareSign 330 = .ok (.ireturn, 1) := by decide +kernel
theorem d_Mo_squareSign_331 : decode b_Mo_squareSign 331 = .ok (.iload 14, 2) := by decide +kernel
theorem d_Mo_squareSign_333 : decode b_Mo_squareSign 333 = .ok (.ifCond .gt 10, 3) := by decide +kernel
theorem d_Mo_squareSign_336 : decode b_Mo_squareSign 336 = .ok (.iload 15, 2) := by decide +kernel
theorem d_Mo_squareSign_338 : decode b_Mo_squareSign 338 = .ok (.ifCond .gt 5, 3) := by decide +kernel
theorem d_Mo_squareSign_341 : decode b_Mo_squareSign 341 = .ok (.iconst (-1), 1) := by decide +kernel
theorem d_Mo_squareSign_342 : decode b_Mo_squareSign 342 = .ok (.ireturn, 1) := by decide +kernel
theorem d_Mo_squareSign_343 : decode b_Mo_squareSign 343 = .ok (.aload_n 0, 1) := by decide +kernel
theorem d_Mo_squareSign_344 : decode b_Mo_squareSign 344 = .ok (.iconst 5, 1) := by decide +kernel
theorem d_Mo_squareSign_345 : decode b_Mo_squareSign 345 = .ok (.iconst 4, 1) := by decide +kernel
theorem d_Mo_squareSign_346 : decode b_Mo_squareSign 346 = .ok (.iconst 4, 1) := by decide +kernel
theorem d_Mo_squareSign_347 : decode b_Mo_squareSign 347 = .ok (.invokevirtual 88, 3) := by decide +kernel
theorem d_Mo_squareSign_350 : decode b_Mo_squareSign 350 = .ok (.aload_n 0, 1) := by decide +kernel
theorem d_Mo_squareSign_351 : decode b_Mo_squareSign 351 = .ok (.iconst 3, 1) := by decide +kernel
theorem d_Mo_squareSign_352 : decode b_Mo_squareSign 352 = .ok (.iconst 2, 1) := by decide +kernel
theorem d_Mo_squareSign_353 : decode b_Mo_squareSign 353 = .ok (.iconst 2, 1) := by decide +kernel
theorem d_Mo_squareSign_354 : decode b_Mo_squareSign 354 = .ok (.invokevirtual 88, 3) := by decide +kernel
theorem d_Mo_squareSign_357 : decode b_Mo_squareSign 357 = .ok (.aload_n 0, 1) := by decide +kernel
theorem d_Mo_squareSign_358 : decode b_Mo_squareSign 358 = .ok (.iconst 0, 1) := by decide +kernel
theorem d_Mo_squareSign_359 : decode b_Mo_squareSign 359 = .ok (.ldc2_w 92, 3) := by decide +kernel
theorem d_Mo_squareSign_362 : decode b_Mo_squareSign 362 = .ok (.invokevirtual 84, 3) := by decide +kernel
theorem d_Mo_squareSign_365 : decode b_Mo_squareSign 365 = .ok (.aload_n 0, 1) := by decide +kernel
theorem d_Mo_squareSign_366 : decode b_Mo_squareSign 366 = .ok (.iconst 1, 1) := by decide +kernel
theorem d_Mo_squareSign_367 : decode b_Mo_squareSign 367 = .ok (.iconst 3, 1) := by decide +kernel
theorem d_Mo_squareSign_368 : decode b_Mo_squareSign 368 = .ok (.iconst 0, 1) := by decide +kernel
theorem d_Mo_squareSign_369 : decode b_Mo_squareSign 369 = .ok (.invokevirtual 88, 3) := by decide +kernel
theorem d_Mo_squareSign_372 : decode b_Mo_squareSign 372 = .ok (.aload_n 0, 1) := by decide +kernel
theorem d_Mo_squareSign_373 : decode b_Mo_squareSign 373 = .ok (.iconst 5, 1) := by decide +kernel
theorem d_Mo_squareSign_374 : decode b_Mo_squareSign 374 = .ok (.iconst 1, 1) := by decide +kernel
theorem d_Mo_squareSign_375 : decode b_Mo_squareSign 375 = .ok (.invokevirtual 94, 3) := by decide +kernel
theorem d_Mo_squareSign_378 : decode b_Mo_squareSign 378 = .ok (.ifCond .le 7, 3) := by decide +kernel
theorem d_Mo_squareSign_381 : decode b_Mo_squareSign 381 = .ok (.iconst 1, 1) := by decide +kernel
theorem d_Mo_squareSign_382 : decode b_Mo_squareSign 382 = .ok (.goto 4, 3) := by decide +kernel
theorem d_Mo_squareSign_385 : decode b_Mo_squareSign 385 = .ok (.iconst 0, 1) := by decide +kernel
theorem d_Mo_squareSign_386 : decode b_Mo_squareSign 386 = .ok (.iload 14, 2) := by decide +kernel
theorem d_Mo_squareSign_388 : decode b_Mo_squareSign 388 = .ok (.ifCond .le 7, 3) := by decide +kernel
theorem d_Mo_squareSign_391 : decode b_Mo_squareSign 391 = .ok (.iconst 1, 1) := by decide +kernel
theorem d_Mo_squareSign_392 : decode b_Mo_squareSign 392 = .ok (.goto 4, 3) := by decide +kernel
theorem d_Mo_squareSign_395 : decode b_Mo_squareSign 395 = .ok (.iconst 0, 1) := by decide +kernel
theorem d_Mo_squareSign_396 : decode b_Mo_squareSign 396 = .ok (.if_icmp .ne 7, 3) := by decide +kernel
theorem d_Mo_squareSign_399 : decode b_Mo_squareSign 399 = .ok (.iconst 1, 1) := by decide +kernel
theorem d_Mo_squareSign_400 : decode b_Mo_squareSign 400 = .ok (.goto 4, 3) := by decide +kernel
theorem d_Mo_squareSign_403 : decode b_Mo_squareSign 403 = .ok (.iconst (-1), 1) := by decide +kernel
theorem d_Mo_squareSign_404 : decode b_Mo_squareSign 404 = .ok (.ireturn, 1) := by decide +kernel
theorem d_Mo_grow_0 : decode b_Mo_grow 0 = .ok (.lconst 0, 1) := by decide +kernel
theorem d_Mo_grow_1 : decode b_Mo_grow 1 = .ok (.lstore_n 3, 1) := by decide +kernel
theorem d_Mo_grow_2 : decode b_Mo_grow 2 = .ok (.iconst 0, 1) := by decide +kernel
theorem d_Mo_grow_3 : decode b_Mo_grow 3 = .ok (.istore 5, 2) := by decide +kernel
theorem d_Mo_grow_5 : decode b_Mo_grow 5 = .ok (.iload 5, 2) := by decide +kernel
theorem d_Mo_grow_7 : decode b_Mo_grow 7 = .ok (.bipush 9, 2) := by decide +kernel
theorem d_Mo_grow_9 : decode b_Mo_grow 9 = .ok (.if_icmp .ge 62, 3) := by decide +kernel
theorem d_Mo_grow_12 : decode b_Mo_grow 12 = .ok (.aload_n 0, 1) := by decide +kernel
theorem d_Mo_grow_13 : decode b_Mo_grow 13 = .ok (.getfield 42, 3) := by decide +kernel
theorem d_Mo_grow_16 : decode b_Mo_grow 16 = .ok (.bipush 9, 2) := by decide +kernel
theorem d_Mo_grow_18 : decode b_Mo_grow 18 = .ok (.iload_n 1, 1) := by decide +kernel
theorem d_Mo_grow_19 : decode b_Mo_grow 19 = .ok (.imul, 1) := by decide +kernel
theorem d_Mo_grow_20 : decode b_Mo_grow 20 = .ok (.iload 5, 2) := by decide +kernel
theorem d_Mo_grow_22 : decode b_Mo_grow 22 = .ok (.iadd, 1) := by decide +kernel
theorem d_Mo_grow_23 : decode b_Mo_grow 23 = .ok (.laload, 1) := by decide +kernel
theorem d_Mo_grow_24 : decode b_Mo_grow 24 = .ok (.aload_n 0, 1) := by decide +kernel
theorem d_Mo_grow_25 : decode b_Mo_grow 25 = .ok (.getfield 42, 3) := by decide +kernel
theorem d_Mo_grow_28 : decode b_Mo_grow 28 = .ok (.bipush 9, 2) := by decide +kernel
theorem d_Mo_grow_30 : decode b_Mo_grow 30 = .ok (.iload_n 2, 1) := by decide +kernel
theorem d_Mo_grow_31 : decode b_Mo_grow 31 = .ok (.imul, 1) := by decide +kernel
theorem d_Mo_grow_32 : decode b_Mo_grow 32 = .ok (.iload 5, 2) := by decide +kernel
theorem d_Mo_grow_34 : decode b_Mo_grow 34 = .ok (.iadd, 1) := by decide +kernel
theorem d_Mo_grow_35 : decode b_Mo_grow 35 = .ok (.laload, 1) := by decide +kernel
theorem d_Mo_grow_36 : decode b_Mo_grow 36 = .ok (.ladd, 1) := by decide +kernel
theorem d_Mo_grow_37 : decode b_Mo_grow 37 = .ok (.lload_n 3, 1) := by decide +kernel
theorem d_Mo_grow_38 : decode b_Mo_grow 38 = .ok (.ladd, 1) := by decide +kernel
theorem d_Mo_grow_39 : decode b_Mo_grow 39 = .ok (.lstore 6, 2) := by decide +kernel
theorem d_Mo_grow_41 : decode b_Mo_grow 41 = .ok (.aload_n 0, 1) := by decide +kernel
theorem d_Mo_grow_42 : decode b_Mo_grow 42 = .ok (.getfield 42, 3) := by decide +kernel
theorem d_Mo_grow_45 : decode b_Mo_grow 45 = .ok (.bipush 9, 2) := by decide +kernel
theorem d_Mo_grow_47 : decode b_Mo_grow 47 = .ok (.iload_n 1, 1) := by decide +kernel
theorem d_Mo_grow_48 : decode b_Mo_grow 48 = .ok (.imul, 1) := by decide +kernel
theorem d_Mo_grow_49 : decode b_Mo_grow 49 = .ok (.iload 5, 2) := by decide +kernel
theorem d_Mo_grow_51 : decode b_Mo_grow 51 = .ok (.iadd, 1) := by decide +kernel
theorem d_Mo_grow_52 : decode b_Mo_grow 52 = .ok (.lload 6, 2) := by decide +kernel
theorem d_Mo_grow_54 : decode b_Mo_grow 54 = .ok (.ldc2_w 78, 3) := by decide +kernel
theorem d_Mo_grow_57 : decode b_Mo_grow 57 = .ok (.land, 1) := by decide +kernel
theorem d_Mo_grow_58 : decode b_Mo_grow 58 = .ok (.lastore, 1) := by decide +kernel
theorem d_Mo_grow_59 : decode b_Mo_grow 59 = .ok (.lload 6, 2) := by decide +kernel
theorem d_Mo_grow_61 : decode b_Mo_grow 61 = .ok (.bipush 24, 2) := by decide +kernel
theorem d_Mo_grow_63 : decode b_Mo_grow 63 = .ok (.lshr, 1) := by decide +kernel
theorem d_Mo_grow_64 : decode b_Mo_grow 64 = .ok (.lstore_n 3, 1) := by decide +kernel
theorem d_Mo_grow_65 : decode b_Mo_grow 65 = .ok (.iinc 5 1, 3) := by decide +kernel
theorem d_Mo_grow_68 : decode b_Mo_grow 68 = .ok (.goto (-63), 3) := by decide +kernel
theorem d_Mo_grow_71 : decode b_Mo_grow 71 = .ok (.return_, 1) := by decide +kernel
theorem d_Mo_lessen_0 : decode b_Mo_lessen 0 = .ok (.lconst 0, 1) := by decide +kernel
theorem d_Mo_lessen_1 : decode b_Mo_lessen 1 = .ok (.lstore_n 3, 1) := by decide +kernel
theorem d_Mo_lessen_2 : decode b_Mo_lessen 2 = .ok (.iconst 0, 1) := by decide +kernel
theorem d_Mo_lessen_3 : decode b_Mo_lessen 3 = .ok (.istore 5, 2) := by decide +kernel
theorem d_Mo_lessen_5 : decode b_Mo_lessen 5 = .ok (.iload 5, 2) := by decide +kernel
theorem d_Mo_lessen_7 : decode b_Mo_lessen 7 = .ok (.bipush 9, 2) := by decide +kernel
theorem d_Mo_lessen_9 : decode b_Mo_lessen 9 = .ok (.if_icmp .ge 62, 3) := by decide +kernel
theorem d_Mo_lessen_12 : decode b_Mo_lessen 12 = .ok (.aload_n 0, 1) := by decide +kernel
theorem d_Mo_lessen_13 : decode b_Mo_lessen 13 = .ok (.getfield 42, 3) := by decide +kernel
theorem d_Mo_lessen_16 : decode b_Mo_lessen 16 = .ok (.bipush 9, 2) := by decide +kernel
theorem d_Mo_lessen_18 : decode b_Mo_lessen 18 = .ok (.iload_n 1, 1) := by decide +kernel
theorem d_Mo_lessen_19 : decode b_Mo_lessen 19 = .ok (.imul, 1) := by decide +kernel
theorem d_Mo_lessen_20 : decode b_Mo_lessen 20 = .ok (.iload 5, 2) := by decide +kernel
theorem d_Mo_lessen_22 : decode b_Mo_lessen 22 = .ok (.iadd, 1) := by decide +kernel
theorem d_Mo_lessen_23 : decode b_Mo_lessen 23 = .ok (.laload, 1) := by decide +kernel
theorem d_Mo_lessen_24 : decode b_Mo_lessen 24 = .ok (.aload_n 0, 1) := by decide +kernel
theorem d_Mo_lessen_25 : decode b_Mo_lessen 25 = .ok (.getfield 42, 3) := by decide +kernel
theorem d_Mo_lessen_28 : decode b_Mo_lessen 28 = .ok (.bipush 9, 2) := by decide +kernel
theorem d_Mo_lessen_30 : decode b_Mo_lessen 30 = .ok (.iload_n 2, 1) := by decide +kernel
theorem d_Mo_lessen_31 : decode b_Mo_lessen 31 = .ok (.imul, 1) := by decide +kernel
theorem d_Mo_lessen_32 : decode b_Mo_lessen 32 = .ok (.iload 5, 2) := by decide +kernel
theorem d_Mo_lessen_34 : decode b_Mo_lessen 34 = .ok (.iadd, 1) := by decide +kernel
theorem d_Mo_lessen_35 : decode b_Mo_lessen 35 = .ok (.laload, 1) := by decide +kernel
theorem d_Mo_lessen_36 : decode b_Mo_lessen 36 = .ok (.lsub, 1) := by decide +kernel
theorem d_Mo_lessen_37 : decode b_Mo_lessen 37 = .ok (.lload_n 3, 1) := by decide +kernel
theorem d_Mo_lessen_38 : decode b_Mo_lessen 38 = .ok (.ladd, 1) := by decide +kernel
theorem d_Mo_lessen_39 : decode b_Mo_lessen 39 = .ok (.lstore 6, 2) := by decide +kernel
theorem d_Mo_lessen_41 : decode b_Mo_lessen 41 = .ok (.aload_n 0, 1) := by decide +kernel
theorem d_Mo_lessen_42 : decode b_Mo_lessen 42 = .ok (.getfield 42, 3) := by decide +kernel
theorem d_Mo_lessen_45 : decode b_Mo_lessen 45 = .ok (.bipush 9, 2) := by decide +kernel
theorem d_Mo_lessen_47 : decode b_Mo_lessen 47 = .ok (.iload_n 1, 1) := by decide +kernel
theorem d_Mo_lessen_48 : decode b_Mo_lessen 48 = .ok (.imul, 1) := by decide +kernel
theorem d_Mo_lessen_49 : decode b_Mo_lessen 49 = .ok (.iload 5, 2) := by decide +kernel
theorem d_Mo_lessen_51 : decode b_Mo_lessen 51 = .ok (.iadd, 1) := by decide +kernel
theorem d_Mo_lessen_52 : decode b_Mo_lessen 52 = .ok (.lload 6, 2) := by decide +kernel
theorem d_Mo_lessen_54 : decode b_Mo_lessen 54 = .ok (.ldc2_w 78, 3) := by decide +kernel
theorem d_Mo_lessen_57 : decode b_Mo_lessen 57 = .ok (.land, 1) := by decide +kernel
theorem d_Mo_lessen_58 : decode b_Mo_lessen 58 = .ok (.lastore, 1) := by decide +kernel
theorem d_Mo_lessen_59 : decode b_Mo_lessen 59 = .ok (.lload 6, 2) := by decide +kernel
theorem d_Mo_lessen_61 : decode b_Mo_lessen 61 = .ok (.bipush 24, 2) := by decide +kernel
theorem d_Mo_lessen_63 : decode b_Mo_lessen 63 = .ok (.lshr, 1) := by decide +kernel
theorem d_Mo_lessen_64 : decode b_Mo_lessen 64 = .ok (.lstore_n 3, 1) := by decide +kernel
theorem d_Mo_lessen_65 : decode b_Mo_lessen 65 = .ok (.iinc 5 1, 3) := by decide +kernel
theorem d_Mo_lessen_68 : decode b_Mo_lessen 68 = .ok (.goto (-63), 3) := by decide +kernel
theorem d_Mo_lessen_71 : decode b_Mo_lessen 71 = .ok (.return_, 1) := by decide +kernel
theorem d_Mo_steps_0 : decode b_Mo_steps 0 = .ok (.aload_n 0, 1) := by decide +kernel
theorem d_Mo_steps_1 : decode b_Mo_steps 1 = .ok (.iconst 0, 1) := by decide +kernel
theorem d_Mo_steps_2 : decode b_Mo_steps 2 = .ok (.putfield 63, 3) := by decide +kernel
theorem d_Mo_steps_5 : decode b_Mo_steps 5 = .ok (.aload_n 0, 1) := by decide +kernel
theorem d_Mo_steps_6 : decode b_Mo_steps 6 = .ok (.iload_n 1, 1) := by decide +kernel
theorem d_Mo_steps_7 : decode b_Mo_steps 7 = .ok (.iload_n 2, 1) := by decide +kernel
theorem d_Mo_steps_8 : decode b_Mo_steps 8 = .ok (.invokevirtual 233, 3) := by decide +kernel
theorem d_Mo_steps_11 : decode b_Mo_steps 11 = .ok (.ifCond .eq 26, 3) := by decide +kernel
theorem d_Mo_steps_14 : decode b_Mo_steps 14 = .ok (.iload_n 3, 1) := by decide +kernel
theorem d_Mo_steps_15 : decode b_Mo_steps 15 = .ok (.ifCond .lt 22, 3) := by decide +kernel
theorem d_Mo_steps_18 : decode b_Mo_steps 18 = .ok (.iload_n 3, 1) := by decide +kernel
theorem d_Mo_steps_19 : decode b_Mo_steps 19 = .ok (.iconst 1, 1) := by decide +kernel
theorem d_Mo_steps_20 : decode b_Mo_steps 20 = .ok (.if_icmp .gt 17, 3) := by decide +kernel
theorem d_Mo_steps_23 : decode b_Mo_steps 23 = .ok (.iload 4, 2) := by decide +kernel
theorem d_Mo_steps_25 : decode b_Mo_steps 25 = .ok (.iconst 1, 1) := by decide +kernel
theorem d_Mo_steps_26 : decode b_Mo_steps 26 = .ok (.if_icmp .lt 11, 3) := by decide +kernel
theorem d_Mo_steps_29 : decode b_Mo_steps 29 = .ok (.iload 4, 2) := by decide +kernel
theorem d_Mo_steps_31 : decode b_Mo_steps 31 = .ok (.ldc_w 256, 3) := by decide +kernel
theorem d_Mo_steps_34 : decode b_Mo_steps 34 = .ok (.if_icmp .le 5, 3) := by decide +kernel
theorem d_Mo_steps_37 : decode b_Mo_steps 37 = .ok (.lconst 0, 1) := by decide +kernel
theorem d_Mo_steps_38 : decode b_Mo_steps 38 = .ok (.lreturn, 1) := by decide +kernel
theorem d_Mo_steps_39 : decode b_Mo_steps 39 = .ok (.aload_n 0, 1) := by decide +kernel
theorem d_Mo_steps_40 : decode b_Mo_steps 40 = .ok (.iload_n 1, 1) := by decide +kernel
theorem d_Mo_steps_41 : decode b_Mo_steps 41 = .ok (.iload_n 2, 1) := by decide +kernel
theorem d_Mo_steps_42 : decode b_Mo_steps 42 = .ok (.invokevirtual 118, 3) := by decide +kernel
theorem d_Mo_steps_45 : decode b_Mo_steps 45 = .ok (.istore 5, 2) := by decide +kernel
theorem d_Mo_steps_47 : decode b_Mo_steps 47 = .ok (.aload_n 0, 1) := by decide +kernel
theorem d_Mo_steps_48 : decode b_Mo_steps 48 = .ok (.getfield 13, 3) := by decide +kernel
theorem d_Mo_steps_51 : decode b_Mo_steps 51 = .ok (.iload 5, 2) := by decide +kernel
theorem d_Mo_steps_53 : decode b_Mo_steps 53 = .ok (.iaload, 1) := by decide +kernel
theorem d_Mo_steps_54 : decode b_Mo_steps 54 = .ok (.i2l, 1) := by decide +kernel
theorem d_Mo_steps_55 : decode b_Mo_steps 55 = .ok (.lstore 6, 2) := by decide +kernel
theorem d_Mo_steps_57 : decode b_Mo_steps 57 = .ok (.aload_n 0, 1) := by decide +kernel
theorem d_Mo_steps_58 : decode b_Mo_steps 58 = .ok (.getfield 13, 3) := by decide +kernel
theorem d_Mo_steps_61 : decode b_Mo_steps 61 = .ok (.iload 5, 2) := by decide +kernel
theorem d_Mo_steps_63 : decode b_Mo_steps 63 = .ok (.iconst 1, 1) := by decide +kernel
theorem d_Mo_steps_64 : decode b_Mo_steps 64 = .ok (.iadd, 1) := by decide +kernel
theorem d_Mo_steps_65 : decode b_Mo_steps 65 = .ok (.iaload, 1) := by decide +kernel
theorem d_Mo_steps_66 : decode b_Mo_steps 66 = .ok (.i2l, 1) := by decide +kernel
theorem d_Mo_steps_67 : decode b_Mo_steps 67 = .ok (.lstore 8, 2) := by decide +kernel
theorem d_Mo_steps_69 : decode b_Mo_steps 69 = .ok (.aload_n 0, 1) := by decide +kernel
theorem d_Mo_steps_70 : decode b_Mo_steps 70 = .ok (.getfield 13, 3) := by decide +kernel
theorem d_Mo_steps_73 : decode b_Mo_steps 73 = .ok (.iload 5, 2) := by decide +kernel
theorem d_Mo_steps_75 : decode b_Mo_steps 75 = .ok (.iconst 2, 1) := by decide +kernel
theorem d_Mo_steps_76 : decode b_Mo_steps 76 = .ok (.iadd, 1) := by decide +kernel
theorem d_Mo_steps_77 : decode b_Mo_steps 77 = .ok (.iaload, 1) := by decide +kernel
theorem d_Mo_steps_78 : decode b_Mo_steps 78 = .ok (.i2l, 1) := by decide +kernel
theorem d_Mo_steps_79 : decode b_Mo_steps 79 = .ok (.lstore 10, 2) := by decide +kernel
theorem d_Mo_steps_81 : decode b_Mo_steps 81 = .ok (.aload_n 0, 1) := by decide +kernel
theorem d_Mo_steps_82 : decode b_Mo_steps 82 = .ok (.getfield 13, 3) := by decide +kernel
theorem d_Mo_steps_85 : decode b_Mo_steps 85 = .ok (.iload 5, 2) := by decide +kernel
theorem d_Mo_steps_87 : decode b_Mo_steps 87 = .ok (.iconst 3, 1) := by decide +kernel
theorem d_Mo_steps_88 : decode b_Mo_steps 88 = .ok (.iadd, 1) := by decide +kernel
theorem d_Mo_steps_89 : decode b_Mo_steps 89 = .ok (.iaload, 1) := by decide +kernel
theorem d_Mo_steps_90 : decode b_Mo_steps 90 = .ok (.i2l, 1) := by decide +kernel
theorem d_Mo_steps_91 : decode b_Mo_steps 91 = .ok (.lstore 12, 2) := by decide +kernel
theorem d_Mo_steps_93 : decode b_Mo_steps 93 = .ok (.ldc2_w 257, 3) := by decide +kernel
theorem d_Mo_steps_96 : decode b_Mo_steps 96 = .ok (.lstore 14, 2) := by decide +kernel
theorem d_Mo_steps_98 : decode b_Mo_steps 98 = .ok (.ldc2_w 259, 3) := by decide +kernel
theorem d_Mo_steps_101 : decode b_Mo_steps 101 = .ok (.lstore 16, 2) := by decide +kernel
theorem d_Mo_steps_103 : decode b_Mo_steps 103 = .ok (.lload 14, 2) := by decide +kernel
theorem d_Mo_steps_105 : decode b_Mo_steps 105 = .ok (.lload 16, 2) := by decide +kernel
theorem d_Mo_steps_107 : decode b_Mo_steps 107 = .ok (.lcmp, 1) := by decide +kernel
theorem d_Mo_steps_108 : decode b_Mo_steps 108 = .ok (.ifCond .ge 116, 3) := by decide +kernel
theorem d_Mo_steps_111 : decode b_Mo_steps 111 = .ok (.lload 14, 2) := by decide +kernel
theorem d_Mo_steps_113 : decode b_Mo_steps 113 = .ok (.lload 16, 2) := by decide +kernel
theorem d_Mo_steps_115 : decode b_Mo_steps 115 = .ok (.lload 14, 2) := by decide +kernel
theorem d_Mo_steps_117 : decode b_Mo_steps 117 = .ok (.lsub, 1) := by decide +kernel
theorem d_Mo_steps_118 : decode b_Mo_steps 118 = .ok (.lconst 1, 1) := by decide +kernel
theorem d_Mo_steps_119 : decode b_Mo_steps 119 = .ok (.ladd, 1) := by decide +kernel
theorem d_Mo_steps_120 : decode b_Mo_steps 120 = .ok (.ldc2_w 98, 3) := by decide +kernel
theorem d_Mo_steps_123 : decode b_Mo_steps 123 = .ok (.ldiv, 1) := by decide +kernel
theorem d_Mo_steps_124 : decode b_Mo_steps 124 = .ok (.ladd, 1) := by decide +kernel
theorem d_Mo_steps_125 : decode b_Mo_steps 125 = .ok (.lstore 18, 2) := by decide +kernel
theorem d_Mo_steps_127 : decode b_Mo_steps 127 = .ok (.iload_n 3, 1) := by decide +kernel
theorem d_Mo_steps_128 : decode b_Mo_steps 128 = .ok (.ifCond .ne 52, 3) := by decide +kernel
theorem d_Mo_steps_131 : decode b_Mo_steps 131 = .ok (.aload_n 0, 1) := by decide +kernel
theorem d_Mo_steps_132 : decode b_Mo_steps 132 = .ok (.iload 4, 2) := by decide +kernel
theorem d_Mo_steps_134 : decode b_Mo_steps 134 = .ok (.i2l, 1) := by decide +kernel
theorem d_Mo_steps_135 : decode b_Mo_steps 135 = .ok (.ldc2_w 98, 3) := by decide +kernel
theorem d_Mo_steps_138 : decode b_Mo_steps 138 = .ok (.lload 6, 2) := by decide +kernel
theorem d_Mo_steps_140 : decode b_Mo_steps 140 = .ok (.lmul, 1) := by decide +kernel
theorem d_Mo_steps_141 : decode b_Mo_steps 141 = .ok (.lload 8, 2) := by decide +kernel
theorem d_Mo_steps_143 : decode b_Mo_steps 143 = .ok (.lsub, 1) := by decide +kernel
theorem d_Mo_steps_144 : decode b_Mo_steps 144 = .ok (.lmul, 1) := by decide +kernel
theorem d_Mo_steps_145 : decode b_Mo_steps 145 = .ok (.ldc2_w 98, 3) := by decide +kernel
theorem d_Mo_steps_148 : decode b_Mo_steps 148 = .ok (.lload 18, 2) := by decide +kernel
theorem d_Mo_steps_150 : decode b_Mo_steps 150 = .ok (.lmul, 1) := by decide +kernel
theorem d_Mo_steps_151 : decode b_Mo_steps 151 = .ok (.lconst 1, 1) := by decide +kernel
theorem d_Mo_steps_152 : decode b_Mo_steps 152 = .ok (.lsub, 1) := by decide +kernel
theorem d_Mo_steps_153 : decode b_Mo_steps 153 = .ok (.lsub, 1) := by decide +kernel
theorem d_Mo_steps_154 : decode b_Mo_steps 154 = .ok (.iload 4, 2) := by decide +kernel
theorem d_Mo_steps_156 : decode b_Mo_steps 156 = .ok (.i2l, 1) := by decide +kernel
theorem d_Mo_steps_157 : decode b_Mo_steps 157 = .ok (.lload 8, 2) := by decide +kernel
theorem d_Mo_steps_159 : decode b_Mo_steps 159 = .ok (.lload 10, 2) := by decide +kernel
theorem d_Mo_steps_161 : decode b_Mo_steps 161 = .ok (.lsub, 1) := by decide +kernel
theorem d_Mo_steps_162 : decode b_Mo_steps 162 = .ok (.lload 12, 2) := by decide +kernel
theorem d_Mo_steps_164 : decode b_Mo_steps 164 = .ok (.lsub, 1) := by decide +kernel
theorem d_Mo_steps_165 : decode b_Mo_steps 165 = .ok (.lmul, 1) := by decide +kernel
theorem d_Mo_steps_166 : decode b_Mo_steps 166 = .ok (.invokevirtual 107, 3) := by decide +kernel
theorem d_Mo_steps_169 : decode b_Mo_steps 169 = .ok (.ifCond .lt 7, 3) := by decide +kernel
theorem d_Mo_steps_172 : decode b_Mo_steps 172 = .ok (.iconst 1, 1) := by decide +kernel
theorem d_Mo_steps_173 : decode b_Mo_steps 173 = .ok (.goto 28, 3) := by decide +kernel
theorem d_Mo_steps_176 : decode b_Mo_steps 176 = .ok (.iconst 0, 1) := by decide +kernel
theorem d_Mo_steps_177 : decode b_Mo_steps 177 = .ok (.goto 24, 3) := by decide +kernel
theorem d_Mo_steps_180 : decode b_Mo_steps 180 = .ok (.aload_n 0, 1) := by decide +kernel
theorem d_Mo_steps_181 : decode b_Mo_steps 181 = .ok (.ldc2_w 98, 3) := by decide +kernel
theorem d_Mo_steps_184 : decode b_Mo_steps 184 = .ok (.lload 18, 2) := by decide +kernel
theorem d_Mo_steps_186 : decode b_Mo_steps 186 = .ok (.lmul, 1) := by decide +kernel
theorem d_Mo_steps_187 : decode b_Mo_steps 187 = .ok (.lconst 1, 1) := by decide +kernel
theorem d_Mo_steps_188 : decode b_Mo_steps 188 = .ok (.lsub, 1) := by decide +kernel
theorem d_Mo_steps_189 : decode b_Mo_steps 189 = .ok (.iload 4, 2) := by decide +kernel
theorem d_Mo_steps_191 : decode b_Mo_steps 191 = .ok (.lload 10, 2) := by decide +kernel
theorem d_Mo_steps_193 : decode b_Mo_steps 193 = .ok (.lload 12, 2) := by decide +kernel
theorem d_Mo_steps_195 : decode b_Mo_steps 195 = .ok (.lsub, 1) := by decide +kernel
theorem d_Mo_steps_196 : decode b_Mo_steps 196 = .ok (.lload 8, 2) := by decide +kernel
theorem d_Mo_steps_198 : decode b_Mo_steps 198 = .ok (.invokevirtual 261, 3) := by decide +kernel
theorem d_Mo_steps_201 : decode b_Mo_steps 201 = .ok (.istore 20, 2) := by decide +kernel
theorem d_Mo_steps_203 : decode b_Mo_steps 203 = .ok (.iload 20, 2) := by decide +kernel
theorem d_Mo_steps_205 : decode b_Mo_steps 205 = .ok (.ifCond .eq 10, 3) := by decide +kernel
theorem d_Mo_steps_208 : decode b_Mo_steps 208 = .ok (.lload 18, 2) := by decide +kernel
theorem d_Mo_steps_210 : decode b_Mo_steps 210 = .ok (.lstore 14, 2) := by decide +kernel
theorem d_Mo_steps_212 : decode b_Mo_steps 212 = .ok (.goto 9, 3) := by decide +kernel
theorem d_Mo_steps_215 : decode b_Mo_steps 215 = .ok (.lload 18, 2) := by decide +kernel
theorem d_Mo_steps_217 : decode b_Mo_steps 217 = .ok (.lconst 1, 1) := by decide +kernel
theorem d_Mo_steps_218 : decode b_Mo_steps 218 = .ok (.lsub, 1) := by decide +kernel
theorem d_Mo_steps_219 : decode b_Mo_steps 219 = .ok (.lstore 16, 2) := by decide +kernel
theorem d_Mo_steps_221 : decode b_Mo_steps 221 = .ok (.goto (-118), 3) := by decide +kernel
theorem d_Mo_steps_224 : decode b_Mo_steps 224 = .ok (.lload 14, 2) := by decide +kernel
theorem d_Mo_steps_226 : decode b_Mo_steps 226 = .ok (.lreturn, 1) := by decide +kernel
