/-! what each instruction is -/
theorem d_X_init_0 : decode b_X_init 0 = .ok (.aload_n 0, 1) := by decide +kernel
theorem d_X_init_1 : decode b_X_init 1 = .ok (.invokespecial 3, 3) := by decide +kernel
theorem d_X_init_4 : decode b_X_init 4 = .ok (.aload_n 0, 1) := by decide +kernel
theorem d_X_init_5 : decode b_X_init 5 = .ok (.new 9, 3) := by decide +kernel
theorem d_X_init_8 : decode b_X_init 8 = .ok (.dup, 1) := by decide +kernel
theorem d_X_init_9 : decode b_X_init 9 = .ok (.invokespecial 11, 3) := by decide +kernel
theorem d_X_init_12 : decode b_X_init 12 = .ok (.putfield 12, 3) := by decide +kernel
theorem d_X_init_15 : decode b_X_init 15 = .ok (.aload_n 0, 1) := by decide +kernel
theorem d_X_init_16 : decode b_X_init 16 = .ok (.new 16, 3) := by decide +kernel
theorem d_X_init_19 : decode b_X_init 19 = .ok (.dup, 1) := by decide +kernel
theorem d_X_init_20 : decode b_X_init 20 = .ok (.invokespecial 18, 3) := by decide +kernel
theorem d_X_init_23 : decode b_X_init 23 = .ok (.putfield 19, 3) := by decide +kernel
theorem d_X_init_26 : decode b_X_init 26 = .ok (.aload_n 0, 1) := by decide +kernel
theorem d_X_init_27 : decode b_X_init 27 = .ok (.bipush 20, 2) := by decide +kernel
theorem d_X_init_29 : decode b_X_init 29 = .ok (.newarray .int, 2) := by decide +kernel
theorem d_X_init_31 : decode b_X_init 31 = .ok (.putfield 23, 3) := by decide +kernel
theorem d_X_init_34 : decode b_X_init 34 = .ok (.aload_n 0, 1) := by decide +kernel
theorem d_X_init_35 : decode b_X_init 35 = .ok (.iconst 5, 1) := by decide +kernel
theorem d_X_init_36 : decode b_X_init 36 = .ok (.newarray .long, 2) := by decide +kernel
theorem d_X_init_38 : decode b_X_init 38 = .ok (.putfield 27, 3) := by decide +kernel
theorem d_X_init_41 : decode b_X_init 41 = .ok (.aload_n 0, 1) := by decide +kernel
theorem d_X_init_42 : decode b_X_init 42 = .ok (.sipush 400, 3) := by decide +kernel
theorem d_X_init_45 : decode b_X_init 45 = .ok (.newarray .int, 2) := by decide +kernel
theorem d_X_init_47 : decode b_X_init 47 = .ok (.putfield 31, 3) := by decide +kernel
theorem d_X_init_50 : decode b_X_init 50 = .ok (.aload_n 0, 1) := by decide +kernel
theorem d_X_init_51 : decode b_X_init 51 = .ok (.new 34, 3) := by decide +kernel
theorem d_X_init_54 : decode b_X_init 54 = .ok (.dup, 1) := by decide +kernel
theorem d_X_init_55 : decode b_X_init 55 = .ok (.invokespecial 36, 3) := by decide +kernel
theorem d_X_init_58 : decode b_X_init 58 = .ok (.putfield 37, 3) := by decide +kernel
theorem d_X_init_61 : decode b_X_init 61 = .ok (.aload_n 0, 1) := by decide +kernel
theorem d_X_init_62 : decode b_X_init 62 = .ok (.aconst_null, 1) := by decide +kernel
theorem d_X_init_63 : decode b_X_init 63 = .ok (.putfield 41, 3) := by decide +kernel
theorem d_X_init_66 : decode b_X_init 66 = .ok (.aload_n 0, 1) := by decide +kernel
theorem d_X_init_67 : decode b_X_init 67 = .ok (.iconst 0, 1) := by decide +kernel
theorem d_X_init_68 : decode b_X_init 68 = .ok (.putfield 44, 3) := by decide +kernel
theorem d_X_init_71 : decode b_X_init 71 = .ok (.return_, 1) := by decide +kernel
theorem d_X_seed_0 : decode b_X_seed 0 = .ok (.iload_n 1, 1) := by decide +kernel
theorem d_X_seed_1 : decode b_X_seed 1 = .ok (.ifCond .lt 8, 3) := by decide +kernel
theorem d_X_seed_4 : decode b_X_seed 4 = .ok (.iload_n 1, 1) := by decide +kernel
theorem d_X_seed_5 : decode b_X_seed 5 = .ok (.iconst 3, 1) := by decide +kernel
theorem d_X_seed_6 : decode b_X_seed 6 = .ok (.if_icmp .le 5, 3) := by decide +kernel
theorem d_X_seed_9 : decode b_X_seed 9 = .ok (.iconst (-1), 1) := by decide +kernel
theorem d_X_seed_10 : decode b_X_seed 10 = .ok (.ireturn, 1) := by decide +kernel
theorem d_X_seed_11 : decode b_X_seed 11 = .ok (.aload_n 0, 1) := by decide +kernel
theorem d_X_seed_12 : decode b_X_seed 12 = .ok (.getfield 37, 3) := by decide +kernel
theorem d_X_seed_15 : decode b_X_seed 15 = .ok (.iconst 0, 1) := by decide +kernel
theorem d_X_seed_16 : decode b_X_seed 16 = .ok (.putfield 48, 3) := by decide +kernel
theorem d_X_seed_19 : decode b_X_seed 19 = .ok (.aload_n 0, 1) := by decide +kernel
theorem d_X_seed_20 : decode b_X_seed 20 = .ok (.iconst 0, 1) := by decide +kernel
theorem d_X_seed_21 : decode b_X_seed 21 = .ok (.putfield 44, 3) := by decide +kernel
theorem d_X_seed_24 : decode b_X_seed 24 = .ok (.iload_n 1, 1) := by decide +kernel
theorem d_X_seed_25 : decode b_X_seed 25 = .ok (.ifCond .ne 10, 3) := by decide +kernel
theorem d_X_seed_28 : decode b_X_seed 28 = .ok (.aload_n 0, 1) := by decide +kernel
theorem d_X_seed_29 : decode b_X_seed 29 = .ok (.invokevirtual 51, 3) := by decide +kernel
theorem d_X_seed_32 : decode b_X_seed 32 = .ok (.goto 47, 3) := by decide +kernel
theorem d_X_seed_35 : decode b_X_seed 35 = .ok (.iload_n 1, 1) := by decide +kernel
theorem d_X_seed_36 : decode b_X_seed 36 = .ok (.iconst 1, 1) := by decide +kernel
theorem d_X_seed_37 : decode b_X_seed 37 = .ok (.if_icmp .ne 21, 3) := by decide +kernel
theorem d_X_seed_40 : decode b_X_seed 40 = .ok (.aload_n 0, 1) := by decide +kernel
theorem d_X_seed_41 : decode b_X_seed 41 = .ok (.getfield 37, 3) := by decide +kernel
theorem d_X_seed_44 : decode b_X_seed 44 = .ok (.iconst 0, 1) := by decide +kernel
theorem d_X_seed_45 : decode b_X_seed 45 = .ok (.getstatic 54, 3) := by decide +kernel
theorem d_X_seed_48 : decode b_X_seed 48 = .ok (.bipush 40, 2) := by decide +kernel
theorem d_X_seed_50 : decode b_X_seed 50 = .ok (.iconst 0, 1) := by decide +kernel
theorem d_X_seed_51 : decode b_X_seed 51 = .ok (.iconst 4, 1) := by decide +kernel
theorem d_X_seed_52 : decode b_X_seed 52 = .ok (.invokevirtual 57, 3) := by decide +kernel
theorem d_X_seed_55 : decode b_X_seed 55 = .ok (.goto 24, 3) := by decide +kernel
theorem d_X_seed_58 : decode b_X_seed 58 = .ok (.iload_n 1, 1) := by decide +kernel
theorem d_X_seed_59 : decode b_X_seed 59 = .ok (.iconst 2, 1) := by decide +kernel
theorem d_X_seed_60 : decode b_X_seed 60 = .ok (.if_icmp .ne 19, 3) := by decide +kernel
theorem d_X_seed_63 : decode b_X_seed 63 = .ok (.aload_n 0, 1) := by decide +kernel
theorem d_X_seed_64 : decode b_X_seed 64 = .ok (.getfield 37, 3) := by decide +kernel
theorem d_X_seed_67 : decode b_X_seed 67 = .ok (.iconst 1, 1) := by decide +kernel
theorem d_X_seed_68 : decode b_X_seed 68 = .ok (.getstatic 54, 3) := by decide +kernel
theorem d_X_seed_71 : decode b_X_seed 71 = .ok (.bipush 40, 2) := by decide +kernel
theorem d_X_seed_73 : decode b_X_seed 73 = .ok (.iconst 0, 1) := by decide +kernel
theorem d_X_seed_74 : decode b_X_seed 74 = .ok (.bipush 12, 2) := by decide +kernel
theorem d_X_seed_76 : decode b_X_seed 76 = .ok (.invokevirtual 57, 3) := by decide +kernel
theorem d_X_seed_79 : decode b_X_seed 79 = .ok (.aload_n 0, 1) := by decide +kernel
theorem d_X_seed_80 : decode b_X_seed 80 = .ok (.getfield 12, 3) := by decide +kernel
theorem d_X_seed_83 : decode b_X_seed 83 = .ok (.aload_n 0, 1) := by decide +kernel
theorem d_X_seed_84 : decode b_X_seed 84 = .ok (.getfield 37, 3) := by decide +kernel
theorem d_X_seed_87 : decode b_X_seed 87 = .ok (.invokevirtual 61, 3) := by decide +kernel
theorem d_X_seed_90 : decode b_X_seed 90 = .ok (.aload_n 0, 1) := by decide +kernel
theorem d_X_seed_91 : decode b_X_seed 91 = .ok (.getfield 37, 3) := by decide +kernel
theorem d_X_seed_94 : decode b_X_seed 94 = .ok (.getfield 48, 3) := by decide +kernel
theorem d_X_seed_97 : decode b_X_seed 97 = .ok (.ireturn, 1) := by decide +kernel
theorem d_X_place_0 : decode b_X_place 0 = .ok (.iload_n 1, 1) := by decide +kernel
theorem d_X_place_1 : decode b_X_place 1 = .ok (.ifCond .lt 33, 3) := by decide +kernel
theorem d_X_place_4 : decode b_X_place 4 = .ok (.iload_n 1, 1) := by decide +kernel
theorem d_X_place_5 : decode b_X_place 5 = .ok (.iconst 1, 1) := by decide +kernel
theorem d_X_place_6 : decode b_X_place 6 = .ok (.if_icmp .gt 28, 3) := by decide +kernel
theorem d_X_place_9 : decode b_X_place 9 = .ok (.iload 6, 2) := by decide +kernel
theorem d_X_place_11 : decode b_X_place 11 = .ok (.ifCond .lt 23, 3) := by decide +kernel
theorem d_X_place_14 : decode b_X_place 14 = .ok (.iload 6, 2) := by decide +kernel
theorem d_X_place_16 : decode b_X_place 16 = .ok (.bipush 10, 2) := by decide +kernel
theorem d_X_place_18 : decode b_X_place 18 = .ok (.if_icmp .ge 16, 3) := by decide +kernel
theorem d_X_place_21 : decode b_X_place 21 = .ok (.aload_n 0, 1) := by decide +kernel
theorem d_X_place_22 : decode b_X_place 22 = .ok (.getfield 37, 3) := by decide +kernel
theorem d_X_place_25 : decode b_X_place 25 = .ok (.getfield 48, 3) := by decide +kernel
theorem d_X_place_28 : decode b_X_place 28 = .ok (.sipush 400, 3) := by decide +kernel
theorem d_X_place_31 : decode b_X_place 31 = .ok (.if_icmp .lt 5, 3) := by decide +kernel
theorem d_X_place_34 : decode b_X_place 34 = .ok (.iconst (-1), 1) := by decide +kernel
theorem d_X_place_35 : decode b_X_place 35 = .ok (.ireturn, 1) := by decide +kernel
theorem d_X_place_36 : decode b_X_place 36 = .ok (.iload_n 2, 1) := by decide +kernel
theorem d_X_place_37 : decode b_X_place 37 = .ok (.iload_n 3, 1) := by decide +kernel
theorem d_X_place_38 : decode b_X_place 38 = .ok (.iload 4, 2) := by decide +kernel
theorem d_X_place_40 : decode b_X_place 40 = .ok (.iload 5, 2) := by decide +kernel
theorem d_X_place_42 : decode b_X_place 42 = .ok (.invokestatic 65, 3) := by decide +kernel
theorem d_X_place_45 : decode b_X_place 45 = .ok (.ifCond .ne 5, 3) := by decide +kernel
theorem d_X_place_48 : decode b_X_place 48 = .ok (.iconst (-1), 1) := by decide +kernel
theorem d_X_place_49 : decode b_X_place 49 = .ok (.ireturn, 1) := by decide +kernel
theorem d_X_place_50 : decode b_X_place 50 = .ok (.iload_n 1, 1) := by decide +kernel
theorem d_X_place_51 : decode b_X_place 51 = .ok (.ifCond .ne 7, 3) := by decide +kernel
theorem d_X_place_54 : decode b_X_place 54 = .ok (.iconst 1, 1) := by decide +kernel
theorem d_X_place_55 : decode b_X_place 55 = .ok (.goto 4, 3) := by decide +kernel
theorem d_X_place_58 : decode b_X_place 58 = .ok (.iconst 3, 1) := by decide +kernel
theorem d_X_place_59 : decode b_X_place 59 = .ok (.istore 8, 2) := by decide +kernel
theorem d_X_place_61 : decode b_X_place 61 = .ok (.iload 7, 2) := by decide +kernel
theorem d_X_place_63 : decode b_X_place 63 = .ok (.ifCond .eq 11, 3) := by decide +kernel
theorem d_X_place_66 : decode b_X_place 66 = .ok (.iload 6, 2) := by decide +kernel
theorem d_X_place_68 : decode b_X_place 68 = .ok (.iload 8, 2) := by decide +kernel
theorem d_X_place_70 : decode b_X_place 70 = .ok (.iadd, 1) := by decide +kernel
theorem d_X_place_71 : decode b_X_place 71 = .ok (.goto 11, 3) := by decide +kernel
theorem d_X_place_74 : decode b_X_place 74 = .ok (.iload 6, 2) := by decide +kernel
theorem d_X_place_76 : decode b_X_place 76 = .ok (.bipush 10, 2) := by decide +kernel
theorem d_X_place_78 : decode b_X_place 78 = .ok (.iadd, 1) := by decide +kernel
theorem d_X_place_79 : decode b_X_place 79 = .ok (.iload 8, 2) := by decide +kernel
theorem d_X_place_81 : decode b_X_place 81 = .ok (.isub, 1) := by decide +kernel
theorem d_X_place_82 : decode b_X_place 82 = .ok (.bipush 10, 2) := by decide +kernel
theorem d_X_place_84 : decode b_X_place 84 = .ok (.irem, 1) := by decide +kernel
theorem d_X_place_85 : decode b_X_place 85 = .ok (.istore 9, 2) := by decide +kernel
theorem d_X_place_87 : decode b_X_place 87 = .ok (.aload_n 0, 1) := by decide +kernel
theorem d_X_place_88 : decode b_X_place 88 = .ok (.getfield 23, 3) := by decide +kernel
theorem d_X_place_91 : decode b_X_place 91 = .ok (.iconst 0, 1) := by decide +kernel
theorem d_X_place_92 : decode b_X_place 92 = .ok (.iload_n 2, 1) := by decide +kernel
theorem d_X_place_93 : decode b_X_place 93 = .ok (.iload_n 3, 1) := by decide +kernel
theorem d_X_place_94 : decode b_X_place 94 = .ok (.iload 4, 2) := by decide +kernel
theorem d_X_place_96 : decode b_X_place 96 = .ok (.iload 5, 2) := by decide +kernel
theorem d_X_place_98 : decode b_X_place 98 = .ok (.invokestatic 71, 3) := by decide +kernel
theorem d_X_place_101 : decode b_X_place 101 = .ok (.aload_n 0, 1) := by decide +kernel
theorem d_X_place_102 : decode b_X_place 102 = .ok (.getfield 23, 3) := by decide +kernel
theorem d_X_place_105 : decode b_X_place 105 = .ok (.iconst 0, 1) := by decide +kernel
theorem d_X_place_106 : decode b_X_place 106 = .ok (.iload 6, 2) := by decide +kernel
theorem d_X_place_108 : decode b_X_place 108 = .ok (.iconst 4, 1) := by decide +kernel
theorem d_X_place_109 : decode b_X_place 109 = .ok (.imul, 1) := by decide +kernel
theorem d_X_place_110 : decode b_X_place 110 = .ok (.iconst 4, 1) := by decide +kernel
theorem d_X_place_111 : decode b_X_place 111 = .ok (.invokestatic 75, 3) := by decide +kernel
theorem d_X_place_114 : decode b_X_place 114 = .ok (.aload_n 0, 1) := by decide +kernel
theorem d_X_place_115 : decode b_X_place 115 = .ok (.getfield 23, 3) := by decide +kernel
theorem d_X_place_118 : decode b_X_place 118 = .ok (.iconst 0, 1) := by decide +kernel
theorem d_X_place_119 : decode b_X_place 119 = .ok (.iload 9, 2) := by decide +kernel
theorem d_X_place_121 : decode b_X_place 121 = .ok (.iconst 4, 1) := by decide +kernel
theorem d_X_place_122 : decode b_X_place 122 = .ok (.imul, 1) := by decide +kernel
theorem d_X_place_123 : decode b_X_place 123 = .ok (.bipush 8, 2) := by decide +kernel
theorem d_X_place_125 : decode b_X_place 125 = .ok (.invokestatic 75, 3) := by decide +kernel
theorem d_X_place_128 : decode b_X_place 128 = .ok (.aload_n 0, 1) := by decide +kernel
theorem d_X_place_129 : decode b_X_place 129 = .ok (.getfield 37, 3) := by decide +kernel
theorem d_X_place_132 : decode b_X_place 132 = .ok (.getfield 48, 3) := by decide +kernel
theorem d_X_place_135 : decode b_X_place 135 = .ok (.istore 10, 2) := by decide +kernel
theorem d_X_place_137 : decode b_X_place 137 = .ok (.aload_n 0, 1) := by decide +kernel
theorem d_X_place_138 : decode b_X_place 138 = .ok (.getfield 37, 3) := by decide +kernel
theorem d_X_place_141 : decode b_X_place 141 = .ok (.iload 10, 2) := by decide +kernel
theorem d_X_place_143 : decode b_X_place 143 = .ok (.iload_n 1, 1) := by decide +kernel
theorem d_X_place_144 : decode b_X_place 144 = .ok (.aload_n 0, 1) := by decide +kernel
theorem d_X_place_145 : decode b_X_place 145 = .ok (.getfield 23, 3) := by decide +kernel
theorem d_X_place_148 : decode b_X_place 148 = .ok (.iconst 0, 1) := by decide +kernel
theorem d_X_place_149 : decode b_X_place 149 = .ok (.iconst 4, 1) := by decide +kernel
theorem d_X_place_150 : decode b_X_place 150 = .ok (.bipush 8, 2) := by decide +kernel
theorem d_X_place_152 : decode b_X_place 152 = .ok (.invokevirtual 79, 3) := by decide +kernel
theorem d_X_place_155 : decode b_X_place 155 = .ok (.aload_n 0, 1) := by decide +kernel
theorem d_X_place_156 : decode b_X_place 156 = .ok (.getfield 37, 3) := by decide +kernel
theorem d_X_place_159 : decode b_X_place 159 = .ok (.iload 10, 2) := by decide +kernel
theorem d_X_place_161 : decode b_X_place 161 = .ok (.invokevirtual 83, 3) := by decide +kernel
theorem d_X_place_164 : decode b_X_place 164 = .ok (.ifCond .ne 5, 3) := by decide +kernel
theorem d_X_place_167 : decode b_X_place 167 = .ok (.iconst (-1), 1) := by decide +kernel
theorem d_X_place_168 : decode b_X_place 168 = .ok (.ireturn, 1) := by decide +kernel
theorem d_X_place_169 : decode b_X_place 169 = .ok (.aload_n 0, 1) := by decide +kernel
theorem d_X_place_170 : decode b_X_place 170 = .ok (.getfield 12, 3) := by decide +kernel
theorem d_X_place_173 : decode b_X_place 173 = .ok (.aload_n 0, 1) := by decide +kernel
theorem d_X_place_174 : decode b_X_place 174 = .ok (.getfield 37, 3) := by decide +kernel
theorem d_X_place_177 : decode b_X_place 177 = .ok (.iload 10, 2) := by decide +kernel
theorem d_X_place_179 : decode b_X_place 179 = .ok (.invokevirtual 87, 3) := by decide +kernel
theorem d_X_place_182 : decode b_X_place 182 = .ok (.aload_n 0, 1) := by decide +kernel
theorem d_X_place_183 : decode b_X_place 183 = .ok (.iload 10, 2) := by decide +kernel
theorem d_X_place_185 : decode b_X_place 185 = .ok (.invokevirtual 91, 3) := by decide +kernel
theorem d_X_place_188 : decode b_X_place 188 = .ok (.ifCond .eq 5, 3) := by decide +kernel
theorem d_X_place_191 : decode b_X_place 191 = .ok (.iconst (-1), 1) := by decide +kernel
theorem d_X_place_192 : decode b_X_place 192 = .ok (.ireturn, 1) := by decide +kernel
theorem d_X_place_193 : decode b_X_place 193 = .ok (.aload_n 0, 1) := by decide +kernel
theorem d_X_place_194 : decode b_X_place 194 = .ok (.getfield 37, 3) := by decide +kernel
theorem d_X_place_197 : decode b_X_place 197 = .ok (.iload 10, 2) := by decide +kernel
theorem d_X_place_199 : decode b_X_place 199 = .ok (.iconst 1, 1) := by decide +kernel
theorem d_X_place_200 : decode b_X_place 200 = .ok (.iadd, 1) := by decide +kernel
theorem d_X_place_201 : decode b_X_place 201 = .ok (.putfield 48, 3) := by decide +kernel
theorem d_X_place_204 : decode b_X_place 204 = .ok (.iload 10, 2) := by decide +kernel
theorem d_X_place_206 : decode b_X_place 206 = .ok (.ireturn, 1) := by decide +kernel
theorem d_X_remove_0 : decode b_X_remove 0 = .ok (.iload_n 1, 1) := by decide +kernel
theorem d_X_remove_1 : decode b_X_remove 1 = .ok (.ifCond .lt 14, 3) := by decide +kernel
theorem d_X_remove_4 : decode b_X_remove 4 = .ok (.iload_n 1, 1) := by decide +kernel
theorem d_X_remove_5 : decode b_X_remove 5 = .ok (.aload_n 0, 1) := by decide +kernel
theorem d_X_remove_6 : decode b_X_remove 6 = .ok (.getfield 37, 3) := by decide +kernel
theorem d_X_remove_9 : decode b_X_remove 9 = .ok (.getfield 48, 3) := by decide +kernel
theorem d_X_remove_12 : decode b_X_remove 12 = .ok (.if_icmp .lt 5, 3) := by decide +kernel
theorem d_X_remove_15 : decode b_X_remove 15 = .ok (.iconst 0, 1) := by decide +kernel
theorem d_X_remove_16 : decode b_X_remove 16 = .ok (.ireturn, 1) := by decide +kernel
theorem d_X_remove_17 : decode b_X_remove 17 = .ok (.aload_n 0, 1) := by decide +kernel
theorem d_X_remove_18 : decode b_X_remove 18 = .ok (.getfield 12, 3) := by decide +kernel
theorem d_X_remove_21 : decode b_X_remove 21 = .ok (.iload_n 1, 1) := by decide +kernel
theorem d_X_remove_22 : decode b_X_remove 22 = .ok (.aload_n 0, 1) := by decide +kernel
theorem d_X_remove_23 : decode b_X_remove 23 = .ok (.getfield 37, 3) := by decide +kernel
theorem d_X_remove_26 : decode b_X_remove 26 = .ok (.getfield 48, 3) := by decide +kernel
theorem d_X_remove_29 : decode b_X_remove 29 = .ok (.invokevirtual 94, 3) := by decide +kernel
theorem d_X_remove_32 : decode b_X_remove 32 = .ok (.aload_n 0, 1) := by decide +kernel
theorem d_X_remove_33 : decode b_X_remove 33 = .ok (.getfield 37, 3) := by decide +kernel
theorem d_X_remove_36 : decode b_X_remove 36 = .ok (.iload_n 1, 1) := by decide +kernel
theorem d_X_remove_37 : decode b_X_remove 37 = .ok (.invokevirtual 98, 3) := by decide +kernel
theorem d_X_remove_40 : decode b_X_remove 40 = .ok (.iconst 1, 1) := by decide +kernel
theorem d_X_remove_41 : decode b_X_remove 41 = .ok (.ireturn, 1) := by decide +kernel
theorem d_X_inflate_0 : decode b_X_inflate 0 = .ok (.iconst 0, 1) := by decide +kernel
theorem d_X_inflate_1 : decode b_X_inflate 1 = .ok (.istore_n 1, 1) := by decide +kernel
theorem d_X_inflate_2 : decode b_X_inflate 2 = .ok (.iconst 0, 1) := by decide +kernel
theorem d_X_inflate_3 : decode b_X_inflate 3 = .ok (.istore_n 2, 1) := by decide +kernel
theorem d_X_inflate_4 : decode b_X_inflate 4 = .ok (.iload_n 2, 1) := by decide +kernel
theorem d_X_inflate_5 : decode b_X_inflate 5 = .ok (.aload_n 0, 1) := by decide +kernel
theorem d_X_inflate_6 : decode b_X_inflate 6 = .ok (.getfield 37, 3) := by decide +kernel
theorem d_X_inflate_9 : decode b_X_inflate 9 = .ok (.getfield 48, 3) := by decide +kernel
theorem d_X_inflate_12 : decode b_X_inflate 12 = .ok (.if_icmp .ge 29, 3) := by decide +kernel
theorem d_X_inflate_15 : decode b_X_inflate 15 = .ok (.iload_n 1, 1) := by decide +kernel
theorem d_X_inflate_16 : decode b_X_inflate 16 = .ok (.aload_n 0, 1) := by decide +kernel
theorem d_X_inflate_17 : decode b_X_inflate 17 = .ok (.getfield 37, 3) := by decide +kernel
theorem d_X_inflate_20 : decode b_X_inflate 20 = .ok (.getfield 102, 3) := by decide +kernel
theorem d_X_inflate_23 : decode b_X_inflate 23 = .ok (.iload_n 2, 1) := by decide +kernel
theorem d_X_inflate_24 : decode b_X_inflate 24 = .ok (.iaload, 1) := by decide +kernel
theorem d_X_inflate_25 : decode b_X_inflate 25 = .ok (.ifCond .ne 7, 3) := by decide +kernel
theorem d_X_inflate_28 : decode b_X_inflate 28 = .ok (.iconst 2, 1) := by decide +kernel
theorem d_X_inflate_29 : decode b_X_inflate 29 = .ok (.goto 4, 3) := by decide +kernel
theorem d_X_inflate_32 : decode b_X_inflate 32 = .ok (.iconst 3, 1) := by decide +kernel
theorem d_X_inflate_33 : decode b_X_inflate 33 = .ok (.iadd, 1) := by decide +kernel
theorem d_X_inflate_34 : decode b_X_inflate 34 = .ok (.istore_n 1, 1) := by decide +kernel
theorem d_X_inflate_35 : decode b_X_inflate 35 = .ok (.iinc 2 1, 3) := by decide +kernel
theorem d_X_inflate_38 : decode b_X_inflate 38 = .ok (.goto (-34), 3) := by decide +kernel
theorem d_X_inflate_41 : decode b_X_inflate 41 = .ok (.iload_n 1, 1) := by decide +kernel
theorem d_X_inflate_42 : decode b_X_inflate 42 = .ok (.sipush 400, 3) := by decide +kernel
theorem d_X_inflate_45 : decode b_X_inflate 45 = .ok (.if_icmp .le 5, 3) := by decide +kernel
theorem d_X_inflate_48 : decode b_X_inflate 48 = .ok (.iconst (-1), 1) := by decide +kernel
theorem d_X_inflate_49 : decode b_X_inflate 49 = .ok (.ireturn, 1) := by decide +kernel
theorem d_X_inflate_50 : decode b_X_inflate 50 = .ok (.aload_n 0, 1) := by decide +kernel
theorem d_X_inflate_51 : decode b_X_inflate 51 = .ok (.invokevirtual 105, 3) := by decide +kernel
theorem d_X_inflate_54 : decode b_X_inflate 54 = .ok (.astore_n 2, 1) := by decide +kernel
theorem d_X_inflate_55 : decode b_X_inflate 55 = .ok (.iconst 0, 1) := by decide +kernel
theorem d_X_inflate_56 : decode b_X_inflate 56 = .ok (.istore_n 3, 1) := by decide +kernel
theorem d_X_inflate_57 : decode b_X_inflate 57 = .ok (.iload_n 3, 1) := by decide +kernel
theorem d_X_inflate_58 : decode b_X_inflate 58 = .ok (.aload_n 0, 1) := by decide +kernel
theorem d_X_inflate_59 : decode b_X_inflate 59 = .ok (.getfield 37, 3) := by decide +kernel
theorem d_X_inflate_62 : decode b_X_inflate 62 = .ok (.getfield 48, 3) := by decide +kernel
theorem d_X_inflate_65 : decode b_X_inflate 65 = .ok (.if_icmp .ge 15, 3) := by decide +kernel
theorem d_X_inflate_68 : decode b_X_inflate 68 = .ok (.aload_n 0, 1) := by decide +kernel
theorem d_X_inflate_69 : decode b_X_inflate 69 = .ok (.iload_n 3, 1) := by decide +kernel
theorem d_X_inflate_70 : decode b_X_inflate 70 = .ok (.aload_n 2, 1) := by decide +kernel
theorem d_X_inflate_71 : decode b_X_inflate 71 = .ok (.invokevirtual 109, 3) := by decide +kernel
theorem d_X_inflate_74 : decode b_X_inflate 74 = .ok (.iinc 3 1, 3) := by decide +kernel
theorem d_X_inflate_77 : decode b_X_inflate 77 = .ok (.goto (-20), 3) := by decide +kernel
theorem d_X_inflate_80 : decode b_X_inflate 80 = .ok (.aload_n 2, 1) := by decide +kernel
theorem d_X_inflate_81 : decode b_X_inflate 81 = .ok (.invokevirtual 113, 3) := by decide +kernel
theorem d_X_inflate_84 : decode b_X_inflate 84 = .ok (.ifCond .ne 5, 3) := by decide +kernel
theorem d_X_inflate_87 : decode b_X_inflate 87 = .ok (.iconst (-1), 1) := by decide +kernel
theorem d_X_inflate_88 : decode b_X_inflate 88 = .ok (.ireturn, 1) := by decide +kernel
theorem d_X_inflate_89 : decode b_X_inflate 89 = .ok (.aload_n 0, 1) := by decide +kernel
theorem d_X_inflate_90 : decode b_X_inflate 90 = .ok (.aload_n 2, 1) := by decide +kernel
theorem d_X_inflate_91 : decode b_X_inflate 91 = .ok (.invokevirtual 117, 3) := by decide +kernel
theorem d_X_inflate_94 : decode b_X_inflate 94 = .ok (.aload_n 0, 1) := by decide +kernel
theorem d_X_inflate_95 : decode b_X_inflate 95 = .ok (.dup, 1) := by decide +kernel
theorem d_X_inflate_96 : decode b_X_inflate 96 = .ok (.getfield 44, 3) := by decide +kernel
theorem d_X_inflate_99 : decode b_X_inflate 99 = .ok (.iconst 1, 1) := by decide +kernel
theorem d_X_inflate_100 : decode b_X_inflate 100 = .ok (.iadd, 1) := by decide +kernel
theorem d_X_inflate_101 : decode b_X_inflate 101 = .ok (.putfield 44, 3) := by decide +kernel
theorem d_X_inflate_104 : decode b_X_inflate 104 = .ok (.aload_n 0, 1) := by decide +kernel
theorem d_X_inflate_105 : decode b_X_inflate 105 = .ok (.getfield 37, 3) := by decide +kernel
theorem d_X_inflate_108 : decode b_X_inflate 108 = .ok (.getfield 48, 3) := by decide +kernel
theorem d_X_inflate_111 : decode b_X_inflate 111 = .ok (.ireturn, 1) := by decide +kernel
theorem d_X_deflate_0 : decode b_X_deflate 0 = .ok (.aload_n 0, 1) := by decide +kernel
theorem d_X_deflate_1 : decode b_X_deflate 1 = .ok (.getfield 37, 3) := by decide +kernel
theorem d_X_deflate_4 : decode b_X_deflate 4 = .ok (.getfield 48, 3) := by decide +kernel
theorem d_X_deflate_7 : decode b_X_deflate 7 = .ok (.ifCond .ne 5, 3) := by decide +kernel
theorem d_X_deflate_10 : decode b_X_deflate 10 = .ok (.iconst (-1), 1) := by decide +kernel
theorem d_X_deflate_11 : decode b_X_deflate 11 = .ok (.ireturn, 1) := by decide +kernel
theorem d_X_deflate_12 : decode b_X_deflate 12 = .ok (.aload_n 0, 1) := by decide +kernel
theorem d_X_deflate_13 : decode b_X_deflate 13 = .ok (.invokevirtual 105, 3) := by decide +kernel
theorem d_X_deflate_16 : decode b_X_deflate 16 = .ok (.astore_n 1, 1) := by decide +kernel
theorem d_X_deflate_17 : decode b_X_deflate 17 = .ok (.aload_n 0, 1) := by decide +kernel
theorem d_X_deflate_18 : decode b_X_deflate 18 = .ok (.getfield 31, 3) := by decide +kernel
theorem d_X_deflate_21 : decode b_X_deflate 21 = .ok (.iconst 0, 1) := by decide +kernel
theorem d_X_deflate_22 : decode b_X_deflate 22 = .ok (.invokestatic 120, 3) := by decide +kernel
theorem d_X_deflate_25 : decode b_X_deflate 25 = .ok (.iconst 0, 1) := by decide +kernel
theorem d_X_deflate_26 : decode b_X_deflate 26 = .ok (.istore_n 2, 1) := by decide +kernel
theorem d_X_deflate_27 : decode b_X_deflate 27 = .ok (.iload_n 2, 1) := by decide +kernel
theorem d_X_deflate_28 : decode b_X_deflate 28 = .ok (.aload_n 0, 1) := by decide +kernel
theorem d_X_deflate_29 : decode b_X_deflate 29 = .ok (.getfield 37, 3) := by decide +kernel
theorem d_X_deflate_32 : decode b_X_deflate 32 = .ok (.getfield 48, 3) := by decide +kernel
theorem d_X_deflate_35 : decode b_X_deflate 35 = .ok (.if_icmp .ge 27, 3) := by decide +kernel
theorem d_X_deflate_38 : decode b_X_deflate 38 = .ok (.aload_n 0, 1) := by decide +kernel
theorem d_X_deflate_39 : decode b_X_deflate 39 = .ok (.getfield 37, 3) := by decide +kernel
theorem d_X_deflate_42 : decode b_X_deflate 42 = .ok (.getfield 102, 3) := by decide +kernel
theorem d_X_deflate_45 : decode b_X_deflate 45 = .ok (.iload_n 2, 1) := by decide +kernel
theorem d_X_deflate_46 : decode b_X_deflate 46 = .ok (.iaload, 1) := by decide +kernel
theorem d_X_deflate_47 : decode b_X_deflate 47 = .ok (.ifCond .ne 9, 3) := by decide +kernel
theorem d_X_deflate_50 : decode b_X_deflate 50 = .ok (.aload_n 0, 1) := by decide +kernel
theorem d_X_deflate_51 : decode b_X_deflate 51 = .ok (.iload_n 2, 1) := by decide +kernel
theorem d_X_deflate_52 : decode b_X_deflate 52 = .ok (.aload_n 1, 1) := by decide +kernel
theorem d_X_deflate_53 : decode b_X_deflate 53 = .ok (.invokevirtual 126, 3) := by decide +kernel
theorem d_X_deflate_56 : decode b_X_deflate 56 = .ok (.iinc 2 1, 3) := by decide +kernel
theorem d_X_deflate_59 : decode b_X_deflate 59 = .ok (.goto (-32), 3) := by decide +kernel
theorem d_X_deflate_62 : decode b_X_deflate 62 = .ok (.aload_n 1, 1) := by decide +kernel
theorem d_X_deflate_63 : decode b_X_deflate 63 = .ok (.invokevirtual 129, 3) := by decide +kernel
theorem d_X_deflate_66 : decode b_X_deflate 66 = .ok (.aload_n 1, 1) := by decide +kernel
theorem d_X_deflate_67 : decode b_X_deflate 67 = .ok (.invokevirtual 113, 3) := by decide +kernel
theorem d_X_deflate_70 : decode b_X_deflate 70 = .ok (.ifCond .ne 5, 3) := by decide +kernel
theorem d_X_deflate_73 : decode b_X_deflate 73 = .ok (.iconst (-1), 1) := by decide +kernel
theorem d_X_deflate_74 : decode b_X_deflate 74 = .ok (.ireturn, 1) := by decide +kernel
theorem d_X_deflate_75 : decode b_X_deflate 75 = .ok (.aload_n 0, 1) := by decide +kernel
theorem d_X_deflate_76 : decode b_X_deflate 76 = .ok (.invokevirtual 132, 3) := by decide +kernel
theorem d_X_deflate_79 : decode b_X_deflate 79 = .ok (.istore_n 2, 1) := by decide +kernel
theorem d_X_deflate_80 : decode b_X_deflate 80 = .ok (.aload_n 0, 1) := by decide +kernel
theorem d_X_deflate_81 : decode b_X_deflate 81 = .ok (.aload_n 1, 1) := by decide +kernel
theorem d_X_deflate_82 : decode b_X_deflate 82 = .ok (.invokevirtual 117, 3) := by decide +kernel
theorem d_X_deflate_85 : decode b_X_deflate 85 = .ok (.aload_n 0, 1) := by decide +kernel
theorem d_X_deflate_86 : decode b_X_deflate 86 = .ok (.dup, 1) := by decide +kernel
theorem d_X_deflate_87 : decode b_X_deflate 87 = .ok (.getfield 44, 3) := by decide +kernel
theorem d_X_deflate_90 : decode b_X_deflate 90 = .ok (.iconst 1, 1) := by decide +kernel
theorem d_X_deflate_91 : decode b_X_deflate 91 = .ok (.isub, 1) := by decide +kernel
theorem d_X_deflate_92 : decode b_X_deflate 92 = .ok (.putfield 44, 3) := by decide +kernel
theorem d_X_deflate_95 : decode b_X_deflate 95 = .ok (.iload_n 2, 1) := by decide +kernel
theorem d_X_deflate_96 : decode b_X_deflate 96 = .ok (.ireturn, 1) := by decide +kernel
theorem d_X_clash_0 : decode b_X_clash 0 = .ok (.iconst 1, 1) := by decide +kernel
theorem d_X_clash_1 : decode b_X_clash 1 = .ok (.istore_n 1, 1) := by decide +kernel
theorem d_X_clash_2 : decode b_X_clash 2 = .ok (.iload_n 1, 1) := by decide +kernel
theorem d_X_clash_3 : decode b_X_clash 3 = .ok (.aload_n 0, 1) := by decide +kernel
theorem d_X_clash_4 : decode b_X_clash 4 = .ok (.getfield 37, 3) := by decide +kernel
theorem d_X_clash_7 : decode b_X_clash 7 = .ok (.getfield 48, 3) := by decide +kernel
theorem d_X_clash_10 : decode b_X_clash 10 = .ok (.if_icmp .ge 21, 3) := by decide +kernel
theorem d_X_clash_13 : decode b_X_clash 13 = .ok (.aload_n 0, 1) := by decide +kernel
theorem d_X_clash_14 : decode b_X_clash 14 = .ok (.iload_n 1, 1) := by decide +kernel
theorem d_X_clash_15 : decode b_X_clash 15 = .ok (.invokevirtual 91, 3) := by decide +kernel
theorem d_X_clash_18 : decode b_X_clash 18 = .ok (.ifCond .eq 7, 3) := by decide +kernel
theorem d_X_clash_21 : decode b_X_clash 21 = .ok (.iload_n 1, 1) := by decide +kernel
theorem d_X_clash_22 : decode b_X_clash 22 = .ok (.iconst 1, 1) := by decide +kernel
theorem d_X_clash_23 : decode b_X_clash 23 = .ok (.iadd, 1) := by decide +kernel
theorem d_X_clash_24 : decode b_X_clash 24 = .ok (.ireturn, 1) := by decide +kernel
theorem d_X_clash_25 : decode b_X_clash 25 = .ok (.iinc 1 1, 3) := by decide +kernel
theorem d_X_clash_28 : decode b_X_clash 28 = .ok (.goto (-26), 3) := by decide +kernel
theorem d_X_clash_31 : decode b_X_clash 31 = .ok (.iconst 0, 1) := by decide +kernel
theorem d_X_clash_32 : decode b_X_clash 32 = .ok (.ireturn, 1) := by decide +kernel
theorem d_X_count_0 : decode b_X_count 0 = .ok (.iload_n 1, 1) := by decide +kernel
theorem d_X_count_1 : decode b_X_count 1 = .ok (.tableswitch 83 0 6 #[43, 51, 57, 63, 68, 73, 78], 43) := by decide +kernel
theorem d_X_count_44 : decode b_X_count 44 = .ok (.aload_n 0, 1) := by decide +kernel
theorem d_X_count_45 : decode b_X_count 45 = .ok (.getfield 37, 3) := by decide +kernel
theorem d_X_count_48 : decode b_X_count 48 = .ok (.getfield 48, 3) := by decide +kernel
theorem d_X_count_51 : decode b_X_count 51 = .ok (.ireturn, 1) := by decide +kernel
theorem d_X_count_52 : decode b_X_count 52 = .ok (.aload_n 0, 1) := by decide +kernel
theorem d_X_count_53 : decode b_X_count 53 = .ok (.iconst 0, 1) := by decide +kernel
theorem d_X_count_54 : decode b_X_count 54 = .ok (.invokevirtual 136, 3) := by decide +kernel
theorem d_X_count_57 : decode b_X_count 57 = .ok (.ireturn, 1) := by decide +kernel
theorem d_X_count_58 : decode b_X_count 58 = .ok (.aload_n 0, 1) := by decide +kernel
theorem d_X_count_59 : decode b_X_count 59 = .ok (.iconst 1, 1) := by decide +kernel
theorem d_X_count_60 : decode b_X_count 60 = .ok (.invokevirtual 136, 3) := by decide +kernel
theorem d_X_count_63 : decode b_X_count 63 = .ok (.ireturn, 1) := by decide +kernel
theorem d_X_count_64 : decode b_X_count 64 = .ok (.aload_n 0, 1) := by decide +kernel
theorem d_X_count_65 : decode b_X_count 65 = .ok (.getfield 44, 3) := by decide +kernel
theorem d_X_count_68 : decode b_X_count 68 = .ok (.ireturn, 1) := by decide +kernel
theorem d_X_count_69 : decode b_X_count 69 = .ok (.aload_n 0, 1) := by decide +kernel
theorem d_X_count_70 : decode b_X_count 70 = .ok (.invokevirtual 140, 3) := by decide +kernel
theorem d_X_count_73 : decode b_X_count 73 = .ok (.ireturn, 1) := by decide +kernel
theorem d_X_count_74 : decode b_X_count 74 = .ok (.aload_n 0, 1) := by decide +kernel
theorem d_X_count_75 : decode b_X_count 75 = .ok (.invokevirtual 143, 3) := by decide +kernel
theorem d_X_count_78 : decode b_X_count 78 = .ok (.ireturn, 1) := by decide +kernel
theorem d_X_count_79 : decode b_X_count 79 = .ok (.aload_n 0, 1) := by decide +kernel
theorem d_X_count_80 : decode b_X_count 80 = .ok (.invokevirtual 146, 3) := by decide +kernel
theorem d_X_count_83 : decode b_X_count 83 = .ok (.ireturn, 1) := by decide +kernel
theorem d_X_count_84 : decode b_X_count 84 = .ok (.iconst (-1), 1) := by decide +kernel
theorem d_X_count_85 : decode b_X_count 85 = .ok (.ireturn, 1) := by decide +kernel
theorem d_X_corner_0 : decode b_X_corner 0 = .ok (.aload_n 0, 1) := by decide +kernel
theorem d_X_corner_1 : decode b_X_corner 1 = .ok (.getfield 37, 3) := by decide +kernel
theorem d_X_corner_4 : decode b_X_corner 4 = .ok (.iload_n 1, 1) := by decide +kernel
theorem d_X_corner_5 : decode b_X_corner 5 = .ok (.iload_n 2, 1) := by decide +kernel
theorem d_X_corner_6 : decode b_X_corner 6 = .ok (.invokevirtual 149, 3) := by decide +kernel
theorem d_X_corner_9 : decode b_X_corner 9 = .ok (.ifCond .eq 12, 3) := by decide +kernel
theorem d_X_corner_12 : decode b_X_corner 12 = .ok (.iload_n 3, 1) := by decide +kernel
theorem d_X_corner_13 : decode b_X_corner 13 = .ok (.ifCond .lt 8, 3) := by decide +kernel
theorem d_X_corner_16 : decode b_X_corner 16 = .ok (.iload_n 3, 1) := by decide +kernel
theorem d_X_corner_17 : decode b_X_corner 17 = .ok (.iconst 4, 1) := by decide +kernel
theorem d_X_corner_18 : decode b_X_corner 18 = .ok (.if_icmp .le 6, 3) := by decide +kernel
theorem d_X_corner_21 : decode b_X_corner 21 = .ok (.ldc 153, 2) := by decide +kernel
theorem d_X_corner_23 : decode b_X_corner 23 = .ok (.ireturn, 1) := by decide +kernel
theorem d_X_corner_24 : decode b_X_corner 24 = .ok (.iload_n 3, 1) := by decide +kernel
theorem d_X_corner_25 : decode b_X_corner 25 = .ok (.iconst 4, 1) := by decide +kernel
theorem d_X_corner_26 : decode b_X_corner 26 = .ok (.if_icmp .ne 15, 3) := by decide +kernel
theorem d_X_corner_29 : decode b_X_corner 29 = .ok (.aload_n 0, 1) := by decide +kernel
theorem d_X_corner_30 : decode b_X_corner 30 = .ok (.getfield 37, 3) := by decide +kernel
theorem d_X_corner_33 : decode b_X_corner 33 = .ok (.getfield 102, 3) := by decide +kernel
theorem d_X_corner_36 : decode b_X_corner 36 = .ok (.iload_n 1, 1) := by decide +kernel
theorem d_X_corner_37 : decode b_X_corner 37 = .ok (.iaload, 1) := by decide +kernel
theorem d_X_corner_38 : decode b_X_corner 38 = .ok (.goto 18, 3) := by decide +kernel
theorem d_X_corner_41 : decode b_X_corner 41 = .ok (.aload_n 0, 1) := by decide +kernel
theorem d_X_corner_42 : decode b_X_corner 42 = .ok (.getfield 37, 3) := by decide +kernel
theorem d_X_corner_45 : decode b_X_corner 45 = .ok (.getfield 154, 3) := by decide +kernel
theorem d_X_corner_48 : decode b_X_corner 48 = .ok (.iload_n 1, 1) := by decide +kernel
theorem d_X_corner_49 : decode b_X_corner 49 = .ok (.iload_n 2, 1) := by decide +kernel
theorem d_X_corner_50 : decode b_X_corner 50 = .ok (.invokestatic 157, 3) := by decide +kernel
theorem d_X_corner_53 : decode b_X_corner 53 = .ok (.iload_n 3, 1) := by decide +kernel
theorem d_X_corner_54 : decode b_X_corner 54 = .ok (.iadd, 1) := by decide +kernel
theorem d_X_corner_55 : decode b_X_corner 55 = .ok (.iaload, 1) := by decide +kernel
theorem d_X_corner_56 : decode b_X_corner 56 = .ok (.ireturn, 1) := by decide +kernel
theorem d_X_star_0 : decode b_X_star 0 = .ok (.aload_n 0, 1) := by decide +kernel
theorem d_X_star_1 : decode b_X_star 1 = .ok (.getfield 37, 3) := by decide +kernel
theorem d_X_star_4 : decode b_X_star 4 = .ok (.iload_n 1, 1) := by decide +kernel
theorem d_X_star_5 : decode b_X_star 5 = .ok (.iload_n 2, 1) := by decide +kernel
theorem d_X_star_6 : decode b_X_star 6 = .ok (.invokevirtual 149, 3) := by decide +kernel
theorem d_X_star_9 : decode b_X_star 9 = .ok (.ifCond .eq 12, 3) := by decide +kernel
theorem d_X_star_12 : decode b_X_star 12 = .ok (.iload_n 3, 1) := by decide +kernel
theorem d_X_star_13 : decode b_X_star 13 = .ok (.ifCond .lt 8, 3) := by decide +kernel
theorem d_X_star_16 : decode b_X_star 16 = .ok (.iload_n 3, 1) := by decide +kernel
theorem d_X_star_17 : decode b_X_star 17 = .ok (.iconst 2, 1) := by decide +kernel
theorem d_X_star_18 : decode b_X_star 18 = .ok (.if_icmp .le 5, 3) := by decide +kernel
theorem d_X_star_21 : decode b_X_star 21 = .ok (.iconst (-1), 1) := by decide +kernel
theorem d_X_star_22 : decode b_X_star 22 = .ok (.ireturn, 1) := by decide +kernel
theorem d_X_star_23 : decode b_X_star 23 = .ok (.iconst 0, 1) := by decide +kernel
theorem d_X_star_24 : decode b_X_star 24 = .ok (.istore 4, 2) := by decide +kernel
theorem d_X_star_26 : decode b_X_star 26 = .ok (.iconst 0, 1) := by decide +kernel
theorem d_X_star_27 : decode b_X_star 27 = .ok (.istore 5, 2) := by decide +kernel
theorem d_X_star_29 : decode b_X_star 29 = .ok (.iconst 0, 1) := by decide +kernel
theorem d_X_star_30 : decode b_X_star 30 = .ok (.istore 6, 2) := by decide +kernel
theorem d_X_star_32 : decode b_X_star 32 = .ok (.iload 6, 2) := by decide +kernel
theorem d_X_star_34 : decode b_X_star 34 = .ok (.aload_n 0, 1) := by decide +kernel
theorem d_X_star_35 : decode b_X_star 35 = .ok (.getfield 37, 3) := by decide +kernel
theorem d_X_star_38 : decode b_X_star 38 = .ok (.getfield 48, 3) := by decide +kernel
theorem d_X_star_41 : decode b_X_star 41 = .ok (.if_icmp .ge 55, 3) := by decide +kernel
theorem d_X_star_44 : decode b_X_star 44 = .ok (.aload_n 0, 1) := by decide +kernel
theorem d_X_star_45 : decode b_X_star 45 = .ok (.getfield 37, 3) := by decide +kernel
theorem d_X_star_48 : decode b_X_star 48 = .ok (.iload 6, 2) := by decide +kernel
theorem d_X_star_50 : decode b_X_star 50 = .ok (.iload_n 1, 1) := by decide +kernel
theorem d_X_star_51 : decode b_X_star 51 = .ok (.iload_n 2, 1) := by decide +kernel
theorem d_X_star_52 : decode b_X_star 52 = .ok (.invokevirtual 161, 3) := by decide +kernel
theorem d_X_star_55 : decode b_X_star 55 = .ok (.istore 7, 2) := by decide +kernel
theorem d_X_star_57 : decode b_X_star 57 = .ok (.iload 7, 2) := by decide +kernel
theorem d_X_star_59 : decode b_X_star 59 = .ok (.iconst (-1), 1) := by decide +kernel
theorem d_X_star_60 : decode b_X_star 60 = .ok (.if_icmp .eq 30, 3) := by decide +kernel
theorem d_X_star_63 : decode b_X_star 63 = .ok (.iinc 4 1, 3) := by decide +kernel
theorem d_X_star_66 : decode b_X_star 66 = .ok (.iload 5, 2) := by decide +kernel
theorem d_X_star_68 : decode b_X_star 68 = .ok (.getstatic 165, 3) := by decide +kernel
theorem d_X_star_71 : decode b_X_star 71 = .ok (.iconst 3, 1) := by decide +kernel
theorem d_X_star_72 : decode b_X_star 72 = .ok (.aload_n 0, 1) := by decide +kernel
theorem d_X_star_73 : decode b_X_star 73 = .ok (.getfield 37, 3) := by decide +kernel
theorem d_X_star_76 : decode b_X_star 76 = .ok (.getfield 102, 3) := by decide +kernel
theorem d_X_star_79 : decode b_X_star 79 = .ok (.iload 6, 2) := by decide +kernel
theorem d_X_star_81 : decode b_X_star 81 = .ok (.iaload, 1) := by decide +kernel
theorem d_X_star_82 : decode b_X_star 82 = .ok (.imul, 1) := by decide +kernel
theorem d_X_star_83 : decode b_X_star 83 = .ok (.iload 7, 2) := by decide +kernel
theorem d_X_star_85 : decode b_X_star 85 = .ok (.iadd, 1) := by decide +kernel
theorem d_X_star_86 : decode b_X_star 86 = .ok (.iaload, 1) := by decide +kernel
theorem d_X_star_87 : decode b_X_star 87 = .ok (.iadd, 1) := by decide +kernel
theorem d_X_star_88 : decode b_X_star 88 = .ok (.istore 5, 2) := by decide +kernel
theorem d_X_star_90 : decode b_X_star 90 = .ok (.iinc 6 1, 3) := by decide +kernel
theorem d_X_star_93 : decode b_X_star 93 = .ok (.goto (-61), 3) := by decide +kernel
theorem d_X_star_96 : decode b_X_star 96 = .ok (.iload_n 3, 1) := by decide +kernel
theorem d_X_star_97 : decode b_X_star 97 = .ok (.ifCond .ne 6, 3) := by decide +kernel
theorem d_X_star_100 : decode b_X_star 100 = .ok (.iload 4, 2) := by decide +kernel
theorem d_X_star_102 : decode b_X_star 102 = .ok (.ireturn, 1) := by decide +kernel
theorem d_X_star_103 : decode b_X_star 103 = .ok (.iload_n 3, 1) := by decide +kernel
theorem d_X_star_104 : decode b_X_star 104 = .ok (.iconst 1, 1) := by decide +kernel
theorem d_X_star_105 : decode b_X_star 105 = .ok (.if_icmp .ne 6, 3) := by decide +kernel
theorem d_X_star_108 : decode b_X_star 108 = .ok (.iload 5, 2) := by decide +kernel
theorem d_X_star_110 : decode b_X_star 110 = .ok (.ireturn, 1) := by decide +kernel
theorem d_X_star_111 : decode b_X_star 111 = .ok (.iload 5, 2) := by decide +kernel
theorem d_X_star_113 : decode b_X_star 113 = .ok (.bipush 10, 2) := by decide +kernel
theorem d_X_star_115 : decode b_X_star 115 = .ok (.if_icmp .ne 16, 3) := by decide +kernel
theorem d_X_star_118 : decode b_X_star 118 = .ok (.aload_n 0, 1) := by decide +kernel
theorem d_X_star_119 : decode b_X_star 119 = .ok (.iload_n 1, 1) := by decide +kernel
theorem d_X_star_120 : decode b_X_star 120 = .ok (.iload_n 2, 1) := by decide +kernel
theorem d_X_star_121 : decode b_X_star 121 = .ok (.invokevirtual 168, 3) := by decide +kernel
theorem d_X_star_124 : decode b_X_star 124 = .ok (.ifCond .ne 7, 3) := by decide +kernel
theorem d_X_star_127 : decode b_X_star 127 = .ok (.iconst 1, 1) := by decide +kernel
theorem d_X_star_128 : decode b_X_star 128 = .ok (.goto 4, 3) := by decide +kernel
theorem d_X_star_131 : decode b_X_star 131 = .ok (.iconst 0, 1) := by decide +kernel
theorem d_X_star_132 : decode b_X_star 132 = .ok (.ireturn, 1) := by decide +kernel
theorem d_X_inside_0 : decode b_X_inside 0 = .ok (.iload_n 1, 1) := by decide +kernel
theorem d_X_inside_1 : decode b_X_inside 1 = .ok (.iload_n 2, 1) := by decide +kernel
theorem d_X_inside_2 : decode b_X_inside 2 = .ok (.iload_n 3, 1) := by decide +kernel
theorem d_X_inside_3 : decode b_X_inside 3 = .ok (.iload 4, 2) := by decide +kernel
theorem d_X_inside_5 : decode b_X_inside 5 = .ok (.invokestatic 65, 3) := by decide +kernel
theorem d_X_inside_8 : decode b_X_inside 8 = .ok (.ifCond .ne 5, 3) := by decide +kernel
theorem d_X_inside_11 : decode b_X_inside 11 = .ok (.iconst (-1), 1) := by decide +kernel
theorem d_X_inside_12 : decode b_X_inside 12 = .ok (.ireturn, 1) := by decide +kernel
theorem d_X_inside_13 : decode b_X_inside 13 = .ok (.aload_n 0, 1) := by decide +kernel
theorem d_X_inside_14 : decode b_X_inside 14 = .ok (.getfield 23, 3) := by decide +kernel
theorem d_X_inside_17 : decode b_X_inside 17 = .ok (.iconst 0, 1) := by decide +kernel
theorem d_X_inside_18 : decode b_X_inside 18 = .ok (.iload_n 1, 1) := by decide +kernel
theorem d_X_inside_19 : decode b_X_inside 19 = .ok (.iload_n 2, 1) := by decide +kernel
theorem d_X_inside_20 : decode b_X_inside 20 = .ok (.iload_n 3, 1) := by decide +kernel
theorem d_X_inside_21 : decode b_X_inside 21 = .ok (.iload 4, 2) := by decide +kernel
theorem d_X_inside_23 : decode b_X_inside 23 = .ok (.invokestatic 71, 3) := by decide +kernel
theorem d_X_inside_26 : decode b_X_inside 26 = .ok (.iconst 0, 1) := by decide +kernel
theorem d_X_inside_27 : decode b_X_inside 27 = .ok (.istore 5, 2) := by decide +kernel
theorem d_X_inside_29 : decode b_X_inside 29 = .ok (.iload 5, 2) := by decide +kernel
theorem d_X_inside_31 : decode b_X_inside 31 = .ok (.iconst 5, 1) := by decide +kernel
theorem d_X_inside_32 : decode b_X_inside 32 = .ok (.if_icmp .ge 26, 3) := by decide +kernel
theorem d_X_inside_35 : decode b_X_inside 35 = .ok (.aload_n 0, 1) := by decide +kernel
theorem d_X_inside_36 : decode b_X_inside 36 = .ok (.getfield 27, 3) := by decide +kernel
theorem d_X_inside_39 : decode b_X_inside 39 = .ok (.iload 5, 2) := by decide +kernel
theorem d_X_inside_41 : decode b_X_inside 41 = .ok (.iload 5, 2) := by decide +kernel
theorem d_X_inside_43 : decode b_X_inside 43 = .ok (.aload_n 0, 1) := by decide +kernel
theorem d_X_inside_44 : decode b_X_inside 44 = .ok (.getfield 23, 3) := by decide +kernel
theorem d_X_inside_47 : decode b_X_inside 47 = .ok (.iconst 0, 1) := by decide +kernel
theorem d_X_inside_48 : decode b_X_inside 48 = .ok (.invokestatic 171, 3) := by decide +kernel
theorem d_X_inside_51 : decode b_X_inside 51 = .ok (.lastore, 1) := by decide +kernel
theorem d_X_inside_52 : decode b_X_inside 52 = .ok (.iinc 5 1, 3) := by decide +kernel
theorem d_X_inside_55 : decode b_X_inside 55 = .ok (.goto (-26), 3) := by decide +kernel
theorem d_X_inside_58 : decode b_X_inside 58 = .ok (.iconst 0, 1) := by decide +kernel
theorem d_X_inside_59 : decode b_X_inside 59 = .ok (.istore 5, 2) := by decide +kernel
theorem d_X_inside_61 : decode b_X_inside 61 = .ok (.iload 5, 2) := by decide +kernel
theorem d_X_inside_63 : decode b_X_inside 63 = .ok (.aload_n 0, 1) := by decide +kernel
theorem d_X_inside_64 : decode b_X_inside 64 = .ok (.getfield 37, 3) := by decide +kernel
theorem d_X_inside_67 : decode b_X_inside 67 = .ok (.getfield 48, 3) := by decide +kernel
theorem d_X_inside_70 : decode b_X_inside 70 = .ok (.if_icmp .ge 28, 3) := by decide +kernel
theorem d_X_inside_73 : decode b_X_inside 73 = .ok (.aload_n 0, 1) := by decide +kernel
theorem d_X_inside_74 : decode b_X_inside 74 = .ok (.getfield 12, 3) := by decide +kernel
theorem d_X_inside_77 : decode b_X_inside 77 = .ok (.iload 5, 2) := by decide +kernel
theorem d_X_inside_79 : decode b_X_inside 79 = .ok (.aload_n 0, 1) := by decide +kernel
theorem d_X_inside_80 : decode b_X_inside 80 = .ok (.getfield 27, 3) := by decide +kernel
theorem d_X_inside_83 : decode b_X_inside 83 = .ok (.invokevirtual 175, 3) := by decide +kernel
theorem d_X_inside_86 : decode b_X_inside 86 = .ok (.ifCond .eq 6, 3) := by decide +kernel
theorem d_X_inside_89 : decode b_X_inside 89 = .ok (.iload 5, 2) := by decide +kernel
theorem d_X_inside_91 : decode b_X_inside 91 = .ok (.ireturn, 1) := by decide +kernel
theorem d_X_inside_92 : decode b_X_inside 92 = .ok (.iinc 5 1, 3) := by decide +kernel
theorem d_X_inside_95 : decode b_X_inside 95 = .ok (.goto (-34), 3) := by decide +kernel
theorem d_X_inside_98 : decode b_X_inside 98 = .ok (.iconst (-1), 1) := by decide +kernel
theorem d_X_inside_99 : decode b_X_inside 99 = .ok (.ireturn, 1) := by decide +kernel
theorem d_X_steps_0 : decode b_X_steps 0 = .ok (.aload_n 0, 1) := by decide +kernel
theorem d_X_steps_1 : decode b_X_steps 1 = .ok (.getfield 37, 3) := by decide +kernel
theorem d_X_steps_4 : decode b_X_steps 4 = .ok (.iload_n 1, 1) := by decide +kernel
theorem d_X_steps_5 : decode b_X_steps 5 = .ok (.iload_n 2, 1) := by decide +kernel
theorem d_X_steps_6 : decode b_X_steps 6 = .ok (.invokevirtual 149, 3) := by decide +kernel
theorem d_X_steps_9 : decode b_X_steps 9 = .ok (.ifCond .eq 25, 3) := by decide +kernel
theorem d_X_steps_12 : decode b_X_steps 12 = .ok (.iload_n 3, 1) := by decide +kernel
theorem d_X_steps_13 : decode b_X_steps 13 = .ok (.ifCond .lt 21, 3) := by decide +kernel
theorem d_X_steps_16 : decode b_X_steps 16 = .ok (.iload_n 3, 1) := by decide +kernel
theorem d_X_steps_17 : decode b_X_steps 17 = .ok (.iconst 1, 1) := by decide +kernel
theorem d_X_steps_18 : decode b_X_steps 18 = .ok (.if_icmp .gt 16, 3) := by decide +kernel
theorem d_X_steps_21 : decode b_X_steps 21 = .ok (.iload 4, 2) := by decide +kernel
theorem d_X_steps_23 : decode b_X_steps 23 = .ok (.iconst 1, 1) := by decide +kernel
theorem d_X_steps_24 : decode b_X_steps 24 = .ok (.if_icmp .lt 10, 3) := by decide +kernel
theorem d_X_steps_27 : decode b_X_steps 27 = .ok (.iload 4, 2) := by decide +kernel
theorem d_X_steps_29 : decode b_X_steps 29 = .ok (.ldc 179, 2) := by decide +kernel
theorem d_X_steps_31 : decode b_X_steps 31 = .ok (.if_icmp .le 5, 3) := by decide +kernel
theorem d_X_steps_34 : decode b_X_steps 34 = .ok (.lconst 0, 1) := by decide +kernel
theorem d_X_steps_35 : decode b_X_steps 35 = .ok (.lreturn, 1) := by decide +kernel
theorem d_X_steps_36 : decode b_X_steps 36 = .ok (.iload_n 3, 1) := by decide +kernel
theorem d_X_steps_37 : decode b_X_steps 37 = .ok (.ifCond .ne 28, 3) := by decide +kernel
theorem d_X_steps_40 : decode b_X_steps 40 = .ok (.aload_n 0, 1) := by decide +kernel
theorem d_X_steps_41 : decode b_X_steps 41 = .ok (.getfield 19, 3) := by decide +kernel
theorem d_X_steps_44 : decode b_X_steps 44 = .ok (.aload_n 0, 1) := by decide +kernel
theorem d_X_steps_45 : decode b_X_steps 45 = .ok (.getfield 37, 3) := by decide +kernel
theorem d_X_steps_48 : decode b_X_steps 48 = .ok (.getfield 154, 3) := by decide +kernel
theorem d_X_steps_51 : decode b_X_steps 51 = .ok (.iload_n 1, 1) := by decide +kernel
theorem d_X_steps_52 : decode b_X_steps 52 = .ok (.iload_n 2, 1) := by decide +kernel
theorem d_X_steps_53 : decode b_X_steps 53 = .ok (.invokestatic 157, 3) := by decide +kernel
theorem d_X_steps_56 : decode b_X_steps 56 = .ok (.iload 4, 2) := by decide +kernel
theorem d_X_steps_58 : decode b_X_steps 58 = .ok (.i2l, 1) := by decide +kernel
theorem d_X_steps_59 : decode b_X_steps 59 = .ok (.invokevirtual 180, 3) := by decide +kernel
theorem d_X_steps_62 : decode b_X_steps 62 = .ok (.goto 25, 3) := by decide +kernel
theorem d_X_steps_65 : decode b_X_steps 65 = .ok (.aload_n 0, 1) := by decide +kernel
theorem d_X_steps_66 : decode b_X_steps 66 = .ok (.getfield 19, 3) := by decide +kernel
theorem d_X_steps_69 : decode b_X_steps 69 = .ok (.aload_n 0, 1) := by decide +kernel
theorem d_X_steps_70 : decode b_X_steps 70 = .ok (.getfield 37, 3) := by decide +kernel
theorem d_X_steps_73 : decode b_X_steps 73 = .ok (.getfield 154, 3) := by decide +kernel
theorem d_X_steps_76 : decode b_X_steps 76 = .ok (.iload_n 1, 1) := by decide +kernel
theorem d_X_steps_77 : decode b_X_steps 77 = .ok (.iload_n 2, 1) := by decide +kernel
theorem d_X_steps_78 : decode b_X_steps 78 = .ok (.invokestatic 157, 3) := by decide +kernel
theorem d_X_steps_81 : decode b_X_steps 81 = .ok (.iload 4, 2) := by decide +kernel
theorem d_X_steps_83 : decode b_X_steps 83 = .ok (.i2l, 1) := by decide +kernel
theorem d_X_steps_84 : decode b_X_steps 84 = .ok (.invokevirtual 184, 3) := by decide +kernel
theorem d_X_steps_87 : decode b_X_steps 87 = .ok (.aload_n 0, 1) := by decide +kernel
theorem d_X_steps_88 : decode b_X_steps 88 = .ok (.getfield 19, 3) := by decide +kernel
theorem d_X_steps_91 : decode b_X_steps 91 = .ok (.invokevirtual 187, 3) := by decide +kernel
theorem d_X_steps_94 : decode b_X_steps 94 = .ok (.lreturn, 1) := by decide +kernel
theorem d_X_layOutSun_0 : decode b_X_layOutSun 0 = .ok (.iconst 0, 1) := by decide +kernel
theorem d_X_layOutSun_1 : decode b_X_layOutSun 1 = .ok (.istore_n 1, 1) := by decide +kernel
theorem d_X_layOutSun_2 : decode b_X_layOutSun 2 = .ok (.iload_n 1, 1) := by decide +kernel
theorem d_X_layOutSun_3 : decode b_X_layOutSun 3 = .ok (.bipush 10, 2) := by decide +kernel
theorem d_X_layOutSun_5 : decode b_X_layOutSun 5 = .ok (.if_icmp .ge 61, 3) := by decide +kernel
theorem d_X_layOutSun_8 : decode b_X_layOutSun 8 = .ok (.iload_n 1, 1) := by decide +kernel
theorem d_X_layOutSun_9 : decode b_X_layOutSun 9 = .ok (.iconst 4, 1) := by decide +kernel
theorem d_X_layOutSun_10 : decode b_X_layOutSun 10 = .ok (.imul, 1) := by decide +kernel
theorem d_X_layOutSun_11 : decode b_X_layOutSun 11 = .ok (.istore_n 2, 1) := by decide +kernel
theorem d_X_layOutSun_12 : decode b_X_layOutSun 12 = .ok (.iload_n 1, 1) := by decide +kernel
theorem d_X_layOutSun_13 : decode b_X_layOutSun 13 = .ok (.iconst 1, 1) := by decide +kernel
theorem d_X_layOutSun_14 : decode b_X_layOutSun 14 = .ok (.iadd, 1) := by decide +kernel
theorem d_X_layOutSun_15 : decode b_X_layOutSun 15 = .ok (.bipush 10, 2) := by decide +kernel
theorem d_X_layOutSun_17 : decode b_X_layOutSun 17 = .ok (.irem, 1) := by decide +kernel
theorem d_X_layOutSun_18 : decode b_X_layOutSun 18 = .ok (.iconst 4, 1) := by decide +kernel
theorem d_X_layOutSun_19 : decode b_X_layOutSun 19 = .ok (.imul, 1) := by decide +kernel
theorem d_X_layOutSun_20 : decode b_X_layOutSun 20 = .ok (.istore_n 3, 1) := by decide +kernel
theorem d_X_layOutSun_21 : decode b_X_layOutSun 21 = .ok (.iload_n 1, 1) := by decide +kernel
theorem d_X_layOutSun_22 : decode b_X_layOutSun 22 = .ok (.iconst 2, 1) := by decide +kernel
theorem d_X_layOutSun_23 : decode b_X_layOutSun 23 = .ok (.irem, 1) := by decide +kernel
theorem d_X_layOutSun_24 : decode b_X_layOutSun 24 = .ok (.ifCond .ne 21, 3) := by decide +kernel
theorem d_X_layOutSun_27 : decode b_X_layOutSun 27 = .ok (.aload_n 0, 1) := by decide +kernel
theorem d_X_layOutSun_28 : decode b_X_layOutSun 28 = .ok (.getfield 37, 3) := by decide +kernel
theorem d_X_layOutSun_31 : decode b_X_layOutSun 31 = .ok (.iconst 0, 1) := by decide +kernel
theorem d_X_layOutSun_32 : decode b_X_layOutSun 32 = .ok (.getstatic 54, 3) := by decide +kernel
theorem d_X_layOutSun_35 : decode b_X_layOutSun 35 = .ok (.bipush 40, 2) := by decide +kernel
theorem d_X_layOutSun_37 : decode b_X_layOutSun 37 = .ok (.iload_n 2, 1) := by decide +kernel
theorem d_X_layOutSun_38 : decode b_X_layOutSun 38 = .ok (.iload_n 3, 1) := by decide +kernel
theorem d_X_layOutSun_39 : decode b_X_layOutSun 39 = .ok (.invokevirtual 57, 3) := by decide +kernel
theorem d_X_layOutSun_42 : decode b_X_layOutSun 42 = .ok (.goto 18, 3) := by decide +kernel
theorem d_X_layOutSun_45 : decode b_X_layOutSun 45 = .ok (.aload_n 0, 1) := by decide +kernel
theorem d_X_layOutSun_46 : decode b_X_layOutSun 46 = .ok (.getfield 37, 3) := by decide +kernel
theorem d_X_layOutSun_49 : decode b_X_layOutSun 49 = .ok (.iconst 0, 1) := by decide +kernel
theorem d_X_layOutSun_50 : decode b_X_layOutSun 50 = .ok (.getstatic 54, 3) := by decide +kernel
theorem d_X_layOutSun_53 : decode b_X_layOutSun 53 = .ok (.bipush 40, 2) := by decide +kernel
theorem d_X_layOutSun_55 : decode b_X_layOutSun 55 = .ok (.iload_n 3, 1) := by decide +kernel
theorem d_X_layOutSun_56 : decode b_X_layOutSun 56 = .ok (.iload_n 2, 1) := by decide +kernel
theorem d_X_layOutSun_57 : decode b_X_layOutSun 57 = .ok (.invokevirtual 57, 3) := by decide +kernel
theorem d_X_layOutSun_60 : decode b_X_layOutSun 60 = .ok (.iinc 1 1, 3) := by decide +kernel
theorem d_X_layOutSun_63 : decode b_X_layOutSun 63 = .ok (.goto (-61), 3) := by decide +kernel
theorem d_X_layOutSun_66 : decode b_X_layOutSun 66 = .ok (.return_, 1) := by decide +kernel
theorem d_X_emptySpare_0 : decode b_X_emptySpare 0 = .ok (.aload_n 0, 1) := by decide +kernel
theorem d_X_emptySpare_1 : decode b_X_emptySpare 1 = .ok (.getfield 41, 3) := by decide +kernel
theorem d_X_emptySpare_4 : decode b_X_emptySpare 4 = .ok (.ifnonnull 14, 3) := by decide +kernel
theorem d_X_emptySpare_7 : decode b_X_emptySpare 7 = .ok (.aload_n 0, 1) := by decide +kernel
theorem d_X_emptySpare_8 : decode b_X_emptySpare 8 = .ok (.new 34, 3) := by decide +kernel
theorem d_X_emptySpare_11 : decode b_X_emptySpare 11 = .ok (.dup, 1) := by decide +kernel
theorem d_X_emptySpare_12 : decode b_X_emptySpare 12 = .ok (.invokespecial 36, 3) := by decide +kernel
theorem d_X_emptySpare_15 : decode b_X_emptySpare 15 = .ok (.putfield 41, 3) := by decide +kernel
theorem d_X_emptySpare_18 : decode b_X_emptySpare 18 = .ok (.aload_n 0, 1) := by decide +kernel
theorem d_X_emptySpare_19 : decode b_X_emptySpare 19 = .ok (.getfield 41, 3) := by decide +kernel
theorem d_X_emptySpare_22 : decode b_X_emptySpare 22 = .ok (.iconst 0, 1) := by decide +kernel
theorem d_X_emptySpare_23 : decode b_X_emptySpare 23 = .ok (.putfield 48, 3) := by decide +kernel
theorem d_X_emptySpare_26 : decode b_X_emptySpare 26 = .ok (.aload_n 0, 1) := by decide +kernel
theorem d_X_emptySpare_27 : decode b_X_emptySpare 27 = .ok (.getfield 41, 3) := by decide +kernel
theorem d_X_emptySpare_30 : decode b_X_emptySpare 30 = .ok (.areturn, 1) := by decide +kernel
theorem d_X_exchange_0 : decode b_X_exchange 0 = .ok (.aload_n 0, 1) := by decide +kernel
theorem d_X_exchange_1 : decode b_X_exchange 1 = .ok (.aload_n 0, 1) := by decide +kernel
theorem d_X_exchange_2 : decode b_X_exchange 2 = .ok (.getfield 37, 3) := by decide +kernel
theorem d_X_exchange_5 : decode b_X_exchange 5 = .ok (.putfield 41, 3) := by decide +kernel
theorem d_X_exchange_8 : decode b_X_exchange 8 = .ok (.aload_n 0, 1) := by decide +kernel
theorem d_X_exchange_9 : decode b_X_exchange 9 = .ok (.aload_n 1, 1) := by decide +kernel
theorem d_X_exchange_10 : decode b_X_exchange 10 = .ok (.putfield 37, 3) := by decide +kernel
theorem d_X_exchange_13 : decode b_X_exchange 13 = .ok (.aload_n 0, 1) := by decide +kernel
theorem d_X_exchange_14 : decode b_X_exchange 14 = .ok (.getfield 12, 3) := by decide +kernel
theorem d_X_exchange_17 : decode b_X_exchange 17 = .ok (.aload_n 0, 1) := by decide +kernel
theorem d_X_exchange_18 : decode b_X_exchange 18 = .ok (.getfield 37, 3) := by decide +kernel
theorem d_X_exchange_21 : decode b_X_exchange 21 = .ok (.invokevirtual 61, 3) := by decide +kernel
theorem d_X_exchange_24 : decode b_X_exchange 24 = .ok (.return_, 1) := by decide +kernel
theorem d_X_divide_0 : decode b_X_divide 0 = .ok (.iconst 0, 1) := by decide +kernel
theorem d_X_divide_1 : decode b_X_divide 1 = .ok (.istore_n 3, 1) := by decide +kernel
theorem d_X_divide_2 : decode b_X_divide 2 = .ok (.iconst 4, 1) := by decide +kernel
theorem d_X_divide_3 : decode b_X_divide 3 = .ok (.istore 4, 2) := by decide +kernel
theorem d_X_divide_5 : decode b_X_divide 5 = .ok (.bipush 8, 2) := by decide +kernel
theorem d_X_divide_7 : decode b_X_divide 7 = .ok (.istore 5, 2) := by decide +kernel
theorem d_X_divide_9 : decode b_X_divide 9 = .ok (.iconst 0, 1) := by decide +kernel
theorem d_X_divide_10 : decode b_X_divide 10 = .ok (.istore 6, 2) := by decide +kernel
theorem d_X_divide_12 : decode b_X_divide 12 = .ok (.iload 6, 2) := by decide +kernel
theorem d_X_divide_14 : decode b_X_divide 14 = .ok (.iconst 3, 1) := by decide +kernel
theorem d_X_divide_15 : decode b_X_divide 15 = .ok (.if_icmp .ge 33, 3) := by decide +kernel
theorem d_X_divide_18 : decode b_X_divide 18 = .ok (.aload_n 0, 1) := by decide +kernel
theorem d_X_divide_19 : decode b_X_divide 19 = .ok (.getfield 37, 3) := by decide +kernel
theorem d_X_divide_22 : decode b_X_divide 22 = .ok (.getfield 154, 3) := by decide +kernel
theorem d_X_divide_25 : decode b_X_divide 25 = .ok (.iload_n 1, 1) := by decide +kernel
theorem d_X_divide_26 : decode b_X_divide 26 = .ok (.iload 6, 2) := by decide +kernel
theorem d_X_divide_28 : decode b_X_divide 28 = .ok (.invokestatic 157, 3) := by decide +kernel
theorem d_X_divide_31 : decode b_X_divide 31 = .ok (.aload_n 0, 1) := by decide +kernel
theorem d_X_divide_32 : decode b_X_divide 32 = .ok (.getfield 23, 3) := by decide +kernel
theorem d_X_divide_35 : decode b_X_divide 35 = .ok (.iload 6, 2) := by decide +kernel
theorem d_X_divide_37 : decode b_X_divide 37 = .ok (.iconst 4, 1) := by decide +kernel
theorem d_X_divide_38 : decode b_X_divide 38 = .ok (.imul, 1) := by decide +kernel
theorem d_X_divide_39 : decode b_X_divide 39 = .ok (.invokestatic 191, 3) := by decide +kernel
theorem d_X_divide_42 : decode b_X_divide 42 = .ok (.iinc 6 1, 3) := by decide +kernel
theorem d_X_divide_45 : decode b_X_divide 45 = .ok (.goto (-33), 3) := by decide +kernel
theorem d_X_divide_48 : decode b_X_divide 48 = .ok (.aload_n 0, 1) := by decide +kernel
theorem d_X_divide_49 : decode b_X_divide 49 = .ok (.getfield 37, 3) := by decide +kernel
theorem d_X_divide_52 : decode b_X_divide 52 = .ok (.getfield 102, 3) := by decide +kernel
theorem d_X_divide_55 : decode b_X_divide 55 = .ok (.iload_n 1, 1) := by decide +kernel
theorem d_X_divide_56 : decode b_X_divide 56 = .ok (.iaload, 1) := by decide +kernel
theorem d_X_divide_57 : decode b_X_divide 57 = .ok (.ifCond .ne 51, 3) := by decide +kernel
theorem d_X_divide_60 : decode b_X_divide 60 = .ok (.bipush 12, 2) := by decide +kernel
theorem d_X_divide_62 : decode b_X_divide 62 = .ok (.istore 6, 2) := by decide +kernel
theorem d_X_divide_64 : decode b_X_divide 64 = .ok (.aload_n 0, 1) := by decide +kernel
theorem d_X_divide_65 : decode b_X_divide 65 = .ok (.getfield 23, 3) := by decide +kernel
theorem d_X_divide_68 : decode b_X_divide 68 = .ok (.iload_n 3, 1) := by decide +kernel
theorem d_X_divide_69 : decode b_X_divide 69 = .ok (.iload 4, 2) := by decide +kernel
theorem d_X_divide_71 : decode b_X_divide 71 = .ok (.iload 6, 2) := by decide +kernel
theorem d_X_divide_73 : decode b_X_divide 73 = .ok (.invokestatic 195, 3) := by decide +kernel
theorem d_X_divide_76 : decode b_X_divide 76 = .ok (.aload_n 2, 1) := by decide +kernel
theorem d_X_divide_77 : decode b_X_divide 77 = .ok (.iconst 0, 1) := by decide +kernel
theorem d_X_divide_78 : decode b_X_divide 78 = .ok (.aload_n 0, 1) := by decide +kernel
theorem d_X_divide_79 : decode b_X_divide 79 = .ok (.getfield 23, 3) := by decide +kernel
theorem d_X_divide_82 : decode b_X_divide 82 = .ok (.iload 5, 2) := by decide +kernel
theorem d_X_divide_84 : decode b_X_divide 84 = .ok (.iload 6, 2) := by decide +kernel
theorem d_X_divide_86 : decode b_X_divide 86 = .ok (.iload 4, 2) := by decide +kernel
theorem d_X_divide_88 : decode b_X_divide 88 = .ok (.invokevirtual 57, 3) := by decide +kernel
theorem d_X_divide_91 : decode b_X_divide 91 = .ok (.aload_n 2, 1) := by decide +kernel
theorem d_X_divide_92 : decode b_X_divide 92 = .ok (.iconst 1, 1) := by decide +kernel
theorem d_X_divide_93 : decode b_X_divide 93 = .ok (.aload_n 0, 1) := by decide +kernel
theorem d_X_divide_94 : decode b_X_divide 94 = .ok (.getfield 23, 3) := by decide +kernel
theorem d_X_divide_97 : decode b_X_divide 97 = .ok (.iload 6, 2) := by decide +kernel
theorem d_X_divide_99 : decode b_X_divide 99 = .ok (.iload 5, 2) := by decide +kernel
theorem d_X_divide_101 : decode b_X_divide 101 = .ok (.iload_n 3, 1) := by decide +kernel
theorem d_X_divide_102 : decode b_X_divide 102 = .ok (.invokevirtual 57, 3) := by decide +kernel
theorem d_X_divide_105 : decode b_X_divide 105 = .ok (.goto 79, 3) := by decide +kernel
theorem d_X_divide_108 : decode b_X_divide 108 = .ok (.bipush 12, 2) := by decide +kernel
theorem d_X_divide_110 : decode b_X_divide 110 = .ok (.istore 6, 2) := by decide +kernel
theorem d_X_divide_112 : decode b_X_divide 112 = .ok (.bipush 16, 2) := by decide +kernel
theorem d_X_divide_114 : decode b_X_divide 114 = .ok (.istore 7, 2) := by decide +kernel
theorem d_X_divide_116 : decode b_X_divide 116 = .ok (.aload_n 0, 1) := by decide +kernel
theorem d_X_divide_117 : decode b_X_divide 117 = .ok (.getfield 23, 3) := by decide +kernel
theorem d_X_divide_120 : decode b_X_divide 120 = .ok (.iload 4, 2) := by decide +kernel
theorem d_X_divide_122 : decode b_X_divide 122 = .ok (.iload_n 3, 1) := by decide +kernel
theorem d_X_divide_123 : decode b_X_divide 123 = .ok (.iload 6, 2) := by decide +kernel
theorem d_X_divide_125 : decode b_X_divide 125 = .ok (.invokestatic 195, 3) := by decide +kernel
theorem d_X_divide_128 : decode b_X_divide 128 = .ok (.aload_n 0, 1) := by decide +kernel
theorem d_X_divide_129 : decode b_X_divide 129 = .ok (.getfield 23, 3) := by decide +kernel
theorem d_X_divide_132 : decode b_X_divide 132 = .ok (.iload 4, 2) := by decide +kernel
theorem d_X_divide_134 : decode b_X_divide 134 = .ok (.iload 5, 2) := by decide +kernel
theorem d_X_divide_136 : decode b_X_divide 136 = .ok (.iload 7, 2) := by decide +kernel
theorem d_X_divide_138 : decode b_X_divide 138 = .ok (.invokestatic 195, 3) := by decide +kernel
theorem d_X_divide_141 : decode b_X_divide 141 = .ok (.aload_n 2, 1) := by decide +kernel
theorem d_X_divide_142 : decode b_X_divide 142 = .ok (.iconst 1, 1) := by decide +kernel
theorem d_X_divide_143 : decode b_X_divide 143 = .ok (.aload_n 0, 1) := by decide +kernel
theorem d_X_divide_144 : decode b_X_divide 144 = .ok (.getfield 23, 3) := by decide +kernel
theorem d_X_divide_147 : decode b_X_divide 147 = .ok (.iload 7, 2) := by decide +kernel
theorem d_X_divide_149 : decode b_X_divide 149 = .ok (.iload 5, 2) := by decide +kernel
theorem d_X_divide_151 : decode b_X_divide 151 = .ok (.iload_n 3, 1) := by decide +kernel
theorem d_X_divide_152 : decode b_X_divide 152 = .ok (.invokevirtual 57, 3) := by decide +kernel
theorem d_X_divide_155 : decode b_X_divide 155 = .ok (.aload_n 2, 1) := by decide +kernel
theorem d_X_divide_156 : decode b_X_divide 156 = .ok (.iconst 1, 1) := by decide +kernel
theorem d_X_divide_157 : decode b_X_divide 157 = .ok (.aload_n 0, 1) := by decide +kernel
theorem d_X_divide_158 : decode b_X_divide 158 = .ok (.getfield 23, 3) := by decide +kernel
theorem d_X_divide_161 : decode b_X_divide 161 = .ok (.iload 6, 2) := by decide +kernel
theorem d_X_divide_163 : decode b_X_divide 163 = .ok (.iload 7, 2) := by decide +kernel
theorem d_X_divide_165 : decode b_X_divide 165 = .ok (.iload 4, 2) := by decide +kernel
theorem d_X_divide_167 : decode b_X_divide 167 = .ok (.invokevirtual 57, 3) := by decide +kernel
theorem d_X_divide_170 : decode b_X_divide 170 = .ok (.aload_n 2, 1) := by decide +kernel
theorem d_X_divide_171 : decode b_X_divide 171 = .ok (.iconst 0, 1) := by decide +kernel
theorem d_X_divide_172 : decode b_X_divide 172 = .ok (.aload_n 0, 1) := by decide +kernel
theorem d_X_divide_173 : decode b_X_divide 173 = .ok (.getfield 23, 3) := by decide +kernel
theorem d_X_divide_176 : decode b_X_divide 176 = .ok (.iload 7, 2) := by decide +kernel
theorem d_X_divide_178 : decode b_X_divide 178 = .ok (.iload 6, 2) := by decide +kernel
theorem d_X_divide_180 : decode b_X_divide 180 = .ok (.iload_n 3, 1) := by decide +kernel
theorem d_X_divide_181 : decode b_X_divide 181 = .ok (.invokevirtual 57, 3) := by decide +kernel
theorem d_X_divide_184 : decode b_X_divide 184 = .ok (.return_, 1) := by decide +kernel
theorem d_X_putTogether_0 : decode b_X_putTogether 0 = .ok (.aload_n 0, 1) := by decide +kernel
theorem d_X_putTogether_1 : decode b_X_putTogether 1 = .ok (.iload_n 1, 1) := by decide +kernel
theorem d_X_putTogether_2 : decode b_X_putTogether 2 = .ok (.invokevirtual 198, 3) := by decide +kernel
theorem d_X_putTogether_5 : decode b_X_putTogether 5 = .ok (.istore_n 3, 1) := by decide +kernel
theorem d_X_putTogether_6 : decode b_X_putTogether 6 = .ok (.aload_n 0, 1) := by decide +kernel
theorem d_X_putTogether_7 : decode b_X_putTogether 7 = .ok (.iload_n 1, 1) := by decide +kernel
theorem d_X_putTogether_8 : decode b_X_putTogether 8 = .ok (.invokevirtual 201, 3) := by decide +kernel
theorem d_X_putTogether_11 : decode b_X_putTogether 11 = .ok (.istore 4, 2) := by decide +kernel
theorem d_X_putTogether_13 : decode b_X_putTogether 13 = .ok (.iload_n 3, 1) := by decide +kernel
theorem d_X_putTogether_14 : decode b_X_putTogether 14 = .ok (.iconst (-1), 1) := by decide +kernel
theorem d_X_putTogether_15 : decode b_X_putTogether 15 = .ok (.if_icmp .eq 18, 3) := by decide +kernel
theorem d_X_putTogether_18 : decode b_X_putTogether 18 = .ok (.iload 4, 2) := by decide +kernel
theorem d_X_putTogether_20 : decode b_X_putTogether 20 = .ok (.iconst (-1), 1) := by decide +kernel
theorem d_X_putTogether_21 : decode b_X_putTogether 21 = .ok (.if_icmp .eq 12, 3) := by decide +kernel
theorem d_X_putTogether_24 : decode b_X_putTogether 24 = .ok (.aload_n 0, 1) := by decide +kernel
theorem d_X_putTogether_25 : decode b_X_putTogether 25 = .ok (.getfield 31, 3) := by decide +kernel
theorem d_X_putTogether_28 : decode b_X_putTogether 28 = .ok (.iload_n 3, 1) := by decide +kernel
theorem d_X_putTogether_29 : decode b_X_putTogether 29 = .ok (.iaload, 1) := by decide +kernel
theorem d_X_putTogether_30 : decode b_X_putTogether 30 = .ok (.ifCond .eq 4, 3) := by decide +kernel
theorem d_X_putTogether_33 : decode b_X_putTogether 33 = .ok (.return_, 1) := by decide +kernel
theorem d_X_putTogether_34 : decode b_X_putTogether 34 = .ok (.iload_n 1, 1) := by decide +kernel
theorem d_X_putTogether_35 : decode b_X_putTogether 35 = .ok (.iconst 2, 1) := by decide +kernel
theorem d_X_putTogether_36 : decode b_X_putTogether 36 = .ok (.invokestatic 157, 3) := by decide +kernel
theorem d_X_putTogether_39 : decode b_X_putTogether 39 = .ok (.istore 5, 2) := by decide +kernel
theorem d_X_putTogether_41 : decode b_X_putTogether 41 = .ok (.iload_n 3, 1) := by decide +kernel
theorem d_X_putTogether_42 : decode b_X_putTogether 42 = .ok (.iconst 2, 1) := by decide +kernel
theorem d_X_putTogether_43 : decode b_X_putTogether 43 = .ok (.invokestatic 157, 3) := by decide +kernel
theorem d_X_putTogether_46 : decode b_X_putTogether 46 = .ok (.istore 6, 2) := by decide +kernel
theorem d_X_putTogether_48 : decode b_X_putTogether 48 = .ok (.aload_n 0, 1) := by decide +kernel
theorem d_X_putTogether_49 : decode b_X_putTogether 49 = .ok (.getfield 37, 3) := by decide +kernel
theorem d_X_putTogether_52 : decode b_X_putTogether 52 = .ok (.getfield 102, 3) := by decide +kernel
theorem d_X_putTogether_55 : decode b_X_putTogether 55 = .ok (.iload 4, 2) := by decide +kernel
theorem d_X_putTogether_57 : decode b_X_putTogether 57 = .ok (.iaload, 1) := by decide +kernel
theorem d_X_putTogether_58 : decode b_X_putTogether 58 = .ok (.ifCond .ne 27, 3) := by decide +kernel
theorem d_X_putTogether_61 : decode b_X_putTogether 61 = .ok (.aload_n 2, 1) := by decide +kernel
theorem d_X_putTogether_62 : decode b_X_putTogether 62 = .ok (.iconst 0, 1) := by decide +kernel
theorem d_X_putTogether_63 : decode b_X_putTogether 63 = .ok (.aload_n 0, 1) := by decide +kernel
theorem d_X_putTogether_64 : decode b_X_putTogether 64 = .ok (.getfield 37, 3) := by decide +kernel
theorem d_X_putTogether_67 : decode b_X_putTogether 67 = .ok (.getfield 154, 3) := by decide +kernel
theorem d_X_putTogether_70 : decode b_X_putTogether 70 = .ok (.iload 6, 2) := by decide +kernel
theorem d_X_putTogether_72 : decode b_X_putTogether 72 = .ok (.iload 5, 2) := by decide +kernel
theorem d_X_putTogether_74 : decode b_X_putTogether 74 = .ok (.iload_n 1, 1) := by decide +kernel
theorem d_X_putTogether_75 : decode b_X_putTogether 75 = .ok (.iconst 0, 1) := by decide +kernel
theorem d_X_putTogether_76 : decode b_X_putTogether 76 = .ok (.invokestatic 157, 3) := by decide +kernel
theorem d_X_putTogether_79 : decode b_X_putTogether 79 = .ok (.invokevirtual 57, 3) := by decide +kernel
theorem d_X_putTogether_82 : decode b_X_putTogether 82 = .ok (.goto 47, 3) := by decide +kernel
theorem d_X_putTogether_85 : decode b_X_putTogether 85 = .ok (.aload_n 0, 1) := by decide +kernel
theorem d_X_putTogether_86 : decode b_X_putTogether 86 = .ok (.getfield 31, 3) := by decide +kernel
theorem d_X_putTogether_89 : decode b_X_putTogether 89 = .ok (.iload 4, 2) := by decide +kernel
theorem d_X_putTogether_91 : decode b_X_putTogether 91 = .ok (.iaload, 1) := by decide +kernel
theorem d_X_putTogether_92 : decode b_X_putTogether 92 = .ok (.ifCond .ne 36, 3) := by decide +kernel
theorem d_X_putTogether_95 : decode b_X_putTogether 95 = .ok (.aload_n 2, 1) := by decide +kernel
theorem d_X_putTogether_96 : decode b_X_putTogether 96 = .ok (.iconst 1, 1) := by decide +kernel
theorem d_X_putTogether_97 : decode b_X_putTogether 97 = .ok (.aload_n 0, 1) := by decide +kernel
theorem d_X_putTogether_98 : decode b_X_putTogether 98 = .ok (.getfield 37, 3) := by decide +kernel
theorem d_X_putTogether_101 : decode b_X_putTogether 101 = .ok (.getfield 154, 3) := by decide +kernel
theorem d_X_putTogether_104 : decode b_X_putTogether 104 = .ok (.iload 5, 2) := by decide +kernel
theorem d_X_putTogether_106 : decode b_X_putTogether 106 = .ok (.iload 6, 2) := by decide +kernel
theorem d_X_putTogether_108 : decode b_X_putTogether 108 = .ok (.iload 4, 2) := by decide +kernel
theorem d_X_putTogether_110 : decode b_X_putTogether 110 = .ok (.iconst 1, 1) := by decide +kernel
theorem d_X_putTogether_111 : decode b_X_putTogether 111 = .ok (.invokestatic 157, 3) := by decide +kernel
theorem d_X_putTogether_114 : decode b_X_putTogether 114 = .ok (.invokevirtual 57, 3) := by decide +kernel
theorem d_X_putTogether_117 : decode b_X_putTogether 117 = .ok (.aload_n 0, 1) := by decide +kernel
theorem d_X_putTogether_118 : decode b_X_putTogether 118 = .ok (.getfield 31, 3) := by decide +kernel
theorem d_X_putTogether_121 : decode b_X_putTogether 121 = .ok (.iload 4, 2) := by decide +kernel
theorem d_X_putTogether_123 : decode b_X_putTogether 123 = .ok (.iconst 1, 1) := by decide +kernel
theorem d_X_putTogether_124 : decode b_X_putTogether 124 = .ok (.iastore, 1) := by decide +kernel
theorem d_X_putTogether_125 : decode b_X_putTogether 125 = .ok (.goto 4, 3) := by decide +kernel
theorem d_X_putTogether_128 : decode b_X_putTogether 128 = .ok (.return_, 1) := by decide +kernel
theorem d_X_putTogether_129 : decode b_X_putTogether 129 = .ok (.aload_n 0, 1) := by decide +kernel
theorem d_X_putTogether_130 : decode b_X_putTogether 130 = .ok (.getfield 31, 3) := by decide +kernel
theorem d_X_putTogether_133 : decode b_X_putTogether 133 = .ok (.iload_n 1, 1) := by decide +kernel
theorem d_X_putTogether_134 : decode b_X_putTogether 134 = .ok (.iconst 1, 1) := by decide +kernel
theorem d_X_putTogether_135 : decode b_X_putTogether 135 = .ok (.iastore, 1) := by decide +kernel
theorem d_X_putTogether_136 : decode b_X_putTogether 136 = .ok (.aload_n 0, 1) := by decide +kernel
theorem d_X_putTogether_137 : decode b_X_putTogether 137 = .ok (.getfield 31, 3) := by decide +kernel
theorem d_X_putTogether_140 : decode b_X_putTogether 140 = .ok (.iload_n 3, 1) := by decide +kernel
theorem d_X_putTogether_141 : decode b_X_putTogether 141 = .ok (.iconst 1, 1) := by decide +kernel
theorem d_X_putTogether_142 : decode b_X_putTogether 142 = .ok (.iastore, 1) := by decide +kernel
theorem d_X_putTogether_143 : decode b_X_putTogether 143 = .ok (.return_, 1) := by decide +kernel
theorem d_X_findAtLegB_0 : decode b_X_findAtLegB 0 = .ok (.iconst 0, 1) := by decide +kernel
theorem d_X_findAtLegB_1 : decode b_X_findAtLegB 1 = .ok (.istore_n 2, 1) := by decide +kernel
theorem d_X_findAtLegB_2 : decode b_X_findAtLegB 2 = .ok (.iload_n 2, 1) := by decide +kernel
theorem d_X_findAtLegB_3 : decode b_X_findAtLegB 3 = .ok (.aload_n 0, 1) := by decide +kernel
theorem d_X_findAtLegB_4 : decode b_X_findAtLegB 4 = .ok (.getfield 37, 3) := by decide +kernel
theorem d_X_findAtLegB_7 : decode b_X_findAtLegB 7 = .ok (.getfield 48, 3) := by decide +kernel
theorem d_X_findAtLegB_10 : decode b_X_findAtLegB 10 = .ok (.if_icmp .ge 52, 3) := by decide +kernel
theorem d_X_findAtLegB_13 : decode b_X_findAtLegB 13 = .ok (.aload_n 0, 1) := by decide +kernel
theorem d_X_findAtLegB_14 : decode b_X_findAtLegB 14 = .ok (.getfield 37, 3) := by decide +kernel
theorem d_X_findAtLegB_17 : decode b_X_findAtLegB 17 = .ok (.getfield 102, 3) := by decide +kernel
theorem d_X_findAtLegB_20 : decode b_X_findAtLegB 20 = .ok (.iload_n 2, 1) := by decide +kernel
theorem d_X_findAtLegB_21 : decode b_X_findAtLegB 21 = .ok (.iaload, 1) := by decide +kernel
theorem d_X_findAtLegB_22 : decode b_X_findAtLegB 22 = .ok (.iconst 1, 1) := by decide +kernel
theorem d_X_findAtLegB_23 : decode b_X_findAtLegB 23 = .ok (.if_icmp .ne 33, 3) := by decide +kernel
theorem d_X_findAtLegB_26 : decode b_X_findAtLegB 26 = .ok (.aload_n 0, 1) := by decide +kernel
theorem d_X_findAtLegB_27 : decode b_X_findAtLegB 27 = .ok (.getfield 37, 3) := by decide +kernel
theorem d_X_findAtLegB_30 : decode b_X_findAtLegB 30 = .ok (.iload_n 2, 1) := by decide +kernel
theorem d_X_findAtLegB_31 : decode b_X_findAtLegB 31 = .ok (.iconst 0, 1) := by decide +kernel
theorem d_X_findAtLegB_32 : decode b_X_findAtLegB 32 = .ok (.iload_n 1, 1) := by decide +kernel
theorem d_X_findAtLegB_33 : decode b_X_findAtLegB 33 = .ok (.iconst 1, 1) := by decide +kernel
theorem d_X_findAtLegB_34 : decode b_X_findAtLegB 34 = .ok (.invokevirtual 204, 3) := by decide +kernel
theorem d_X_findAtLegB_37 : decode b_X_findAtLegB 37 = .ok (.ifCond .eq 19, 3) := by decide +kernel
theorem d_X_findAtLegB_40 : decode b_X_findAtLegB 40 = .ok (.aload_n 0, 1) := by decide +kernel
theorem d_X_findAtLegB_41 : decode b_X_findAtLegB 41 = .ok (.getfield 37, 3) := by decide +kernel
theorem d_X_findAtLegB_44 : decode b_X_findAtLegB 44 = .ok (.iload_n 2, 1) := by decide +kernel
theorem d_X_findAtLegB_45 : decode b_X_findAtLegB 45 = .ok (.iconst 1, 1) := by decide +kernel
theorem d_X_findAtLegB_46 : decode b_X_findAtLegB 46 = .ok (.iload_n 1, 1) := by decide +kernel
theorem d_X_findAtLegB_47 : decode b_X_findAtLegB 47 = .ok (.iconst 0, 1) := by decide +kernel
theorem d_X_findAtLegB_48 : decode b_X_findAtLegB 48 = .ok (.invokevirtual 204, 3) := by decide +kernel
theorem d_X_findAtLegB_51 : decode b_X_findAtLegB 51 = .ok (.ifCond .eq 5, 3) := by decide +kernel
theorem d_X_findAtLegB_54 : decode b_X_findAtLegB 54 = .ok (.iload_n 2, 1) := by decide +kernel
theorem d_X_findAtLegB_55 : decode b_X_findAtLegB 55 = .ok (.ireturn, 1) := by decide +kernel
theorem d_X_findAtLegB_56 : decode b_X_findAtLegB 56 = .ok (.iinc 2 1, 3) := by decide +kernel
theorem d_X_findAtLegB_59 : decode b_X_findAtLegB 59 = .ok (.goto (-57), 3) := by decide +kernel
theorem d_X_findAtLegB_62 : decode b_X_findAtLegB 62 = .ok (.iconst (-1), 1) := by decide +kernel
theorem d_X_findAtLegB_63 : decode b_X_findAtLegB 63 = .ok (.ireturn, 1) := by decide +kernel
theorem d_X_findAtLegC_0 : decode b_X_findAtLegC 0 = .ok (.iconst 0, 1) := by decide +kernel
theorem d_X_findAtLegC_1 : decode b_X_findAtLegC 1 = .ok (.istore_n 2, 1) := by decide +kernel
theorem d_X_findAtLegC_2 : decode b_X_findAtLegC 2 = .ok (.iload_n 2, 1) := by decide +kernel
theorem d_X_findAtLegC_3 : decode b_X_findAtLegC 3 = .ok (.aload_n 0, 1) := by decide +kernel
theorem d_X_findAtLegC_4 : decode b_X_findAtLegC 4 = .ok (.getfield 37, 3) := by decide +kernel
theorem d_X_findAtLegC_7 : decode b_X_findAtLegC 7 = .ok (.getfield 48, 3) := by decide +kernel
theorem d_X_findAtLegC_10 : decode b_X_findAtLegC 10 = .ok (.if_icmp .ge 44, 3) := by decide +kernel
theorem d_X_findAtLegC_13 : decode b_X_findAtLegC 13 = .ok (.iload_n 2, 1) := by decide +kernel
theorem d_X_findAtLegC_14 : decode b_X_findAtLegC 14 = .ok (.iload_n 1, 1) := by decide +kernel
theorem d_X_findAtLegC_15 : decode b_X_findAtLegC 15 = .ok (.if_icmp .eq 33, 3) := by decide +kernel
theorem d_X_findAtLegC_18 : decode b_X_findAtLegC 18 = .ok (.aload_n 0, 1) := by decide +kernel
theorem d_X_findAtLegC_19 : decode b_X_findAtLegC 19 = .ok (.getfield 37, 3) := by decide +kernel
theorem d_X_findAtLegC_22 : decode b_X_findAtLegC 22 = .ok (.iload_n 2, 1) := by decide +kernel
theorem d_X_findAtLegC_23 : decode b_X_findAtLegC 23 = .ok (.iconst 0, 1) := by decide +kernel
theorem d_X_findAtLegC_24 : decode b_X_findAtLegC 24 = .ok (.iload_n 1, 1) := by decide +kernel
theorem d_X_findAtLegC_25 : decode b_X_findAtLegC 25 = .ok (.iconst 0, 1) := by decide +kernel
theorem d_X_findAtLegC_26 : decode b_X_findAtLegC 26 = .ok (.invokevirtual 204, 3) := by decide +kernel
theorem d_X_findAtLegC_29 : decode b_X_findAtLegC 29 = .ok (.ifCond .eq 19, 3) := by decide +kernel
theorem d_X_findAtLegC_32 : decode b_X_findAtLegC 32 = .ok (.aload_n 0, 1) := by decide +kernel
theorem d_X_findAtLegC_33 : decode b_X_findAtLegC 33 = .ok (.getfield 37, 3) := by decide +kernel
theorem d_X_findAtLegC_36 : decode b_X_findAtLegC 36 = .ok (.iload_n 2, 1) := by decide +kernel
theorem d_X_findAtLegC_37 : decode b_X_findAtLegC 37 = .ok (.iconst 2, 1) := by decide +kernel
theorem d_X_findAtLegC_38 : decode b_X_findAtLegC 38 = .ok (.iload_n 1, 1) := by decide +kernel
theorem d_X_findAtLegC_39 : decode b_X_findAtLegC 39 = .ok (.iconst 2, 1) := by decide +kernel
theorem d_X_findAtLegC_40 : decode b_X_findAtLegC 40 = .ok (.invokevirtual 204, 3) := by decide +kernel
theorem d_X_findAtLegC_43 : decode b_X_findAtLegC 43 = .ok (.ifCond .eq 5, 3) := by decide +kernel
theorem d_X_findAtLegC_46 : decode b_X_findAtLegC 46 = .ok (.iload_n 2, 1) := by decide +kernel
theorem d_X_findAtLegC_47 : decode b_X_findAtLegC 47 = .ok (.ireturn, 1) := by decide +kernel
theorem d_X_findAtLegC_48 : decode b_X_findAtLegC 48 = .ok (.iinc 2 1, 3) := by decide +kernel
theorem d_X_findAtLegC_51 : decode b_X_findAtLegC 51 = .ok (.goto (-49), 3) := by decide +kernel
theorem d_X_findAtLegC_54 : decode b_X_findAtLegC 54 = .ok (.iconst (-1), 1) := by decide +kernel
theorem d_X_findAtLegC_55 : decode b_X_findAtLegC 55 = .ok (.ireturn, 1) := by decide +kernel
theorem d_X_countUnused_0 : decode b_X_countUnused 0 = .ok (.iconst 0, 1) := by decide +kernel
theorem d_X_countUnused_1 : decode b_X_countUnused 1 = .ok (.istore_n 1, 1) := by decide +kernel
theorem d_X_countUnused_2 : decode b_X_countUnused 2 = .ok (.iconst 0, 1) := by decide +kernel
theorem d_X_countUnused_3 : decode b_X_countUnused 3 = .ok (.istore_n 2, 1) := by decide +kernel
theorem d_X_countUnused_4 : decode b_X_countUnused 4 = .ok (.iload_n 2, 1) := by decide +kernel
theorem d_X_countUnused_5 : decode b_X_countUnused 5 = .ok (.aload_n 0, 1) := by decide +kernel
theorem d_X_countUnused_6 : decode b_X_countUnused 6 = .ok (.getfield 37, 3) := by decide +kernel
theorem d_X_countUnused_9 : decode b_X_countUnused 9 = .ok (.getfield 48, 3) := by decide +kernel
theorem d_X_countUnused_12 : decode b_X_countUnused 12 = .ok (.if_icmp .ge 21, 3) := by decide +kernel
theorem d_X_countUnused_15 : decode b_X_countUnused 15 = .ok (.aload_n 0, 1) := by decide +kernel
theorem d_X_countUnused_16 : decode b_X_countUnused 16 = .ok (.getfield 31, 3) := by decide +kernel
theorem d_X_countUnused_19 : decode b_X_countUnused 19 = .ok (.iload_n 2, 1) := by decide +kernel
theorem d_X_countUnused_20 : decode b_X_countUnused 20 = .ok (.iaload, 1) := by decide +kernel
theorem d_X_countUnused_21 : decode b_X_countUnused 21 = .ok (.ifCond .ne 6, 3) := by decide +kernel
theorem d_X_countUnused_24 : decode b_X_countUnused 24 = .ok (.iinc 1 1, 3) := by decide +kernel
theorem d_X_countUnused_27 : decode b_X_countUnused 27 = .ok (.iinc 2 1, 3) := by decide +kernel
theorem d_X_countUnused_30 : decode b_X_countUnused 30 = .ok (.goto (-26), 3) := by decide +kernel
theorem d_X_countUnused_33 : decode b_X_countUnused 33 = .ok (.iload_n 1, 1) := by decide +kernel
theorem d_X_countUnused_34 : decode b_X_countUnused 34 = .ok (.ireturn, 1) := by decide +kernel
theorem d_X_clashesWithEarlier_0 : decode b_X_clashesWithEarlier 0 = .ok (.iconst 0, 1) := by decide +kernel
theorem d_X_clashesWithEarlier_1 : decode b_X_clashesWithEarlier 1 = .ok (.istore_n 2, 1) := by decide +kernel
theorem d_X_clashesWithEarlier_2 : decode b_X_clashesWithEarlier 2 = .ok (.iload_n 2, 1) := by decide +kernel
theorem d_X_clashesWithEarlier_3 : decode b_X_clashesWithEarlier 3 = .ok (.iload_n 1, 1) := by decide +kernel
theorem d_X_clashesWithEarlier_4 : decode b_X_clashesWithEarlier 4 = .ok (.if_icmp .ge 20, 3) := by decide +kernel
theorem d_X_clashesWithEarlier_7 : decode b_X_clashesWithEarlier 7 = .ok (.aload_n 0, 1) := by decide +kernel
theorem d_X_clashesWithEarlier_8 : decode b_X_clashesWithEarlier 8 = .ok (.iload_n 2, 1) := by decide +kernel
theorem d_X_clashesWithEarlier_9 : decode b_X_clashesWithEarlier 9 = .ok (.iload_n 1, 1) := by decide +kernel
theorem d_X_clashesWithEarlier_10 : decode b_X_clashesWithEarlier 10 = .ok (.invokevirtual 207, 3) := by decide +kernel
theorem d_X_clashesWithEarlier_13 : decode b_X_clashesWithEarlier 13 = .ok (.ifCond .eq 5, 3) := by decide +kernel
theorem d_X_clashesWithEarlier_16 : decode b_X_clashesWithEarlier 16 = .ok (.iconst 1, 1) := by decide +kernel
theorem d_X_clashesWithEarlier_17 : decode b_X_clashesWithEarlier 17 = .ok (.ireturn, 1) := by decide +kernel
theorem d_X_clashesWithEarlier_18 : decode b_X_clashesWithEarlier 18 = .ok (.iinc 2 1, 3) := by decide +kernel
theorem d_X_clashesWithEarlier_21 : decode b_X_clashesWithEarlier 21 = .ok (.goto (-19), 3) := by decide +kernel
theorem d_X_clashesWithEarlier_24 : decode b_X_clashesWithEarlier 24 = .ok (.iconst 0, 1) := by decide +kernel
theorem d_X_clashesWithEarlier_25 : decode b_X_clashesWithEarlier 25 = .ok (.ireturn, 1) := by decide +kernel
theorem d_X_clashing_0 : decode b_X_clashing 0 = .ok (.aload_n 0, 1) := by decide +kernel
theorem d_X_clashing_1 : decode b_X_clashing 1 = .ok (.getfield 12, 3) := by decide +kernel
theorem d_X_clashing_4 : decode b_X_clashing 4 = .ok (.iload_n 1, 1) := by decide +kernel
theorem d_X_clashing_5 : decode b_X_clashing 5 = .ok (.iload_n 2, 1) := by decide +kernel
theorem d_X_clashing_6 : decode b_X_clashing 6 = .ok (.invokevirtual 210, 3) := by decide +kernel
theorem d_X_clashing_9 : decode b_X_clashing 9 = .ok (.ifCond .eq 5, 3) := by decide +kernel
theorem d_X_clashing_12 : decode b_X_clashing 12 = .ok (.iconst 0, 1) := by decide +kernel
theorem d_X_clashing_13 : decode b_X_clashing 13 = .ok (.ireturn, 1) := by decide +kernel
theorem d_X_clashing_14 : decode b_X_clashing 14 = .ok (.aload_n 0, 1) := by decide +kernel
theorem d_X_clashing_15 : decode b_X_clashing 15 = .ok (.getfield 12, 3) := by decide +kernel
theorem d_X_clashing_18 : decode b_X_clashing 18 = .ok (.iload_n 1, 1) := by decide +kernel
theorem d_X_clashing_19 : decode b_X_clashing 19 = .ok (.iload_n 2, 1) := by decide +kernel
theorem d_X_clashing_20 : decode b_X_clashing 20 = .ok (.invokevirtual 213, 3) := by decide +kernel
theorem d_X_clashing_23 : decode b_X_clashing 23 = .ok (.ifCond .eq 5, 3) := by decide +kernel
theorem d_X_clashing_26 : decode b_X_clashing 26 = .ok (.iconst 1, 1) := by decide +kernel
theorem d_X_clashing_27 : decode b_X_clashing 27 = .ok (.ireturn, 1) := by decide +kernel
theorem d_X_clashing_28 : decode b_X_clashing 28 = .ok (.iconst 0, 1) := by decide +kernel
theorem d_X_clashing_29 : decode b_X_clashing 29 = .ok (.istore_n 3, 1) := by decide +kernel
theorem d_X_clashing_30 : decode b_X_clashing 30 = .ok (.iload_n 3, 1) := by decide +kernel
theorem d_X_clashing_31 : decode b_X_clashing 31 = .ok (.bipush 9, 2) := by decide +kernel
theorem d_X_clashing_33 : decode b_X_clashing 33 = .ok (.if_icmp .ge 50, 3) := by decide +kernel
theorem d_X_clashing_36 : decode b_X_clashing 36 = .ok (.aload_n 0, 1) := by decide +kernel
theorem d_X_clashing_37 : decode b_X_clashing 37 = .ok (.iload_n 1, 1) := by decide +kernel
theorem d_X_clashing_38 : decode b_X_clashing 38 = .ok (.iconst 3, 1) := by decide +kernel
theorem d_X_clashing_39 : decode b_X_clashing 39 = .ok (.aload_n 0, 1) := by decide +kernel
theorem d_X_clashing_40 : decode b_X_clashing 40 = .ok (.getfield 37, 3) := by decide +kernel
theorem d_X_clashing_43 : decode b_X_clashing 43 = .ok (.getfield 102, 3) := by decide +kernel
theorem d_X_clashing_46 : decode b_X_clashing 46 = .ok (.iload_n 1, 1) := by decide +kernel
theorem d_X_clashing_47 : decode b_X_clashing 47 = .ok (.iaload, 1) := by decide +kernel
theorem d_X_clashing_48 : decode b_X_clashing 48 = .ok (.imul, 1) := by decide +kernel
theorem d_X_clashing_49 : decode b_X_clashing 49 = .ok (.iload_n 3, 1) := by decide +kernel
theorem d_X_clashing_50 : decode b_X_clashing 50 = .ok (.iconst 3, 1) := by decide +kernel
theorem d_X_clashing_51 : decode b_X_clashing 51 = .ok (.idiv, 1) := by decide +kernel
theorem d_X_clashing_52 : decode b_X_clashing 52 = .ok (.iadd, 1) := by decide +kernel
theorem d_X_clashing_53 : decode b_X_clashing 53 = .ok (.iload_n 2, 1) := by decide +kernel
theorem d_X_clashing_54 : decode b_X_clashing 54 = .ok (.iconst 3, 1) := by decide +kernel
theorem d_X_clashing_55 : decode b_X_clashing 55 = .ok (.aload_n 0, 1) := by decide +kernel
theorem d_X_clashing_56 : decode b_X_clashing 56 = .ok (.getfield 37, 3) := by decide +kernel
theorem d_X_clashing_59 : decode b_X_clashing 59 = .ok (.getfield 102, 3) := by decide +kernel
theorem d_X_clashing_62 : decode b_X_clashing 62 = .ok (.iload_n 2, 1) := by decide +kernel
theorem d_X_clashing_63 : decode b_X_clashing 63 = .ok (.iaload, 1) := by decide +kernel
theorem d_X_clashing_64 : decode b_X_clashing 64 = .ok (.imul, 1) := by decide +kernel
theorem d_X_clashing_65 : decode b_X_clashing 65 = .ok (.iload_n 3, 1) := by decide +kernel
theorem d_X_clashing_66 : decode b_X_clashing 66 = .ok (.iconst 3, 1) := by decide +kernel
theorem d_X_clashing_67 : decode b_X_clashing 67 = .ok (.irem, 1) := by decide +kernel
theorem d_X_clashing_68 : decode b_X_clashing 68 = .ok (.iadd, 1) := by decide +kernel
theorem d_X_clashing_69 : decode b_X_clashing 69 = .ok (.invokevirtual 216, 3) := by decide +kernel
theorem d_X_clashing_72 : decode b_X_clashing 72 = .ok (.ifCond .eq 5, 3) := by decide +kernel
theorem d_X_clashing_75 : decode b_X_clashing 75 = .ok (.iconst 1, 1) := by decide +kernel
theorem d_X_clashing_76 : decode b_X_clashing 76 = .ok (.ireturn, 1) := by decide +kernel
theorem d_X_clashing_77 : decode b_X_clashing 77 = .ok (.iinc 3 1, 3) := by decide +kernel
theorem d_X_clashing_80 : decode b_X_clashing 80 = .ok (.goto (-50), 3) := by decide +kernel
theorem d_X_clashing_83 : decode b_X_clashing 83 = .ok (.iconst 0, 1) := by decide +kernel
theorem d_X_clashing_84 : decode b_X_clashing 84 = .ok (.ireturn, 1) := by decide +kernel
theorem d_X_disagree_0 : decode b_X_disagree 0 = .ok (.iload_n 1, 1) := by decide +kernel
theorem d_X_disagree_1 : decode b_X_disagree 1 = .ok (.getstatic 219, 3) := by decide +kernel
theorem d_X_disagree_4 : decode b_X_disagree 4 = .ok (.iload_n 2, 1) := by decide +kernel
theorem d_X_disagree_5 : decode b_X_disagree 5 = .ok (.iaload, 1) := by decide +kernel
theorem d_X_disagree_6 : decode b_X_disagree 6 = .ok (.invokestatic 157, 3) := by decide +kernel
theorem d_X_disagree_9 : decode b_X_disagree 9 = .ok (.istore 5, 2) := by decide +kernel
theorem d_X_disagree_11 : decode b_X_disagree 11 = .ok (.iload_n 1, 1) := by decide +kernel
theorem d_X_disagree_12 : decode b_X_disagree 12 = .ok (.getstatic 222, 3) := by decide +kernel
theorem d_X_disagree_15 : decode b_X_disagree 15 = .ok (.iload_n 2, 1) := by decide +kernel
theorem d_X_disagree_16 : decode b_X_disagree 16 = .ok (.iaload, 1) := by decide +kernel
theorem d_X_disagree_17 : decode b_X_disagree 17 = .ok (.invokestatic 157, 3) := by decide +kernel
theorem d_X_disagree_20 : decode b_X_disagree 20 = .ok (.istore 6, 2) := by decide +kernel
theorem d_X_disagree_22 : decode b_X_disagree 22 = .ok (.iload_n 3, 1) := by decide +kernel
theorem d_X_disagree_23 : decode b_X_disagree 23 = .ok (.getstatic 219, 3) := by decide +kernel
theorem d_X_disagree_26 : decode b_X_disagree 26 = .ok (.iload 4, 2) := by decide +kernel
theorem d_X_disagree_28 : decode b_X_disagree 28 = .ok (.iaload, 1) := by decide +kernel
theorem d_X_disagree_29 : decode b_X_disagree 29 = .ok (.invokestatic 157, 3) := by decide +kernel
theorem d_X_disagree_32 : decode b_X_disagree 32 = .ok (.istore 7, 2) := by decide +kernel
theorem d_X_disagree_34 : decode b_X_disagree 34 = .ok (.iload_n 3, 1) := by decide +kernel
theorem d_X_disagree_35 : decode b_X_disagree 35 = .ok (.getstatic 222, 3) := by decide +kernel
theorem d_X_disagree_38 : decode b_X_disagree 38 = .ok (.iload 4, 2) := by decide +kernel
theorem d_X_disagree_40 : decode b_X_disagree 40 = .ok (.iaload, 1) := by decide +kernel
theorem d_X_disagree_41 : decode b_X_disagree 41 = .ok (.invokestatic 157, 3) := by decide +kernel
theorem d_X_disagree_44 : decode b_X_disagree 44 = .ok (.istore 8, 2) := by decide +kernel
theorem d_X_disagree_46 : decode b_X_disagree 46 = .ok (.getstatic 225, 3) := by decide +kernel
theorem d_X_disagree_49 : decode b_X_disagree 49 = .ok (.iload_n 2, 1) := by decide +kernel
theorem d_X_disagree_50 : decode b_X_disagree 50 = .ok (.iaload, 1) := by decide +kernel
theorem d_X_disagree_51 : decode b_X_disagree 51 = .ok (.getstatic 225, 3) := by decide +kernel
theorem d_X_disagree_54 : decode b_X_disagree 54 = .ok (.iload 4, 2) := by decide +kernel
theorem d_X_disagree_56 : decode b_X_disagree 56 = .ok (.iaload, 1) := by decide +kernel
theorem d_X_disagree_57 : decode b_X_disagree 57 = .ok (.if_icmp .ne 39, 3) := by decide +kernel
theorem d_X_disagree_60 : decode b_X_disagree 60 = .ok (.aload_n 0, 1) := by decide +kernel
theorem d_X_disagree_61 : decode b_X_disagree 61 = .ok (.getfield 37, 3) := by decide +kernel
theorem d_X_disagree_64 : decode b_X_disagree 64 = .ok (.getfield 154, 3) := by decide +kernel
theorem d_X_disagree_67 : decode b_X_disagree 67 = .ok (.iload 5, 2) := by decide +kernel
theorem d_X_disagree_69 : decode b_X_disagree 69 = .ok (.iload 7, 2) := by decide +kernel
theorem d_X_disagree_71 : decode b_X_disagree 71 = .ok (.invokestatic 228, 3) := by decide +kernel
theorem d_X_disagree_74 : decode b_X_disagree 74 = .ok (.ifCond .eq 22, 3) := by decide +kernel
theorem d_X_disagree_77 : decode b_X_disagree 77 = .ok (.aload_n 0, 1) := by decide +kernel
theorem d_X_disagree_78 : decode b_X_disagree 78 = .ok (.getfield 37, 3) := by decide +kernel
theorem d_X_disagree_81 : decode b_X_disagree 81 = .ok (.getfield 154, 3) := by decide +kernel
theorem d_X_disagree_84 : decode b_X_disagree 84 = .ok (.iload 6, 2) := by decide +kernel
theorem d_X_disagree_86 : decode b_X_disagree 86 = .ok (.iload 8, 2) := by decide +kernel
theorem d_X_disagree_88 : decode b_X_disagree 88 = .ok (.invokestatic 228, 3) := by decide +kernel
theorem d_X_disagree_91 : decode b_X_disagree 91 = .ok (.ifCond .eq 5, 3) := by decide +kernel
theorem d_X_disagree_94 : decode b_X_disagree 94 = .ok (.iconst 0, 1) := by decide +kernel
theorem d_X_disagree_95 : decode b_X_disagree 95 = .ok (.ireturn, 1) := by decide +kernel
theorem d_X_disagree_96 : decode b_X_disagree 96 = .ok (.aload_n 0, 1) := by decide +kernel
theorem d_X_disagree_97 : decode b_X_disagree 97 = .ok (.getfield 37, 3) := by decide +kernel
theorem d_X_disagree_100 : decode b_X_disagree 100 = .ok (.getfield 154, 3) := by decide +kernel
theorem d_X_disagree_103 : decode b_X_disagree 103 = .ok (.iload 5, 2) := by decide +kernel
theorem d_X_disagree_105 : decode b_X_disagree 105 = .ok (.iload 6, 2) := by decide +kernel
theorem d_X_disagree_107 : decode b_X_disagree 107 = .ok (.iload 7, 2) := by decide +kernel
theorem d_X_disagree_109 : decode b_X_disagree 109 = .ok (.iload 8, 2) := by decide +kernel
theorem d_X_disagree_111 : decode b_X_disagree 111 = .ok (.invokestatic 232, 3) := by decide +kernel
theorem d_X_disagree_114 : decode b_X_disagree 114 = .ok (.ireturn, 1) := by decide +kernel
theorem d_X_starClashes_0 : decode b_X_starClashes 0 = .ok (.iconst 1, 1) := by decide +kernel
theorem d_X_starClashes_1 : decode b_X_starClashes 1 = .ok (.istore_n 3, 1) := by decide +kernel
theorem d_X_starClashes_2 : decode b_X_starClashes 2 = .ok (.iload_n 3, 1) := by decide +kernel
theorem d_X_starClashes_3 : decode b_X_starClashes 3 = .ok (.aload_n 0, 1) := by decide +kernel
theorem d_X_starClashes_4 : decode b_X_starClashes 4 = .ok (.getfield 37, 3) := by decide +kernel
theorem d_X_starClashes_7 : decode b_X_starClashes 7 = .ok (.getfield 48, 3) := by decide +kernel
theorem d_X_starClashes_10 : decode b_X_starClashes 10 = .ok (.if_icmp .ge 68, 3) := by decide +kernel
theorem d_X_starClashes_13 : decode b_X_starClashes 13 = .ok (.aload_n 0, 1) := by decide +kernel
theorem d_X_starClashes_14 : decode b_X_starClashes 14 = .ok (.getfield 37, 3) := by decide +kernel
theorem d_X_starClashes_17 : decode b_X_starClashes 17 = .ok (.iload_n 3, 1) := by decide +kernel
theorem d_X_starClashes_18 : decode b_X_starClashes 18 = .ok (.iload_n 1, 1) := by decide +kernel
theorem d_X_starClashes_19 : decode b_X_starClashes 19 = .ok (.iload_n 2, 1) := by decide +kernel
theorem d_X_starClashes_20 : decode b_X_starClashes 20 = .ok (.invokevirtual 161, 3) := by decide +kernel
theorem d_X_starClashes_23 : decode b_X_starClashes 23 = .ok (.iconst (-1), 1) := by decide +kernel
theorem d_X_starClashes_24 : decode b_X_starClashes 24 = .ok (.if_icmp .ne 6, 3) := by decide +kernel
theorem d_X_starClashes_27 : decode b_X_starClashes 27 = .ok (.goto 45, 3) := by decide +kernel
theorem d_X_starClashes_30 : decode b_X_starClashes 30 = .ok (.iconst 0, 1) := by decide +kernel
theorem d_X_starClashes_31 : decode b_X_starClashes 31 = .ok (.istore 4, 2) := by decide +kernel
theorem d_X_starClashes_33 : decode b_X_starClashes 33 = .ok (.iload 4, 2) := by decide +kernel
theorem d_X_starClashes_35 : decode b_X_starClashes 35 = .ok (.iload_n 3, 1) := by decide +kernel
theorem d_X_starClashes_36 : decode b_X_starClashes 36 = .ok (.if_icmp .ge 36, 3) := by decide +kernel
theorem d_X_starClashes_39 : decode b_X_starClashes 39 = .ok (.aload_n 0, 1) := by decide +kernel
theorem d_X_starClashes_40 : decode b_X_starClashes 40 = .ok (.getfield 37, 3) := by decide +kernel
theorem d_X_starClashes_43 : decode b_X_starClashes 43 = .ok (.iload 4, 2) := by decide +kernel
theorem d_X_starClashes_45 : decode b_X_starClashes 45 = .ok (.iload_n 1, 1) := by decide +kernel
theorem d_X_starClashes_46 : decode b_X_starClashes 46 = .ok (.iload_n 2, 1) := by decide +kernel
theorem d_X_starClashes_47 : decode b_X_starClashes 47 = .ok (.invokevirtual 161, 3) := by decide +kernel
theorem d_X_starClashes_50 : decode b_X_starClashes 50 = .ok (.iconst (-1), 1) := by decide +kernel
theorem d_X_starClashes_51 : decode b_X_starClashes 51 = .ok (.if_icmp .eq 15, 3) := by decide +kernel
theorem d_X_starClashes_54 : decode b_X_starClashes 54 = .ok (.aload_n 0, 1) := by decide +kernel
theorem d_X_starClashes_55 : decode b_X_starClashes 55 = .ok (.iload 4, 2) := by decide +kernel
theorem d_X_starClashes_57 : decode b_X_starClashes 57 = .ok (.iload_n 3, 1) := by decide +kernel
theorem d_X_starClashes_58 : decode b_X_starClashes 58 = .ok (.invokevirtual 207, 3) := by decide +kernel
theorem d_X_starClashes_61 : decode b_X_starClashes 61 = .ok (.ifCond .eq 5, 3) := by decide +kernel
theorem d_X_starClashes_64 : decode b_X_starClashes 64 = .ok (.iconst 1, 1) := by decide +kernel
theorem d_X_starClashes_65 : decode b_X_starClashes 65 = .ok (.ireturn, 1) := by decide +kernel
theorem d_X_starClashes_66 : decode b_X_starClashes 66 = .ok (.iinc 4 1, 3) := by decide +kernel
theorem d_X_starClashes_69 : decode b_X_starClashes 69 = .ok (.goto (-36), 3) := by decide +kernel
theorem d_X_starClashes_72 : decode b_X_starClashes 72 = .ok (.iinc 3 1, 3) := by decide +kernel
theorem d_X_starClashes_75 : decode b_X_starClashes 75 = .ok (.goto (-73), 3) := by decide +kernel
theorem d_X_starClashes_78 : decode b_X_starClashes 78 = .ok (.iconst 0, 1) := by decide +kernel
theorem d_X_starClashes_79 : decode b_X_starClashes 79 = .ok (.ireturn, 1) := by decide +kernel
theorem d_X_countType_0 : decode b_X_countType 0 = .ok (.iconst 0, 1) := by decide +kernel
theorem d_X_countType_1 : decode b_X_countType 1 = .ok (.istore_n 2, 1) := by decide +kernel
theorem d_X_countType_2 : decode b_X_countType 2 = .ok (.iconst 0, 1) := by decide +kernel
theorem d_X_countType_3 : decode b_X_countType 3 = .ok (.istore_n 3, 1) := by decide +kernel
theorem d_X_countType_4 : decode b_X_countType 4 = .ok (.iload_n 3, 1) := by decide +kernel
theorem d_X_countType_5 : decode b_X_countType 5 = .ok (.aload_n 0, 1) := by decide +kernel
theorem d_X_countType_6 : decode b_X_countType 6 = .ok (.getfield 37, 3) := by decide +kernel
theorem d_X_countType_9 : decode b_X_countType 9 = .ok (.getfield 48, 3) := by decide +kernel
theorem d_X_countType_12 : decode b_X_countType 12 = .ok (.if_icmp .ge 25, 3) := by decide +kernel
theorem d_X_countType_15 : decode b_X_countType 15 = .ok (.aload_n 0, 1) := by decide +kernel
theorem d_X_countType_16 : decode b_X_countType 16 = .ok (.getfield 37, 3) := by decide +kernel
theorem d_X_countType_19 : decode b_X_countType 19 = .ok (.getfield 102, 3) := by decide +kernel
theorem d_X_countType_22 : decode b_X_countType 22 = .ok (.iload_n 3, 1) := by decide +kernel
theorem d_X_countType_23 : decode b_X_countType 23 = .ok (.iaload, 1) := by decide +kernel
theorem d_X_countType_24 : decode b_X_countType 24 = .ok (.iload_n 1, 1) := by decide +kernel
theorem d_X_countType_25 : decode b_X_countType 25 = .ok (.if_icmp .ne 6, 3) := by decide +kernel
theorem d_X_countType_28 : decode b_X_countType 28 = .ok (.iinc 2 1, 3) := by decide +kernel
theorem d_X_countType_31 : decode b_X_countType 31 = .ok (.iinc 3 1, 3) := by decide +kernel
theorem d_X_countType_34 : decode b_X_countType 34 = .ok (.goto (-30), 3) := by decide +kernel
theorem d_X_countType_37 : decode b_X_countType 37 = .ok (.iload_n 2, 1) := by decide +kernel
theorem d_X_countType_38 : decode b_X_countType 38 = .ok (.ireturn, 1) := by decide +kernel
theorem d_X_countLoneEdges_0 : decode b_X_countLoneEdges 0 = .ok (.iconst 0, 1) := by decide +kernel
theorem d_X_countLoneEdges_1 : decode b_X_countLoneEdges 1 = .ok (.istore_n 1, 1) := by decide +kernel
theorem d_X_countLoneEdges_2 : decode b_X_countLoneEdges 2 = .ok (.iconst 0, 1) := by decide +kernel
theorem d_X_countLoneEdges_3 : decode b_X_countLoneEdges 3 = .ok (.istore_n 2, 1) := by decide +kernel
theorem d_X_countLoneEdges_4 : decode b_X_countLoneEdges 4 = .ok (.iload_n 2, 1) := by decide +kernel
theorem d_X_countLoneEdges_5 : decode b_X_countLoneEdges 5 = .ok (.aload_n 0, 1) := by decide +kernel
theorem d_X_countLoneEdges_6 : decode b_X_countLoneEdges 6 = .ok (.getfield 37, 3) := by decide +kernel
theorem d_X_countLoneEdges_9 : decode b_X_countLoneEdges 9 = .ok (.getfield 48, 3) := by decide +kernel
theorem d_X_countLoneEdges_12 : decode b_X_countLoneEdges 12 = .ok (.if_icmp .ge 70, 3) := by decide +kernel
theorem d_X_countLoneEdges_15 : decode b_X_countLoneEdges 15 = .ok (.iconst 0, 1) := by decide +kernel
theorem d_X_countLoneEdges_16 : decode b_X_countLoneEdges 16 = .ok (.istore_n 3, 1) := by decide +kernel
theorem d_X_countLoneEdges_17 : decode b_X_countLoneEdges 17 = .ok (.iconst 0, 1) := by decide +kernel
theorem d_X_countLoneEdges_18 : decode b_X_countLoneEdges 18 = .ok (.istore 4, 2) := by decide +kernel
theorem d_X_countLoneEdges_20 : decode b_X_countLoneEdges 20 = .ok (.iload 4, 2) := by decide +kernel
theorem d_X_countLoneEdges_22 : decode b_X_countLoneEdges 22 = .ok (.aload_n 0, 1) := by decide +kernel
theorem d_X_countLoneEdges_23 : decode b_X_countLoneEdges 23 = .ok (.getfield 37, 3) := by decide +kernel
theorem d_X_countLoneEdges_26 : decode b_X_countLoneEdges 26 = .ok (.getfield 48, 3) := by decide +kernel
theorem d_X_countLoneEdges_29 : decode b_X_countLoneEdges 29 = .ok (.if_icmp .ge 38, 3) := by decide +kernel
theorem d_X_countLoneEdges_32 : decode b_X_countLoneEdges 32 = .ok (.iload 4, 2) := by decide +kernel
theorem d_X_countLoneEdges_34 : decode b_X_countLoneEdges 34 = .ok (.iload_n 2, 1) := by decide +kernel
theorem d_X_countLoneEdges_35 : decode b_X_countLoneEdges 35 = .ok (.if_icmp .eq 26, 3) := by decide +kernel
theorem d_X_countLoneEdges_38 : decode b_X_countLoneEdges 38 = .ok (.aload_n 0, 1) := by decide +kernel
theorem d_X_countLoneEdges_39 : decode b_X_countLoneEdges 39 = .ok (.getfield 12, 3) := by decide +kernel
theorem d_X_countLoneEdges_42 : decode b_X_countLoneEdges 42 = .ok (.iload 4, 2) := by decide +kernel
theorem d_X_countLoneEdges_44 : decode b_X_countLoneEdges 44 = .ok (.iload_n 2, 1) := by decide +kernel
theorem d_X_countLoneEdges_45 : decode b_X_countLoneEdges 45 = .ok (.invokevirtual 210, 3) := by decide +kernel
theorem d_X_countLoneEdges_48 : decode b_X_countLoneEdges 48 = .ok (.ifCond .ne 13, 3) := by decide +kernel
theorem d_X_countLoneEdges_51 : decode b_X_countLoneEdges 51 = .ok (.iload_n 3, 1) := by decide +kernel
theorem d_X_countLoneEdges_52 : decode b_X_countLoneEdges 52 = .ok (.aload_n 0, 1) := by decide +kernel
theorem d_X_countLoneEdges_53 : decode b_X_countLoneEdges 53 = .ok (.iload_n 2, 1) := by decide +kernel
theorem d_X_countLoneEdges_54 : decode b_X_countLoneEdges 54 = .ok (.iload 4, 2) := by decide +kernel
theorem d_X_countLoneEdges_56 : decode b_X_countLoneEdges 56 = .ok (.invokevirtual 236, 3) := by decide +kernel
theorem d_X_countLoneEdges_59 : decode b_X_countLoneEdges 59 = .ok (.ior, 1) := by decide +kernel
theorem d_X_countLoneEdges_60 : decode b_X_countLoneEdges 60 = .ok (.istore_n 3, 1) := by decide +kernel
theorem d_X_countLoneEdges_61 : decode b_X_countLoneEdges 61 = .ok (.iinc 4 1, 3) := by decide +kernel
theorem d_X_countLoneEdges_64 : decode b_X_countLoneEdges 64 = .ok (.goto (-44), 3) := by decide +kernel
theorem d_X_countLoneEdges_67 : decode b_X_countLoneEdges 67 = .ok (.iload_n 1, 1) := by decide +kernel
theorem d_X_countLoneEdges_68 : decode b_X_countLoneEdges 68 = .ok (.iconst 3, 1) := by decide +kernel
theorem d_X_countLoneEdges_69 : decode b_X_countLoneEdges 69 = .ok (.iload_n 3, 1) := by decide +kernel
theorem d_X_countLoneEdges_70 : decode b_X_countLoneEdges 70 = .ok (.invokestatic 239, 3) := by decide +kernel
theorem d_X_countLoneEdges_73 : decode b_X_countLoneEdges 73 = .ok (.isub, 1) := by decide +kernel
theorem d_X_countLoneEdges_74 : decode b_X_countLoneEdges 74 = .ok (.iadd, 1) := by decide +kernel
theorem d_X_countLoneEdges_75 : decode b_X_countLoneEdges 75 = .ok (.istore_n 1, 1) := by decide +kernel
theorem d_X_countLoneEdges_76 : decode b_X_countLoneEdges 76 = .ok (.iinc 2 1, 3) := by decide +kernel
theorem d_X_countLoneEdges_79 : decode b_X_countLoneEdges 79 = .ok (.goto (-75), 3) := by decide +kernel
theorem d_X_countLoneEdges_82 : decode b_X_countLoneEdges 82 = .ok (.iload_n 1, 1) := by decide +kernel
theorem d_X_countLoneEdges_83 : decode b_X_countLoneEdges 83 = .ok (.ireturn, 1) := by decide +kernel
theorem d_X_sharedEdges_0 : decode b_X_sharedEdges 0 = .ok (.aload_n 0, 1) := by decide +kernel
theorem d_X_sharedEdges_1 : decode b_X_sharedEdges 1 = .ok (.getfield 37, 3) := by decide +kernel
theorem d_X_sharedEdges_4 : decode b_X_sharedEdges 4 = .ok (.iload_n 2, 1) := by decide +kernel
theorem d_X_sharedEdges_5 : decode b_X_sharedEdges 5 = .ok (.iload_n 1, 1) := by decide +kernel
theorem d_X_sharedEdges_6 : decode b_X_sharedEdges 6 = .ok (.iconst 0, 1) := by decide +kernel
theorem d_X_sharedEdges_7 : decode b_X_sharedEdges 7 = .ok (.invokevirtual 161, 3) := by decide +kernel
theorem d_X_sharedEdges_10 : decode b_X_sharedEdges 10 = .ok (.iconst (-1), 1) := by decide +kernel
theorem d_X_sharedEdges_11 : decode b_X_sharedEdges 11 = .ok (.if_icmp .eq 7, 3) := by decide +kernel
theorem d_X_sharedEdges_14 : decode b_X_sharedEdges 14 = .ok (.iconst 1, 1) := by decide +kernel
theorem d_X_sharedEdges_15 : decode b_X_sharedEdges 15 = .ok (.goto 4, 3) := by decide +kernel
theorem d_X_sharedEdges_18 : decode b_X_sharedEdges 18 = .ok (.iconst 0, 1) := by decide +kernel
theorem d_X_sharedEdges_19 : decode b_X_sharedEdges 19 = .ok (.istore_n 3, 1) := by decide +kernel
theorem d_X_sharedEdges_20 : decode b_X_sharedEdges 20 = .ok (.aload_n 0, 1) := by decide +kernel
theorem d_X_sharedEdges_21 : decode b_X_sharedEdges 21 = .ok (.getfield 37, 3) := by decide +kernel
theorem d_X_sharedEdges_24 : decode b_X_sharedEdges 24 = .ok (.iload_n 2, 1) := by decide +kernel
theorem d_X_sharedEdges_25 : decode b_X_sharedEdges 25 = .ok (.iload_n 1, 1) := by decide +kernel
theorem d_X_sharedEdges_26 : decode b_X_sharedEdges 26 = .ok (.iconst 1, 1) := by decide +kernel
theorem d_X_sharedEdges_27 : decode b_X_sharedEdges 27 = .ok (.invokevirtual 161, 3) := by decide +kernel
theorem d_X_sharedEdges_30 : decode b_X_sharedEdges 30 = .ok (.iconst (-1), 1) := by decide +kernel
theorem d_X_sharedEdges_31 : decode b_X_sharedEdges 31 = .ok (.if_icmp .eq 7, 3) := by decide +kernel
theorem d_X_sharedEdges_34 : decode b_X_sharedEdges 34 = .ok (.iconst 1, 1) := by decide +kernel
theorem d_X_sharedEdges_35 : decode b_X_sharedEdges 35 = .ok (.goto 4, 3) := by decide +kernel
theorem d_X_sharedEdges_38 : decode b_X_sharedEdges 38 = .ok (.iconst 0, 1) := by decide +kernel
theorem d_X_sharedEdges_39 : decode b_X_sharedEdges 39 = .ok (.istore 4, 2) := by decide +kernel
theorem d_X_sharedEdges_41 : decode b_X_sharedEdges 41 = .ok (.aload_n 0, 1) := by decide +kernel
theorem d_X_sharedEdges_42 : decode b_X_sharedEdges 42 = .ok (.getfield 37, 3) := by decide +kernel
theorem d_X_sharedEdges_45 : decode b_X_sharedEdges 45 = .ok (.iload_n 2, 1) := by decide +kernel
theorem d_X_sharedEdges_46 : decode b_X_sharedEdges 46 = .ok (.iload_n 1, 1) := by decide +kernel
theorem d_X_sharedEdges_47 : decode b_X_sharedEdges 47 = .ok (.iconst 2, 1) := by decide +kernel
theorem d_X_sharedEdges_48 : decode b_X_sharedEdges 48 = .ok (.invokevirtual 161, 3) := by decide +kernel
theorem d_X_sharedEdges_51 : decode b_X_sharedEdges 51 = .ok (.iconst (-1), 1) := by decide +kernel
theorem d_X_sharedEdges_52 : decode b_X_sharedEdges 52 = .ok (.if_icmp .eq 7, 3) := by decide +kernel
theorem d_X_sharedEdges_55 : decode b_X_sharedEdges 55 = .ok (.iconst 1, 1) := by decide +kernel
theorem d_X_sharedEdges_56 : decode b_X_sharedEdges 56 = .ok (.goto 4, 3) := by decide +kernel
theorem d_X_sharedEdges_59 : decode b_X_sharedEdges 59 = .ok (.iconst 0, 1) := by decide +kernel
theorem d_X_sharedEdges_60 : decode b_X_sharedEdges 60 = .ok (.istore 5, 2) := by decide +kernel
theorem d_X_sharedEdges_62 : decode b_X_sharedEdges 62 = .ok (.iload_n 3, 1) := by decide +kernel
theorem d_X_sharedEdges_63 : decode b_X_sharedEdges 63 = .ok (.ifCond .eq 12, 3) := by decide +kernel
theorem d_X_sharedEdges_66 : decode b_X_sharedEdges 66 = .ok (.iload 4, 2) := by decide +kernel
theorem d_X_sharedEdges_68 : decode b_X_sharedEdges 68 = .ok (.ifCond .eq 7, 3) := by decide +kernel
theorem d_X_sharedEdges_71 : decode b_X_sharedEdges 71 = .ok (.iconst 1, 1) := by decide +kernel
theorem d_X_sharedEdges_72 : decode b_X_sharedEdges 72 = .ok (.goto 4, 3) := by decide +kernel
theorem d_X_sharedEdges_75 : decode b_X_sharedEdges 75 = .ok (.iconst 0, 1) := by decide +kernel
theorem d_X_sharedEdges_76 : decode b_X_sharedEdges 76 = .ok (.iload_n 3, 1) := by decide +kernel
theorem d_X_sharedEdges_77 : decode b_X_sharedEdges 77 = .ok (.ifCond .eq 12, 3) := by decide +kernel
theorem d_X_sharedEdges_80 : decode b_X_sharedEdges 80 = .ok (.iload 5, 2) := by decide +kernel
theorem d_X_sharedEdges_82 : decode b_X_sharedEdges 82 = .ok (.ifCond .eq 7, 3) := by decide +kernel
theorem d_X_sharedEdges_85 : decode b_X_sharedEdges 85 = .ok (.iconst 2, 1) := by decide +kernel
theorem d_X_sharedEdges_86 : decode b_X_sharedEdges 86 = .ok (.goto 4, 3) := by decide +kernel
theorem d_X_sharedEdges_89 : decode b_X_sharedEdges 89 = .ok (.iconst 0, 1) := by decide +kernel
theorem d_X_sharedEdges_90 : decode b_X_sharedEdges 90 = .ok (.ior, 1) := by decide +kernel
theorem d_X_sharedEdges_91 : decode b_X_sharedEdges 91 = .ok (.iload 4, 2) := by decide +kernel
theorem d_X_sharedEdges_93 : decode b_X_sharedEdges 93 = .ok (.ifCond .eq 12, 3) := by decide +kernel
theorem d_X_sharedEdges_96 : decode b_X_sharedEdges 96 = .ok (.iload 5, 2) := by decide +kernel
theorem d_X_sharedEdges_98 : decode b_X_sharedEdges 98 = .ok (.ifCond .eq 7, 3) := by decide +kernel
theorem d_X_sharedEdges_101 : decode b_X_sharedEdges 101 = .ok (.iconst 4, 1) := by decide +kernel
theorem d_X_sharedEdges_102 : decode b_X_sharedEdges 102 = .ok (.goto 4, 3) := by decide +kernel
theorem d_X_sharedEdges_105 : decode b_X_sharedEdges 105 = .ok (.iconst 0, 1) := by decide +kernel
theorem d_X_sharedEdges_106 : decode b_X_sharedEdges 106 = .ok (.ior, 1) := by decide +kernel
theorem d_X_sharedEdges_107 : decode b_X_sharedEdges 107 = .ok (.ireturn, 1) := by decide +kernel
theorem d_X_countPoints_0 : decode b_X_countPoints 0 = .ok (.iconst 0, 1) := by decide +kernel
theorem d_X_countPoints_1 : decode b_X_countPoints 1 = .ok (.istore_n 1, 1) := by decide +kernel
theorem d_X_countPoints_2 : decode b_X_countPoints 2 = .ok (.iconst 0, 1) := by decide +kernel
theorem d_X_countPoints_3 : decode b_X_countPoints 3 = .ok (.istore_n 2, 1) := by decide +kernel
theorem d_X_countPoints_4 : decode b_X_countPoints 4 = .ok (.iload_n 2, 1) := by decide +kernel
theorem d_X_countPoints_5 : decode b_X_countPoints 5 = .ok (.aload_n 0, 1) := by decide +kernel
theorem d_X_countPoints_6 : decode b_X_countPoints 6 = .ok (.getfield 37, 3) := by decide +kernel
theorem d_X_countPoints_9 : decode b_X_countPoints 9 = .ok (.getfield 48, 3) := by decide +kernel
theorem d_X_countPoints_12 : decode b_X_countPoints 12 = .ok (.if_icmp .ge 34, 3) := by decide +kernel
theorem d_X_countPoints_15 : decode b_X_countPoints 15 = .ok (.iconst 0, 1) := by decide +kernel
theorem d_X_countPoints_16 : decode b_X_countPoints 16 = .ok (.istore_n 3, 1) := by decide +kernel
theorem d_X_countPoints_17 : decode b_X_countPoints 17 = .ok (.iload_n 3, 1) := by decide +kernel
theorem d_X_countPoints_18 : decode b_X_countPoints 18 = .ok (.iconst 3, 1) := by decide +kernel
theorem d_X_countPoints_19 : decode b_X_countPoints 19 = .ok (.if_icmp .ge 21, 3) := by decide +kernel
theorem d_X_countPoints_22 : decode b_X_countPoints 22 = .ok (.aload_n 0, 1) := by decide +kernel
theorem d_X_countPoints_23 : decode b_X_countPoints 23 = .ok (.iload_n 2, 1) := by decide +kernel
theorem d_X_countPoints_24 : decode b_X_countPoints 24 = .ok (.iload_n 3, 1) := by decide +kernel
theorem d_X_countPoints_25 : decode b_X_countPoints 25 = .ok (.invokevirtual 244, 3) := by decide +kernel
theorem d_X_countPoints_28 : decode b_X_countPoints 28 = .ok (.ifCond .eq 6, 3) := by decide +kernel
theorem d_X_countPoints_31 : decode b_X_countPoints 31 = .ok (.iinc 1 1, 3) := by decide +kernel
theorem d_X_countPoints_34 : decode b_X_countPoints 34 = .ok (.iinc 3 1, 3) := by decide +kernel
theorem d_X_countPoints_37 : decode b_X_countPoints 37 = .ok (.goto (-20), 3) := by decide +kernel
theorem d_X_countPoints_40 : decode b_X_countPoints 40 = .ok (.iinc 2 1, 3) := by decide +kernel
theorem d_X_countPoints_43 : decode b_X_countPoints 43 = .ok (.goto (-39), 3) := by decide +kernel
theorem d_X_countPoints_46 : decode b_X_countPoints 46 = .ok (.iload_n 1, 1) := by decide +kernel
theorem d_X_countPoints_47 : decode b_X_countPoints 47 = .ok (.ireturn, 1) := by decide +kernel
theorem d_X_isFirstAt_0 : decode b_X_isFirstAt 0 = .ok (.iconst 0, 1) := by decide +kernel
theorem d_X_isFirstAt_1 : decode b_X_isFirstAt 1 = .ok (.istore_n 3, 1) := by decide +kernel
theorem d_X_isFirstAt_2 : decode b_X_isFirstAt 2 = .ok (.iload_n 3, 1) := by decide +kernel
theorem d_X_isFirstAt_3 : decode b_X_isFirstAt 3 = .ok (.iload_n 1, 1) := by decide +kernel
theorem d_X_isFirstAt_4 : decode b_X_isFirstAt 4 = .ok (.if_icmp .ge 25, 3) := by decide +kernel
theorem d_X_isFirstAt_7 : decode b_X_isFirstAt 7 = .ok (.aload_n 0, 1) := by decide +kernel
theorem d_X_isFirstAt_8 : decode b_X_isFirstAt 8 = .ok (.getfield 37, 3) := by decide +kernel
theorem d_X_isFirstAt_11 : decode b_X_isFirstAt 11 = .ok (.iload_n 3, 1) := by decide +kernel
theorem d_X_isFirstAt_12 : decode b_X_isFirstAt 12 = .ok (.iload_n 1, 1) := by decide +kernel
theorem d_X_isFirstAt_13 : decode b_X_isFirstAt 13 = .ok (.iload_n 2, 1) := by decide +kernel
theorem d_X_isFirstAt_14 : decode b_X_isFirstAt 14 = .ok (.invokevirtual 161, 3) := by decide +kernel
theorem d_X_isFirstAt_17 : decode b_X_isFirstAt 17 = .ok (.iconst (-1), 1) := by decide +kernel
theorem d_X_isFirstAt_18 : decode b_X_isFirstAt 18 = .ok (.if_icmp .eq 5, 3) := by decide +kernel
theorem d_X_isFirstAt_21 : decode b_X_isFirstAt 21 = .ok (.iconst 0, 1) := by decide +kernel
theorem d_X_isFirstAt_22 : decode b_X_isFirstAt 22 = .ok (.ireturn, 1) := by decide +kernel
theorem d_X_isFirstAt_23 : decode b_X_isFirstAt 23 = .ok (.iinc 3 1, 3) := by decide +kernel
theorem d_X_isFirstAt_26 : decode b_X_isFirstAt 26 = .ok (.goto (-24), 3) := by decide +kernel
theorem d_X_isFirstAt_29 : decode b_X_isFirstAt 29 = .ok (.iconst 1, 1) := by decide +kernel
theorem d_X_isFirstAt_30 : decode b_X_isFirstAt 30 = .ok (.ireturn, 1) := by decide +kernel
theorem d_X_countPaired_0 : decode b_X_countPaired 0 = .ok (.iconst 0, 1) := by decide +kernel
theorem d_X_countPaired_1 : decode b_X_countPaired 1 = .ok (.istore_n 1, 1) := by decide +kernel
theorem d_X_countPaired_2 : decode b_X_countPaired 2 = .ok (.iconst 0, 1) := by decide +kernel
theorem d_X_countPaired_3 : decode b_X_countPaired 3 = .ok (.istore_n 2, 1) := by decide +kernel
theorem d_X_countPaired_4 : decode b_X_countPaired 4 = .ok (.iload_n 2, 1) := by decide +kernel
theorem d_X_countPaired_5 : decode b_X_countPaired 5 = .ok (.aload_n 0, 1) := by decide +kernel
theorem d_X_countPaired_6 : decode b_X_countPaired 6 = .ok (.getfield 37, 3) := by decide +kernel
theorem d_X_countPaired_9 : decode b_X_countPaired 9 = .ok (.getfield 48, 3) := by decide +kernel
theorem d_X_countPaired_12 : decode b_X_countPaired 12 = .ok (.if_icmp .ge 20, 3) := by decide +kernel
theorem d_X_countPaired_15 : decode b_X_countPaired 15 = .ok (.aload_n 0, 1) := by decide +kernel
theorem d_X_countPaired_16 : decode b_X_countPaired 16 = .ok (.iload_n 2, 1) := by decide +kernel
theorem d_X_countPaired_17 : decode b_X_countPaired 17 = .ok (.invokevirtual 247, 3) := by decide +kernel
theorem d_X_countPaired_20 : decode b_X_countPaired 20 = .ok (.ifCond .eq 6, 3) := by decide +kernel
theorem d_X_countPaired_23 : decode b_X_countPaired 23 = .ok (.iinc 1 1, 3) := by decide +kernel
theorem d_X_countPaired_26 : decode b_X_countPaired 26 = .ok (.iinc 2 1, 3) := by decide +kernel
theorem d_X_countPaired_29 : decode b_X_countPaired 29 = .ok (.goto (-25), 3) := by decide +kernel
theorem d_X_countPaired_32 : decode b_X_countPaired 32 = .ok (.iload_n 1, 1) := by decide +kernel
theorem d_X_countPaired_33 : decode b_X_countPaired 33 = .ok (.ireturn, 1) := by decide +kernel
theorem d_X_isPaired_0 : decode b_X_isPaired 0 = .ok (.iconst 0, 1) := by decide +kernel
theorem d_X_isPaired_1 : decode b_X_isPaired 1 = .ok (.istore_n 2, 1) := by decide +kernel
theorem d_X_isPaired_2 : decode b_X_isPaired 2 = .ok (.iload_n 2, 1) := by decide +kernel
theorem d_X_isPaired_3 : decode b_X_isPaired 3 = .ok (.aload_n 0, 1) := by decide +kernel
theorem d_X_isPaired_4 : decode b_X_isPaired 4 = .ok (.getfield 37, 3) := by decide +kernel
theorem d_X_isPaired_7 : decode b_X_isPaired 7 = .ok (.getfield 48, 3) := by decide +kernel
theorem d_X_isPaired_10 : decode b_X_isPaired 10 = .ok (.if_icmp .ge 65, 3) := by decide +kernel
theorem d_X_isPaired_13 : decode b_X_isPaired 13 = .ok (.iload_n 2, 1) := by decide +kernel
theorem d_X_isPaired_14 : decode b_X_isPaired 14 = .ok (.iload_n 1, 1) := by decide +kernel
theorem d_X_isPaired_15 : decode b_X_isPaired 15 = .ok (.if_icmp .eq 54, 3) := by decide +kernel
theorem d_X_isPaired_18 : decode b_X_isPaired 18 = .ok (.aload_n 0, 1) := by decide +kernel
theorem d_X_isPaired_19 : decode b_X_isPaired 19 = .ok (.getfield 37, 3) := by decide +kernel
theorem d_X_isPaired_22 : decode b_X_isPaired 22 = .ok (.getfield 102, 3) := by decide +kernel
theorem d_X_isPaired_25 : decode b_X_isPaired 25 = .ok (.iload_n 2, 1) := by decide +kernel
theorem d_X_isPaired_26 : decode b_X_isPaired 26 = .ok (.iaload, 1) := by decide +kernel
theorem d_X_isPaired_27 : decode b_X_isPaired 27 = .ok (.aload_n 0, 1) := by decide +kernel
theorem d_X_isPaired_28 : decode b_X_isPaired 28 = .ok (.getfield 37, 3) := by decide +kernel
theorem d_X_isPaired_31 : decode b_X_isPaired 31 = .ok (.getfield 102, 3) := by decide +kernel
theorem d_X_isPaired_34 : decode b_X_isPaired 34 = .ok (.iload_n 1, 1) := by decide +kernel
theorem d_X_isPaired_35 : decode b_X_isPaired 35 = .ok (.iaload, 1) := by decide +kernel
theorem d_X_isPaired_36 : decode b_X_isPaired 36 = .ok (.if_icmp .ne 33, 3) := by decide +kernel
theorem d_X_isPaired_39 : decode b_X_isPaired 39 = .ok (.aload_n 0, 1) := by decide +kernel
theorem d_X_isPaired_40 : decode b_X_isPaired 40 = .ok (.getfield 37, 3) := by decide +kernel
theorem d_X_isPaired_43 : decode b_X_isPaired 43 = .ok (.iload_n 2, 1) := by decide +kernel
theorem d_X_isPaired_44 : decode b_X_isPaired 44 = .ok (.iconst 1, 1) := by decide +kernel
theorem d_X_isPaired_45 : decode b_X_isPaired 45 = .ok (.iload_n 1, 1) := by decide +kernel
theorem d_X_isPaired_46 : decode b_X_isPaired 46 = .ok (.iconst 1, 1) := by decide +kernel
theorem d_X_isPaired_47 : decode b_X_isPaired 47 = .ok (.invokevirtual 204, 3) := by decide +kernel
theorem d_X_isPaired_50 : decode b_X_isPaired 50 = .ok (.ifCond .eq 19, 3) := by decide +kernel
theorem d_X_isPaired_53 : decode b_X_isPaired 53 = .ok (.aload_n 0, 1) := by decide +kernel
theorem d_X_isPaired_54 : decode b_X_isPaired 54 = .ok (.getfield 37, 3) := by decide +kernel
theorem d_X_isPaired_57 : decode b_X_isPaired 57 = .ok (.iload_n 2, 1) := by decide +kernel
theorem d_X_isPaired_58 : decode b_X_isPaired 58 = .ok (.iconst 2, 1) := by decide +kernel
theorem d_X_isPaired_59 : decode b_X_isPaired 59 = .ok (.iload_n 1, 1) := by decide +kernel
theorem d_X_isPaired_60 : decode b_X_isPaired 60 = .ok (.iconst 2, 1) := by decide +kernel
theorem d_X_isPaired_61 : decode b_X_isPaired 61 = .ok (.invokevirtual 204, 3) := by decide +kernel
theorem d_X_isPaired_64 : decode b_X_isPaired 64 = .ok (.ifCond .eq 5, 3) := by decide +kernel
theorem d_X_isPaired_67 : decode b_X_isPaired 67 = .ok (.iconst 1, 1) := by decide +kernel
theorem d_X_isPaired_68 : decode b_X_isPaired 68 = .ok (.ireturn, 1) := by decide +kernel
theorem d_X_isPaired_69 : decode b_X_isPaired 69 = .ok (.iinc 2 1, 3) := by decide +kernel
theorem d_X_isPaired_72 : decode b_X_isPaired 72 = .ok (.goto (-70), 3) := by decide +kernel
theorem d_X_isPaired_75 : decode b_X_isPaired 75 = .ok (.iconst 0, 1) := by decide +kernel
theorem d_X_isPaired_76 : decode b_X_isPaired 76 = .ok (.ireturn, 1) := by decide +kernel
theorem d_Ha_init_0 : decode b_Ha_init 0 = .ok (.aload_n 0, 1) := by decide +kernel
theorem d_Ha_init_1 : decode b_Ha_init 1 = .ok (.invokespecial 3, 3) := by decide +kernel
theorem d_Ha_init_4 : decode b_Ha_init 4 = .ok (.aload_n 0, 1) := by decide +kernel
theorem d_Ha_init_5 : decode b_Ha_init 5 = .ok (.sipush 400, 3) := by decide +kernel
theorem d_Ha_init_8 : decode b_Ha_init 8 = .ok (.newarray .int, 2) := by decide +kernel
theorem d_Ha_init_10 : decode b_Ha_init 10 = .ok (.putfield 9, 3) := by decide +kernel
theorem d_Ha_init_13 : decode b_Ha_init 13 = .ok (.aload_n 0, 1) := by decide +kernel
theorem d_Ha_init_14 : decode b_Ha_init 14 = .ok (.sipush 4800, 3) := by decide +kernel
theorem d_Ha_init_17 : decode b_Ha_init 17 = .ok (.newarray .int, 2) := by decide +kernel
theorem d_Ha_init_19 : decode b_Ha_init 19 = .ok (.putfield 15, 3) := by decide +kernel
theorem d_Ha_init_22 : decode b_Ha_init 22 = .ok (.aload_n 0, 1) := by decide +kernel
theorem d_Ha_init_23 : decode b_Ha_init 23 = .ok (.iconst 0, 1) := by decide +kernel
theorem d_Ha_init_24 : decode b_Ha_init 24 = .ok (.putfield 18, 3) := by decide +kernel
theorem d_Ha_init_27 : decode b_Ha_init 27 = .ok (.return_, 1) := by decide +kernel
theorem d_Ha_at_0 : decode b_Ha_at 0 = .ok (.iload_n 0, 1) := by decide +kernel
theorem d_Ha_at_1 : decode b_Ha_at 1 = .ok (.bipush 12, 2) := by decide +kernel
theorem d_Ha_at_3 : decode b_Ha_at 3 = .ok (.imul, 1) := by decide +kernel
theorem d_Ha_at_4 : decode b_Ha_at 4 = .ok (.iload_n 1, 1) := by decide +kernel
theorem d_Ha_at_5 : decode b_Ha_at 5 = .ok (.iconst 4, 1) := by decide +kernel
theorem d_Ha_at_6 : decode b_Ha_at 6 = .ok (.imul, 1) := by decide +kernel
theorem d_Ha_at_7 : decode b_Ha_at 7 = .ok (.iadd, 1) := by decide +kernel
theorem d_Ha_at_8 : decode b_Ha_at 8 = .ok (.ireturn, 1) := by decide +kernel
theorem d_Ha_has_0 : decode b_Ha_has 0 = .ok (.iload_n 1, 1) := by decide +kernel
theorem d_Ha_has_1 : decode b_Ha_has 1 = .ok (.ifCond .lt 24, 3) := by decide +kernel
theorem d_Ha_has_4 : decode b_Ha_has 4 = .ok (.iload_n 1, 1) := by decide +kernel
theorem d_Ha_has_5 : decode b_Ha_has 5 = .ok (.aload_n 0, 1) := by decide +kernel
theorem d_Ha_has_6 : decode b_Ha_has 6 = .ok (.getfield 18, 3) := by decide +kernel
theorem d_Ha_has_9 : decode b_Ha_has 9 = .ok (.if_icmp .ge 16, 3) := by decide +kernel
theorem d_Ha_has_12 : decode b_Ha_has 12 = .ok (.iload_n 2, 1) := by decide +kernel
theorem d_Ha_has_13 : decode b_Ha_has 13 = .ok (.ifCond .lt 12, 3) := by decide +kernel
theorem d_Ha_has_16 : decode b_Ha_has 16 = .ok (.iload_n 2, 1) := by decide +kernel
theorem d_Ha_has_17 : decode b_Ha_has 17 = .ok (.iconst 2, 1) := by decide +kernel
theorem d_Ha_has_18 : decode b_Ha_has 18 = .ok (.if_icmp .gt 7, 3) := by decide +kernel
theorem d_Ha_has_21 : decode b_Ha_has 21 = .ok (.iconst 1, 1) := by decide +kernel
theorem d_Ha_has_22 : decode b_Ha_has 22 = .ok (.goto 4, 3) := by decide +kernel
theorem d_Ha_has_25 : decode b_Ha_has 25 = .ok (.iconst 0, 1) := by decide +kernel
theorem d_Ha_has_26 : decode b_Ha_has 26 = .ok (.ireturn, 1) := by decide +kernel
theorem d_Ha_append_0 : decode b_Ha_append 0 = .ok (.aload_n 0, 1) := by decide +kernel
theorem d_Ha_append_1 : decode b_Ha_append 1 = .ok (.getfield 18, 3) := by decide +kernel
theorem d_Ha_append_4 : decode b_Ha_append 4 = .ok (.sipush 400, 3) := by decide +kernel
theorem d_Ha_append_7 : decode b_Ha_append 7 = .ok (.if_icmp .ge 28, 3) := by decide +kernel
theorem d_Ha_append_10 : decode b_Ha_append 10 = .ok (.aload_n 0, 1) := by decide +kernel
theorem d_Ha_append_11 : decode b_Ha_append 11 = .ok (.aload_n 0, 1) := by decide +kernel
theorem d_Ha_append_12 : decode b_Ha_append 12 = .ok (.getfield 18, 3) := by decide +kernel
theorem d_Ha_append_15 : decode b_Ha_append 15 = .ok (.iload_n 1, 1) := by decide +kernel
theorem d_Ha_append_16 : decode b_Ha_append 16 = .ok (.aload_n 2, 1) := by decide +kernel
theorem d_Ha_append_17 : decode b_Ha_append 17 = .ok (.iload_n 3, 1) := by decide +kernel
theorem d_Ha_append_18 : decode b_Ha_append 18 = .ok (.iload 4, 2) := by decide +kernel
theorem d_Ha_append_20 : decode b_Ha_append 20 = .ok (.iload 5, 2) := by decide +kernel
theorem d_Ha_append_22 : decode b_Ha_append 22 = .ok (.invokevirtual 22, 3) := by decide +kernel
theorem d_Ha_append_25 : decode b_Ha_append 25 = .ok (.aload_n 0, 1) := by decide +kernel
theorem d_Ha_append_26 : decode b_Ha_append 26 = .ok (.dup, 1) := by decide +kernel
theorem d_Ha_append_27 : decode b_Ha_append 27 = .ok (.getfield 18, 3) := by decide +kernel
theorem d_Ha_append_30 : decode b_Ha_append 30 = .ok (.iconst 1, 1) := by decide +kernel
theorem d_Ha_append_31 : decode b_Ha_append 31 = .ok (.iadd, 1) := by decide +kernel
theorem d_Ha_append_32 : decode b_Ha_append 32 = .ok (.putfield 18, 3) := by decide +kernel
theorem d_Ha_append_35 : decode b_Ha_append 35 = .ok (.return_, 1) := by decide +kernel
theorem d_Ha_write_0 : decode b_Ha_write 0 = .ok (.aload_n 0, 1) := by decide +kernel
theorem d_Ha_write_1 : decode b_Ha_write 1 = .ok (.getfield 9, 3) := by decide +kernel
theorem d_Ha_write_4 : decode b_Ha_write 4 = .ok (.iload_n 1, 1) := by decide +kernel
theorem d_Ha_write_5 : decode b_Ha_write 5 = .ok (.iload_n 2, 1) := by decide +kernel
theorem d_Ha_write_6 : decode b_Ha_write 6 = .ok (.iastore, 1) := by decide +kernel
theorem d_Ha_write_7 : decode b_Ha_write 7 = .ok (.aload_n 3, 1) := by decide +kernel
theorem d_Ha_write_8 : decode b_Ha_write 8 = .ok (.iload 4, 2) := by decide +kernel
theorem d_Ha_write_10 : decode b_Ha_write 10 = .ok (.aload_n 0, 1) := by decide +kernel
theorem d_Ha_write_11 : decode b_Ha_write 11 = .ok (.getfield 15, 3) := by decide +kernel
theorem d_Ha_write_14 : decode b_Ha_write 14 = .ok (.iload_n 1, 1) := by decide +kernel
theorem d_Ha_write_15 : decode b_Ha_write 15 = .ok (.iconst 0, 1) := by decide +kernel
theorem d_Ha_write_16 : decode b_Ha_write 16 = .ok (.invokestatic 26, 3) := by decide +kernel
theorem d_Ha_write_19 : decode b_Ha_write 19 = .ok (.iconst 4, 1) := by decide +kernel
theorem d_Ha_write_20 : decode b_Ha_write 20 = .ok (.invokestatic 30, 3) := by decide +kernel
theorem d_Ha_write_23 : decode b_Ha_write 23 = .ok (.aload_n 3, 1) := by decide +kernel
theorem d_Ha_write_24 : decode b_Ha_write 24 = .ok (.iload 5, 2) := by decide +kernel
theorem d_Ha_write_26 : decode b_Ha_write 26 = .ok (.aload_n 0, 1) := by decide +kernel
theorem d_Ha_write_27 : decode b_Ha_write 27 = .ok (.getfield 15, 3) := by decide +kernel
theorem d_Ha_write_30 : decode b_Ha_write 30 = .ok (.iload_n 1, 1) := by decide +kernel
theorem d_Ha_write_31 : decode b_Ha_write 31 = .ok (.iconst 1, 1) := by decide +kernel
theorem d_Ha_write_32 : decode b_Ha_write 32 = .ok (.invokestatic 26, 3) := by decide +kernel
theorem d_Ha_write_35 : decode b_Ha_write 35 = .ok (.iconst 4, 1) := by decide +kernel
theorem d_Ha_write_36 : decode b_Ha_write 36 = .ok (.invokestatic 30, 3) := by decide +kernel
theorem d_Ha_write_39 : decode b_Ha_write 39 = .ok (.aload_n 3, 1) := by decide +kernel
theorem d_Ha_write_40 : decode b_Ha_write 40 = .ok (.iload 6, 2) := by decide +kernel
theorem d_Ha_write_42 : decode b_Ha_write 42 = .ok (.aload_n 0, 1) := by decide +kernel
theorem d_Ha_write_43 : decode b_Ha_write 43 = .ok (.getfield 15, 3) := by decide +kernel
theorem d_Ha_write_46 : decode b_Ha_write 46 = .ok (.iload_n 1, 1) := by decide +kernel
theorem d_Ha_write_47 : decode b_Ha_write 47 = .ok (.iconst 2, 1) := by decide +kernel
theorem d_Ha_write_48 : decode b_Ha_write 48 = .ok (.invokestatic 26, 3) := by decide +kernel
theorem d_Ha_write_51 : decode b_Ha_write 51 = .ok (.iconst 4, 1) := by decide +kernel
theorem d_Ha_write_52 : decode b_Ha_write 52 = .ok (.invokestatic 30, 3) := by decide +kernel
theorem d_Ha_write_55 : decode b_Ha_write 55 = .ok (.return_, 1) := by decide +kernel
theorem d_JI_bitCount_0 : decode b_JI_bitCount 0 = .ok (.iload_n 0, 1) := by decide +kernel
theorem d_JI_bitCount_1 : decode b_JI_bitCount 1 = .ok (.iload_n 0, 1) := by decide +kernel
theorem d_JI_bitCount_2 : decode b_JI_bitCount 2 = .ok (.iconst 1, 1) := by decide +kernel
theorem d_JI_bitCount_3 : decode b_JI_bitCount 3 = .ok (.iushr, 1) := by decide +kernel
theorem d_JI_bitCount_4 : decode b_JI_bitCount 4 = .ok (.ldc_w 265, 3) := by decide +kernel
theorem d_JI_bitCount_7 : decode b_JI_bitCount 7 = .ok (.iand, 1) := by decide +kernel
theorem d_JI_bitCount_8 : decode b_JI_bitCount 8 = .ok (.isub, 1) := by decide +kernel
theorem d_JI_bitCount_9 : decode b_JI_bitCount 9 = .ok (.istore_n 0, 1) := by decide +kernel
theorem d_JI_bitCount_10 : decode b_JI_bitCount 10 = .ok (.iload_n 0, 1) := by decide +kernel
theorem d_JI_bitCount_11 : decode b_JI_bitCount 11 = .ok (.ldc_w 266, 3) := by decide +kernel
theorem d_JI_bitCount_14 : decode b_JI_bitCount 14 = .ok (.iand, 1) := by decide +kernel
theorem d_JI_bitCount_15 : decode b_JI_bitCount 15 = .ok (.iload_n 0, 1) := by decide +kernel
theorem d_JI_bitCount_16 : decode b_JI_bitCount 16 = .ok (.iconst 2, 1) := by decide +kernel
theorem d_JI_bitCount_17 : decode b_JI_bitCount 17 = .ok (.iushr, 1) := by decide +kernel
theorem d_JI_bitCount_18 : decode b_JI_bitCount 18 = .ok (.ldc_w 266, 3) := by decide +kernel
theorem d_JI_bitCount_21 : decode b_JI_bitCount 21 = .ok (.iand, 1) := by decide +kernel
theorem d_JI_bitCount_22 : decode b_JI_bitCount 22 = .ok (.iadd, 1) := by decide +kernel
theorem d_JI_bitCount_23 : decode b_JI_bitCount 23 = .ok (.istore_n 0, 1) := by decide +kernel
theorem d_JI_bitCount_24 : decode b_JI_bitCount 24 = .ok (.iload_n 0, 1) := by decide +kernel
theorem d_JI_bitCount_25 : decode b_JI_bitCount 25 = .ok (.iload_n 0, 1) := by decide +kernel
theorem d_JI_bitCount_26 : decode b_JI_bitCount 26 = .ok (.iconst 4, 1) := by decide +kernel
theorem d_JI_bitCount_27 : decode b_JI_bitCount 27 = .ok (.iushr, 1) := by decide +kernel
theorem d_JI_bitCount_28 : decode b_JI_bitCount 28 = .ok (.iadd, 1) := by decide +kernel
theorem d_JI_bitCount_29 : decode b_JI_bitCount 29 = .ok (.ldc_w 267, 3) := by decide +kernel
theorem d_JI_bitCount_32 : decode b_JI_bitCount 32 = .ok (.iand, 1) := by decide +kernel
theorem d_JI_bitCount_33 : decode b_JI_bitCount 33 = .ok (.istore_n 0, 1) := by decide +kernel
theorem d_JI_bitCount_34 : decode b_JI_bitCount 34 = .ok (.iload_n 0, 1) := by decide +kernel
theorem d_JI_bitCount_35 : decode b_JI_bitCount 35 = .ok (.iload_n 0, 1) := by decide +kernel
theorem d_JI_bitCount_36 : decode b_JI_bitCount 36 = .ok (.bipush 8, 2) := by decide +kernel
theorem d_JI_bitCount_38 : decode b_JI_bitCount 38 = .ok (.iushr, 1) := by decide +kernel
theorem d_JI_bitCount_39 : decode b_JI_bitCount 39 = .ok (.iadd, 1) := by decide +kernel
theorem d_JI_bitCount_40 : decode b_JI_bitCount 40 = .ok (.istore_n 0, 1) := by decide +kernel
theorem d_JI_bitCount_41 : decode b_JI_bitCount 41 = .ok (.iload_n 0, 1) := by decide +kernel
theorem d_JI_bitCount_42 : decode b_JI_bitCount 42 = .ok (.iload_n 0, 1) := by decide +kernel
theorem d_JI_bitCount_43 : decode b_JI_bitCount 43 = .ok (.bipush 16, 2) := by decide +kernel
theorem d_JI_bitCount_45 : decode b_JI_bitCount 45 = .ok (.iushr, 1) := by decide +kernel
theorem d_JI_bitCount_46 : decode b_JI_bitCount 46 = .ok (.iadd, 1) := by decide +kernel
theorem d_JI_bitCount_47 : decode b_JI_bitCount 47 = .ok (.istore_n 0, 1) := by decide +kernel
theorem d_JI_bitCount_48 : decode b_JI_bitCount 48 = .ok (.iload_n 0, 1) := by decide +kernel
theorem d_JI_bitCount_49 : decode b_JI_bitCount 49 = .ok (.bipush 63, 2) := by decide +kernel
theorem d_JI_bitCount_51 : decode b_JI_bitCount 51 = .ok (.iand, 1) := by decide +kernel
theorem d_JI_bitCount_52 : decode b_JI_bitCount 52 = .ok (.ireturn, 1) := by decide +kernel
theorem d_JI_signum_0 : decode b_JI_signum 0 = .ok (.iload_n 0, 1) := by decide +kernel
theorem d_JI_signum_1 : decode b_JI_signum 1 = .ok (.bipush 31, 2) := by decide +kernel
theorem d_JI_signum_3 : decode b_JI_signum 3 = .ok (.ishr, 1) := by decide +kernel
theorem d_JI_signum_4 : decode b_JI_signum 4 = .ok (.iload_n 0, 1) := by decide +kernel
theorem d_JI_signum_5 : decode b_JI_signum 5 = .ok (.ineg, 1) := by decide +kernel
theorem d_JI_signum_6 : decode b_JI_signum 6 = .ok (.bipush 31, 2) := by decide +kernel
theorem d_JI_signum_8 : decode b_JI_signum 8 = .ok (.iushr, 1) := by decide +kernel
theorem d_JI_signum_9 : decode b_JI_signum 9 = .ok (.ior, 1) := by decide +kernel
theorem d_JI_signum_10 : decode b_JI_signum 10 = .ok (.ireturn, 1) := by decide +kernel
theorem d_JL_signum_0 : decode b_JL_signum 0 = .ok (.lload_n 0, 1) := by decide +kernel
theorem d_JL_signum_1 : decode b_JL_signum 1 = .ok (.bipush 63, 2) := by decide +kernel
theorem d_JL_signum_3 : decode b_JL_signum 3 = .ok (.lshr, 1) := by decide +kernel
theorem d_JL_signum_4 : decode b_JL_signum 4 = .ok (.lload_n 0, 1) := by decide +kernel
theorem d_JL_signum_5 : decode b_JL_signum 5 = .ok (.lneg, 1) := by decide +kernel
theorem d_JL_signum_6 : decode b_JL_signum 6 = .ok (.bipush 63, 2) := by decide +kernel
theorem d_JL_signum_8 : decode b_JL_signum 8 = .ok (.lushr, 1) := by decide +kernel
theorem d_JL_signum_9 : decode b_JL_signum 9 = .ok (.lor, 1) := by decide +kernel
theorem d_JL_signum_10 : decode b_JL_signum 10 = .ok (.l2i, 1) := by decide +kernel
theorem d_JL_signum_11 : decode b_JL_signum 11 = .ok (.ireturn, 1) := by decide +kernel
theorem d_JA_fill_0 : decode b_JA_fill 0 = .ok (.iconst 0, 1) := by decide +kernel
theorem d_JA_fill_1 : decode b_JA_fill 1 = .ok (.istore_n 2, 1) := by decide +kernel
theorem d_JA_fill_2 : decode b_JA_fill 2 = .ok (.aload_n 0, 1) := by decide +kernel
theorem d_JA_fill_3 : decode b_JA_fill 3 = .ok (.arraylength, 1) := by decide +kernel
theorem d_JA_fill_4 : decode b_JA_fill 4 = .ok (.istore_n 3, 1) := by decide +kernel
theorem d_JA_fill_5 : decode b_JA_fill 5 = .ok (.iload_n 2, 1) := by decide +kernel
theorem d_JA_fill_6 : decode b_JA_fill 6 = .ok (.iload_n 3, 1) := by decide +kernel
theorem d_JA_fill_7 : decode b_JA_fill 7 = .ok (.if_icmp .ge 13, 3) := by decide +kernel
theorem d_JA_fill_10 : decode b_JA_fill 10 = .ok (.aload_n 0, 1) := by decide +kernel
theorem d_JA_fill_11 : decode b_JA_fill 11 = .ok (.iload_n 2, 1) := by decide +kernel
theorem d_JA_fill_12 : decode b_JA_fill 12 = .ok (.iload_n 1, 1) := by decide +kernel
theorem d_JA_fill_13 : decode b_JA_fill 13 = .ok (.iastore, 1) := by decide +kernel
theorem d_JA_fill_14 : decode b_JA_fill 14 = .ok (.iinc 2 1, 3) := by decide +kernel
theorem d_JA_fill_17 : decode b_JA_fill 17 = .ok (.goto (-12), 3) := by decide +kernel
theorem d_JA_fill_20 : decode b_JA_fill 20 = .ok (.return_, 1) := by decide +kernel
