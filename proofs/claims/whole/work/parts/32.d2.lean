/-! instructions -/
theorem d_CG_init_0 : decode c_CG_init 0 = .ok (.aload_n 0, 1) := by decide +kernel
theorem d_CG_init_1 : decode c_CG_init 1 = .ok (.invokespecial 3, 3) := by decide +kernel
theorem d_CG_init_4 : decode c_CG_init 4 = .ok (.bipush 21, 2) := by decide +kernel
theorem d_CG_init_6 : decode c_CG_init 6 = .ok (.anewarray 9, 3) := by decide +kernel
theorem d_CG_init_9 : decode c_CG_init 9 = .ok (.astore_n 1, 1) := by decide +kernel
theorem d_CG_init_10 : decode c_CG_init 10 = .ok (.iconst 0, 1) := by decide +kernel
theorem d_CG_init_11 : decode c_CG_init 11 = .ok (.istore_n 2, 1) := by decide +kernel
theorem d_CG_init_12 : decode c_CG_init 12 = .ok (.iload_n 2, 1) := by decide +kernel
theorem d_CG_init_13 : decode c_CG_init 13 = .ok (.bipush 20, 2) := by decide +kernel
theorem d_CG_init_15 : decode c_CG_init 15 = .ok (.if_icmp .gt 19, 3) := by decide +kernel
theorem d_CG_init_18 : decode c_CG_init 18 = .ok (.aload_n 1, 1) := by decide +kernel
theorem d_CG_init_19 : decode c_CG_init 19 = .ok (.iload_n 2, 1) := by decide +kernel
theorem d_CG_init_20 : decode c_CG_init 20 = .ok (.new 9, 3) := by decide +kernel
theorem d_CG_init_23 : decode c_CG_init 23 = .ok (.dup, 1) := by decide +kernel
theorem d_CG_init_24 : decode c_CG_init 24 = .ok (.invokespecial 11, 3) := by decide +kernel
theorem d_CG_init_27 : decode c_CG_init 27 = .ok (.aastore, 1) := by decide +kernel
theorem d_CG_init_28 : decode c_CG_init 28 = .ok (.iinc 2 1, 3) := by decide +kernel
theorem d_CG_init_31 : decode c_CG_init 31 = .ok (.goto (-19), 3) := by decide +kernel
theorem d_CG_init_34 : decode c_CG_init 34 = .ok (.aload_n 0, 1) := by decide +kernel
theorem d_CG_init_35 : decode c_CG_init 35 = .ok (.aload_n 1, 1) := by decide +kernel
theorem d_CG_init_36 : decode c_CG_init 36 = .ok (.putfield 12, 3) := by decide +kernel
theorem d_CG_init_39 : decode c_CG_init 39 = .ok (.aload_n 0, 1) := by decide +kernel
theorem d_CG_init_40 : decode c_CG_init 40 = .ok (.iconst 4, 1) := by decide +kernel
theorem d_CG_init_41 : decode c_CG_init 41 = .ok (.anewarray 16, 3) := by decide +kernel
theorem d_CG_init_44 : decode c_CG_init 44 = .ok (.putfield 18, 3) := by decide +kernel
theorem d_CG_init_47 : decode c_CG_init 47 = .ok (.aload_n 0, 1) := by decide +kernel
theorem d_CG_init_48 : decode c_CG_init 48 = .ok (.bipush 9, 2) := by decide +kernel
theorem d_CG_init_50 : decode c_CG_init 50 = .ok (.anewarray 22, 3) := by decide +kernel
theorem d_CG_init_53 : decode c_CG_init 53 = .ok (.putfield 24, 3) := by decide +kernel
theorem d_CG_init_56 : decode c_CG_init 56 = .ok (.aload_n 0, 1) := by decide +kernel
theorem d_CG_init_57 : decode c_CG_init 57 = .ok (.iconst 3, 1) := by decide +kernel
theorem d_CG_init_58 : decode c_CG_init 58 = .ok (.anewarray 28, 3) := by decide +kernel
theorem d_CG_init_61 : decode c_CG_init 61 = .ok (.putfield 30, 3) := by decide +kernel
theorem d_CG_init_64 : decode c_CG_init 64 = .ok (.aload_n 0, 1) := by decide +kernel
theorem d_CG_init_65 : decode c_CG_init 65 = .ok (.new 34, 3) := by decide +kernel
theorem d_CG_init_68 : decode c_CG_init 68 = .ok (.dup, 1) := by decide +kernel
theorem d_CG_init_69 : decode c_CG_init 69 = .ok (.invokespecial 36, 3) := by decide +kernel
theorem d_CG_init_72 : decode c_CG_init 72 = .ok (.putfield 37, 3) := by decide +kernel
theorem d_CG_init_75 : decode c_CG_init 75 = .ok (.aload_n 0, 1) := by decide +kernel
theorem d_CG_init_76 : decode c_CG_init 76 = .ok (.iconst 0, 1) := by decide +kernel
theorem d_CG_init_77 : decode c_CG_init 77 = .ok (.putfield 41, 3) := by decide +kernel
theorem d_CG_init_80 : decode c_CG_init 80 = .ok (.iconst 0, 1) := by decide +kernel
theorem d_CG_init_81 : decode c_CG_init 81 = .ok (.istore_n 2, 1) := by decide +kernel
theorem d_CG_init_82 : decode c_CG_init 82 = .ok (.iload_n 2, 1) := by decide +kernel
theorem d_CG_init_83 : decode c_CG_init 83 = .ok (.iconst 3, 1) := by decide +kernel
theorem d_CG_init_84 : decode c_CG_init 84 = .ok (.if_icmp .ge 80, 3) := by decide +kernel
theorem d_CG_init_87 : decode c_CG_init 87 = .ok (.iconst 3, 1) := by decide +kernel
theorem d_CG_init_88 : decode c_CG_init 88 = .ok (.anewarray 45, 3) := by decide +kernel
theorem d_CG_init_91 : decode c_CG_init 91 = .ok (.astore_n 3, 1) := by decide +kernel
theorem d_CG_init_92 : decode c_CG_init 92 = .ok (.iconst 0, 1) := by decide +kernel
theorem d_CG_init_93 : decode c_CG_init 93 = .ok (.istore 4, 2) := by decide +kernel
theorem d_CG_init_95 : decode c_CG_init 95 = .ok (.iload 4, 2) := by decide +kernel
theorem d_CG_init_97 : decode c_CG_init 97 = .ok (.iconst 3, 1) := by decide +kernel
theorem d_CG_init_98 : decode c_CG_init 98 = .ok (.if_icmp .ge 46, 3) := by decide +kernel
theorem d_CG_init_101 : decode c_CG_init 101 = .ok (.new 22, 3) := by decide +kernel
theorem d_CG_init_104 : decode c_CG_init 104 = .ok (.dup, 1) := by decide +kernel
theorem d_CG_init_105 : decode c_CG_init 105 = .ok (.iload_n 2, 1) := by decide +kernel
theorem d_CG_init_106 : decode c_CG_init 106 = .ok (.aload_n 1, 1) := by decide +kernel
theorem d_CG_init_107 : decode c_CG_init 107 = .ok (.invokespecial 47, 3) := by decide +kernel
theorem d_CG_init_110 : decode c_CG_init 110 = .ok (.astore 5, 2) := by decide +kernel
theorem d_CG_init_112 : decode c_CG_init 112 = .ok (.aload_n 0, 1) := by decide +kernel
theorem d_CG_init_113 : decode c_CG_init 113 = .ok (.getfield 24, 3) := by decide +kernel
theorem d_CG_init_116 : decode c_CG_init 116 = .ok (.iload_n 2, 1) := by decide +kernel
theorem d_CG_init_117 : decode c_CG_init 117 = .ok (.iconst 3, 1) := by decide +kernel
theorem d_CG_init_118 : decode c_CG_init 118 = .ok (.imul, 1) := by decide +kernel
theorem d_CG_init_119 : decode c_CG_init 119 = .ok (.iload 4, 2) := by decide +kernel
theorem d_CG_init_121 : decode c_CG_init 121 = .ok (.iadd, 1) := by decide +kernel
theorem d_CG_init_122 : decode c_CG_init 122 = .ok (.aload 5, 2) := by decide +kernel
theorem d_CG_init_124 : decode c_CG_init 124 = .ok (.aastore, 1) := by decide +kernel
theorem d_CG_init_125 : decode c_CG_init 125 = .ok (.aload_n 3, 1) := by decide +kernel
theorem d_CG_init_126 : decode c_CG_init 126 = .ok (.iload 4, 2) := by decide +kernel
theorem d_CG_init_128 : decode c_CG_init 128 = .ok (.new 45, 3) := by decide +kernel
theorem d_CG_init_131 : decode c_CG_init 131 = .ok (.dup, 1) := by decide +kernel
theorem d_CG_init_132 : decode c_CG_init 132 = .ok (.aload 5, 2) := by decide +kernel
theorem d_CG_init_134 : decode c_CG_init 134 = .ok (.invokespecial 50, 3) := by decide +kernel
theorem d_CG_init_137 : decode c_CG_init 137 = .ok (.aastore, 1) := by decide +kernel
theorem d_CG_init_138 : decode c_CG_init 138 = .ok (.iinc 4 1, 3) := by decide +kernel
theorem d_CG_init_141 : decode c_CG_init 141 = .ok (.goto (-46), 3) := by decide +kernel
theorem d_CG_init_144 : decode c_CG_init 144 = .ok (.aload_n 0, 1) := by decide +kernel
theorem d_CG_init_145 : decode c_CG_init 145 = .ok (.getfield 18, 3) := by decide +kernel
theorem d_CG_init_148 : decode c_CG_init 148 = .ok (.iload_n 2, 1) := by decide +kernel
theorem d_CG_init_149 : decode c_CG_init 149 = .ok (.new 16, 3) := by decide +kernel
theorem d_CG_init_152 : decode c_CG_init 152 = .ok (.dup, 1) := by decide +kernel
theorem d_CG_init_153 : decode c_CG_init 153 = .ok (.aload_n 3, 1) := by decide +kernel
theorem d_CG_init_154 : decode c_CG_init 154 = .ok (.invokespecial 53, 3) := by decide +kernel
theorem d_CG_init_157 : decode c_CG_init 157 = .ok (.aastore, 1) := by decide +kernel
theorem d_CG_init_158 : decode c_CG_init 158 = .ok (.iinc 2 1, 3) := by decide +kernel
theorem d_CG_init_161 : decode c_CG_init 161 = .ok (.goto (-79), 3) := by decide +kernel
theorem d_CG_init_164 : decode c_CG_init 164 = .ok (.iconst 3, 1) := by decide +kernel
theorem d_CG_init_165 : decode c_CG_init 165 = .ok (.anewarray 45, 3) := by decide +kernel
theorem d_CG_init_168 : decode c_CG_init 168 = .ok (.astore_n 2, 1) := by decide +kernel
theorem d_CG_init_169 : decode c_CG_init 169 = .ok (.iconst 0, 1) := by decide +kernel
theorem d_CG_init_170 : decode c_CG_init 170 = .ok (.istore_n 3, 1) := by decide +kernel
theorem d_CG_init_171 : decode c_CG_init 171 = .ok (.iload_n 3, 1) := by decide +kernel
theorem d_CG_init_172 : decode c_CG_init 172 = .ok (.iconst 3, 1) := by decide +kernel
theorem d_CG_init_173 : decode c_CG_init 173 = .ok (.if_icmp .ge 38, 3) := by decide +kernel
theorem d_CG_init_176 : decode c_CG_init 176 = .ok (.new 28, 3) := by decide +kernel
theorem d_CG_init_179 : decode c_CG_init 179 = .ok (.dup, 1) := by decide +kernel
theorem d_CG_init_180 : decode c_CG_init 180 = .ok (.invokespecial 56, 3) := by decide +kernel
theorem d_CG_init_183 : decode c_CG_init 183 = .ok (.astore 4, 2) := by decide +kernel
theorem d_CG_init_185 : decode c_CG_init 185 = .ok (.aload_n 0, 1) := by decide +kernel
theorem d_CG_init_186 : decode c_CG_init 186 = .ok (.getfield 30, 3) := by decide +kernel
theorem d_CG_init_189 : decode c_CG_init 189 = .ok (.iload_n 3, 1) := by decide +kernel
theorem d_CG_init_190 : decode c_CG_init 190 = .ok (.aload 4, 2) := by decide +kernel
theorem d_CG_init_192 : decode c_CG_init 192 = .ok (.aastore, 1) := by decide +kernel
theorem d_CG_init_193 : decode c_CG_init 193 = .ok (.aload_n 2, 1) := by decide +kernel
theorem d_CG_init_194 : decode c_CG_init 194 = .ok (.iload_n 3, 1) := by decide +kernel
theorem d_CG_init_195 : decode c_CG_init 195 = .ok (.new 45, 3) := by decide +kernel
theorem d_CG_init_198 : decode c_CG_init 198 = .ok (.dup, 1) := by decide +kernel
theorem d_CG_init_199 : decode c_CG_init 199 = .ok (.aload 4, 2) := by decide +kernel
theorem d_CG_init_201 : decode c_CG_init 201 = .ok (.invokespecial 50, 3) := by decide +kernel
theorem d_CG_init_204 : decode c_CG_init 204 = .ok (.aastore, 1) := by decide +kernel
theorem d_CG_init_205 : decode c_CG_init 205 = .ok (.iinc 3 1, 3) := by decide +kernel
theorem d_CG_init_208 : decode c_CG_init 208 = .ok (.goto (-37), 3) := by decide +kernel
theorem d_CG_init_211 : decode c_CG_init 211 = .ok (.aload_n 0, 1) := by decide +kernel
theorem d_CG_init_212 : decode c_CG_init 212 = .ok (.getfield 18, 3) := by decide +kernel
theorem d_CG_init_215 : decode c_CG_init 215 = .ok (.iconst 3, 1) := by decide +kernel
theorem d_CG_init_216 : decode c_CG_init 216 = .ok (.new 16, 3) := by decide +kernel
theorem d_CG_init_219 : decode c_CG_init 219 = .ok (.dup, 1) := by decide +kernel
theorem d_CG_init_220 : decode c_CG_init 220 = .ok (.aload_n 2, 1) := by decide +kernel
theorem d_CG_init_221 : decode c_CG_init 221 = .ok (.invokespecial 53, 3) := by decide +kernel
theorem d_CG_init_224 : decode c_CG_init 224 = .ok (.aastore, 1) := by decide +kernel
theorem d_CG_init_225 : decode c_CG_init 225 = .ok (.return_, 1) := by decide +kernel
theorem d_CG_opn_0 : decode c_CG_opn 0 = .ok (.aload_n 0, 1) := by decide +kernel
theorem d_CG_opn_1 : decode c_CG_opn 1 = .ok (.getfield 41, 3) := by decide +kernel
theorem d_CG_opn_4 : decode c_CG_opn 4 = .ok (.bipush 20, 2) := by decide +kernel
theorem d_CG_opn_6 : decode c_CG_opn 6 = .ok (.if_icmp .lt 5, 3) := by decide +kernel
theorem d_CG_opn_9 : decode c_CG_opn 9 = .ok (.iconst (-1), 1) := by decide +kernel
theorem d_CG_opn_10 : decode c_CG_opn 10 = .ok (.ireturn, 1) := by decide +kernel
theorem d_CG_opn_11 : decode c_CG_opn 11 = .ok (.aload_n 0, 1) := by decide +kernel
theorem d_CG_opn_12 : decode c_CG_opn 12 = .ok (.dup, 1) := by decide +kernel
theorem d_CG_opn_13 : decode c_CG_opn 13 = .ok (.getfield 41, 3) := by decide +kernel
theorem d_CG_opn_16 : decode c_CG_opn 16 = .ok (.iconst 1, 1) := by decide +kernel
theorem d_CG_opn_17 : decode c_CG_opn 17 = .ok (.iadd, 1) := by decide +kernel
theorem d_CG_opn_18 : decode c_CG_opn 18 = .ok (.putfield 41, 3) := by decide +kernel
theorem d_CG_opn_21 : decode c_CG_opn 21 = .ok (.aload_n 0, 1) := by decide +kernel
theorem d_CG_opn_22 : decode c_CG_opn 22 = .ok (.getfield 41, 3) := by decide +kernel
theorem d_CG_opn_25 : decode c_CG_opn 25 = .ok (.ireturn, 1) := by decide +kernel
theorem d_CG_touch_0 : decode c_CG_touch 0 = .ok (.aload_n 0, 1) := by decide +kernel
theorem d_CG_touch_1 : decode c_CG_touch 1 = .ok (.iload_n 1, 1) := by decide +kernel
theorem d_CG_touch_2 : decode c_CG_touch 2 = .ok (.invokevirtual 57, 3) := by decide +kernel
theorem d_CG_touch_5 : decode c_CG_touch 5 = .ok (.ifCond .eq 19, 3) := by decide +kernel
theorem d_CG_touch_8 : decode c_CG_touch 8 = .ok (.iload_n 2, 1) := by decide +kernel
theorem d_CG_touch_9 : decode c_CG_touch 9 = .ok (.ifCond .lt 15, 3) := by decide +kernel
theorem d_CG_touch_12 : decode c_CG_touch 12 = .ok (.iload_n 2, 1) := by decide +kernel
theorem d_CG_touch_13 : decode c_CG_touch 13 = .ok (.iconst 2, 1) := by decide +kernel
theorem d_CG_touch_14 : decode c_CG_touch 14 = .ok (.if_icmp .gt 10, 3) := by decide +kernel
theorem d_CG_touch_17 : decode c_CG_touch 17 = .ok (.iload_n 3, 1) := by decide +kernel
theorem d_CG_touch_18 : decode c_CG_touch 18 = .ok (.invokestatic 61, 3) := by decide +kernel
theorem d_CG_touch_21 : decode c_CG_touch 21 = .ok (.ifCond .ne 5, 3) := by decide +kernel
theorem d_CG_touch_24 : decode c_CG_touch 24 = .ok (.iconst 0, 1) := by decide +kernel
theorem d_CG_touch_25 : decode c_CG_touch 25 = .ok (.ireturn, 1) := by decide +kernel
theorem d_CG_touch_26 : decode c_CG_touch 26 = .ok (.aload_n 0, 1) := by decide +kernel
theorem d_CG_touch_27 : decode c_CG_touch 27 = .ok (.getfield 12, 3) := by decide +kernel
theorem d_CG_touch_30 : decode c_CG_touch 30 = .ok (.iload_n 1, 1) := by decide +kernel
theorem d_CG_touch_31 : decode c_CG_touch 31 = .ok (.aaload, 1) := by decide +kernel
theorem d_CG_touch_32 : decode c_CG_touch 32 = .ok (.iload_n 2, 1) := by decide +kernel
theorem d_CG_touch_33 : decode c_CG_touch 33 = .ok (.iload_n 3, 1) := by decide +kernel
theorem d_CG_touch_34 : decode c_CG_touch 34 = .ok (.iload 4, 2) := by decide +kernel
theorem d_CG_touch_36 : decode c_CG_touch 36 = .ok (.invokevirtual 64, 3) := by decide +kernel
theorem d_CG_touch_39 : decode c_CG_touch 39 = .ok (.ireturn, 1) := by decide +kernel
theorem d_CG_prepare_0 : decode c_CG_prepare 0 = .ok (.aload_n 0, 1) := by decide +kernel
theorem d_CG_prepare_1 : decode c_CG_prepare 1 = .ok (.iload_n 1, 1) := by decide +kernel
theorem d_CG_prepare_2 : decode c_CG_prepare 2 = .ok (.iload_n 2, 1) := by decide +kernel
theorem d_CG_prepare_3 : decode c_CG_prepare 3 = .ok (.invokevirtual 68, 3) := by decide +kernel
theorem d_CG_prepare_6 : decode c_CG_prepare 6 = .ok (.istore 4, 2) := by decide +kernel
theorem d_CG_prepare_8 : decode c_CG_prepare 8 = .ok (.iload 4, 2) := by decide +kernel
theorem d_CG_prepare_10 : decode c_CG_prepare 10 = .ok (.ifCond .eq 6, 3) := by decide +kernel
theorem d_CG_prepare_13 : decode c_CG_prepare 13 = .ok (.iload 4, 2) := by decide +kernel
theorem d_CG_prepare_15 : decode c_CG_prepare 15 = .ok (.ireturn, 1) := by decide +kernel
theorem d_CG_prepare_16 : decode c_CG_prepare 16 = .ok (.aload_n 0, 1) := by decide +kernel
theorem d_CG_prepare_17 : decode c_CG_prepare 17 = .ok (.getfield 12, 3) := by decide +kernel
theorem d_CG_prepare_20 : decode c_CG_prepare 20 = .ok (.iload_n 1, 1) := by decide +kernel
theorem d_CG_prepare_21 : decode c_CG_prepare 21 = .ok (.aaload, 1) := by decide +kernel
theorem d_CG_prepare_22 : decode c_CG_prepare 22 = .ok (.astore 5, 2) := by decide +kernel
theorem d_CG_prepare_24 : decode c_CG_prepare 24 = .ok (.aload 5, 2) := by decide +kernel
theorem d_CG_prepare_26 : decode c_CG_prepare 26 = .ok (.iconst 1, 1) := by decide +kernel
theorem d_CG_prepare_27 : decode c_CG_prepare 27 = .ok (.putfield 72, 3) := by decide +kernel
theorem d_CG_prepare_30 : decode c_CG_prepare 30 = .ok (.aload_n 0, 1) := by decide +kernel
theorem d_CG_prepare_31 : decode c_CG_prepare 31 = .ok (.getfield 18, 3) := by decide +kernel
theorem d_CG_prepare_34 : decode c_CG_prepare 34 = .ok (.iload_n 2, 1) := by decide +kernel
theorem d_CG_prepare_35 : decode c_CG_prepare 35 = .ok (.aaload, 1) := by decide +kernel
theorem d_CG_prepare_36 : decode c_CG_prepare 36 = .ok (.invokevirtual 76, 3) := by decide +kernel
theorem d_CG_prepare_39 : decode c_CG_prepare 39 = .ok (.istore 6, 2) := by decide +kernel
theorem d_CG_prepare_41 : decode c_CG_prepare 41 = .ok (.iload 6, 2) := by decide +kernel
theorem d_CG_prepare_43 : decode c_CG_prepare 43 = .ok (.ifCond .ge 6, 3) := by decide +kernel
theorem d_CG_prepare_46 : decode c_CG_prepare 46 = .ok (.bipush (-3), 2) := by decide +kernel
theorem d_CG_prepare_48 : decode c_CG_prepare 48 = .ok (.ireturn, 1) := by decide +kernel
theorem d_CG_prepare_49 : decode c_CG_prepare 49 = .ok (.aload_n 0, 1) := by decide +kernel
theorem d_CG_prepare_50 : decode c_CG_prepare 50 = .ok (.getfield 24, 3) := by decide +kernel
theorem d_CG_prepare_53 : decode c_CG_prepare 53 = .ok (.iload_n 2, 1) := by decide +kernel
theorem d_CG_prepare_54 : decode c_CG_prepare 54 = .ok (.iconst 3, 1) := by decide +kernel
theorem d_CG_prepare_55 : decode c_CG_prepare 55 = .ok (.imul, 1) := by decide +kernel
theorem d_CG_prepare_56 : decode c_CG_prepare 56 = .ok (.iload 6, 2) := by decide +kernel
theorem d_CG_prepare_58 : decode c_CG_prepare 58 = .ok (.iadd, 1) := by decide +kernel
theorem d_CG_prepare_59 : decode c_CG_prepare 59 = .ok (.aaload, 1) := by decide +kernel
theorem d_CG_prepare_60 : decode c_CG_prepare 60 = .ok (.astore 7, 2) := by decide +kernel
theorem d_CG_prepare_62 : decode c_CG_prepare 62 = .ok (.aload 7, 2) := by decide +kernel
theorem d_CG_prepare_64 : decode c_CG_prepare 64 = .ok (.getfield 80, 3) := by decide +kernel
theorem d_CG_prepare_67 : decode c_CG_prepare 67 = .ok (.iload_n 1, 1) := by decide +kernel
theorem d_CG_prepare_68 : decode c_CG_prepare 68 = .ok (.iaload, 1) := by decide +kernel
theorem d_CG_prepare_69 : decode c_CG_prepare 69 = .ok (.ifCond .ne 27, 3) := by decide +kernel
theorem d_CG_prepare_72 : decode c_CG_prepare 72 = .ok (.aload_n 0, 1) := by decide +kernel
theorem d_CG_prepare_73 : decode c_CG_prepare 73 = .ok (.getfield 18, 3) := by decide +kernel
theorem d_CG_prepare_76 : decode c_CG_prepare 76 = .ok (.iload_n 2, 1) := by decide +kernel
theorem d_CG_prepare_77 : decode c_CG_prepare 77 = .ok (.aaload, 1) := by decide +kernel
theorem d_CG_prepare_78 : decode c_CG_prepare 78 = .ok (.iconst 0, 1) := by decide +kernel
theorem d_CG_prepare_79 : decode c_CG_prepare 79 = .ok (.iload_n 1, 1) := by decide +kernel
theorem d_CG_prepare_80 : decode c_CG_prepare 80 = .ok (.invokestatic 84, 3) := by decide +kernel
theorem d_CG_prepare_83 : decode c_CG_prepare 83 = .ok (.invokevirtual 87, 3) := by decide +kernel
theorem d_CG_prepare_86 : decode c_CG_prepare 86 = .ok (.istore 8, 2) := by decide +kernel
theorem d_CG_prepare_88 : decode c_CG_prepare 88 = .ok (.iload 8, 2) := by decide +kernel
theorem d_CG_prepare_90 : decode c_CG_prepare 90 = .ok (.ifCond .eq 6, 3) := by decide +kernel
theorem d_CG_prepare_93 : decode c_CG_prepare 93 = .ok (.iload 8, 2) := by decide +kernel
theorem d_CG_prepare_95 : decode c_CG_prepare 95 = .ok (.ireturn, 1) := by decide +kernel
theorem d_CG_prepare_96 : decode c_CG_prepare 96 = .ok (.iload_n 3, 1) := by decide +kernel
theorem d_CG_prepare_97 : decode c_CG_prepare 97 = .ok (.ifCond .ne 5, 3) := by decide +kernel
theorem d_CG_prepare_100 : decode c_CG_prepare 100 = .ok (.iconst 3, 1) := by decide +kernel
theorem d_CG_prepare_101 : decode c_CG_prepare 101 = .ok (.ireturn, 1) := by decide +kernel
theorem d_CG_prepare_102 : decode c_CG_prepare 102 = .ok (.aload_n 0, 1) := by decide +kernel
theorem d_CG_prepare_103 : decode c_CG_prepare 103 = .ok (.getfield 37, 3) := by decide +kernel
theorem d_CG_prepare_106 : decode c_CG_prepare 106 = .ok (.iload_n 1, 1) := by decide +kernel
theorem d_CG_prepare_107 : decode c_CG_prepare 107 = .ok (.aload 5, 2) := by decide +kernel
theorem d_CG_prepare_109 : decode c_CG_prepare 109 = .ok (.aload 7, 2) := by decide +kernel
theorem d_CG_prepare_111 : decode c_CG_prepare 111 = .ok (.invokevirtual 91, 3) := by decide +kernel
theorem d_CG_prepare_114 : decode c_CG_prepare 114 = .ok (.aload 7, 2) := by decide +kernel
theorem d_CG_prepare_116 : decode c_CG_prepare 116 = .ok (.getfield 80, 3) := by decide +kernel
theorem d_CG_prepare_119 : decode c_CG_prepare 119 = .ok (.iload_n 1, 1) := by decide +kernel
theorem d_CG_prepare_120 : decode c_CG_prepare 120 = .ok (.iaload, 1) := by decide +kernel
theorem d_CG_prepare_121 : decode c_CG_prepare 121 = .ok (.ireturn, 1) := by decide +kernel
theorem d_CG_decide_0 : decode c_CG_decide 0 = .ok (.aload_n 0, 1) := by decide +kernel
theorem d_CG_decide_1 : decode c_CG_decide 1 = .ok (.iload_n 1, 1) := by decide +kernel
theorem d_CG_decide_2 : decode c_CG_decide 2 = .ok (.invokevirtual 95, 3) := by decide +kernel
theorem d_CG_decide_5 : decode c_CG_decide 5 = .ok (.istore_n 3, 1) := by decide +kernel
theorem d_CG_decide_6 : decode c_CG_decide 6 = .ok (.iload_n 3, 1) := by decide +kernel
theorem d_CG_decide_7 : decode c_CG_decide 7 = .ok (.ifCond .eq 5, 3) := by decide +kernel
theorem d_CG_decide_10 : decode c_CG_decide 10 = .ok (.iload_n 3, 1) := by decide +kernel
theorem d_CG_decide_11 : decode c_CG_decide 11 = .ok (.ireturn, 1) := by decide +kernel
theorem d_CG_decide_12 : decode c_CG_decide 12 = .ok (.aload_n 0, 1) := by decide +kernel
theorem d_CG_decide_13 : decode c_CG_decide 13 = .ok (.getfield 37, 3) := by decide +kernel
theorem d_CG_decide_16 : decode c_CG_decide 16 = .ok (.getfield 98, 3) := by decide +kernel
theorem d_CG_decide_19 : decode c_CG_decide 19 = .ok (.iload_n 1, 1) := by decide +kernel
theorem d_CG_decide_20 : decode c_CG_decide 20 = .ok (.iaload, 1) := by decide +kernel
theorem d_CG_decide_21 : decode c_CG_decide 21 = .ok (.ifCond .eq 13, 3) := by decide +kernel
theorem d_CG_decide_24 : decode c_CG_decide 24 = .ok (.aload_n 0, 1) := by decide +kernel
theorem d_CG_decide_25 : decode c_CG_decide 25 = .ok (.getfield 37, 3) := by decide +kernel
theorem d_CG_decide_28 : decode c_CG_decide 28 = .ok (.getfield 98, 3) := by decide +kernel
theorem d_CG_decide_31 : decode c_CG_decide 31 = .ok (.iload_n 1, 1) := by decide +kernel
theorem d_CG_decide_32 : decode c_CG_decide 32 = .ok (.iaload, 1) := by decide +kernel
theorem d_CG_decide_33 : decode c_CG_decide 33 = .ok (.ireturn, 1) := by decide +kernel
theorem d_CG_decide_34 : decode c_CG_decide 34 = .ok (.aload_n 0, 1) := by decide +kernel
theorem d_CG_decide_35 : decode c_CG_decide 35 = .ok (.getfield 37, 3) := by decide +kernel
theorem d_CG_decide_38 : decode c_CG_decide 38 = .ok (.iload_n 1, 1) := by decide +kernel
theorem d_CG_decide_39 : decode c_CG_decide 39 = .ok (.invokevirtual 101, 3) := by decide +kernel
theorem d_CG_decide_42 : decode c_CG_decide 42 = .ok (.ifCond .eq 11, 3) := by decide +kernel
theorem d_CG_decide_45 : decode c_CG_decide 45 = .ok (.aload_n 0, 1) := by decide +kernel
theorem d_CG_decide_46 : decode c_CG_decide 46 = .ok (.iconst 2, 1) := by decide +kernel
theorem d_CG_decide_47 : decode c_CG_decide 47 = .ok (.iload_n 1, 1) := by decide +kernel
theorem d_CG_decide_48 : decode c_CG_decide 48 = .ok (.iload_n 2, 1) := by decide +kernel
theorem d_CG_decide_49 : decode c_CG_decide 49 = .ok (.invokevirtual 104, 3) := by decide +kernel
theorem d_CG_decide_52 : decode c_CG_decide 52 = .ok (.ireturn, 1) := by decide +kernel
theorem d_CG_decide_53 : decode c_CG_decide 53 = .ok (.aload_n 0, 1) := by decide +kernel
theorem d_CG_decide_54 : decode c_CG_decide 54 = .ok (.getfield 37, 3) := by decide +kernel
theorem d_CG_decide_57 : decode c_CG_decide 57 = .ok (.iload_n 1, 1) := by decide +kernel
theorem d_CG_decide_58 : decode c_CG_decide 58 = .ok (.aload_n 0, 1) := by decide +kernel
theorem d_CG_decide_59 : decode c_CG_decide 59 = .ok (.getfield 12, 3) := by decide +kernel
theorem d_CG_decide_62 : decode c_CG_decide 62 = .ok (.iload_n 1, 1) := by decide +kernel
theorem d_CG_decide_63 : decode c_CG_decide 63 = .ok (.aaload, 1) := by decide +kernel
theorem d_CG_decide_64 : decode c_CG_decide 64 = .ok (.invokevirtual 108, 3) := by decide +kernel
theorem d_CG_decide_67 : decode c_CG_decide 67 = .ok (.ifCond .eq 11, 3) := by decide +kernel
theorem d_CG_decide_70 : decode c_CG_decide 70 = .ok (.aload_n 0, 1) := by decide +kernel
theorem d_CG_decide_71 : decode c_CG_decide 71 = .ok (.iconst 1, 1) := by decide +kernel
theorem d_CG_decide_72 : decode c_CG_decide 72 = .ok (.iload_n 1, 1) := by decide +kernel
theorem d_CG_decide_73 : decode c_CG_decide 73 = .ok (.iload_n 2, 1) := by decide +kernel
theorem d_CG_decide_74 : decode c_CG_decide 74 = .ok (.invokevirtual 104, 3) := by decide +kernel
theorem d_CG_decide_77 : decode c_CG_decide 77 = .ok (.ireturn, 1) := by decide +kernel
theorem d_CG_decide_78 : decode c_CG_decide 78 = .ok (.iconst 0, 1) := by decide +kernel
theorem d_CG_decide_79 : decode c_CG_decide 79 = .ok (.ireturn, 1) := by decide +kernel
theorem d_CG_timeout_0 : decode c_CG_timeout 0 = .ok (.aload_n 0, 1) := by decide +kernel
theorem d_CG_timeout_1 : decode c_CG_timeout 1 = .ok (.iload_n 1, 1) := by decide +kernel
theorem d_CG_timeout_2 : decode c_CG_timeout 2 = .ok (.invokevirtual 95, 3) := by decide +kernel
theorem d_CG_timeout_5 : decode c_CG_timeout 5 = .ok (.istore_n 3, 1) := by decide +kernel
theorem d_CG_timeout_6 : decode c_CG_timeout 6 = .ok (.iload_n 3, 1) := by decide +kernel
theorem d_CG_timeout_7 : decode c_CG_timeout 7 = .ok (.ifCond .eq 5, 3) := by decide +kernel
theorem d_CG_timeout_10 : decode c_CG_timeout 10 = .ok (.iload_n 3, 1) := by decide +kernel
theorem d_CG_timeout_11 : decode c_CG_timeout 11 = .ok (.ireturn, 1) := by decide +kernel
theorem d_CG_timeout_12 : decode c_CG_timeout 12 = .ok (.aload_n 0, 1) := by decide +kernel
theorem d_CG_timeout_13 : decode c_CG_timeout 13 = .ok (.getfield 12, 3) := by decide +kernel
theorem d_CG_timeout_16 : decode c_CG_timeout 16 = .ok (.iload_n 1, 1) := by decide +kernel
theorem d_CG_timeout_17 : decode c_CG_timeout 17 = .ok (.aaload, 1) := by decide +kernel
theorem d_CG_timeout_18 : decode c_CG_timeout 18 = .ok (.iconst 1, 1) := by decide +kernel
theorem d_CG_timeout_19 : decode c_CG_timeout 19 = .ok (.putfield 72, 3) := by decide +kernel
theorem d_CG_timeout_22 : decode c_CG_timeout 22 = .ok (.aload_n 0, 1) := by decide +kernel
theorem d_CG_timeout_23 : decode c_CG_timeout 23 = .ok (.getfield 37, 3) := by decide +kernel
theorem d_CG_timeout_26 : decode c_CG_timeout 26 = .ok (.getfield 98, 3) := by decide +kernel
theorem d_CG_timeout_29 : decode c_CG_timeout 29 = .ok (.iload_n 1, 1) := by decide +kernel
theorem d_CG_timeout_30 : decode c_CG_timeout 30 = .ok (.iaload, 1) := by decide +kernel
theorem d_CG_timeout_31 : decode c_CG_timeout 31 = .ok (.ifCond .eq 13, 3) := by decide +kernel
theorem d_CG_timeout_34 : decode c_CG_timeout 34 = .ok (.aload_n 0, 1) := by decide +kernel
theorem d_CG_timeout_35 : decode c_CG_timeout 35 = .ok (.getfield 37, 3) := by decide +kernel
theorem d_CG_timeout_38 : decode c_CG_timeout 38 = .ok (.getfield 98, 3) := by decide +kernel
theorem d_CG_timeout_41 : decode c_CG_timeout 41 = .ok (.iload_n 1, 1) := by decide +kernel
theorem d_CG_timeout_42 : decode c_CG_timeout 42 = .ok (.iaload, 1) := by decide +kernel
theorem d_CG_timeout_43 : decode c_CG_timeout 43 = .ok (.ireturn, 1) := by decide +kernel
theorem d_CG_timeout_44 : decode c_CG_timeout 44 = .ok (.aload_n 0, 1) := by decide +kernel
theorem d_CG_timeout_45 : decode c_CG_timeout 45 = .ok (.iconst 2, 1) := by decide +kernel
theorem d_CG_timeout_46 : decode c_CG_timeout 46 = .ok (.iload_n 1, 1) := by decide +kernel
theorem d_CG_timeout_47 : decode c_CG_timeout 47 = .ok (.iload_n 2, 1) := by decide +kernel
theorem d_CG_timeout_48 : decode c_CG_timeout 48 = .ok (.invokevirtual 104, 3) := by decide +kernel
theorem d_CG_timeout_51 : decode c_CG_timeout 51 = .ok (.ireturn, 1) := by decide +kernel
theorem d_CG_finish_0 : decode c_CG_finish 0 = .ok (.aload_n 0, 1) := by decide +kernel
theorem d_CG_finish_1 : decode c_CG_finish 1 = .ok (.iload_n 1, 1) := by decide +kernel
theorem d_CG_finish_2 : decode c_CG_finish 2 = .ok (.iload_n 2, 1) := by decide +kernel
theorem d_CG_finish_3 : decode c_CG_finish 3 = .ok (.invokevirtual 68, 3) := by decide +kernel
theorem d_CG_finish_6 : decode c_CG_finish 6 = .ok (.istore_n 3, 1) := by decide +kernel
theorem d_CG_finish_7 : decode c_CG_finish 7 = .ok (.iload_n 3, 1) := by decide +kernel
theorem d_CG_finish_8 : decode c_CG_finish 8 = .ok (.ifCond .eq 5, 3) := by decide +kernel
theorem d_CG_finish_11 : decode c_CG_finish 11 = .ok (.iload_n 3, 1) := by decide +kernel
theorem d_CG_finish_12 : decode c_CG_finish 12 = .ok (.ireturn, 1) := by decide +kernel
theorem d_CG_finish_13 : decode c_CG_finish 13 = .ok (.aload_n 0, 1) := by decide +kernel
theorem d_CG_finish_14 : decode c_CG_finish 14 = .ok (.getfield 37, 3) := by decide +kernel
theorem d_CG_finish_17 : decode c_CG_finish 17 = .ok (.getfield 98, 3) := by decide +kernel
theorem d_CG_finish_20 : decode c_CG_finish 20 = .ok (.iload_n 1, 1) := by decide +kernel
theorem d_CG_finish_21 : decode c_CG_finish 21 = .ok (.iaload, 1) := by decide +kernel
theorem d_CG_finish_22 : decode c_CG_finish 22 = .ok (.istore 4, 2) := by decide +kernel
theorem d_CG_finish_24 : decode c_CG_finish 24 = .ok (.iload 4, 2) := by decide +kernel
theorem d_CG_finish_26 : decode c_CG_finish 26 = .ok (.ifCond .ne 5, 3) := by decide +kernel
theorem d_CG_finish_29 : decode c_CG_finish 29 = .ok (.iconst 0, 1) := by decide +kernel
theorem d_CG_finish_30 : decode c_CG_finish 30 = .ok (.ireturn, 1) := by decide +kernel
theorem d_CG_finish_31 : decode c_CG_finish 31 = .ok (.aload_n 0, 1) := by decide +kernel
theorem d_CG_finish_32 : decode c_CG_finish 32 = .ok (.getfield 18, 3) := by decide +kernel
theorem d_CG_finish_35 : decode c_CG_finish 35 = .ok (.iload_n 2, 1) := by decide +kernel
theorem d_CG_finish_36 : decode c_CG_finish 36 = .ok (.aaload, 1) := by decide +kernel
theorem d_CG_finish_37 : decode c_CG_finish 37 = .ok (.invokevirtual 76, 3) := by decide +kernel
theorem d_CG_finish_40 : decode c_CG_finish 40 = .ok (.istore 5, 2) := by decide +kernel
theorem d_CG_finish_42 : decode c_CG_finish 42 = .ok (.iload 5, 2) := by decide +kernel
theorem d_CG_finish_44 : decode c_CG_finish 44 = .ok (.ifCond .ge 6, 3) := by decide +kernel
theorem d_CG_finish_47 : decode c_CG_finish 47 = .ok (.bipush (-3), 2) := by decide +kernel
theorem d_CG_finish_49 : decode c_CG_finish 49 = .ok (.ireturn, 1) := by decide +kernel
theorem d_CG_finish_50 : decode c_CG_finish 50 = .ok (.aload_n 0, 1) := by decide +kernel
theorem d_CG_finish_51 : decode c_CG_finish 51 = .ok (.getfield 24, 3) := by decide +kernel
theorem d_CG_finish_54 : decode c_CG_finish 54 = .ok (.iload_n 2, 1) := by decide +kernel
theorem d_CG_finish_55 : decode c_CG_finish 55 = .ok (.iconst 3, 1) := by decide +kernel
theorem d_CG_finish_56 : decode c_CG_finish 56 = .ok (.imul, 1) := by decide +kernel
theorem d_CG_finish_57 : decode c_CG_finish 57 = .ok (.iload 5, 2) := by decide +kernel
theorem d_CG_finish_59 : decode c_CG_finish 59 = .ok (.iadd, 1) := by decide +kernel
theorem d_CG_finish_60 : decode c_CG_finish 60 = .ok (.aaload, 1) := by decide +kernel
theorem d_CG_finish_61 : decode c_CG_finish 61 = .ok (.getfield 112, 3) := by decide +kernel
theorem d_CG_finish_64 : decode c_CG_finish 64 = .ok (.iload_n 1, 1) := by decide +kernel
theorem d_CG_finish_65 : decode c_CG_finish 65 = .ok (.baload, 1) := by decide +kernel
theorem d_CG_finish_66 : decode c_CG_finish 66 = .ok (.ifCond .eq 5, 3) := by decide +kernel
theorem d_CG_finish_69 : decode c_CG_finish 69 = .ok (.iconst 1, 1) := by decide +kernel
theorem d_CG_finish_70 : decode c_CG_finish 70 = .ok (.ireturn, 1) := by decide +kernel
theorem d_CG_finish_71 : decode c_CG_finish 71 = .ok (.aload_n 0, 1) := by decide +kernel
theorem d_CG_finish_72 : decode c_CG_finish 72 = .ok (.getfield 18, 3) := by decide +kernel
theorem d_CG_finish_75 : decode c_CG_finish 75 = .ok (.iload_n 2, 1) := by decide +kernel
theorem d_CG_finish_76 : decode c_CG_finish 76 = .ok (.aaload, 1) := by decide +kernel
theorem d_CG_finish_77 : decode c_CG_finish 77 = .ok (.iload 4, 2) := by decide +kernel
theorem d_CG_finish_79 : decode c_CG_finish 79 = .ok (.iload_n 1, 1) := by decide +kernel
theorem d_CG_finish_80 : decode c_CG_finish 80 = .ok (.invokestatic 84, 3) := by decide +kernel
theorem d_CG_finish_83 : decode c_CG_finish 83 = .ok (.invokevirtual 87, 3) := by decide +kernel
theorem d_CG_finish_86 : decode c_CG_finish 86 = .ok (.istore 6, 2) := by decide +kernel
theorem d_CG_finish_88 : decode c_CG_finish 88 = .ok (.iload 6, 2) := by decide +kernel
theorem d_CG_finish_90 : decode c_CG_finish 90 = .ok (.ifCond .ne 7, 3) := by decide +kernel
theorem d_CG_finish_93 : decode c_CG_finish 93 = .ok (.iconst 1, 1) := by decide +kernel
theorem d_CG_finish_94 : decode c_CG_finish 94 = .ok (.goto 5, 3) := by decide +kernel
theorem d_CG_finish_97 : decode c_CG_finish 97 = .ok (.iload 6, 2) := by decide +kernel
theorem d_CG_finish_99 : decode c_CG_finish 99 = .ok (.ireturn, 1) := by decide +kernel
theorem d_CG_vote_0 : decode c_CG_vote 0 = .ok (.aload_n 0, 1) := by decide +kernel
theorem d_CG_vote_1 : decode c_CG_vote 1 = .ok (.iload_n 1, 1) := by decide +kernel
theorem d_CG_vote_2 : decode c_CG_vote 2 = .ok (.invokevirtual 57, 3) := by decide +kernel
theorem d_CG_vote_5 : decode c_CG_vote 5 = .ok (.ifCond .eq 10, 3) := by decide +kernel
theorem d_CG_vote_8 : decode c_CG_vote 8 = .ok (.iload_n 2, 1) := by decide +kernel
theorem d_CG_vote_9 : decode c_CG_vote 9 = .ok (.invokestatic 116, 3) := by decide +kernel
theorem d_CG_vote_12 : decode c_CG_vote 12 = .ok (.ifCond .ne 5, 3) := by decide +kernel
theorem d_CG_vote_15 : decode c_CG_vote 15 = .ok (.iconst 0, 1) := by decide +kernel
theorem d_CG_vote_16 : decode c_CG_vote 16 = .ok (.ireturn, 1) := by decide +kernel
theorem d_CG_vote_17 : decode c_CG_vote 17 = .ok (.aload_n 0, 1) := by decide +kernel
theorem d_CG_vote_18 : decode c_CG_vote 18 = .ok (.getfield 37, 3) := by decide +kernel
theorem d_CG_vote_21 : decode c_CG_vote 21 = .ok (.getfield 119, 3) := by decide +kernel
theorem d_CG_vote_24 : decode c_CG_vote 24 = .ok (.iload_n 1, 1) := by decide +kernel
theorem d_CG_vote_25 : decode c_CG_vote 25 = .ok (.iconst 3, 1) := by decide +kernel
theorem d_CG_vote_26 : decode c_CG_vote 26 = .ok (.imul, 1) := by decide +kernel
theorem d_CG_vote_27 : decode c_CG_vote 27 = .ok (.iload_n 2, 1) := by decide +kernel
theorem d_CG_vote_28 : decode c_CG_vote 28 = .ok (.iadd, 1) := by decide +kernel
theorem d_CG_vote_29 : decode c_CG_vote 29 = .ok (.iaload, 1) := by decide +kernel
theorem d_CG_vote_30 : decode c_CG_vote 30 = .ok (.ireturn, 1) := by decide +kernel
theorem d_CG_outcome_0 : decode c_CG_outcome 0 = .ok (.aload_n 0, 1) := by decide +kernel
theorem d_CG_outcome_1 : decode c_CG_outcome 1 = .ok (.iload_n 1, 1) := by decide +kernel
theorem d_CG_outcome_2 : decode c_CG_outcome 2 = .ok (.invokevirtual 57, 3) := by decide +kernel
theorem d_CG_outcome_5 : decode c_CG_outcome 5 = .ok (.ifCond .ne 5, 3) := by decide +kernel
theorem d_CG_outcome_8 : decode c_CG_outcome 8 = .ok (.iconst 0, 1) := by decide +kernel
theorem d_CG_outcome_9 : decode c_CG_outcome 9 = .ok (.ireturn, 1) := by decide +kernel
theorem d_CG_outcome_10 : decode c_CG_outcome 10 = .ok (.aload_n 0, 1) := by decide +kernel
theorem d_CG_outcome_11 : decode c_CG_outcome 11 = .ok (.getfield 37, 3) := by decide +kernel
theorem d_CG_outcome_14 : decode c_CG_outcome 14 = .ok (.getfield 98, 3) := by decide +kernel
theorem d_CG_outcome_17 : decode c_CG_outcome 17 = .ok (.iload_n 1, 1) := by decide +kernel
theorem d_CG_outcome_18 : decode c_CG_outcome 18 = .ok (.iaload, 1) := by decide +kernel
theorem d_CG_outcome_19 : decode c_CG_outcome 19 = .ok (.ireturn, 1) := by decide +kernel
theorem d_CG_result_0 : decode c_CG_result 0 = .ok (.aload_n 0, 1) := by decide +kernel
theorem d_CG_result_1 : decode c_CG_result 1 = .ok (.iload_n 1, 1) := by decide +kernel
theorem d_CG_result_2 : decode c_CG_result 2 = .ok (.invokevirtual 57, 3) := by decide +kernel
theorem d_CG_result_5 : decode c_CG_result 5 = .ok (.ifCond .eq 20, 3) := by decide +kernel
theorem d_CG_result_8 : decode c_CG_result 8 = .ok (.iload_n 2, 1) := by decide +kernel
theorem d_CG_result_9 : decode c_CG_result 9 = .ok (.ifCond .lt 16, 3) := by decide +kernel
theorem d_CG_result_12 : decode c_CG_result 12 = .ok (.iload_n 2, 1) := by decide +kernel
theorem d_CG_result_13 : decode c_CG_result 13 = .ok (.aload_n 0, 1) := by decide +kernel
theorem d_CG_result_14 : decode c_CG_result 14 = .ok (.getfield 12, 3) := by decide +kernel
theorem d_CG_result_17 : decode c_CG_result 17 = .ok (.iload_n 1, 1) := by decide +kernel
theorem d_CG_result_18 : decode c_CG_result 18 = .ok (.aaload, 1) := by decide +kernel
theorem d_CG_result_19 : decode c_CG_result 19 = .ok (.getfield 120, 3) := by decide +kernel
theorem d_CG_result_22 : decode c_CG_result 22 = .ok (.if_icmp .lt 7, 3) := by decide +kernel
theorem d_CG_result_25 : decode c_CG_result 25 = .ok (.ldc2_w 123, 3) := by decide +kernel
theorem d_CG_result_28 : decode c_CG_result 28 = .ok (.lreturn, 1) := by decide +kernel
theorem d_CG_result_29 : decode c_CG_result 29 = .ok (.aload_n 0, 1) := by decide +kernel
theorem d_CG_result_30 : decode c_CG_result 30 = .ok (.getfield 12, 3) := by decide +kernel
theorem d_CG_result_33 : decode c_CG_result 33 = .ok (.iload_n 1, 1) := by decide +kernel
theorem d_CG_result_34 : decode c_CG_result 34 = .ok (.aaload, 1) := by decide +kernel
theorem d_CG_result_35 : decode c_CG_result 35 = .ok (.getfield 125, 3) := by decide +kernel
theorem d_CG_result_38 : decode c_CG_result 38 = .ok (.iload_n 2, 1) := by decide +kernel
theorem d_CG_result_39 : decode c_CG_result 39 = .ok (.iaload, 1) := by decide +kernel
theorem d_CG_result_40 : decode c_CG_result 40 = .ok (.iconst 3, 1) := by decide +kernel
theorem d_CG_result_41 : decode c_CG_result 41 = .ok (.irem, 1) := by decide +kernel
theorem d_CG_result_42 : decode c_CG_result 42 = .ok (.istore_n 3, 1) := by decide +kernel
theorem d_CG_result_43 : decode c_CG_result 43 = .ok (.aload_n 0, 1) := by decide +kernel
theorem d_CG_result_44 : decode c_CG_result 44 = .ok (.getfield 37, 3) := by decide +kernel
theorem d_CG_result_47 : decode c_CG_result 47 = .ok (.getfield 98, 3) := by decide +kernel
theorem d_CG_result_50 : decode c_CG_result 50 = .ok (.iload_n 1, 1) := by decide +kernel
theorem d_CG_result_51 : decode c_CG_result 51 = .ok (.iaload, 1) := by decide +kernel
theorem d_CG_result_52 : decode c_CG_result 52 = .ok (.iconst 1, 1) := by decide +kernel
theorem d_CG_result_53 : decode c_CG_result 53 = .ok (.if_icmp .ne 20, 3) := by decide +kernel
theorem d_CG_result_56 : decode c_CG_result 56 = .ok (.aload_n 0, 1) := by decide +kernel
theorem d_CG_result_57 : decode c_CG_result 57 = .ok (.getfield 37, 3) := by decide +kernel
theorem d_CG_result_60 : decode c_CG_result 60 = .ok (.getfield 119, 3) := by decide +kernel
theorem d_CG_result_63 : decode c_CG_result 63 = .ok (.iload_n 1, 1) := by decide +kernel
theorem d_CG_result_64 : decode c_CG_result 64 = .ok (.iconst 3, 1) := by decide +kernel
theorem d_CG_result_65 : decode c_CG_result 65 = .ok (.imul, 1) := by decide +kernel
theorem d_CG_result_66 : decode c_CG_result 66 = .ok (.iload_n 3, 1) := by decide +kernel
theorem d_CG_result_67 : decode c_CG_result 67 = .ok (.iadd, 1) := by decide +kernel
theorem d_CG_result_68 : decode c_CG_result 68 = .ok (.iaload, 1) := by decide +kernel
theorem d_CG_result_69 : decode c_CG_result 69 = .ok (.iconst 1, 1) := by decide +kernel
theorem d_CG_result_70 : decode c_CG_result 70 = .ok (.if_icmp .eq 7, 3) := by decide +kernel
theorem d_CG_result_73 : decode c_CG_result 73 = .ok (.ldc2_w 123, 3) := by decide +kernel
theorem d_CG_result_76 : decode c_CG_result 76 = .ok (.lreturn, 1) := by decide +kernel
theorem d_CG_result_77 : decode c_CG_result 77 = .ok (.aload_n 0, 1) := by decide +kernel
theorem d_CG_result_78 : decode c_CG_result 78 = .ok (.getfield 37, 3) := by decide +kernel
theorem d_CG_result_81 : decode c_CG_result 81 = .ok (.getfield 128, 3) := by decide +kernel
theorem d_CG_result_84 : decode c_CG_result 84 = .ok (.iload_n 1, 1) := by decide +kernel
theorem d_CG_result_85 : decode c_CG_result 85 = .ok (.iconst 4, 1) := by decide +kernel
theorem d_CG_result_86 : decode c_CG_result 86 = .ok (.imul, 1) := by decide +kernel
theorem d_CG_result_87 : decode c_CG_result 87 = .ok (.iload_n 2, 1) := by decide +kernel
theorem d_CG_result_88 : decode c_CG_result 88 = .ok (.iadd, 1) := by decide +kernel
theorem d_CG_result_89 : decode c_CG_result 89 = .ok (.iaload, 1) := by decide +kernel
theorem d_CG_result_90 : decode c_CG_result 90 = .ok (.i2l, 1) := by decide +kernel
theorem d_CG_result_91 : decode c_CG_result 91 = .ok (.lreturn, 1) := by decide +kernel
theorem d_CG_crash_0 : decode c_CG_crash 0 = .ok (.iload_n 1, 1) := by decide +kernel
theorem d_CG_crash_1 : decode c_CG_crash 1 = .ok (.iload_n 2, 1) := by decide +kernel
theorem d_CG_crash_2 : decode c_CG_crash 2 = .ok (.invokestatic 131, 3) := by decide +kernel
theorem d_CG_crash_5 : decode c_CG_crash 5 = .ok (.ifCond .eq 20, 3) := by decide +kernel
theorem d_CG_crash_8 : decode c_CG_crash 8 = .ok (.aload_n 0, 1) := by decide +kernel
theorem d_CG_crash_9 : decode c_CG_crash 9 = .ok (.getfield 18, 3) := by decide +kernel
theorem d_CG_crash_12 : decode c_CG_crash 12 = .ok (.iload_n 1, 1) := by decide +kernel
theorem d_CG_crash_13 : decode c_CG_crash 13 = .ok (.aaload, 1) := by decide +kernel
theorem d_CG_crash_14 : decode c_CG_crash 14 = .ok (.getfield 135, 3) := by decide +kernel
theorem d_CG_crash_17 : decode c_CG_crash 17 = .ok (.iload_n 2, 1) := by decide +kernel
theorem d_CG_crash_18 : decode c_CG_crash 18 = .ok (.aaload, 1) := by decide +kernel
theorem d_CG_crash_19 : decode c_CG_crash 19 = .ok (.getfield 139, 3) := by decide +kernel
theorem d_CG_crash_22 : decode c_CG_crash 22 = .ok (.ifCond .ne 5, 3) := by decide +kernel
theorem d_CG_crash_25 : decode c_CG_crash 25 = .ok (.iconst 0, 1) := by decide +kernel
theorem d_CG_crash_26 : decode c_CG_crash 26 = .ok (.ireturn, 1) := by decide +kernel
theorem d_CG_crash_27 : decode c_CG_crash 27 = .ok (.aload_n 0, 1) := by decide +kernel
theorem d_CG_crash_28 : decode c_CG_crash 28 = .ok (.getfield 18, 3) := by decide +kernel
theorem d_CG_crash_31 : decode c_CG_crash 31 = .ok (.iload_n 1, 1) := by decide +kernel
theorem d_CG_crash_32 : decode c_CG_crash 32 = .ok (.aaload, 1) := by decide +kernel
theorem d_CG_crash_33 : decode c_CG_crash 33 = .ok (.getfield 135, 3) := by decide +kernel
theorem d_CG_crash_36 : decode c_CG_crash 36 = .ok (.iload_n 2, 1) := by decide +kernel
theorem d_CG_crash_37 : decode c_CG_crash 37 = .ok (.aaload, 1) := by decide +kernel
theorem d_CG_crash_38 : decode c_CG_crash 38 = .ok (.iconst 0, 1) := by decide +kernel
theorem d_CG_crash_39 : decode c_CG_crash 39 = .ok (.putfield 139, 3) := by decide +kernel
theorem d_CG_crash_42 : decode c_CG_crash 42 = .ok (.iconst 1, 1) := by decide +kernel
theorem d_CG_crash_43 : decode c_CG_crash 43 = .ok (.ireturn, 1) := by decide +kernel
theorem d_CG_restart_0 : decode c_CG_restart 0 = .ok (.iload_n 1, 1) := by decide +kernel
theorem d_CG_restart_1 : decode c_CG_restart 1 = .ok (.iload_n 2, 1) := by decide +kernel
theorem d_CG_restart_2 : decode c_CG_restart 2 = .ok (.invokestatic 131, 3) := by decide +kernel
theorem d_CG_restart_5 : decode c_CG_restart 5 = .ok (.ifCond .eq 20, 3) := by decide +kernel
theorem d_CG_restart_8 : decode c_CG_restart 8 = .ok (.aload_n 0, 1) := by decide +kernel
theorem d_CG_restart_9 : decode c_CG_restart 9 = .ok (.getfield 18, 3) := by decide +kernel
theorem d_CG_restart_12 : decode c_CG_restart 12 = .ok (.iload_n 1, 1) := by decide +kernel
theorem d_CG_restart_13 : decode c_CG_restart 13 = .ok (.aaload, 1) := by decide +kernel
theorem d_CG_restart_14 : decode c_CG_restart 14 = .ok (.getfield 135, 3) := by decide +kernel
theorem d_CG_restart_17 : decode c_CG_restart 17 = .ok (.iload_n 2, 1) := by decide +kernel
theorem d_CG_restart_18 : decode c_CG_restart 18 = .ok (.aaload, 1) := by decide +kernel
theorem d_CG_restart_19 : decode c_CG_restart 19 = .ok (.getfield 139, 3) := by decide +kernel
theorem d_CG_restart_22 : decode c_CG_restart 22 = .ok (.ifCond .eq 5, 3) := by decide +kernel
theorem d_CG_restart_25 : decode c_CG_restart 25 = .ok (.iconst 0, 1) := by decide +kernel
theorem d_CG_restart_26 : decode c_CG_restart 26 = .ok (.ireturn, 1) := by decide +kernel
theorem d_CG_restart_27 : decode c_CG_restart 27 = .ok (.aload_n 0, 1) := by decide +kernel
theorem d_CG_restart_28 : decode c_CG_restart 28 = .ok (.getfield 18, 3) := by decide +kernel
theorem d_CG_restart_31 : decode c_CG_restart 31 = .ok (.iload_n 1, 1) := by decide +kernel
theorem d_CG_restart_32 : decode c_CG_restart 32 = .ok (.aaload, 1) := by decide +kernel
theorem d_CG_restart_33 : decode c_CG_restart 33 = .ok (.getfield 135, 3) := by decide +kernel
theorem d_CG_restart_36 : decode c_CG_restart 36 = .ok (.iload_n 2, 1) := by decide +kernel
theorem d_CG_restart_37 : decode c_CG_restart 37 = .ok (.aaload, 1) := by decide +kernel
theorem d_CG_restart_38 : decode c_CG_restart 38 = .ok (.iconst 1, 1) := by decide +kernel
theorem d_CG_restart_39 : decode c_CG_restart 39 = .ok (.putfield 139, 3) := by decide +kernel
theorem d_CG_restart_42 : decode c_CG_restart 42 = .ok (.iconst 1, 1) := by decide +kernel
theorem d_CG_restart_43 : decode c_CG_restart 43 = .ok (.ireturn, 1) := by decide +kernel
theorem d_CG_elect_0 : decode c_CG_elect 0 = .ok (.iload_n 1, 1) := by decide +kernel
theorem d_CG_elect_1 : decode c_CG_elect 1 = .ok (.invokestatic 142, 3) := by decide +kernel
theorem d_CG_elect_4 : decode c_CG_elect 4 = .ok (.ifCond .eq 16, 3) := by decide +kernel
theorem d_CG_elect_7 : decode c_CG_elect 7 = .ok (.aload_n 0, 1) := by decide +kernel
theorem d_CG_elect_8 : decode c_CG_elect 8 = .ok (.getfield 18, 3) := by decide +kernel
theorem d_CG_elect_11 : decode c_CG_elect 11 = .ok (.iload_n 1, 1) := by decide +kernel
theorem d_CG_elect_12 : decode c_CG_elect 12 = .ok (.aaload, 1) := by decide +kernel
theorem d_CG_elect_13 : decode c_CG_elect 13 = .ok (.invokevirtual 145, 3) := by decide +kernel
theorem d_CG_elect_16 : decode c_CG_elect 16 = .ok (.iconst 2, 1) := by decide +kernel
theorem d_CG_elect_17 : decode c_CG_elect 17 = .ok (.if_icmp .ge 5, 3) := by decide +kernel
theorem d_CG_elect_20 : decode c_CG_elect 20 = .ok (.iconst (-1), 1) := by decide +kernel
theorem d_CG_elect_21 : decode c_CG_elect 21 = .ok (.ireturn, 1) := by decide +kernel
theorem d_CG_elect_22 : decode c_CG_elect 22 = .ok (.aload_n 0, 1) := by decide +kernel
theorem d_CG_elect_23 : decode c_CG_elect 23 = .ok (.getfield 18, 3) := by decide +kernel
theorem d_CG_elect_26 : decode c_CG_elect 26 = .ok (.iload_n 1, 1) := by decide +kernel
theorem d_CG_elect_27 : decode c_CG_elect 27 = .ok (.aaload, 1) := by decide +kernel
theorem d_CG_elect_28 : decode c_CG_elect 28 = .ok (.invokevirtual 148, 3) := by decide +kernel
theorem d_CG_elect_31 : decode c_CG_elect 31 = .ok (.ireturn, 1) := by decide +kernel
theorem d_CG_halt_0 : decode c_CG_halt 0 = .ok (.aload_n 0, 1) := by decide +kernel
theorem d_CG_halt_1 : decode c_CG_halt 1 = .ok (.getfield 37, 3) := by decide +kernel
theorem d_CG_halt_4 : decode c_CG_halt 4 = .ok (.getfield 151, 3) := by decide +kernel
theorem d_CG_halt_7 : decode c_CG_halt 7 = .ok (.ifCond .ne 5, 3) := by decide +kernel
theorem d_CG_halt_10 : decode c_CG_halt 10 = .ok (.iconst 0, 1) := by decide +kernel
theorem d_CG_halt_11 : decode c_CG_halt 11 = .ok (.ireturn, 1) := by decide +kernel
theorem d_CG_halt_12 : decode c_CG_halt 12 = .ok (.aload_n 0, 1) := by decide +kernel
theorem d_CG_halt_13 : decode c_CG_halt 13 = .ok (.getfield 37, 3) := by decide +kernel
theorem d_CG_halt_16 : decode c_CG_halt 16 = .ok (.iconst 0, 1) := by decide +kernel
theorem d_CG_halt_17 : decode c_CG_halt 17 = .ok (.putfield 151, 3) := by decide +kernel
theorem d_CG_halt_20 : decode c_CG_halt 20 = .ok (.aload_n 0, 1) := by decide +kernel
theorem d_CG_halt_21 : decode c_CG_halt 21 = .ok (.getfield 37, 3) := by decide +kernel
theorem d_CG_halt_24 : decode c_CG_halt 24 = .ok (.invokevirtual 152, 3) := by decide +kernel
theorem d_CG_halt_27 : decode c_CG_halt 27 = .ok (.iconst 1, 1) := by decide +kernel
theorem d_CG_halt_28 : decode c_CG_halt 28 = .ok (.ireturn, 1) := by decide +kernel
theorem d_CG_resume_0 : decode c_CG_resume 0 = .ok (.aload_n 0, 1) := by decide +kernel
theorem d_CG_resume_1 : decode c_CG_resume 1 = .ok (.getfield 37, 3) := by decide +kernel
theorem d_CG_resume_4 : decode c_CG_resume 4 = .ok (.getfield 151, 3) := by decide +kernel
theorem d_CG_resume_7 : decode c_CG_resume 7 = .ok (.ifCond .eq 5, 3) := by decide +kernel
theorem d_CG_resume_10 : decode c_CG_resume 10 = .ok (.iconst 0, 1) := by decide +kernel
theorem d_CG_resume_11 : decode c_CG_resume 11 = .ok (.ireturn, 1) := by decide +kernel
theorem d_CG_resume_12 : decode c_CG_resume 12 = .ok (.aload_n 0, 1) := by decide +kernel
theorem d_CG_resume_13 : decode c_CG_resume 13 = .ok (.getfield 37, 3) := by decide +kernel
theorem d_CG_resume_16 : decode c_CG_resume 16 = .ok (.iconst 1, 1) := by decide +kernel
theorem d_CG_resume_17 : decode c_CG_resume 17 = .ok (.putfield 151, 3) := by decide +kernel
theorem d_CG_resume_20 : decode c_CG_resume 20 = .ok (.iconst 1, 1) := by decide +kernel
theorem d_CG_resume_21 : decode c_CG_resume 21 = .ok (.ireturn, 1) := by decide +kernel
theorem d_CG_leader_0 : decode c_CG_leader 0 = .ok (.iload_n 1, 1) := by decide +kernel
theorem d_CG_leader_1 : decode c_CG_leader 1 = .ok (.invokestatic 142, 3) := by decide +kernel
theorem d_CG_leader_4 : decode c_CG_leader 4 = .ok (.ifCond .eq 15, 3) := by decide +kernel
theorem d_CG_leader_7 : decode c_CG_leader 7 = .ok (.aload_n 0, 1) := by decide +kernel
theorem d_CG_leader_8 : decode c_CG_leader 8 = .ok (.getfield 18, 3) := by decide +kernel
theorem d_CG_leader_11 : decode c_CG_leader 11 = .ok (.iload_n 1, 1) := by decide +kernel
theorem d_CG_leader_12 : decode c_CG_leader 12 = .ok (.aaload, 1) := by decide +kernel
theorem d_CG_leader_13 : decode c_CG_leader 13 = .ok (.invokevirtual 76, 3) := by decide +kernel
theorem d_CG_leader_16 : decode c_CG_leader 16 = .ok (.goto 4, 3) := by decide +kernel
theorem d_CG_leader_19 : decode c_CG_leader 19 = .ok (.iconst (-1), 1) := by decide +kernel
theorem d_CG_leader_20 : decode c_CG_leader 20 = .ok (.ireturn, 1) := by decide +kernel
theorem d_CG_view_0 : decode c_CG_view 0 = .ok (.iload_n 1, 1) := by decide +kernel
theorem d_CG_view_1 : decode c_CG_view 1 = .ok (.iload_n 2, 1) := by decide +kernel
theorem d_CG_view_2 : decode c_CG_view 2 = .ok (.invokestatic 131, 3) := by decide +kernel
theorem d_CG_view_5 : decode c_CG_view 5 = .ok (.ifCond .eq 20, 3) := by decide +kernel
theorem d_CG_view_8 : decode c_CG_view 8 = .ok (.aload_n 0, 1) := by decide +kernel
theorem d_CG_view_9 : decode c_CG_view 9 = .ok (.getfield 18, 3) := by decide +kernel
theorem d_CG_view_12 : decode c_CG_view 12 = .ok (.iload_n 1, 1) := by decide +kernel
theorem d_CG_view_13 : decode c_CG_view 13 = .ok (.aaload, 1) := by decide +kernel
theorem d_CG_view_14 : decode c_CG_view 14 = .ok (.getfield 135, 3) := by decide +kernel
theorem d_CG_view_17 : decode c_CG_view 17 = .ok (.iload_n 2, 1) := by decide +kernel
theorem d_CG_view_18 : decode c_CG_view 18 = .ok (.aaload, 1) := by decide +kernel
theorem d_CG_view_19 : decode c_CG_view 19 = .ok (.getfield 155, 3) := by decide +kernel
theorem d_CG_view_22 : decode c_CG_view 22 = .ok (.goto 4, 3) := by decide +kernel
theorem d_CG_view_25 : decode c_CG_view 25 = .ok (.iconst (-1), 1) := by decide +kernel
theorem d_CG_view_26 : decode c_CG_view 26 = .ok (.ireturn, 1) := by decide +kernel
theorem d_CG_length_0 : decode c_CG_length 0 = .ok (.iload_n 1, 1) := by decide +kernel
theorem d_CG_length_1 : decode c_CG_length 1 = .ok (.iload_n 2, 1) := by decide +kernel
theorem d_CG_length_2 : decode c_CG_length 2 = .ok (.invokestatic 131, 3) := by decide +kernel
theorem d_CG_length_5 : decode c_CG_length 5 = .ok (.ifCond .eq 20, 3) := by decide +kernel
theorem d_CG_length_8 : decode c_CG_length 8 = .ok (.aload_n 0, 1) := by decide +kernel
theorem d_CG_length_9 : decode c_CG_length 9 = .ok (.getfield 18, 3) := by decide +kernel
theorem d_CG_length_12 : decode c_CG_length 12 = .ok (.iload_n 1, 1) := by decide +kernel
theorem d_CG_length_13 : decode c_CG_length 13 = .ok (.aaload, 1) := by decide +kernel
theorem d_CG_length_14 : decode c_CG_length 14 = .ok (.getfield 135, 3) := by decide +kernel
theorem d_CG_length_17 : decode c_CG_length 17 = .ok (.iload_n 2, 1) := by decide +kernel
theorem d_CG_length_18 : decode c_CG_length 18 = .ok (.aaload, 1) := by decide +kernel
theorem d_CG_length_19 : decode c_CG_length 19 = .ok (.getfield 158, 3) := by decide +kernel
theorem d_CG_length_22 : decode c_CG_length 22 = .ok (.goto 4, 3) := by decide +kernel
theorem d_CG_length_25 : decode c_CG_length 25 = .ok (.iconst (-1), 1) := by decide +kernel
theorem d_CG_length_26 : decode c_CG_length 26 = .ok (.ireturn, 1) := by decide +kernel
theorem d_CG_executed_0 : decode c_CG_executed 0 = .ok (.iload_n 1, 1) := by decide +kernel
theorem d_CG_executed_1 : decode c_CG_executed 1 = .ok (.iload_n 2, 1) := by decide +kernel
theorem d_CG_executed_2 : decode c_CG_executed 2 = .ok (.invokestatic 131, 3) := by decide +kernel
theorem d_CG_executed_5 : decode c_CG_executed 5 = .ok (.ifCond .eq 20, 3) := by decide +kernel
theorem d_CG_executed_8 : decode c_CG_executed 8 = .ok (.aload_n 0, 1) := by decide +kernel
theorem d_CG_executed_9 : decode c_CG_executed 9 = .ok (.getfield 18, 3) := by decide +kernel
theorem d_CG_executed_12 : decode c_CG_executed 12 = .ok (.iload_n 1, 1) := by decide +kernel
theorem d_CG_executed_13 : decode c_CG_executed 13 = .ok (.aaload, 1) := by decide +kernel
theorem d_CG_executed_14 : decode c_CG_executed 14 = .ok (.getfield 135, 3) := by decide +kernel
theorem d_CG_executed_17 : decode c_CG_executed 17 = .ok (.iload_n 2, 1) := by decide +kernel
theorem d_CG_executed_18 : decode c_CG_executed 18 = .ok (.aaload, 1) := by decide +kernel
theorem d_CG_executed_19 : decode c_CG_executed 19 = .ok (.getfield 161, 3) := by decide +kernel
theorem d_CG_executed_22 : decode c_CG_executed 22 = .ok (.goto 4, 3) := by decide +kernel
theorem d_CG_executed_25 : decode c_CG_executed 25 = .ok (.iconst (-1), 1) := by decide +kernel
theorem d_CG_executed_26 : decode c_CG_executed 26 = .ok (.ireturn, 1) := by decide +kernel
theorem d_CG_value_0 : decode c_CG_value 0 = .ok (.iload_n 1, 1) := by decide +kernel
theorem d_CG_value_1 : decode c_CG_value 1 = .ok (.invokestatic 61, 3) := by decide +kernel
theorem d_CG_value_4 : decode c_CG_value 4 = .ok (.ifCond .eq 10, 3) := by decide +kernel
theorem d_CG_value_7 : decode c_CG_value 7 = .ok (.iload_n 2, 1) := by decide +kernel
theorem d_CG_value_8 : decode c_CG_value 8 = .ok (.invokestatic 164, 3) := by decide +kernel
theorem d_CG_value_11 : decode c_CG_value 11 = .ok (.ifCond .ne 5, 3) := by decide +kernel
theorem d_CG_value_14 : decode c_CG_value 14 = .ok (.iconst 0, 1) := by decide +kernel
theorem d_CG_value_15 : decode c_CG_value 15 = .ok (.ireturn, 1) := by decide +kernel
theorem d_CG_value_16 : decode c_CG_value 16 = .ok (.aload_n 0, 1) := by decide +kernel
theorem d_CG_value_17 : decode c_CG_value 17 = .ok (.getfield 24, 3) := by decide +kernel
theorem d_CG_value_20 : decode c_CG_value 20 = .ok (.iload_n 1, 1) := by decide +kernel
theorem d_CG_value_21 : decode c_CG_value 21 = .ok (.iconst 3, 1) := by decide +kernel
theorem d_CG_value_22 : decode c_CG_value 22 = .ok (.irem, 1) := by decide +kernel
theorem d_CG_value_23 : decode c_CG_value 23 = .ok (.iconst 3, 1) := by decide +kernel
theorem d_CG_value_24 : decode c_CG_value 24 = .ok (.imul, 1) := by decide +kernel
theorem d_CG_value_25 : decode c_CG_value 25 = .ok (.iload_n 2, 1) := by decide +kernel
theorem d_CG_value_26 : decode c_CG_value 26 = .ok (.iadd, 1) := by decide +kernel
theorem d_CG_value_27 : decode c_CG_value 27 = .ok (.aaload, 1) := by decide +kernel
theorem d_CG_value_28 : decode c_CG_value 28 = .ok (.getfield 167, 3) := by decide +kernel
theorem d_CG_value_31 : decode c_CG_value 31 = .ok (.iload_n 1, 1) := by decide +kernel
theorem d_CG_value_32 : decode c_CG_value 32 = .ok (.iconst 3, 1) := by decide +kernel
theorem d_CG_value_33 : decode c_CG_value 33 = .ok (.idiv, 1) := by decide +kernel
theorem d_CG_value_34 : decode c_CG_value 34 = .ok (.iaload, 1) := by decide +kernel
theorem d_CG_value_35 : decode c_CG_value 35 = .ok (.ireturn, 1) := by decide +kernel
theorem d_CG_holds_0 : decode c_CG_holds 0 = .ok (.iload_n 1, 1) := by decide +kernel
theorem d_CG_holds_1 : decode c_CG_holds 1 = .ok (.invokestatic 61, 3) := by decide +kernel
theorem d_CG_holds_4 : decode c_CG_holds 4 = .ok (.ifCond .eq 10, 3) := by decide +kernel
theorem d_CG_holds_7 : decode c_CG_holds 7 = .ok (.iload_n 2, 1) := by decide +kernel
theorem d_CG_holds_8 : decode c_CG_holds 8 = .ok (.invokestatic 164, 3) := by decide +kernel
theorem d_CG_holds_11 : decode c_CG_holds 11 = .ok (.ifCond .ne 5, 3) := by decide +kernel
theorem d_CG_holds_14 : decode c_CG_holds 14 = .ok (.iconst 0, 1) := by decide +kernel
theorem d_CG_holds_15 : decode c_CG_holds 15 = .ok (.ireturn, 1) := by decide +kernel
theorem d_CG_holds_16 : decode c_CG_holds 16 = .ok (.aload_n 0, 1) := by decide +kernel
theorem d_CG_holds_17 : decode c_CG_holds 17 = .ok (.getfield 24, 3) := by decide +kernel
theorem d_CG_holds_20 : decode c_CG_holds 20 = .ok (.iload_n 1, 1) := by decide +kernel
theorem d_CG_holds_21 : decode c_CG_holds 21 = .ok (.iconst 3, 1) := by decide +kernel
theorem d_CG_holds_22 : decode c_CG_holds 22 = .ok (.irem, 1) := by decide +kernel
theorem d_CG_holds_23 : decode c_CG_holds 23 = .ok (.iconst 3, 1) := by decide +kernel
theorem d_CG_holds_24 : decode c_CG_holds 24 = .ok (.imul, 1) := by decide +kernel
theorem d_CG_holds_25 : decode c_CG_holds 25 = .ok (.iload_n 2, 1) := by decide +kernel
theorem d_CG_holds_26 : decode c_CG_holds 26 = .ok (.iadd, 1) := by decide +kernel
theorem d_CG_holds_27 : decode c_CG_holds 27 = .ok (.aaload, 1) := by decide +kernel
theorem d_CG_holds_28 : decode c_CG_holds 28 = .ok (.iload_n 1, 1) := by decide +kernel
theorem d_CG_holds_29 : decode c_CG_holds 29 = .ok (.iconst 3, 1) := by decide +kernel
theorem d_CG_holds_30 : decode c_CG_holds 30 = .ok (.idiv, 1) := by decide +kernel
theorem d_CG_holds_31 : decode c_CG_holds 31 = .ok (.invokevirtual 170, 3) := by decide +kernel
theorem d_CG_holds_34 : decode c_CG_holds 34 = .ok (.ireturn, 1) := by decide +kernel
theorem d_CG_isTransaction_0 : decode c_CG_isTransaction 0 = .ok (.iload_n 1, 1) := by decide +kernel
theorem d_CG_isTransaction_1 : decode c_CG_isTransaction 1 = .ok (.iconst 1, 1) := by decide +kernel
theorem d_CG_isTransaction_2 : decode c_CG_isTransaction 2 = .ok (.if_icmp .lt 15, 3) := by decide +kernel
theorem d_CG_isTransaction_5 : decode c_CG_isTransaction 5 = .ok (.iload_n 1, 1) := by decide +kernel
theorem d_CG_isTransaction_6 : decode c_CG_isTransaction 6 = .ok (.aload_n 0, 1) := by decide +kernel
theorem d_CG_isTransaction_7 : decode c_CG_isTransaction 7 = .ok (.getfield 41, 3) := by decide +kernel
theorem d_CG_isTransaction_10 : decode c_CG_isTransaction 10 = .ok (.if_icmp .gt 7, 3) := by decide +kernel
theorem d_CG_isTransaction_13 : decode c_CG_isTransaction 13 = .ok (.iconst 1, 1) := by decide +kernel
theorem d_CG_isTransaction_14 : decode c_CG_isTransaction 14 = .ok (.goto 4, 3) := by decide +kernel
theorem d_CG_isTransaction_17 : decode c_CG_isTransaction 17 = .ok (.iconst 0, 1) := by decide +kernel
theorem d_CG_isTransaction_18 : decode c_CG_isTransaction 18 = .ok (.ireturn, 1) := by decide +kernel
theorem d_CG_isKey_0 : decode c_CG_isKey 0 = .ok (.iload_n 0, 1) := by decide +kernel
theorem d_CG_isKey_1 : decode c_CG_isKey 1 = .ok (.ifCond .lt 13, 3) := by decide +kernel
theorem d_CG_isKey_4 : decode c_CG_isKey 4 = .ok (.iload_n 0, 1) := by decide +kernel
theorem d_CG_isKey_5 : decode c_CG_isKey 5 = .ok (.bipush 12, 2) := by decide +kernel
theorem d_CG_isKey_7 : decode c_CG_isKey 7 = .ok (.if_icmp .ge 7, 3) := by decide +kernel
theorem d_CG_isKey_10 : decode c_CG_isKey 10 = .ok (.iconst 1, 1) := by decide +kernel
theorem d_CG_isKey_11 : decode c_CG_isKey 11 = .ok (.goto 4, 3) := by decide +kernel
theorem d_CG_isKey_14 : decode c_CG_isKey 14 = .ok (.iconst 0, 1) := by decide +kernel
theorem d_CG_isKey_15 : decode c_CG_isKey 15 = .ok (.ireturn, 1) := by decide +kernel
theorem d_CG_isShard_0 : decode c_CG_isShard 0 = .ok (.iload_n 0, 1) := by decide +kernel
theorem d_CG_isShard_1 : decode c_CG_isShard 1 = .ok (.ifCond .lt 12, 3) := by decide +kernel
theorem d_CG_isShard_4 : decode c_CG_isShard 4 = .ok (.iload_n 0, 1) := by decide +kernel
theorem d_CG_isShard_5 : decode c_CG_isShard 5 = .ok (.iconst 3, 1) := by decide +kernel
theorem d_CG_isShard_6 : decode c_CG_isShard 6 = .ok (.if_icmp .ge 7, 3) := by decide +kernel
theorem d_CG_isShard_9 : decode c_CG_isShard 9 = .ok (.iconst 1, 1) := by decide +kernel
theorem d_CG_isShard_10 : decode c_CG_isShard 10 = .ok (.goto 4, 3) := by decide +kernel
theorem d_CG_isShard_13 : decode c_CG_isShard 13 = .ok (.iconst 0, 1) := by decide +kernel
theorem d_CG_isShard_14 : decode c_CG_isShard 14 = .ok (.ireturn, 1) := by decide +kernel
theorem d_CG_isGroup_0 : decode c_CG_isGroup 0 = .ok (.iload_n 0, 1) := by decide +kernel
theorem d_CG_isGroup_1 : decode c_CG_isGroup 1 = .ok (.ifCond .lt 12, 3) := by decide +kernel
theorem d_CG_isGroup_4 : decode c_CG_isGroup 4 = .ok (.iload_n 0, 1) := by decide +kernel
theorem d_CG_isGroup_5 : decode c_CG_isGroup 5 = .ok (.iconst 4, 1) := by decide +kernel
theorem d_CG_isGroup_6 : decode c_CG_isGroup 6 = .ok (.if_icmp .ge 7, 3) := by decide +kernel
theorem d_CG_isGroup_9 : decode c_CG_isGroup 9 = .ok (.iconst 1, 1) := by decide +kernel
theorem d_CG_isGroup_10 : decode c_CG_isGroup 10 = .ok (.goto 4, 3) := by decide +kernel
theorem d_CG_isGroup_13 : decode c_CG_isGroup 13 = .ok (.iconst 0, 1) := by decide +kernel
theorem d_CG_isGroup_14 : decode c_CG_isGroup 14 = .ok (.ireturn, 1) := by decide +kernel
theorem d_CG_isReplicaNumber_0 : decode c_CG_isReplicaNumber 0 = .ok (.iload_n 0, 1) := by decide +kernel
theorem d_CG_isReplicaNumber_1 : decode c_CG_isReplicaNumber 1 = .ok (.ifCond .lt 12, 3) := by decide +kernel
theorem d_CG_isReplicaNumber_4 : decode c_CG_isReplicaNumber 4 = .ok (.iload_n 0, 1) := by decide +kernel
theorem d_CG_isReplicaNumber_5 : decode c_CG_isReplicaNumber 5 = .ok (.iconst 3, 1) := by decide +kernel
theorem d_CG_isReplicaNumber_6 : decode c_CG_isReplicaNumber 6 = .ok (.if_icmp .ge 7, 3) := by decide +kernel
theorem d_CG_isReplicaNumber_9 : decode c_CG_isReplicaNumber 9 = .ok (.iconst 1, 1) := by decide +kernel
theorem d_CG_isReplicaNumber_10 : decode c_CG_isReplicaNumber 10 = .ok (.goto 4, 3) := by decide +kernel
theorem d_CG_isReplicaNumber_13 : decode c_CG_isReplicaNumber 13 = .ok (.iconst 0, 1) := by decide +kernel
theorem d_CG_isReplicaNumber_14 : decode c_CG_isReplicaNumber 14 = .ok (.ireturn, 1) := by decide +kernel
theorem d_CG_isReplica_0 : decode c_CG_isReplica 0 = .ok (.iload_n 0, 1) := by decide +kernel
theorem d_CG_isReplica_1 : decode c_CG_isReplica 1 = .ok (.invokestatic 142, 3) := by decide +kernel
theorem d_CG_isReplica_4 : decode c_CG_isReplica 4 = .ok (.ifCond .eq 14, 3) := by decide +kernel
theorem d_CG_isReplica_7 : decode c_CG_isReplica 7 = .ok (.iload_n 1, 1) := by decide +kernel
theorem d_CG_isReplica_8 : decode c_CG_isReplica 8 = .ok (.invokestatic 164, 3) := by decide +kernel
theorem d_CG_isReplica_11 : decode c_CG_isReplica 11 = .ok (.ifCond .eq 7, 3) := by decide +kernel
theorem d_CG_isReplica_14 : decode c_CG_isReplica 14 = .ok (.iconst 1, 1) := by decide +kernel
theorem d_CG_isReplica_15 : decode c_CG_isReplica 15 = .ok (.goto 4, 3) := by decide +kernel
theorem d_CG_isReplica_18 : decode c_CG_isReplica 18 = .ok (.iconst 0, 1) := by decide +kernel
theorem d_CG_isReplica_19 : decode c_CG_isReplica 19 = .ok (.ireturn, 1) := by decide +kernel
theorem d_CG_entry_0 : decode c_CG_entry 0 = .ok (.iload_n 1, 1) := by decide +kernel
theorem d_CG_entry_1 : decode c_CG_entry 1 = .ok (.iconst 3, 1) := by decide +kernel
theorem d_CG_entry_2 : decode c_CG_entry 2 = .ok (.imul, 1) := by decide +kernel
theorem d_CG_entry_3 : decode c_CG_entry 3 = .ok (.iload_n 0, 1) := by decide +kernel
theorem d_CG_entry_4 : decode c_CG_entry 4 = .ok (.iadd, 1) := by decide +kernel
theorem d_CG_entry_5 : decode c_CG_entry 5 = .ok (.ireturn, 1) := by decide +kernel
theorem d_CG_refusalAtShard_0 : decode c_CG_refusalAtShard 0 = .ok (.aload_n 0, 1) := by decide +kernel
theorem d_CG_refusalAtShard_1 : decode c_CG_refusalAtShard 1 = .ok (.iload_n 1, 1) := by decide +kernel
theorem d_CG_refusalAtShard_2 : decode c_CG_refusalAtShard 2 = .ok (.invokevirtual 57, 3) := by decide +kernel
theorem d_CG_refusalAtShard_5 : decode c_CG_refusalAtShard 5 = .ok (.ifCond .eq 23, 3) := by decide +kernel
theorem d_CG_refusalAtShard_8 : decode c_CG_refusalAtShard 8 = .ok (.iload_n 2, 1) := by decide +kernel
theorem d_CG_refusalAtShard_9 : decode c_CG_refusalAtShard 9 = .ok (.invokestatic 116, 3) := by decide +kernel
theorem d_CG_refusalAtShard_12 : decode c_CG_refusalAtShard 12 = .ok (.ifCond .eq 16, 3) := by decide +kernel
theorem d_CG_refusalAtShard_15 : decode c_CG_refusalAtShard 15 = .ok (.aload_n 0, 1) := by decide +kernel
theorem d_CG_refusalAtShard_16 : decode c_CG_refusalAtShard 16 = .ok (.getfield 12, 3) := by decide +kernel
theorem d_CG_refusalAtShard_19 : decode c_CG_refusalAtShard 19 = .ok (.iload_n 1, 1) := by decide +kernel
theorem d_CG_refusalAtShard_20 : decode c_CG_refusalAtShard 20 = .ok (.aaload, 1) := by decide +kernel
theorem d_CG_refusalAtShard_21 : decode c_CG_refusalAtShard 21 = .ok (.iload_n 2, 1) := by decide +kernel
theorem d_CG_refusalAtShard_22 : decode c_CG_refusalAtShard 22 = .ok (.invokevirtual 173, 3) := by decide +kernel
theorem d_CG_refusalAtShard_25 : decode c_CG_refusalAtShard 25 = .ok (.ifCond .ne 5, 3) := by decide +kernel
theorem d_CG_refusalAtShard_28 : decode c_CG_refusalAtShard 28 = .ok (.iconst (-1), 1) := by decide +kernel
theorem d_CG_refusalAtShard_29 : decode c_CG_refusalAtShard 29 = .ok (.ireturn, 1) := by decide +kernel
theorem d_CG_refusalAtShard_30 : decode c_CG_refusalAtShard 30 = .ok (.aload_n 0, 1) := by decide +kernel
theorem d_CG_refusalAtShard_31 : decode c_CG_refusalAtShard 31 = .ok (.getfield 37, 3) := by decide +kernel
theorem d_CG_refusalAtShard_34 : decode c_CG_refusalAtShard 34 = .ok (.getfield 151, 3) := by decide +kernel
theorem d_CG_refusalAtShard_37 : decode c_CG_refusalAtShard 37 = .ok (.ifCond .eq 7, 3) := by decide +kernel
theorem d_CG_refusalAtShard_40 : decode c_CG_refusalAtShard 40 = .ok (.iconst 0, 1) := by decide +kernel
theorem d_CG_refusalAtShard_41 : decode c_CG_refusalAtShard 41 = .ok (.goto 5, 3) := by decide +kernel
theorem d_CG_refusalAtShard_44 : decode c_CG_refusalAtShard 44 = .ok (.bipush (-2), 2) := by decide +kernel
theorem d_CG_refusalAtShard_46 : decode c_CG_refusalAtShard 46 = .ok (.ireturn, 1) := by decide +kernel
theorem d_CG_refusalOfDecision_0 : decode c_CG_refusalOfDecision 0 = .ok (.aload_n 0, 1) := by decide +kernel
theorem d_CG_refusalOfDecision_1 : decode c_CG_refusalOfDecision 1 = .ok (.iload_n 1, 1) := by decide +kernel
theorem d_CG_refusalOfDecision_2 : decode c_CG_refusalOfDecision 2 = .ok (.invokevirtual 57, 3) := by decide +kernel
theorem d_CG_refusalOfDecision_5 : decode c_CG_refusalOfDecision 5 = .ok (.ifCond .eq 15, 3) := by decide +kernel
theorem d_CG_refusalOfDecision_8 : decode c_CG_refusalOfDecision 8 = .ok (.aload_n 0, 1) := by decide +kernel
theorem d_CG_refusalOfDecision_9 : decode c_CG_refusalOfDecision 9 = .ok (.getfield 12, 3) := by decide +kernel
theorem d_CG_refusalOfDecision_12 : decode c_CG_refusalOfDecision 12 = .ok (.iload_n 1, 1) := by decide +kernel
theorem d_CG_refusalOfDecision_13 : decode c_CG_refusalOfDecision 13 = .ok (.aaload, 1) := by decide +kernel
theorem d_CG_refusalOfDecision_14 : decode c_CG_refusalOfDecision 14 = .ok (.getfield 120, 3) := by decide +kernel
theorem d_CG_refusalOfDecision_17 : decode c_CG_refusalOfDecision 17 = .ok (.ifCond .ne 5, 3) := by decide +kernel
theorem d_CG_refusalOfDecision_20 : decode c_CG_refusalOfDecision 20 = .ok (.iconst (-1), 1) := by decide +kernel
theorem d_CG_refusalOfDecision_21 : decode c_CG_refusalOfDecision 21 = .ok (.ireturn, 1) := by decide +kernel
theorem d_CG_refusalOfDecision_22 : decode c_CG_refusalOfDecision 22 = .ok (.aload_n 0, 1) := by decide +kernel
theorem d_CG_refusalOfDecision_23 : decode c_CG_refusalOfDecision 23 = .ok (.getfield 37, 3) := by decide +kernel
theorem d_CG_refusalOfDecision_26 : decode c_CG_refusalOfDecision 26 = .ok (.getfield 151, 3) := by decide +kernel
theorem d_CG_refusalOfDecision_29 : decode c_CG_refusalOfDecision 29 = .ok (.ifCond .eq 7, 3) := by decide +kernel
theorem d_CG_refusalOfDecision_32 : decode c_CG_refusalOfDecision 32 = .ok (.iconst 0, 1) := by decide +kernel
theorem d_CG_refusalOfDecision_33 : decode c_CG_refusalOfDecision 33 = .ok (.goto 5, 3) := by decide +kernel
theorem d_CG_refusalOfDecision_36 : decode c_CG_refusalOfDecision 36 = .ok (.bipush (-2), 2) := by decide +kernel
theorem d_CG_refusalOfDecision_38 : decode c_CG_refusalOfDecision 38 = .ok (.ireturn, 1) := by decide +kernel
theorem d_CG_propose_0 : decode c_CG_propose 0 = .ok (.aload_n 0, 1) := by decide +kernel
theorem d_CG_propose_1 : decode c_CG_propose 1 = .ok (.getfield 18, 3) := by decide +kernel
theorem d_CG_propose_4 : decode c_CG_propose 4 = .ok (.iconst 3, 1) := by decide +kernel
theorem d_CG_propose_5 : decode c_CG_propose 5 = .ok (.aaload, 1) := by decide +kernel
theorem d_CG_propose_6 : decode c_CG_propose 6 = .ok (.astore 4, 2) := by decide +kernel
theorem d_CG_propose_8 : decode c_CG_propose 8 = .ok (.aload 4, 2) := by decide +kernel
theorem d_CG_propose_10 : decode c_CG_propose 10 = .ok (.invokevirtual 76, 3) := by decide +kernel
theorem d_CG_propose_13 : decode c_CG_propose 13 = .ok (.istore 5, 2) := by decide +kernel
theorem d_CG_propose_15 : decode c_CG_propose 15 = .ok (.iload 5, 2) := by decide +kernel
theorem d_CG_propose_17 : decode c_CG_propose 17 = .ok (.ifCond .ge 6, 3) := by decide +kernel
theorem d_CG_propose_20 : decode c_CG_propose 20 = .ok (.bipush (-3), 2) := by decide +kernel
theorem d_CG_propose_22 : decode c_CG_propose 22 = .ok (.ireturn, 1) := by decide +kernel
theorem d_CG_propose_23 : decode c_CG_propose 23 = .ok (.aload_n 0, 1) := by decide +kernel
theorem d_CG_propose_24 : decode c_CG_propose 24 = .ok (.getfield 30, 3) := by decide +kernel
theorem d_CG_propose_27 : decode c_CG_propose 27 = .ok (.iload 5, 2) := by decide +kernel
theorem d_CG_propose_29 : decode c_CG_propose 29 = .ok (.aaload, 1) := by decide +kernel
theorem d_CG_propose_30 : decode c_CG_propose 30 = .ok (.astore 6, 2) := by decide +kernel
theorem d_CG_propose_32 : decode c_CG_propose 32 = .ok (.aload 6, 2) := by decide +kernel
theorem d_CG_propose_34 : decode c_CG_propose 34 = .ok (.getfield 176, 3) := by decide +kernel
theorem d_CG_propose_37 : decode c_CG_propose 37 = .ok (.iload_n 2, 1) := by decide +kernel
theorem d_CG_propose_38 : decode c_CG_propose 38 = .ok (.iaload, 1) := by decide +kernel
theorem d_CG_propose_39 : decode c_CG_propose 39 = .ok (.ifCond .ne 23, 3) := by decide +kernel
theorem d_CG_propose_42 : decode c_CG_propose 42 = .ok (.aload 4, 2) := by decide +kernel
theorem d_CG_propose_44 : decode c_CG_propose 44 = .ok (.iload_n 1, 1) := by decide +kernel
theorem d_CG_propose_45 : decode c_CG_propose 45 = .ok (.iload_n 2, 1) := by decide +kernel
theorem d_CG_propose_46 : decode c_CG_propose 46 = .ok (.invokestatic 84, 3) := by decide +kernel
theorem d_CG_propose_49 : decode c_CG_propose 49 = .ok (.invokevirtual 87, 3) := by decide +kernel
theorem d_CG_propose_52 : decode c_CG_propose 52 = .ok (.istore 7, 2) := by decide +kernel
theorem d_CG_propose_54 : decode c_CG_propose 54 = .ok (.iload 7, 2) := by decide +kernel
theorem d_CG_propose_56 : decode c_CG_propose 56 = .ok (.ifCond .eq 6, 3) := by decide +kernel
theorem d_CG_propose_59 : decode c_CG_propose 59 = .ok (.iload 7, 2) := by decide +kernel
theorem d_CG_propose_61 : decode c_CG_propose 61 = .ok (.ireturn, 1) := by decide +kernel
theorem d_CG_propose_62 : decode c_CG_propose 62 = .ok (.iload_n 3, 1) := by decide +kernel
theorem d_CG_propose_63 : decode c_CG_propose 63 = .ok (.ifCond .ne 5, 3) := by decide +kernel
theorem d_CG_propose_66 : decode c_CG_propose 66 = .ok (.iconst 3, 1) := by decide +kernel
theorem d_CG_propose_67 : decode c_CG_propose 67 = .ok (.ireturn, 1) := by decide +kernel
theorem d_CG_propose_68 : decode c_CG_propose 68 = .ok (.aload_n 0, 1) := by decide +kernel
theorem d_CG_propose_69 : decode c_CG_propose 69 = .ok (.getfield 37, 3) := by decide +kernel
theorem d_CG_propose_72 : decode c_CG_propose 72 = .ok (.getfield 98, 3) := by decide +kernel
theorem d_CG_propose_75 : decode c_CG_propose 75 = .ok (.iload_n 2, 1) := by decide +kernel
theorem d_CG_propose_76 : decode c_CG_propose 76 = .ok (.aload 6, 2) := by decide +kernel
theorem d_CG_propose_78 : decode c_CG_propose 78 = .ok (.getfield 176, 3) := by decide +kernel
theorem d_CG_propose_81 : decode c_CG_propose 81 = .ok (.iload_n 2, 1) := by decide +kernel
theorem d_CG_propose_82 : decode c_CG_propose 82 = .ok (.iaload, 1) := by decide +kernel
theorem d_CG_propose_83 : decode c_CG_propose 83 = .ok (.iastore, 1) := by decide +kernel
theorem d_CG_propose_84 : decode c_CG_propose 84 = .ok (.aload 6, 2) := by decide +kernel
theorem d_CG_propose_86 : decode c_CG_propose 86 = .ok (.getfield 176, 3) := by decide +kernel
theorem d_CG_propose_89 : decode c_CG_propose 89 = .ok (.iload_n 2, 1) := by decide +kernel
theorem d_CG_propose_90 : decode c_CG_propose 90 = .ok (.iaload, 1) := by decide +kernel
theorem d_CG_propose_91 : decode c_CG_propose 91 = .ok (.ireturn, 1) := by decide +kernel
