/-! instructions -/
theorem d_Mo_init_0 : decode c_Mo_init 0 = .ok (.aload_n 0, 1) := by decide +kernel
theorem d_Mo_init_1 : decode c_Mo_init 1 = .ok (.invokespecial 1, 3) := by decide +kernel
theorem d_Mo_init_4 : decode c_Mo_init 4 = .ok (.aload_n 0, 1) := by decide +kernel
theorem d_Mo_init_5 : decode c_Mo_init 5 = .ok (.bipush 21, 2) := by decide +kernel
theorem d_Mo_init_7 : decode c_Mo_init 7 = .ok (.newarray .int, 2) := by decide +kernel
theorem d_Mo_init_9 : decode c_Mo_init 9 = .ok (.putfield 7, 3) := by decide +kernel
theorem d_Mo_init_12 : decode c_Mo_init 12 = .ok (.aload_n 0, 1) := by decide +kernel
theorem d_Mo_init_13 : decode c_Mo_init 13 = .ok (.bipush 21, 2) := by decide +kernel
theorem d_Mo_init_15 : decode c_Mo_init 15 = .ok (.newarray .boolean, 2) := by decide +kernel
theorem d_Mo_init_17 : decode c_Mo_init 17 = .ok (.putfield 13, 3) := by decide +kernel
theorem d_Mo_init_20 : decode c_Mo_init 20 = .ok (.aload_n 0, 1) := by decide +kernel
theorem d_Mo_init_21 : decode c_Mo_init 21 = .ok (.bipush 84, 2) := by decide +kernel
theorem d_Mo_init_23 : decode c_Mo_init 23 = .ok (.newarray .int, 2) := by decide +kernel
theorem d_Mo_init_25 : decode c_Mo_init 25 = .ok (.putfield 17, 3) := by decide +kernel
theorem d_Mo_init_28 : decode c_Mo_init 28 = .ok (.aload_n 0, 1) := by decide +kernel
theorem d_Mo_init_29 : decode c_Mo_init 29 = .ok (.bipush 84, 2) := by decide +kernel
theorem d_Mo_init_31 : decode c_Mo_init 31 = .ok (.newarray .int, 2) := by decide +kernel
theorem d_Mo_init_33 : decode c_Mo_init 33 = .ok (.putfield 20, 3) := by decide +kernel
theorem d_Mo_init_36 : decode c_Mo_init 36 = .ok (.aload_n 0, 1) := by decide +kernel
theorem d_Mo_init_37 : decode c_Mo_init 37 = .ok (.bipush 84, 2) := by decide +kernel
theorem d_Mo_init_39 : decode c_Mo_init 39 = .ok (.newarray .int, 2) := by decide +kernel
theorem d_Mo_init_41 : decode c_Mo_init 41 = .ok (.putfield 23, 3) := by decide +kernel
theorem d_Mo_init_44 : decode c_Mo_init 44 = .ok (.aload_n 0, 1) := by decide +kernel
theorem d_Mo_init_45 : decode c_Mo_init 45 = .ok (.bipush 12, 2) := by decide +kernel
theorem d_Mo_init_47 : decode c_Mo_init 47 = .ok (.newarray .boolean, 2) := by decide +kernel
theorem d_Mo_init_49 : decode c_Mo_init 49 = .ok (.putfield 26, 3) := by decide +kernel
theorem d_Mo_init_52 : decode c_Mo_init 52 = .ok (.aload_n 0, 1) := by decide +kernel
theorem d_Mo_init_53 : decode c_Mo_init 53 = .ok (.bipush 12, 2) := by decide +kernel
theorem d_Mo_init_55 : decode c_Mo_init 55 = .ok (.newarray .int, 2) := by decide +kernel
theorem d_Mo_init_57 : decode c_Mo_init 57 = .ok (.putfield 29, 3) := by decide +kernel
theorem d_Mo_init_60 : decode c_Mo_init 60 = .ok (.aload_n 0, 1) := by decide +kernel
theorem d_Mo_init_61 : decode c_Mo_init 61 = .ok (.bipush 12, 2) := by decide +kernel
theorem d_Mo_init_63 : decode c_Mo_init 63 = .ok (.newarray .int, 2) := by decide +kernel
theorem d_Mo_init_65 : decode c_Mo_init 65 = .ok (.putfield 32, 3) := by decide +kernel
theorem d_Mo_init_68 : decode c_Mo_init 68 = .ok (.aload_n 0, 1) := by decide +kernel
theorem d_Mo_init_69 : decode c_Mo_init 69 = .ok (.bipush 12, 2) := by decide +kernel
theorem d_Mo_init_71 : decode c_Mo_init 71 = .ok (.newarray .int, 2) := by decide +kernel
theorem d_Mo_init_73 : decode c_Mo_init 73 = .ok (.putfield 35, 3) := by decide +kernel
theorem d_Mo_init_76 : decode c_Mo_init 76 = .ok (.aload_n 0, 1) := by decide +kernel
theorem d_Mo_init_77 : decode c_Mo_init 77 = .ok (.sipush 720, 3) := by decide +kernel
theorem d_Mo_init_80 : decode c_Mo_init 80 = .ok (.newarray .int, 2) := by decide +kernel
theorem d_Mo_init_82 : decode c_Mo_init 82 = .ok (.putfield 38, 3) := by decide +kernel
theorem d_Mo_init_85 : decode c_Mo_init 85 = .ok (.aload_n 0, 1) := by decide +kernel
theorem d_Mo_init_86 : decode c_Mo_init 86 = .ok (.bipush 63, 2) := by decide +kernel
theorem d_Mo_init_88 : decode c_Mo_init 88 = .ok (.newarray .int, 2) := by decide +kernel
theorem d_Mo_init_90 : decode c_Mo_init 90 = .ok (.putfield 41, 3) := by decide +kernel
theorem d_Mo_init_93 : decode c_Mo_init 93 = .ok (.aload_n 0, 1) := by decide +kernel
theorem d_Mo_init_94 : decode c_Mo_init 94 = .ok (.bipush 21, 2) := by decide +kernel
theorem d_Mo_init_96 : decode c_Mo_init 96 = .ok (.newarray .int, 2) := by decide +kernel
theorem d_Mo_init_98 : decode c_Mo_init 98 = .ok (.putfield 44, 3) := by decide +kernel
theorem d_Mo_init_101 : decode c_Mo_init 101 = .ok (.aload_n 0, 1) := by decide +kernel
theorem d_Mo_init_102 : decode c_Mo_init 102 = .ok (.bipush 21, 2) := by decide +kernel
theorem d_Mo_init_104 : decode c_Mo_init 104 = .ok (.newarray .int, 2) := by decide +kernel
theorem d_Mo_init_106 : decode c_Mo_init 106 = .ok (.putfield 47, 3) := by decide +kernel
theorem d_Mo_init_109 : decode c_Mo_init 109 = .ok (.aload_n 0, 1) := by decide +kernel
theorem d_Mo_init_110 : decode c_Mo_init 110 = .ok (.bipush 21, 2) := by decide +kernel
theorem d_Mo_init_112 : decode c_Mo_init 112 = .ok (.newarray .boolean, 2) := by decide +kernel
theorem d_Mo_init_114 : decode c_Mo_init 114 = .ok (.putfield 50, 3) := by decide +kernel
theorem d_Mo_init_117 : decode c_Mo_init 117 = .ok (.aload_n 0, 1) := by decide +kernel
theorem d_Mo_init_118 : decode c_Mo_init 118 = .ok (.bipush 21, 2) := by decide +kernel
theorem d_Mo_init_120 : decode c_Mo_init 120 = .ok (.newarray .int, 2) := by decide +kernel
theorem d_Mo_init_122 : decode c_Mo_init 122 = .ok (.putfield 53, 3) := by decide +kernel
theorem d_Mo_init_125 : decode c_Mo_init 125 = .ok (.aload_n 0, 1) := by decide +kernel
theorem d_Mo_init_126 : decode c_Mo_init 126 = .ok (.bipush 12, 2) := by decide +kernel
theorem d_Mo_init_128 : decode c_Mo_init 128 = .ok (.newarray .int, 2) := by decide +kernel
theorem d_Mo_init_130 : decode c_Mo_init 130 = .ok (.putfield 56, 3) := by decide +kernel
theorem d_Mo_init_133 : decode c_Mo_init 133 = .ok (.return_, 1) := by decide +kernel
theorem d_Mo_in_0 : decode c_Mo_in 0 = .ok (.iload_n 0, 1) := by decide +kernel
theorem d_Mo_in_1 : decode c_Mo_in 1 = .ok (.iload_n 1, 1) := by decide +kernel
theorem d_Mo_in_2 : decode c_Mo_in 2 = .ok (.if_icmp .lt 12, 3) := by decide +kernel
theorem d_Mo_in_5 : decode c_Mo_in 5 = .ok (.iload_n 0, 1) := by decide +kernel
theorem d_Mo_in_6 : decode c_Mo_in 6 = .ok (.iload_n 2, 1) := by decide +kernel
theorem d_Mo_in_7 : decode c_Mo_in 7 = .ok (.if_icmp .gt 7, 3) := by decide +kernel
theorem d_Mo_in_10 : decode c_Mo_in 10 = .ok (.iconst 1, 1) := by decide +kernel
theorem d_Mo_in_11 : decode c_Mo_in 11 = .ok (.goto 4, 3) := by decide +kernel
theorem d_Mo_in_14 : decode c_Mo_in 14 = .ok (.iconst 0, 1) := by decide +kernel
theorem d_Mo_in_15 : decode c_Mo_in 15 = .ok (.ireturn, 1) := by decide +kernel
theorem d_Mo_opn_0 : decode c_Mo_opn 0 = .ok (.aload_n 0, 1) := by decide +kernel
theorem d_Mo_opn_1 : decode c_Mo_opn 1 = .ok (.getfield 59, 3) := by decide +kernel
theorem d_Mo_opn_4 : decode c_Mo_opn 4 = .ok (.bipush 20, 2) := by decide +kernel
theorem d_Mo_opn_6 : decode c_Mo_opn 6 = .ok (.if_icmp .lt 5, 3) := by decide +kernel
theorem d_Mo_opn_9 : decode c_Mo_opn 9 = .ok (.iconst (-1), 1) := by decide +kernel
theorem d_Mo_opn_10 : decode c_Mo_opn 10 = .ok (.ireturn, 1) := by decide +kernel
theorem d_Mo_opn_11 : decode c_Mo_opn 11 = .ok (.aload_n 0, 1) := by decide +kernel
theorem d_Mo_opn_12 : decode c_Mo_opn 12 = .ok (.dup, 1) := by decide +kernel
theorem d_Mo_opn_13 : decode c_Mo_opn 13 = .ok (.getfield 59, 3) := by decide +kernel
theorem d_Mo_opn_16 : decode c_Mo_opn 16 = .ok (.iconst 1, 1) := by decide +kernel
theorem d_Mo_opn_17 : decode c_Mo_opn 17 = .ok (.iadd, 1) := by decide +kernel
theorem d_Mo_opn_18 : decode c_Mo_opn 18 = .ok (.putfield 59, 3) := by decide +kernel
theorem d_Mo_opn_21 : decode c_Mo_opn 21 = .ok (.aload_n 0, 1) := by decide +kernel
theorem d_Mo_opn_22 : decode c_Mo_opn 22 = .ok (.getfield 59, 3) := by decide +kernel
theorem d_Mo_opn_25 : decode c_Mo_opn 25 = .ok (.ireturn, 1) := by decide +kernel
theorem d_Mo_touch_0 : decode c_Mo_touch 0 = .ok (.iload_n 1, 1) := by decide +kernel
theorem d_Mo_touch_1 : decode c_Mo_touch 1 = .ok (.iconst 1, 1) := by decide +kernel
theorem d_Mo_touch_2 : decode c_Mo_touch 2 = .ok (.aload_n 0, 1) := by decide +kernel
theorem d_Mo_touch_3 : decode c_Mo_touch 3 = .ok (.getfield 59, 3) := by decide +kernel
theorem d_Mo_touch_6 : decode c_Mo_touch 6 = .ok (.invokestatic 63, 3) := by decide +kernel
theorem d_Mo_touch_9 : decode c_Mo_touch 9 = .ok (.ifCond .eq 22, 3) := by decide +kernel
theorem d_Mo_touch_12 : decode c_Mo_touch 12 = .ok (.iload_n 2, 1) := by decide +kernel
theorem d_Mo_touch_13 : decode c_Mo_touch 13 = .ok (.iconst 0, 1) := by decide +kernel
theorem d_Mo_touch_14 : decode c_Mo_touch 14 = .ok (.iconst 2, 1) := by decide +kernel
theorem d_Mo_touch_15 : decode c_Mo_touch 15 = .ok (.invokestatic 63, 3) := by decide +kernel
theorem d_Mo_touch_18 : decode c_Mo_touch 18 = .ok (.ifCond .eq 13, 3) := by decide +kernel
theorem d_Mo_touch_21 : decode c_Mo_touch 21 = .ok (.iload_n 3, 1) := by decide +kernel
theorem d_Mo_touch_22 : decode c_Mo_touch 22 = .ok (.iconst 0, 1) := by decide +kernel
theorem d_Mo_touch_23 : decode c_Mo_touch 23 = .ok (.bipush 11, 2) := by decide +kernel
theorem d_Mo_touch_25 : decode c_Mo_touch 25 = .ok (.invokestatic 63, 3) := by decide +kernel
theorem d_Mo_touch_28 : decode c_Mo_touch 28 = .ok (.ifCond .ne 5, 3) := by decide +kernel
theorem d_Mo_touch_31 : decode c_Mo_touch 31 = .ok (.iconst 0, 1) := by decide +kernel
theorem d_Mo_touch_32 : decode c_Mo_touch 32 = .ok (.ireturn, 1) := by decide +kernel
theorem d_Mo_touch_33 : decode c_Mo_touch 33 = .ok (.aload_n 0, 1) := by decide +kernel
theorem d_Mo_touch_34 : decode c_Mo_touch 34 = .ok (.getfield 13, 3) := by decide +kernel
theorem d_Mo_touch_37 : decode c_Mo_touch 37 = .ok (.iload_n 1, 1) := by decide +kernel
theorem d_Mo_touch_38 : decode c_Mo_touch 38 = .ok (.baload, 1) := by decide +kernel
theorem d_Mo_touch_39 : decode c_Mo_touch 39 = .ok (.ifCond .ne 13, 3) := by decide +kernel
theorem d_Mo_touch_42 : decode c_Mo_touch 42 = .ok (.aload_n 0, 1) := by decide +kernel
theorem d_Mo_touch_43 : decode c_Mo_touch 43 = .ok (.getfield 7, 3) := by decide +kernel
theorem d_Mo_touch_46 : decode c_Mo_touch 46 = .ok (.iload_n 1, 1) := by decide +kernel
theorem d_Mo_touch_47 : decode c_Mo_touch 47 = .ok (.iaload, 1) := by decide +kernel
theorem d_Mo_touch_48 : decode c_Mo_touch 48 = .ok (.iconst 4, 1) := by decide +kernel
theorem d_Mo_touch_49 : decode c_Mo_touch 49 = .ok (.if_icmp .lt 5, 3) := by decide +kernel
theorem d_Mo_touch_52 : decode c_Mo_touch 52 = .ok (.iconst 0, 1) := by decide +kernel
theorem d_Mo_touch_53 : decode c_Mo_touch 53 = .ok (.ireturn, 1) := by decide +kernel
theorem d_Mo_touch_54 : decode c_Mo_touch 54 = .ok (.iconst 4, 1) := by decide +kernel
theorem d_Mo_touch_55 : decode c_Mo_touch 55 = .ok (.iload_n 1, 1) := by decide +kernel
theorem d_Mo_touch_56 : decode c_Mo_touch 56 = .ok (.imul, 1) := by decide +kernel
theorem d_Mo_touch_57 : decode c_Mo_touch 57 = .ok (.aload_n 0, 1) := by decide +kernel
theorem d_Mo_touch_58 : decode c_Mo_touch 58 = .ok (.getfield 7, 3) := by decide +kernel
theorem d_Mo_touch_61 : decode c_Mo_touch 61 = .ok (.iload_n 1, 1) := by decide +kernel
theorem d_Mo_touch_62 : decode c_Mo_touch 62 = .ok (.iaload, 1) := by decide +kernel
theorem d_Mo_touch_63 : decode c_Mo_touch 63 = .ok (.iadd, 1) := by decide +kernel
theorem d_Mo_touch_64 : decode c_Mo_touch 64 = .ok (.istore 5, 2) := by decide +kernel
theorem d_Mo_touch_66 : decode c_Mo_touch 66 = .ok (.aload_n 0, 1) := by decide +kernel
theorem d_Mo_touch_67 : decode c_Mo_touch 67 = .ok (.getfield 17, 3) := by decide +kernel
theorem d_Mo_touch_70 : decode c_Mo_touch 70 = .ok (.iload 5, 2) := by decide +kernel
theorem d_Mo_touch_72 : decode c_Mo_touch 72 = .ok (.iload_n 2, 1) := by decide +kernel
theorem d_Mo_touch_73 : decode c_Mo_touch 73 = .ok (.iastore, 1) := by decide +kernel
theorem d_Mo_touch_74 : decode c_Mo_touch 74 = .ok (.aload_n 0, 1) := by decide +kernel
theorem d_Mo_touch_75 : decode c_Mo_touch 75 = .ok (.getfield 20, 3) := by decide +kernel
theorem d_Mo_touch_78 : decode c_Mo_touch 78 = .ok (.iload 5, 2) := by decide +kernel
theorem d_Mo_touch_80 : decode c_Mo_touch 80 = .ok (.iload_n 3, 1) := by decide +kernel
theorem d_Mo_touch_81 : decode c_Mo_touch 81 = .ok (.iastore, 1) := by decide +kernel
theorem d_Mo_touch_82 : decode c_Mo_touch 82 = .ok (.aload_n 0, 1) := by decide +kernel
theorem d_Mo_touch_83 : decode c_Mo_touch 83 = .ok (.getfield 23, 3) := by decide +kernel
theorem d_Mo_touch_86 : decode c_Mo_touch 86 = .ok (.iload 5, 2) := by decide +kernel
theorem d_Mo_touch_88 : decode c_Mo_touch 88 = .ok (.iload 4, 2) := by decide +kernel
theorem d_Mo_touch_90 : decode c_Mo_touch 90 = .ok (.iastore, 1) := by decide +kernel
theorem d_Mo_touch_91 : decode c_Mo_touch 91 = .ok (.aload_n 0, 1) := by decide +kernel
theorem d_Mo_touch_92 : decode c_Mo_touch 92 = .ok (.getfield 7, 3) := by decide +kernel
theorem d_Mo_touch_95 : decode c_Mo_touch 95 = .ok (.iload_n 1, 1) := by decide +kernel
theorem d_Mo_touch_96 : decode c_Mo_touch 96 = .ok (.dup2, 1) := by decide +kernel
theorem d_Mo_touch_97 : decode c_Mo_touch 97 = .ok (.iaload, 1) := by decide +kernel
theorem d_Mo_touch_98 : decode c_Mo_touch 98 = .ok (.iconst 1, 1) := by decide +kernel
theorem d_Mo_touch_99 : decode c_Mo_touch 99 = .ok (.iadd, 1) := by decide +kernel
theorem d_Mo_touch_100 : decode c_Mo_touch 100 = .ok (.iastore, 1) := by decide +kernel
theorem d_Mo_touch_101 : decode c_Mo_touch 101 = .ok (.iconst 1, 1) := by decide +kernel
theorem d_Mo_touch_102 : decode c_Mo_touch 102 = .ok (.ireturn, 1) := by decide +kernel
theorem d_Mo_touches_0 : decode c_Mo_touches 0 = .ok (.iconst 0, 1) := by decide +kernel
theorem d_Mo_touches_1 : decode c_Mo_touches 1 = .ok (.istore_n 3, 1) := by decide +kernel
theorem d_Mo_touches_2 : decode c_Mo_touches 2 = .ok (.iconst 0, 1) := by decide +kernel
theorem d_Mo_touches_3 : decode c_Mo_touches 3 = .ok (.istore 4, 2) := by decide +kernel
theorem d_Mo_touches_5 : decode c_Mo_touches 5 = .ok (.iload 4, 2) := by decide +kernel
theorem d_Mo_touches_7 : decode c_Mo_touches 7 = .ok (.aload_n 0, 1) := by decide +kernel
theorem d_Mo_touches_8 : decode c_Mo_touches 8 = .ok (.getfield 7, 3) := by decide +kernel
theorem d_Mo_touches_11 : decode c_Mo_touches 11 = .ok (.iload_n 1, 1) := by decide +kernel
theorem d_Mo_touches_12 : decode c_Mo_touches 12 = .ok (.iaload, 1) := by decide +kernel
theorem d_Mo_touches_13 : decode c_Mo_touches 13 = .ok (.if_icmp .ge 36, 3) := by decide +kernel
theorem d_Mo_touches_16 : decode c_Mo_touches 16 = .ok (.iload_n 3, 1) := by decide +kernel
theorem d_Mo_touches_17 : decode c_Mo_touches 17 = .ok (.ifCond .ne 20, 3) := by decide +kernel
theorem d_Mo_touches_20 : decode c_Mo_touches 20 = .ok (.aload_n 0, 1) := by decide +kernel
theorem d_Mo_touches_21 : decode c_Mo_touches 21 = .ok (.getfield 20, 3) := by decide +kernel
theorem d_Mo_touches_24 : decode c_Mo_touches 24 = .ok (.iconst 4, 1) := by decide +kernel
theorem d_Mo_touches_25 : decode c_Mo_touches 25 = .ok (.iload_n 1, 1) := by decide +kernel
theorem d_Mo_touches_26 : decode c_Mo_touches 26 = .ok (.imul, 1) := by decide +kernel
theorem d_Mo_touches_27 : decode c_Mo_touches 27 = .ok (.iload 4, 2) := by decide +kernel
theorem d_Mo_touches_29 : decode c_Mo_touches 29 = .ok (.iadd, 1) := by decide +kernel
theorem d_Mo_touches_30 : decode c_Mo_touches 30 = .ok (.iaload, 1) := by decide +kernel
theorem d_Mo_touches_31 : decode c_Mo_touches 31 = .ok (.iconst 3, 1) := by decide +kernel
theorem d_Mo_touches_32 : decode c_Mo_touches 32 = .ok (.irem, 1) := by decide +kernel
theorem d_Mo_touches_33 : decode c_Mo_touches 33 = .ok (.iload_n 2, 1) := by decide +kernel
theorem d_Mo_touches_34 : decode c_Mo_touches 34 = .ok (.if_icmp .ne 7, 3) := by decide +kernel
theorem d_Mo_touches_37 : decode c_Mo_touches 37 = .ok (.iconst 1, 1) := by decide +kernel
theorem d_Mo_touches_38 : decode c_Mo_touches 38 = .ok (.goto 4, 3) := by decide +kernel
theorem d_Mo_touches_41 : decode c_Mo_touches 41 = .ok (.iconst 0, 1) := by decide +kernel
theorem d_Mo_touches_42 : decode c_Mo_touches 42 = .ok (.istore_n 3, 1) := by decide +kernel
theorem d_Mo_touches_43 : decode c_Mo_touches 43 = .ok (.iinc 4 1, 3) := by decide +kernel
theorem d_Mo_touches_46 : decode c_Mo_touches 46 = .ok (.goto (-41), 3) := by decide +kernel
theorem d_Mo_touches_49 : decode c_Mo_touches 49 = .ok (.iload_n 3, 1) := by decide +kernel
theorem d_Mo_touches_50 : decode c_Mo_touches 50 = .ok (.ireturn, 1) := by decide +kernel
theorem d_Mo_needs_0 : decode c_Mo_needs 0 = .ok (.iconst 0, 1) := by decide +kernel
theorem d_Mo_needs_1 : decode c_Mo_needs 1 = .ok (.istore_n 3, 1) := by decide +kernel
theorem d_Mo_needs_2 : decode c_Mo_needs 2 = .ok (.iconst 0, 1) := by decide +kernel
theorem d_Mo_needs_3 : decode c_Mo_needs 3 = .ok (.istore 4, 2) := by decide +kernel
theorem d_Mo_needs_5 : decode c_Mo_needs 5 = .ok (.iload 4, 2) := by decide +kernel
theorem d_Mo_needs_7 : decode c_Mo_needs 7 = .ok (.aload_n 0, 1) := by decide +kernel
theorem d_Mo_needs_8 : decode c_Mo_needs 8 = .ok (.getfield 7, 3) := by decide +kernel
theorem d_Mo_needs_11 : decode c_Mo_needs 11 = .ok (.iload_n 1, 1) := by decide +kernel
theorem d_Mo_needs_12 : decode c_Mo_needs 12 = .ok (.iaload, 1) := by decide +kernel
theorem d_Mo_needs_13 : decode c_Mo_needs 13 = .ok (.if_icmp .ge 49, 3) := by decide +kernel
theorem d_Mo_needs_16 : decode c_Mo_needs 16 = .ok (.aload_n 0, 1) := by decide +kernel
theorem d_Mo_needs_17 : decode c_Mo_needs 17 = .ok (.getfield 20, 3) := by decide +kernel
theorem d_Mo_needs_20 : decode c_Mo_needs 20 = .ok (.iconst 4, 1) := by decide +kernel
theorem d_Mo_needs_21 : decode c_Mo_needs 21 = .ok (.iload_n 1, 1) := by decide +kernel
theorem d_Mo_needs_22 : decode c_Mo_needs 22 = .ok (.imul, 1) := by decide +kernel
theorem d_Mo_needs_23 : decode c_Mo_needs 23 = .ok (.iload 4, 2) := by decide +kernel
theorem d_Mo_needs_25 : decode c_Mo_needs 25 = .ok (.iadd, 1) := by decide +kernel
theorem d_Mo_needs_26 : decode c_Mo_needs 26 = .ok (.iaload, 1) := by decide +kernel
theorem d_Mo_needs_27 : decode c_Mo_needs 27 = .ok (.iload_n 2, 1) := by decide +kernel
theorem d_Mo_needs_28 : decode c_Mo_needs 28 = .ok (.if_icmp .ne 28, 3) := by decide +kernel
theorem d_Mo_needs_31 : decode c_Mo_needs 31 = .ok (.aload_n 0, 1) := by decide +kernel
theorem d_Mo_needs_32 : decode c_Mo_needs 32 = .ok (.getfield 17, 3) := by decide +kernel
theorem d_Mo_needs_35 : decode c_Mo_needs 35 = .ok (.iconst 4, 1) := by decide +kernel
theorem d_Mo_needs_36 : decode c_Mo_needs 36 = .ok (.iload_n 1, 1) := by decide +kernel
theorem d_Mo_needs_37 : decode c_Mo_needs 37 = .ok (.imul, 1) := by decide +kernel
theorem d_Mo_needs_38 : decode c_Mo_needs 38 = .ok (.iload 4, 2) := by decide +kernel
theorem d_Mo_needs_40 : decode c_Mo_needs 40 = .ok (.iadd, 1) := by decide +kernel
theorem d_Mo_needs_41 : decode c_Mo_needs 41 = .ok (.iaload, 1) := by decide +kernel
theorem d_Mo_needs_42 : decode c_Mo_needs 42 = .ok (.ifCond .gt 8, 3) := by decide +kernel
theorem d_Mo_needs_45 : decode c_Mo_needs 45 = .ok (.iload_n 3, 1) := by decide +kernel
theorem d_Mo_needs_46 : decode c_Mo_needs 46 = .ok (.iconst 2, 1) := by decide +kernel
theorem d_Mo_needs_47 : decode c_Mo_needs 47 = .ok (.if_icmp .ne 7, 3) := by decide +kernel
theorem d_Mo_needs_50 : decode c_Mo_needs 50 = .ok (.iconst 2, 1) := by decide +kernel
theorem d_Mo_needs_51 : decode c_Mo_needs 51 = .ok (.goto 4, 3) := by decide +kernel
theorem d_Mo_needs_54 : decode c_Mo_needs 54 = .ok (.iconst 1, 1) := by decide +kernel
theorem d_Mo_needs_55 : decode c_Mo_needs 55 = .ok (.istore_n 3, 1) := by decide +kernel
theorem d_Mo_needs_56 : decode c_Mo_needs 56 = .ok (.iinc 4 1, 3) := by decide +kernel
theorem d_Mo_needs_59 : decode c_Mo_needs 59 = .ok (.goto (-54), 3) := by decide +kernel
theorem d_Mo_needs_62 : decode c_Mo_needs 62 = .ok (.iload_n 3, 1) := by decide +kernel
theorem d_Mo_needs_63 : decode c_Mo_needs 63 = .ok (.ireturn, 1) := by decide +kernel
theorem d_Mo_run_0 : decode c_Mo_run 0 = .ok (.aload_n 0, 1) := by decide +kernel
theorem d_Mo_run_1 : decode c_Mo_run 1 = .ok (.getfield 20, 3) := by decide +kernel
theorem d_Mo_run_4 : decode c_Mo_run 4 = .ok (.iconst 4, 1) := by decide +kernel
theorem d_Mo_run_5 : decode c_Mo_run 5 = .ok (.iload_n 1, 1) := by decide +kernel
theorem d_Mo_run_6 : decode c_Mo_run 6 = .ok (.imul, 1) := by decide +kernel
theorem d_Mo_run_7 : decode c_Mo_run 7 = .ok (.iload_n 2, 1) := by decide +kernel
theorem d_Mo_run_8 : decode c_Mo_run 8 = .ok (.iadd, 1) := by decide +kernel
theorem d_Mo_run_9 : decode c_Mo_run 9 = .ok (.iaload, 1) := by decide +kernel
theorem d_Mo_run_10 : decode c_Mo_run 10 = .ok (.istore_n 3, 1) := by decide +kernel
theorem d_Mo_run_11 : decode c_Mo_run 11 = .ok (.aload_n 0, 1) := by decide +kernel
theorem d_Mo_run_12 : decode c_Mo_run 12 = .ok (.getfield 56, 3) := by decide +kernel
theorem d_Mo_run_15 : decode c_Mo_run 15 = .ok (.iload_n 3, 1) := by decide +kernel
theorem d_Mo_run_16 : decode c_Mo_run 16 = .ok (.iaload, 1) := by decide +kernel
theorem d_Mo_run_17 : decode c_Mo_run 17 = .ok (.istore 4, 2) := by decide +kernel
theorem d_Mo_run_19 : decode c_Mo_run 19 = .ok (.aload_n 0, 1) := by decide +kernel
theorem d_Mo_run_20 : decode c_Mo_run 20 = .ok (.getfield 56, 3) := by decide +kernel
theorem d_Mo_run_23 : decode c_Mo_run 23 = .ok (.iload_n 3, 1) := by decide +kernel
theorem d_Mo_run_24 : decode c_Mo_run 24 = .ok (.aload_n 0, 1) := by decide +kernel
theorem d_Mo_run_25 : decode c_Mo_run 25 = .ok (.getfield 17, 3) := by decide +kernel
theorem d_Mo_run_28 : decode c_Mo_run 28 = .ok (.iconst 4, 1) := by decide +kernel
theorem d_Mo_run_29 : decode c_Mo_run 29 = .ok (.iload_n 1, 1) := by decide +kernel
theorem d_Mo_run_30 : decode c_Mo_run 30 = .ok (.imul, 1) := by decide +kernel
theorem d_Mo_run_31 : decode c_Mo_run 31 = .ok (.iload_n 2, 1) := by decide +kernel
theorem d_Mo_run_32 : decode c_Mo_run 32 = .ok (.iadd, 1) := by decide +kernel
theorem d_Mo_run_33 : decode c_Mo_run 33 = .ok (.iaload, 1) := by decide +kernel
theorem d_Mo_run_34 : decode c_Mo_run 34 = .ok (.ifCond .ne 8, 3) := by decide +kernel
theorem d_Mo_run_37 : decode c_Mo_run 37 = .ok (.iload 4, 2) := by decide +kernel
theorem d_Mo_run_39 : decode c_Mo_run 39 = .ok (.goto 43, 3) := by decide +kernel
theorem d_Mo_run_42 : decode c_Mo_run 42 = .ok (.aload_n 0, 1) := by decide +kernel
theorem d_Mo_run_43 : decode c_Mo_run 43 = .ok (.getfield 17, 3) := by decide +kernel
theorem d_Mo_run_46 : decode c_Mo_run 46 = .ok (.iconst 4, 1) := by decide +kernel
theorem d_Mo_run_47 : decode c_Mo_run 47 = .ok (.iload_n 1, 1) := by decide +kernel
theorem d_Mo_run_48 : decode c_Mo_run 48 = .ok (.imul, 1) := by decide +kernel
theorem d_Mo_run_49 : decode c_Mo_run 49 = .ok (.iload_n 2, 1) := by decide +kernel
theorem d_Mo_run_50 : decode c_Mo_run 50 = .ok (.iadd, 1) := by decide +kernel
theorem d_Mo_run_51 : decode c_Mo_run 51 = .ok (.iaload, 1) := by decide +kernel
theorem d_Mo_run_52 : decode c_Mo_run 52 = .ok (.iconst 1, 1) := by decide +kernel
theorem d_Mo_run_53 : decode c_Mo_run 53 = .ok (.if_icmp .ne 16, 3) := by decide +kernel
theorem d_Mo_run_56 : decode c_Mo_run 56 = .ok (.aload_n 0, 1) := by decide +kernel
theorem d_Mo_run_57 : decode c_Mo_run 57 = .ok (.getfield 23, 3) := by decide +kernel
theorem d_Mo_run_60 : decode c_Mo_run 60 = .ok (.iconst 4, 1) := by decide +kernel
theorem d_Mo_run_61 : decode c_Mo_run 61 = .ok (.iload_n 1, 1) := by decide +kernel
theorem d_Mo_run_62 : decode c_Mo_run 62 = .ok (.imul, 1) := by decide +kernel
theorem d_Mo_run_63 : decode c_Mo_run 63 = .ok (.iload_n 2, 1) := by decide +kernel
theorem d_Mo_run_64 : decode c_Mo_run 64 = .ok (.iadd, 1) := by decide +kernel
theorem d_Mo_run_65 : decode c_Mo_run 65 = .ok (.iaload, 1) := by decide +kernel
theorem d_Mo_run_66 : decode c_Mo_run 66 = .ok (.goto 16, 3) := by decide +kernel
theorem d_Mo_run_69 : decode c_Mo_run 69 = .ok (.iload 4, 2) := by decide +kernel
theorem d_Mo_run_71 : decode c_Mo_run 71 = .ok (.aload_n 0, 1) := by decide +kernel
theorem d_Mo_run_72 : decode c_Mo_run 72 = .ok (.getfield 23, 3) := by decide +kernel
theorem d_Mo_run_75 : decode c_Mo_run 75 = .ok (.iconst 4, 1) := by decide +kernel
theorem d_Mo_run_76 : decode c_Mo_run 76 = .ok (.iload_n 1, 1) := by decide +kernel
theorem d_Mo_run_77 : decode c_Mo_run 77 = .ok (.imul, 1) := by decide +kernel
theorem d_Mo_run_78 : decode c_Mo_run 78 = .ok (.iload_n 2, 1) := by decide +kernel
theorem d_Mo_run_79 : decode c_Mo_run 79 = .ok (.iadd, 1) := by decide +kernel
theorem d_Mo_run_80 : decode c_Mo_run 80 = .ok (.iaload, 1) := by decide +kernel
theorem d_Mo_run_81 : decode c_Mo_run 81 = .ok (.iadd, 1) := by decide +kernel
theorem d_Mo_run_82 : decode c_Mo_run 82 = .ok (.iastore, 1) := by decide +kernel
theorem d_Mo_run_83 : decode c_Mo_run 83 = .ok (.aload_n 0, 1) := by decide +kernel
theorem d_Mo_run_84 : decode c_Mo_run 84 = .ok (.aload_n 0, 1) := by decide +kernel
theorem d_Mo_run_85 : decode c_Mo_run 85 = .ok (.getfield 17, 3) := by decide +kernel
theorem d_Mo_run_88 : decode c_Mo_run 88 = .ok (.iconst 4, 1) := by decide +kernel
theorem d_Mo_run_89 : decode c_Mo_run 89 = .ok (.iload_n 1, 1) := by decide +kernel
theorem d_Mo_run_90 : decode c_Mo_run 90 = .ok (.imul, 1) := by decide +kernel
theorem d_Mo_run_91 : decode c_Mo_run 91 = .ok (.iload_n 2, 1) := by decide +kernel
theorem d_Mo_run_92 : decode c_Mo_run 92 = .ok (.iadd, 1) := by decide +kernel
theorem d_Mo_run_93 : decode c_Mo_run 93 = .ok (.iaload, 1) := by decide +kernel
theorem d_Mo_run_94 : decode c_Mo_run 94 = .ok (.iconst 2, 1) := by decide +kernel
theorem d_Mo_run_95 : decode c_Mo_run 95 = .ok (.if_icmp .ne 13, 3) := by decide +kernel
theorem d_Mo_run_98 : decode c_Mo_run 98 = .ok (.aload_n 0, 1) := by decide +kernel
theorem d_Mo_run_99 : decode c_Mo_run 99 = .ok (.getfield 56, 3) := by decide +kernel
theorem d_Mo_run_102 : decode c_Mo_run 102 = .ok (.iload_n 3, 1) := by decide +kernel
theorem d_Mo_run_103 : decode c_Mo_run 103 = .ok (.iaload, 1) := by decide +kernel
theorem d_Mo_run_104 : decode c_Mo_run 104 = .ok (.i2l, 1) := by decide +kernel
theorem d_Mo_run_105 : decode c_Mo_run 105 = .ok (.goto 6, 3) := by decide +kernel
theorem d_Mo_run_108 : decode c_Mo_run 108 = .ok (.iload 4, 2) := by decide +kernel
theorem d_Mo_run_110 : decode c_Mo_run 110 = .ok (.i2l, 1) := by decide +kernel
theorem d_Mo_run_111 : decode c_Mo_run 111 = .ok (.putfield 67, 3) := by decide +kernel
theorem d_Mo_run_114 : decode c_Mo_run 114 = .ok (.return_, 1) := by decide +kernel
theorem d_Mo_hinders_0 : decode c_Mo_hinders 0 = .ok (.iload_n 3, 1) := by decide +kernel
theorem d_Mo_hinders_1 : decode c_Mo_hinders 1 = .ok (.istore 4, 2) := by decide +kernel
theorem d_Mo_hinders_3 : decode c_Mo_hinders 3 = .ok (.iload 4, 2) := by decide +kernel
theorem d_Mo_hinders_5 : decode c_Mo_hinders 5 = .ok (.bipush 12, 2) := by decide +kernel
theorem d_Mo_hinders_7 : decode c_Mo_hinders 7 = .ok (.if_icmp .ge 52, 3) := by decide +kernel
theorem d_Mo_hinders_10 : decode c_Mo_hinders 10 = .ok (.aload_n 0, 1) := by decide +kernel
theorem d_Mo_hinders_11 : decode c_Mo_hinders 11 = .ok (.iload_n 1, 1) := by decide +kernel
theorem d_Mo_hinders_12 : decode c_Mo_hinders 12 = .ok (.iload 4, 2) := by decide +kernel
theorem d_Mo_hinders_14 : decode c_Mo_hinders 14 = .ok (.invokevirtual 71, 3) := by decide +kernel
theorem d_Mo_hinders_17 : decode c_Mo_hinders 17 = .ok (.istore 5, 2) := by decide +kernel
theorem d_Mo_hinders_19 : decode c_Mo_hinders 19 = .ok (.aload_n 0, 1) := by decide +kernel
theorem d_Mo_hinders_20 : decode c_Mo_hinders 20 = .ok (.iload_n 2, 1) := by decide +kernel
theorem d_Mo_hinders_21 : decode c_Mo_hinders 21 = .ok (.iload 4, 2) := by decide +kernel
theorem d_Mo_hinders_23 : decode c_Mo_hinders 23 = .ok (.invokevirtual 71, 3) := by decide +kernel
theorem d_Mo_hinders_26 : decode c_Mo_hinders 26 = .ok (.istore 6, 2) := by decide +kernel
theorem d_Mo_hinders_28 : decode c_Mo_hinders 28 = .ok (.iload 5, 2) := by decide +kernel
theorem d_Mo_hinders_30 : decode c_Mo_hinders 30 = .ok (.iconst 2, 1) := by decide +kernel
theorem d_Mo_hinders_31 : decode c_Mo_hinders 31 = .ok (.if_icmp .ne 8, 3) := by decide +kernel
theorem d_Mo_hinders_34 : decode c_Mo_hinders 34 = .ok (.iload 6, 2) := by decide +kernel
theorem d_Mo_hinders_36 : decode c_Mo_hinders 36 = .ok (.ifCond .gt 15, 3) := by decide +kernel
theorem d_Mo_hinders_39 : decode c_Mo_hinders 39 = .ok (.iload 5, 2) := by decide +kernel
theorem d_Mo_hinders_41 : decode c_Mo_hinders 41 = .ok (.iconst 1, 1) := by decide +kernel
theorem d_Mo_hinders_42 : decode c_Mo_hinders 42 = .ok (.if_icmp .ne 11, 3) := by decide +kernel
theorem d_Mo_hinders_45 : decode c_Mo_hinders 45 = .ok (.iload 6, 2) := by decide +kernel
theorem d_Mo_hinders_47 : decode c_Mo_hinders 47 = .ok (.iconst 2, 1) := by decide +kernel
theorem d_Mo_hinders_48 : decode c_Mo_hinders 48 = .ok (.if_icmp .ne 5, 3) := by decide +kernel
theorem d_Mo_hinders_51 : decode c_Mo_hinders 51 = .ok (.iconst 1, 1) := by decide +kernel
theorem d_Mo_hinders_52 : decode c_Mo_hinders 52 = .ok (.ireturn, 1) := by decide +kernel
theorem d_Mo_hinders_53 : decode c_Mo_hinders 53 = .ok (.iinc 4 3, 3) := by decide +kernel
theorem d_Mo_hinders_56 : decode c_Mo_hinders 56 = .ok (.goto (-53), 3) := by decide +kernel
theorem d_Mo_hinders_59 : decode c_Mo_hinders 59 = .ok (.iconst 0, 1) := by decide +kernel
theorem d_Mo_hinders_60 : decode c_Mo_hinders 60 = .ok (.ireturn, 1) := by decide +kernel
theorem d_Mo_free_0 : decode c_Mo_free 0 = .ok (.iconst 1, 1) := by decide +kernel
theorem d_Mo_free_1 : decode c_Mo_free 1 = .ok (.istore_n 3, 1) := by decide +kernel
theorem d_Mo_free_2 : decode c_Mo_free 2 = .ok (.iload_n 3, 1) := by decide +kernel
theorem d_Mo_free_3 : decode c_Mo_free 3 = .ok (.aload_n 0, 1) := by decide +kernel
theorem d_Mo_free_4 : decode c_Mo_free 4 = .ok (.getfield 59, 3) := by decide +kernel
theorem d_Mo_free_7 : decode c_Mo_free 7 = .ok (.if_icmp .gt 45, 3) := by decide +kernel
theorem d_Mo_free_10 : decode c_Mo_free 10 = .ok (.iload_n 3, 1) := by decide +kernel
theorem d_Mo_free_11 : decode c_Mo_free 11 = .ok (.iload_n 1, 1) := by decide +kernel
theorem d_Mo_free_12 : decode c_Mo_free 12 = .ok (.if_icmp .eq 34, 3) := by decide +kernel
theorem d_Mo_free_15 : decode c_Mo_free 15 = .ok (.aload_n 0, 1) := by decide +kernel
theorem d_Mo_free_16 : decode c_Mo_free 16 = .ok (.getfield 47, 3) := by decide +kernel
theorem d_Mo_free_19 : decode c_Mo_free 19 = .ok (.iload_n 3, 1) := by decide +kernel
theorem d_Mo_free_20 : decode c_Mo_free 20 = .ok (.iaload, 1) := by decide +kernel
theorem d_Mo_free_21 : decode c_Mo_free 21 = .ok (.iconst 1, 1) := by decide +kernel
theorem d_Mo_free_22 : decode c_Mo_free 22 = .ok (.if_icmp .ne 24, 3) := by decide +kernel
theorem d_Mo_free_25 : decode c_Mo_free 25 = .ok (.aload_n 0, 1) := by decide +kernel
theorem d_Mo_free_26 : decode c_Mo_free 26 = .ok (.getfield 50, 3) := by decide +kernel
theorem d_Mo_free_29 : decode c_Mo_free 29 = .ok (.iload_n 3, 1) := by decide +kernel
theorem d_Mo_free_30 : decode c_Mo_free 30 = .ok (.baload, 1) := by decide +kernel
theorem d_Mo_free_31 : decode c_Mo_free 31 = .ok (.ifCond .ne 15, 3) := by decide +kernel
theorem d_Mo_free_34 : decode c_Mo_free 34 = .ok (.aload_n 0, 1) := by decide +kernel
theorem d_Mo_free_35 : decode c_Mo_free 35 = .ok (.iload_n 1, 1) := by decide +kernel
theorem d_Mo_free_36 : decode c_Mo_free 36 = .ok (.iload_n 3, 1) := by decide +kernel
theorem d_Mo_free_37 : decode c_Mo_free 37 = .ok (.iload_n 2, 1) := by decide +kernel
theorem d_Mo_free_38 : decode c_Mo_free 38 = .ok (.invokevirtual 75, 3) := by decide +kernel
theorem d_Mo_free_41 : decode c_Mo_free 41 = .ok (.ifCond .eq 5, 3) := by decide +kernel
theorem d_Mo_free_44 : decode c_Mo_free 44 = .ok (.iconst 0, 1) := by decide +kernel
theorem d_Mo_free_45 : decode c_Mo_free 45 = .ok (.ireturn, 1) := by decide +kernel
theorem d_Mo_free_46 : decode c_Mo_free 46 = .ok (.iinc 3 1, 3) := by decide +kernel
theorem d_Mo_free_49 : decode c_Mo_free 49 = .ok (.goto (-47), 3) := by decide +kernel
theorem d_Mo_free_52 : decode c_Mo_free 52 = .ok (.iconst 1, 1) := by decide +kernel
theorem d_Mo_free_53 : decode c_Mo_free 53 = .ok (.ireturn, 1) := by decide +kernel
theorem d_Mo_execute_0 : decode c_Mo_execute 0 = .ok (.aload_n 0, 1) := by decide +kernel
theorem d_Mo_execute_1 : decode c_Mo_execute 1 = .ok (.getfield 50, 3) := by decide +kernel
theorem d_Mo_execute_4 : decode c_Mo_execute 4 = .ok (.iload_n 3, 1) := by decide +kernel
theorem d_Mo_execute_5 : decode c_Mo_execute 5 = .ok (.baload, 1) := by decide +kernel
theorem d_Mo_execute_6 : decode c_Mo_execute 6 = .ok (.ifCond .eq 4, 3) := by decide +kernel
theorem d_Mo_execute_9 : decode c_Mo_execute 9 = .ok (.return_, 1) := by decide +kernel
theorem d_Mo_execute_10 : decode c_Mo_execute 10 = .ok (.iload_n 2, 1) := by decide +kernel
theorem d_Mo_execute_11 : decode c_Mo_execute 11 = .ok (.iconst 1, 1) := by decide +kernel
theorem d_Mo_execute_12 : decode c_Mo_execute 12 = .ok (.if_icmp .ne 42, 3) := by decide +kernel
theorem d_Mo_execute_15 : decode c_Mo_execute 15 = .ok (.aload_n 0, 1) := by decide +kernel
theorem d_Mo_execute_16 : decode c_Mo_execute 16 = .ok (.getfield 47, 3) := by decide +kernel
theorem d_Mo_execute_19 : decode c_Mo_execute 19 = .ok (.iload_n 3, 1) := by decide +kernel
theorem d_Mo_execute_20 : decode c_Mo_execute 20 = .ok (.aload_n 0, 1) := by decide +kernel
theorem d_Mo_execute_21 : decode c_Mo_execute 21 = .ok (.getfield 47, 3) := by decide +kernel
theorem d_Mo_execute_24 : decode c_Mo_execute 24 = .ok (.iload_n 3, 1) := by decide +kernel
theorem d_Mo_execute_25 : decode c_Mo_execute 25 = .ok (.iaload, 1) := by decide +kernel
theorem d_Mo_execute_26 : decode c_Mo_execute 26 = .ok (.ifCond .eq 12, 3) := by decide +kernel
theorem d_Mo_execute_29 : decode c_Mo_execute 29 = .ok (.aload_n 0, 1) := by decide +kernel
theorem d_Mo_execute_30 : decode c_Mo_execute 30 = .ok (.getfield 47, 3) := by decide +kernel
theorem d_Mo_execute_33 : decode c_Mo_execute 33 = .ok (.iload_n 3, 1) := by decide +kernel
theorem d_Mo_execute_34 : decode c_Mo_execute 34 = .ok (.iaload, 1) := by decide +kernel
theorem d_Mo_execute_35 : decode c_Mo_execute 35 = .ok (.goto 17, 3) := by decide +kernel
theorem d_Mo_execute_38 : decode c_Mo_execute 38 = .ok (.aload_n 0, 1) := by decide +kernel
theorem d_Mo_execute_39 : decode c_Mo_execute 39 = .ok (.iload_n 3, 1) := by decide +kernel
theorem d_Mo_execute_40 : decode c_Mo_execute 40 = .ok (.iload_n 1, 1) := by decide +kernel
theorem d_Mo_execute_41 : decode c_Mo_execute 41 = .ok (.invokevirtual 78, 3) := by decide +kernel
theorem d_Mo_execute_44 : decode c_Mo_execute 44 = .ok (.ifCond .eq 7, 3) := by decide +kernel
theorem d_Mo_execute_47 : decode c_Mo_execute 47 = .ok (.iconst 1, 1) := by decide +kernel
theorem d_Mo_execute_48 : decode c_Mo_execute 48 = .ok (.goto 4, 3) := by decide +kernel
theorem d_Mo_execute_51 : decode c_Mo_execute 51 = .ok (.iconst 2, 1) := by decide +kernel
theorem d_Mo_execute_52 : decode c_Mo_execute 52 = .ok (.iastore, 1) := by decide +kernel
theorem d_Mo_execute_53 : decode c_Mo_execute 53 = .ok (.return_, 1) := by decide +kernel
theorem d_Mo_execute_54 : decode c_Mo_execute 54 = .ok (.aload_n 0, 1) := by decide +kernel
theorem d_Mo_execute_55 : decode c_Mo_execute 55 = .ok (.getfield 50, 3) := by decide +kernel
theorem d_Mo_execute_58 : decode c_Mo_execute 58 = .ok (.iload_n 3, 1) := by decide +kernel
theorem d_Mo_execute_59 : decode c_Mo_execute 59 = .ok (.iconst 1, 1) := by decide +kernel
theorem d_Mo_execute_60 : decode c_Mo_execute 60 = .ok (.bastore, 1) := by decide +kernel
theorem d_Mo_execute_61 : decode c_Mo_execute 61 = .ok (.aload_n 0, 1) := by decide +kernel
theorem d_Mo_execute_62 : decode c_Mo_execute 62 = .ok (.getfield 53, 3) := by decide +kernel
theorem d_Mo_execute_65 : decode c_Mo_execute 65 = .ok (.iload_n 3, 1) := by decide +kernel
theorem d_Mo_execute_66 : decode c_Mo_execute 66 = .ok (.iload_n 2, 1) := by decide +kernel
theorem d_Mo_execute_67 : decode c_Mo_execute 67 = .ok (.iconst 2, 1) := by decide +kernel
theorem d_Mo_execute_68 : decode c_Mo_execute 68 = .ok (.if_icmp .ne 7, 3) := by decide +kernel
theorem d_Mo_execute_71 : decode c_Mo_execute 71 = .ok (.iconst 1, 1) := by decide +kernel
theorem d_Mo_execute_72 : decode c_Mo_execute 72 = .ok (.goto 4, 3) := by decide +kernel
theorem d_Mo_execute_75 : decode c_Mo_execute 75 = .ok (.iconst 2, 1) := by decide +kernel
theorem d_Mo_execute_76 : decode c_Mo_execute 76 = .ok (.iastore, 1) := by decide +kernel
theorem d_Mo_execute_77 : decode c_Mo_execute 77 = .ok (.aload_n 0, 1) := by decide +kernel
theorem d_Mo_execute_78 : decode c_Mo_execute 78 = .ok (.getfield 47, 3) := by decide +kernel
theorem d_Mo_execute_81 : decode c_Mo_execute 81 = .ok (.iload_n 3, 1) := by decide +kernel
theorem d_Mo_execute_82 : decode c_Mo_execute 82 = .ok (.aload_n 0, 1) := by decide +kernel
theorem d_Mo_execute_83 : decode c_Mo_execute 83 = .ok (.getfield 47, 3) := by decide +kernel
theorem d_Mo_execute_86 : decode c_Mo_execute 86 = .ok (.iload_n 3, 1) := by decide +kernel
theorem d_Mo_execute_87 : decode c_Mo_execute 87 = .ok (.iaload, 1) := by decide +kernel
theorem d_Mo_execute_88 : decode c_Mo_execute 88 = .ok (.ifCond .ne 12, 3) := by decide +kernel
theorem d_Mo_execute_91 : decode c_Mo_execute 91 = .ok (.iload_n 2, 1) := by decide +kernel
theorem d_Mo_execute_92 : decode c_Mo_execute 92 = .ok (.iconst 3, 1) := by decide +kernel
theorem d_Mo_execute_93 : decode c_Mo_execute 93 = .ok (.if_icmp .ne 7, 3) := by decide +kernel
theorem d_Mo_execute_96 : decode c_Mo_execute 96 = .ok (.iconst 2, 1) := by decide +kernel
theorem d_Mo_execute_97 : decode c_Mo_execute 97 = .ok (.goto 9, 3) := by decide +kernel
theorem d_Mo_execute_100 : decode c_Mo_execute 100 = .ok (.aload_n 0, 1) := by decide +kernel
theorem d_Mo_execute_101 : decode c_Mo_execute 101 = .ok (.getfield 47, 3) := by decide +kernel
theorem d_Mo_execute_104 : decode c_Mo_execute 104 = .ok (.iload_n 3, 1) := by decide +kernel
theorem d_Mo_execute_105 : decode c_Mo_execute 105 = .ok (.iaload, 1) := by decide +kernel
theorem d_Mo_execute_106 : decode c_Mo_execute 106 = .ok (.iastore, 1) := by decide +kernel
theorem d_Mo_execute_107 : decode c_Mo_execute 107 = .ok (.iconst 0, 1) := by decide +kernel
theorem d_Mo_execute_108 : decode c_Mo_execute 108 = .ok (.istore 4, 2) := by decide +kernel
theorem d_Mo_execute_110 : decode c_Mo_execute 110 = .ok (.iload 4, 2) := by decide +kernel
theorem d_Mo_execute_112 : decode c_Mo_execute 112 = .ok (.aload_n 0, 1) := by decide +kernel
theorem d_Mo_execute_113 : decode c_Mo_execute 113 = .ok (.getfield 7, 3) := by decide +kernel
theorem d_Mo_execute_116 : decode c_Mo_execute 116 = .ok (.iload_n 3, 1) := by decide +kernel
theorem d_Mo_execute_117 : decode c_Mo_execute 117 = .ok (.iaload, 1) := by decide +kernel
theorem d_Mo_execute_118 : decode c_Mo_execute 118 = .ok (.if_icmp .ge 43, 3) := by decide +kernel
theorem d_Mo_execute_121 : decode c_Mo_execute 121 = .ok (.iload_n 2, 1) := by decide +kernel
theorem d_Mo_execute_122 : decode c_Mo_execute 122 = .ok (.iconst 2, 1) := by decide +kernel
theorem d_Mo_execute_123 : decode c_Mo_execute 123 = .ok (.if_icmp .ne 38, 3) := by decide +kernel
theorem d_Mo_execute_126 : decode c_Mo_execute 126 = .ok (.iload_n 1, 1) := by decide +kernel
theorem d_Mo_execute_127 : decode c_Mo_execute 127 = .ok (.iconst 3, 1) := by decide +kernel
theorem d_Mo_execute_128 : decode c_Mo_execute 128 = .ok (.if_icmp .ge 33, 3) := by decide +kernel
theorem d_Mo_execute_131 : decode c_Mo_execute 131 = .ok (.aload_n 0, 1) := by decide +kernel
theorem d_Mo_execute_132 : decode c_Mo_execute 132 = .ok (.getfield 20, 3) := by decide +kernel
theorem d_Mo_execute_135 : decode c_Mo_execute 135 = .ok (.iconst 4, 1) := by decide +kernel
theorem d_Mo_execute_136 : decode c_Mo_execute 136 = .ok (.iload_n 3, 1) := by decide +kernel
theorem d_Mo_execute_137 : decode c_Mo_execute 137 = .ok (.imul, 1) := by decide +kernel
theorem d_Mo_execute_138 : decode c_Mo_execute 138 = .ok (.iload 4, 2) := by decide +kernel
theorem d_Mo_execute_140 : decode c_Mo_execute 140 = .ok (.iadd, 1) := by decide +kernel
theorem d_Mo_execute_141 : decode c_Mo_execute 141 = .ok (.iaload, 1) := by decide +kernel
theorem d_Mo_execute_142 : decode c_Mo_execute 142 = .ok (.iconst 3, 1) := by decide +kernel
theorem d_Mo_execute_143 : decode c_Mo_execute 143 = .ok (.irem, 1) := by decide +kernel
theorem d_Mo_execute_144 : decode c_Mo_execute 144 = .ok (.iload_n 1, 1) := by decide +kernel
theorem d_Mo_execute_145 : decode c_Mo_execute 145 = .ok (.if_icmp .ne 10, 3) := by decide +kernel
theorem d_Mo_execute_148 : decode c_Mo_execute 148 = .ok (.aload_n 0, 1) := by decide +kernel
theorem d_Mo_execute_149 : decode c_Mo_execute 149 = .ok (.iload_n 3, 1) := by decide +kernel
theorem d_Mo_execute_150 : decode c_Mo_execute 150 = .ok (.iload 4, 2) := by decide +kernel
theorem d_Mo_execute_152 : decode c_Mo_execute 152 = .ok (.invokevirtual 82, 3) := by decide +kernel
theorem d_Mo_execute_155 : decode c_Mo_execute 155 = .ok (.iinc 4 1, 3) := by decide +kernel
theorem d_Mo_execute_158 : decode c_Mo_execute 158 = .ok (.goto (-48), 3) := by decide +kernel
theorem d_Mo_execute_161 : decode c_Mo_execute 161 = .ok (.return_, 1) := by decide +kernel
theorem d_Mo_work_0 : decode c_Mo_work 0 = .ok (.iconst 0, 1) := by decide +kernel
theorem d_Mo_work_1 : decode c_Mo_work 1 = .ok (.istore_n 3, 1) := by decide +kernel
theorem d_Mo_work_2 : decode c_Mo_work 2 = .ok (.iload_n 3, 1) := by decide +kernel
theorem d_Mo_work_3 : decode c_Mo_work 3 = .ok (.bipush 20, 2) := by decide +kernel
theorem d_Mo_work_5 : decode c_Mo_work 5 = .ok (.if_icmp .gt 30, 3) := by decide +kernel
theorem d_Mo_work_8 : decode c_Mo_work 8 = .ok (.aload_n 0, 1) := by decide +kernel
theorem d_Mo_work_9 : decode c_Mo_work 9 = .ok (.getfield 47, 3) := by decide +kernel
theorem d_Mo_work_12 : decode c_Mo_work 12 = .ok (.iload_n 3, 1) := by decide +kernel
theorem d_Mo_work_13 : decode c_Mo_work 13 = .ok (.iconst 0, 1) := by decide +kernel
theorem d_Mo_work_14 : decode c_Mo_work 14 = .ok (.iastore, 1) := by decide +kernel
theorem d_Mo_work_15 : decode c_Mo_work 15 = .ok (.aload_n 0, 1) := by decide +kernel
theorem d_Mo_work_16 : decode c_Mo_work 16 = .ok (.getfield 50, 3) := by decide +kernel
theorem d_Mo_work_19 : decode c_Mo_work 19 = .ok (.iload_n 3, 1) := by decide +kernel
theorem d_Mo_work_20 : decode c_Mo_work 20 = .ok (.iconst 0, 1) := by decide +kernel
theorem d_Mo_work_21 : decode c_Mo_work 21 = .ok (.bastore, 1) := by decide +kernel
theorem d_Mo_work_22 : decode c_Mo_work 22 = .ok (.aload_n 0, 1) := by decide +kernel
theorem d_Mo_work_23 : decode c_Mo_work 23 = .ok (.getfield 53, 3) := by decide +kernel
theorem d_Mo_work_26 : decode c_Mo_work 26 = .ok (.iload_n 3, 1) := by decide +kernel
theorem d_Mo_work_27 : decode c_Mo_work 27 = .ok (.iconst 0, 1) := by decide +kernel
theorem d_Mo_work_28 : decode c_Mo_work 28 = .ok (.iastore, 1) := by decide +kernel
theorem d_Mo_work_29 : decode c_Mo_work 29 = .ok (.iinc 3 1, 3) := by decide +kernel
theorem d_Mo_work_32 : decode c_Mo_work 32 = .ok (.goto (-30), 3) := by decide +kernel
theorem d_Mo_work_35 : decode c_Mo_work 35 = .ok (.iconst 0, 1) := by decide +kernel
theorem d_Mo_work_36 : decode c_Mo_work 36 = .ok (.istore_n 3, 1) := by decide +kernel
theorem d_Mo_work_37 : decode c_Mo_work 37 = .ok (.iload_n 3, 1) := by decide +kernel
theorem d_Mo_work_38 : decode c_Mo_work 38 = .ok (.bipush 12, 2) := by decide +kernel
theorem d_Mo_work_40 : decode c_Mo_work 40 = .ok (.if_icmp .ge 16, 3) := by decide +kernel
theorem d_Mo_work_43 : decode c_Mo_work 43 = .ok (.aload_n 0, 1) := by decide +kernel
theorem d_Mo_work_44 : decode c_Mo_work 44 = .ok (.getfield 56, 3) := by decide +kernel
theorem d_Mo_work_47 : decode c_Mo_work 47 = .ok (.iload_n 3, 1) := by decide +kernel
theorem d_Mo_work_48 : decode c_Mo_work 48 = .ok (.iconst 0, 1) := by decide +kernel
theorem d_Mo_work_49 : decode c_Mo_work 49 = .ok (.iastore, 1) := by decide +kernel
theorem d_Mo_work_50 : decode c_Mo_work 50 = .ok (.iinc 3 1, 3) := by decide +kernel
theorem d_Mo_work_53 : decode c_Mo_work 53 = .ok (.goto (-16), 3) := by decide +kernel
theorem d_Mo_work_56 : decode c_Mo_work 56 = .ok (.iconst 3, 1) := by decide +kernel
theorem d_Mo_work_57 : decode c_Mo_work 57 = .ok (.iload_n 1, 1) := by decide +kernel
theorem d_Mo_work_58 : decode c_Mo_work 58 = .ok (.imul, 1) := by decide +kernel
theorem d_Mo_work_59 : decode c_Mo_work 59 = .ok (.iload_n 2, 1) := by decide +kernel
theorem d_Mo_work_60 : decode c_Mo_work 60 = .ok (.iadd, 1) := by decide +kernel
theorem d_Mo_work_61 : decode c_Mo_work 61 = .ok (.istore_n 3, 1) := by decide +kernel
theorem d_Mo_work_62 : decode c_Mo_work 62 = .ok (.iconst 0, 1) := by decide +kernel
theorem d_Mo_work_63 : decode c_Mo_work 63 = .ok (.istore 4, 2) := by decide +kernel
theorem d_Mo_work_65 : decode c_Mo_work 65 = .ok (.iload 4, 2) := by decide +kernel
theorem d_Mo_work_67 : decode c_Mo_work 67 = .ok (.aload_n 0, 1) := by decide +kernel
theorem d_Mo_work_68 : decode c_Mo_work 68 = .ok (.getfield 35, 3) := by decide +kernel
theorem d_Mo_work_71 : decode c_Mo_work 71 = .ok (.iload_n 3, 1) := by decide +kernel
theorem d_Mo_work_72 : decode c_Mo_work 72 = .ok (.iaload, 1) := by decide +kernel
theorem d_Mo_work_73 : decode c_Mo_work 73 = .ok (.if_icmp .ge 38, 3) := by decide +kernel
theorem d_Mo_work_76 : decode c_Mo_work 76 = .ok (.aload_n 0, 1) := by decide +kernel
theorem d_Mo_work_77 : decode c_Mo_work 77 = .ok (.getfield 38, 3) := by decide +kernel
theorem d_Mo_work_80 : decode c_Mo_work 80 = .ok (.bipush 60, 2) := by decide +kernel
theorem d_Mo_work_82 : decode c_Mo_work 82 = .ok (.iload_n 3, 1) := by decide +kernel
theorem d_Mo_work_83 : decode c_Mo_work 83 = .ok (.imul, 1) := by decide +kernel
theorem d_Mo_work_84 : decode c_Mo_work 84 = .ok (.iload 4, 2) := by decide +kernel
theorem d_Mo_work_86 : decode c_Mo_work 86 = .ok (.iadd, 1) := by decide +kernel
theorem d_Mo_work_87 : decode c_Mo_work 87 = .ok (.iaload, 1) := by decide +kernel
theorem d_Mo_work_88 : decode c_Mo_work 88 = .ok (.istore 5, 2) := by decide +kernel
theorem d_Mo_work_90 : decode c_Mo_work 90 = .ok (.aload_n 0, 1) := by decide +kernel
theorem d_Mo_work_91 : decode c_Mo_work 91 = .ok (.iload_n 1, 1) := by decide +kernel
theorem d_Mo_work_92 : decode c_Mo_work 92 = .ok (.iload 5, 2) := by decide +kernel
theorem d_Mo_work_94 : decode c_Mo_work 94 = .ok (.bipush 32, 2) := by decide +kernel
theorem d_Mo_work_96 : decode c_Mo_work 96 = .ok (.idiv, 1) := by decide +kernel
theorem d_Mo_work_97 : decode c_Mo_work 97 = .ok (.iload 5, 2) := by decide +kernel
theorem d_Mo_work_99 : decode c_Mo_work 99 = .ok (.bipush 32, 2) := by decide +kernel
theorem d_Mo_work_101 : decode c_Mo_work 101 = .ok (.irem, 1) := by decide +kernel
theorem d_Mo_work_102 : decode c_Mo_work 102 = .ok (.invokevirtual 86, 3) := by decide +kernel
theorem d_Mo_work_105 : decode c_Mo_work 105 = .ok (.iinc 4 1, 3) := by decide +kernel
theorem d_Mo_work_108 : decode c_Mo_work 108 = .ok (.goto (-43), 3) := by decide +kernel
theorem d_Mo_work_111 : decode c_Mo_work 111 = .ok (.return_, 1) := by decide +kernel
theorem d_Mo_top_0 : decode c_Mo_top 0 = .ok (.iconst (-1), 1) := by decide +kernel
theorem d_Mo_top_1 : decode c_Mo_top 1 = .ok (.istore_n 2, 1) := by decide +kernel
theorem d_Mo_top_2 : decode c_Mo_top 2 = .ok (.iconst 0, 1) := by decide +kernel
theorem d_Mo_top_3 : decode c_Mo_top 3 = .ok (.istore_n 3, 1) := by decide +kernel
theorem d_Mo_top_4 : decode c_Mo_top 4 = .ok (.iload_n 3, 1) := by decide +kernel
theorem d_Mo_top_5 : decode c_Mo_top 5 = .ok (.iconst 3, 1) := by decide +kernel
theorem d_Mo_top_6 : decode c_Mo_top 6 = .ok (.if_icmp .ge 51, 3) := by decide +kernel
theorem d_Mo_top_9 : decode c_Mo_top 9 = .ok (.aload_n 0, 1) := by decide +kernel
theorem d_Mo_top_10 : decode c_Mo_top 10 = .ok (.getfield 26, 3) := by decide +kernel
theorem d_Mo_top_13 : decode c_Mo_top 13 = .ok (.iconst 3, 1) := by decide +kernel
theorem d_Mo_top_14 : decode c_Mo_top 14 = .ok (.iload_n 1, 1) := by decide +kernel
theorem d_Mo_top_15 : decode c_Mo_top 15 = .ok (.imul, 1) := by decide +kernel
theorem d_Mo_top_16 : decode c_Mo_top 16 = .ok (.iload_n 3, 1) := by decide +kernel
theorem d_Mo_top_17 : decode c_Mo_top 17 = .ok (.iadd, 1) := by decide +kernel
theorem d_Mo_top_18 : decode c_Mo_top 18 = .ok (.baload, 1) := by decide +kernel
theorem d_Mo_top_19 : decode c_Mo_top 19 = .ok (.ifCond .ne 30, 3) := by decide +kernel
theorem d_Mo_top_22 : decode c_Mo_top 22 = .ok (.aload_n 0, 1) := by decide +kernel
theorem d_Mo_top_23 : decode c_Mo_top 23 = .ok (.getfield 29, 3) := by decide +kernel
theorem d_Mo_top_26 : decode c_Mo_top 26 = .ok (.iconst 3, 1) := by decide +kernel
theorem d_Mo_top_27 : decode c_Mo_top 27 = .ok (.iload_n 1, 1) := by decide +kernel
theorem d_Mo_top_28 : decode c_Mo_top 28 = .ok (.imul, 1) := by decide +kernel
theorem d_Mo_top_29 : decode c_Mo_top 29 = .ok (.iload_n 3, 1) := by decide +kernel
theorem d_Mo_top_30 : decode c_Mo_top 30 = .ok (.iadd, 1) := by decide +kernel
theorem d_Mo_top_31 : decode c_Mo_top 31 = .ok (.iaload, 1) := by decide +kernel
theorem d_Mo_top_32 : decode c_Mo_top 32 = .ok (.iload_n 2, 1) := by decide +kernel
theorem d_Mo_top_33 : decode c_Mo_top 33 = .ok (.if_icmp .le 16, 3) := by decide +kernel
theorem d_Mo_top_36 : decode c_Mo_top 36 = .ok (.aload_n 0, 1) := by decide +kernel
theorem d_Mo_top_37 : decode c_Mo_top 37 = .ok (.getfield 29, 3) := by decide +kernel
theorem d_Mo_top_40 : decode c_Mo_top 40 = .ok (.iconst 3, 1) := by decide +kernel
theorem d_Mo_top_41 : decode c_Mo_top 41 = .ok (.iload_n 1, 1) := by decide +kernel
theorem d_Mo_top_42 : decode c_Mo_top 42 = .ok (.imul, 1) := by decide +kernel
theorem d_Mo_top_43 : decode c_Mo_top 43 = .ok (.iload_n 3, 1) := by decide +kernel
theorem d_Mo_top_44 : decode c_Mo_top 44 = .ok (.iadd, 1) := by decide +kernel
theorem d_Mo_top_45 : decode c_Mo_top 45 = .ok (.iaload, 1) := by decide +kernel
theorem d_Mo_top_46 : decode c_Mo_top 46 = .ok (.goto 4, 3) := by decide +kernel
theorem d_Mo_top_49 : decode c_Mo_top 49 = .ok (.iload_n 2, 1) := by decide +kernel
theorem d_Mo_top_50 : decode c_Mo_top 50 = .ok (.istore_n 2, 1) := by decide +kernel
theorem d_Mo_top_51 : decode c_Mo_top 51 = .ok (.iinc 3 1, 3) := by decide +kernel
theorem d_Mo_top_54 : decode c_Mo_top 54 = .ok (.goto (-50), 3) := by decide +kernel
theorem d_Mo_top_57 : decode c_Mo_top 57 = .ok (.iload_n 2, 1) := by decide +kernel
theorem d_Mo_top_58 : decode c_Mo_top 58 = .ok (.ireturn, 1) := by decide +kernel
theorem d_Mo_living_0 : decode c_Mo_living 0 = .ok (.iconst 0, 1) := by decide +kernel
theorem d_Mo_living_1 : decode c_Mo_living 1 = .ok (.istore_n 2, 1) := by decide +kernel
theorem d_Mo_living_2 : decode c_Mo_living 2 = .ok (.iconst 0, 1) := by decide +kernel
theorem d_Mo_living_3 : decode c_Mo_living 3 = .ok (.istore_n 3, 1) := by decide +kernel
theorem d_Mo_living_4 : decode c_Mo_living 4 = .ok (.iload_n 3, 1) := by decide +kernel
theorem d_Mo_living_5 : decode c_Mo_living 5 = .ok (.iconst 3, 1) := by decide +kernel
theorem d_Mo_living_6 : decode c_Mo_living 6 = .ok (.if_icmp .ge 30, 3) := by decide +kernel
theorem d_Mo_living_9 : decode c_Mo_living 9 = .ok (.iload_n 2, 1) := by decide +kernel
theorem d_Mo_living_10 : decode c_Mo_living 10 = .ok (.aload_n 0, 1) := by decide +kernel
theorem d_Mo_living_11 : decode c_Mo_living 11 = .ok (.getfield 26, 3) := by decide +kernel
theorem d_Mo_living_14 : decode c_Mo_living 14 = .ok (.iconst 3, 1) := by decide +kernel
theorem d_Mo_living_15 : decode c_Mo_living 15 = .ok (.iload_n 1, 1) := by decide +kernel
theorem d_Mo_living_16 : decode c_Mo_living 16 = .ok (.imul, 1) := by decide +kernel
theorem d_Mo_living_17 : decode c_Mo_living 17 = .ok (.iload_n 3, 1) := by decide +kernel
theorem d_Mo_living_18 : decode c_Mo_living 18 = .ok (.iadd, 1) := by decide +kernel
theorem d_Mo_living_19 : decode c_Mo_living 19 = .ok (.baload, 1) := by decide +kernel
theorem d_Mo_living_20 : decode c_Mo_living 20 = .ok (.ifCond .eq 7, 3) := by decide +kernel
theorem d_Mo_living_23 : decode c_Mo_living 23 = .ok (.iconst 0, 1) := by decide +kernel
theorem d_Mo_living_24 : decode c_Mo_living 24 = .ok (.goto 4, 3) := by decide +kernel
theorem d_Mo_living_27 : decode c_Mo_living 27 = .ok (.iconst 1, 1) := by decide +kernel
theorem d_Mo_living_28 : decode c_Mo_living 28 = .ok (.iadd, 1) := by decide +kernel
theorem d_Mo_living_29 : decode c_Mo_living 29 = .ok (.istore_n 2, 1) := by decide +kernel
theorem d_Mo_living_30 : decode c_Mo_living 30 = .ok (.iinc 3 1, 3) := by decide +kernel
theorem d_Mo_living_33 : decode c_Mo_living 33 = .ok (.goto (-29), 3) := by decide +kernel
theorem d_Mo_living_36 : decode c_Mo_living 36 = .ok (.iload_n 2, 1) := by decide +kernel
theorem d_Mo_living_37 : decode c_Mo_living 37 = .ok (.ireturn, 1) := by decide +kernel
theorem d_Mo_leader_0 : decode c_Mo_leader 0 = .ok (.iload_n 1, 1) := by decide +kernel
theorem d_Mo_leader_1 : decode c_Mo_leader 1 = .ok (.iconst 0, 1) := by decide +kernel
theorem d_Mo_leader_2 : decode c_Mo_leader 2 = .ok (.iconst 3, 1) := by decide +kernel
theorem d_Mo_leader_3 : decode c_Mo_leader 3 = .ok (.invokestatic 63, 3) := by decide +kernel
theorem d_Mo_leader_6 : decode c_Mo_leader 6 = .ok (.ifCond .ne 5, 3) := by decide +kernel
theorem d_Mo_leader_9 : decode c_Mo_leader 9 = .ok (.iconst (-1), 1) := by decide +kernel
theorem d_Mo_leader_10 : decode c_Mo_leader 10 = .ok (.ireturn, 1) := by decide +kernel
theorem d_Mo_leader_11 : decode c_Mo_leader 11 = .ok (.aload_n 0, 1) := by decide +kernel
theorem d_Mo_leader_12 : decode c_Mo_leader 12 = .ok (.iload_n 1, 1) := by decide +kernel
theorem d_Mo_leader_13 : decode c_Mo_leader 13 = .ok (.invokevirtual 90, 3) := by decide +kernel
theorem d_Mo_leader_16 : decode c_Mo_leader 16 = .ok (.istore_n 2, 1) := by decide +kernel
theorem d_Mo_leader_17 : decode c_Mo_leader 17 = .ok (.iload_n 2, 1) := by decide +kernel
theorem d_Mo_leader_18 : decode c_Mo_leader 18 = .ok (.ifCond .lt 18, 3) := by decide +kernel
theorem d_Mo_leader_21 : decode c_Mo_leader 21 = .ok (.aload_n 0, 1) := by decide +kernel
theorem d_Mo_leader_22 : decode c_Mo_leader 22 = .ok (.getfield 26, 3) := by decide +kernel
theorem d_Mo_leader_25 : decode c_Mo_leader 25 = .ok (.iconst 3, 1) := by decide +kernel
theorem d_Mo_leader_26 : decode c_Mo_leader 26 = .ok (.iload_n 1, 1) := by decide +kernel
theorem d_Mo_leader_27 : decode c_Mo_leader 27 = .ok (.imul, 1) := by decide +kernel
theorem d_Mo_leader_28 : decode c_Mo_leader 28 = .ok (.iload_n 2, 1) := by decide +kernel
theorem d_Mo_leader_29 : decode c_Mo_leader 29 = .ok (.iconst 3, 1) := by decide +kernel
theorem d_Mo_leader_30 : decode c_Mo_leader 30 = .ok (.irem, 1) := by decide +kernel
theorem d_Mo_leader_31 : decode c_Mo_leader 31 = .ok (.iadd, 1) := by decide +kernel
theorem d_Mo_leader_32 : decode c_Mo_leader 32 = .ok (.baload, 1) := by decide +kernel
theorem d_Mo_leader_33 : decode c_Mo_leader 33 = .ok (.ifCond .eq 7, 3) := by decide +kernel
theorem d_Mo_leader_36 : decode c_Mo_leader 36 = .ok (.iconst (-1), 1) := by decide +kernel
theorem d_Mo_leader_37 : decode c_Mo_leader 37 = .ok (.goto 6, 3) := by decide +kernel
theorem d_Mo_leader_40 : decode c_Mo_leader 40 = .ok (.iload_n 2, 1) := by decide +kernel
theorem d_Mo_leader_41 : decode c_Mo_leader 41 = .ok (.iconst 3, 1) := by decide +kernel
theorem d_Mo_leader_42 : decode c_Mo_leader 42 = .ok (.irem, 1) := by decide +kernel
theorem d_Mo_leader_43 : decode c_Mo_leader 43 = .ok (.ireturn, 1) := by decide +kernel
theorem d_Mo_spread_0 : decode c_Mo_spread 0 = .ok (.iconst 3, 1) := by decide +kernel
theorem d_Mo_spread_1 : decode c_Mo_spread 1 = .ok (.iload_n 1, 1) := by decide +kernel
theorem d_Mo_spread_2 : decode c_Mo_spread 2 = .ok (.imul, 1) := by decide +kernel
theorem d_Mo_spread_3 : decode c_Mo_spread 3 = .ok (.iload_n 2, 1) := by decide +kernel
theorem d_Mo_spread_4 : decode c_Mo_spread 4 = .ok (.iadd, 1) := by decide +kernel
theorem d_Mo_spread_5 : decode c_Mo_spread 5 = .ok (.istore 4, 2) := by decide +kernel
theorem d_Mo_spread_7 : decode c_Mo_spread 7 = .ok (.aload_n 0, 1) := by decide +kernel
theorem d_Mo_spread_8 : decode c_Mo_spread 8 = .ok (.iload_n 1, 1) := by decide +kernel
theorem d_Mo_spread_9 : decode c_Mo_spread 9 = .ok (.invokevirtual 94, 3) := by decide +kernel
theorem d_Mo_spread_12 : decode c_Mo_spread 12 = .ok (.iconst 2, 1) := by decide +kernel
theorem d_Mo_spread_13 : decode c_Mo_spread 13 = .ok (.if_icmp .lt 7, 3) := by decide +kernel
theorem d_Mo_spread_16 : decode c_Mo_spread 16 = .ok (.iconst 1, 1) := by decide +kernel
theorem d_Mo_spread_17 : decode c_Mo_spread 17 = .ok (.goto 4, 3) := by decide +kernel
theorem d_Mo_spread_20 : decode c_Mo_spread 20 = .ok (.iconst 0, 1) := by decide +kernel
theorem d_Mo_spread_21 : decode c_Mo_spread 21 = .ok (.istore 5, 2) := by decide +kernel
theorem d_Mo_spread_23 : decode c_Mo_spread 23 = .ok (.iconst 0, 1) := by decide +kernel
theorem d_Mo_spread_24 : decode c_Mo_spread 24 = .ok (.istore 6, 2) := by decide +kernel
theorem d_Mo_spread_26 : decode c_Mo_spread 26 = .ok (.iload 6, 2) := by decide +kernel
theorem d_Mo_spread_28 : decode c_Mo_spread 28 = .ok (.iconst 3, 1) := by decide +kernel
theorem d_Mo_spread_29 : decode c_Mo_spread 29 = .ok (.if_icmp .ge 125, 3) := by decide +kernel
theorem d_Mo_spread_32 : decode c_Mo_spread 32 = .ok (.iconst 3, 1) := by decide +kernel
theorem d_Mo_spread_33 : decode c_Mo_spread 33 = .ok (.iload_n 1, 1) := by decide +kernel
theorem d_Mo_spread_34 : decode c_Mo_spread 34 = .ok (.imul, 1) := by decide +kernel
theorem d_Mo_spread_35 : decode c_Mo_spread 35 = .ok (.iload 6, 2) := by decide +kernel
theorem d_Mo_spread_37 : decode c_Mo_spread 37 = .ok (.iadd, 1) := by decide +kernel
theorem d_Mo_spread_38 : decode c_Mo_spread 38 = .ok (.istore 7, 2) := by decide +kernel
theorem d_Mo_spread_40 : decode c_Mo_spread 40 = .ok (.aload_n 0, 1) := by decide +kernel
theorem d_Mo_spread_41 : decode c_Mo_spread 41 = .ok (.getfield 26, 3) := by decide +kernel
theorem d_Mo_spread_44 : decode c_Mo_spread 44 = .ok (.iload 7, 2) := by decide +kernel
theorem d_Mo_spread_46 : decode c_Mo_spread 46 = .ok (.baload, 1) := by decide +kernel
theorem d_Mo_spread_47 : decode c_Mo_spread 47 = .ok (.ifCond .ne 101, 3) := by decide +kernel
theorem d_Mo_spread_50 : decode c_Mo_spread 50 = .ok (.aload_n 0, 1) := by decide +kernel
theorem d_Mo_spread_51 : decode c_Mo_spread 51 = .ok (.getfield 29, 3) := by decide +kernel
theorem d_Mo_spread_54 : decode c_Mo_spread 54 = .ok (.iload 7, 2) := by decide +kernel
theorem d_Mo_spread_56 : decode c_Mo_spread 56 = .ok (.iload_n 3, 1) := by decide +kernel
theorem d_Mo_spread_57 : decode c_Mo_spread 57 = .ok (.iastore, 1) := by decide +kernel
theorem d_Mo_spread_58 : decode c_Mo_spread 58 = .ok (.iconst 0, 1) := by decide +kernel
theorem d_Mo_spread_59 : decode c_Mo_spread 59 = .ok (.istore 8, 2) := by decide +kernel
theorem d_Mo_spread_61 : decode c_Mo_spread 61 = .ok (.iload 8, 2) := by decide +kernel
theorem d_Mo_spread_63 : decode c_Mo_spread 63 = .ok (.aload_n 0, 1) := by decide +kernel
theorem d_Mo_spread_64 : decode c_Mo_spread 64 = .ok (.getfield 32, 3) := by decide +kernel
theorem d_Mo_spread_67 : decode c_Mo_spread 67 = .ok (.iload 4, 2) := by decide +kernel
theorem d_Mo_spread_69 : decode c_Mo_spread 69 = .ok (.iaload, 1) := by decide +kernel
theorem d_Mo_spread_70 : decode c_Mo_spread 70 = .ok (.if_icmp .ge 35, 3) := by decide +kernel
theorem d_Mo_spread_73 : decode c_Mo_spread 73 = .ok (.aload_n 0, 1) := by decide +kernel
theorem d_Mo_spread_74 : decode c_Mo_spread 74 = .ok (.getfield 38, 3) := by decide +kernel
theorem d_Mo_spread_77 : decode c_Mo_spread 77 = .ok (.bipush 60, 2) := by decide +kernel
theorem d_Mo_spread_79 : decode c_Mo_spread 79 = .ok (.iload 7, 2) := by decide +kernel
theorem d_Mo_spread_81 : decode c_Mo_spread 81 = .ok (.imul, 1) := by decide +kernel
theorem d_Mo_spread_82 : decode c_Mo_spread 82 = .ok (.iload 8, 2) := by decide +kernel
theorem d_Mo_spread_84 : decode c_Mo_spread 84 = .ok (.iadd, 1) := by decide +kernel
theorem d_Mo_spread_85 : decode c_Mo_spread 85 = .ok (.aload_n 0, 1) := by decide +kernel
theorem d_Mo_spread_86 : decode c_Mo_spread 86 = .ok (.getfield 38, 3) := by decide +kernel
theorem d_Mo_spread_89 : decode c_Mo_spread 89 = .ok (.bipush 60, 2) := by decide +kernel
theorem d_Mo_spread_91 : decode c_Mo_spread 91 = .ok (.iload 4, 2) := by decide +kernel
theorem d_Mo_spread_93 : decode c_Mo_spread 93 = .ok (.imul, 1) := by decide +kernel
theorem d_Mo_spread_94 : decode c_Mo_spread 94 = .ok (.iload 8, 2) := by decide +kernel
theorem d_Mo_spread_96 : decode c_Mo_spread 96 = .ok (.iadd, 1) := by decide +kernel
theorem d_Mo_spread_97 : decode c_Mo_spread 97 = .ok (.iaload, 1) := by decide +kernel
theorem d_Mo_spread_98 : decode c_Mo_spread 98 = .ok (.iastore, 1) := by decide +kernel
theorem d_Mo_spread_99 : decode c_Mo_spread 99 = .ok (.iinc 8 1, 3) := by decide +kernel
theorem d_Mo_spread_102 : decode c_Mo_spread 102 = .ok (.goto (-41), 3) := by decide +kernel
theorem d_Mo_spread_105 : decode c_Mo_spread 105 = .ok (.aload_n 0, 1) := by decide +kernel
theorem d_Mo_spread_106 : decode c_Mo_spread 106 = .ok (.getfield 32, 3) := by decide +kernel
theorem d_Mo_spread_109 : decode c_Mo_spread 109 = .ok (.iload 7, 2) := by decide +kernel
theorem d_Mo_spread_111 : decode c_Mo_spread 111 = .ok (.aload_n 0, 1) := by decide +kernel
theorem d_Mo_spread_112 : decode c_Mo_spread 112 = .ok (.getfield 32, 3) := by decide +kernel
theorem d_Mo_spread_115 : decode c_Mo_spread 115 = .ok (.iload 4, 2) := by decide +kernel
theorem d_Mo_spread_117 : decode c_Mo_spread 117 = .ok (.iaload, 1) := by decide +kernel
theorem d_Mo_spread_118 : decode c_Mo_spread 118 = .ok (.iastore, 1) := by decide +kernel
theorem d_Mo_spread_119 : decode c_Mo_spread 119 = .ok (.aload_n 0, 1) := by decide +kernel
theorem d_Mo_spread_120 : decode c_Mo_spread 120 = .ok (.getfield 35, 3) := by decide +kernel
theorem d_Mo_spread_123 : decode c_Mo_spread 123 = .ok (.iload 7, 2) := by decide +kernel
theorem d_Mo_spread_125 : decode c_Mo_spread 125 = .ok (.iload 5, 2) := by decide +kernel
theorem d_Mo_spread_127 : decode c_Mo_spread 127 = .ok (.ifCond .eq 13, 3) := by decide +kernel
theorem d_Mo_spread_130 : decode c_Mo_spread 130 = .ok (.aload_n 0, 1) := by decide +kernel
theorem d_Mo_spread_131 : decode c_Mo_spread 131 = .ok (.getfield 32, 3) := by decide +kernel
theorem d_Mo_spread_134 : decode c_Mo_spread 134 = .ok (.iload 7, 2) := by decide +kernel
theorem d_Mo_spread_136 : decode c_Mo_spread 136 = .ok (.iaload, 1) := by decide +kernel
theorem d_Mo_spread_137 : decode c_Mo_spread 137 = .ok (.goto 10, 3) := by decide +kernel
theorem d_Mo_spread_140 : decode c_Mo_spread 140 = .ok (.aload_n 0, 1) := by decide +kernel
theorem d_Mo_spread_141 : decode c_Mo_spread 141 = .ok (.getfield 35, 3) := by decide +kernel
theorem d_Mo_spread_144 : decode c_Mo_spread 144 = .ok (.iload 7, 2) := by decide +kernel
theorem d_Mo_spread_146 : decode c_Mo_spread 146 = .ok (.iaload, 1) := by decide +kernel
theorem d_Mo_spread_147 : decode c_Mo_spread 147 = .ok (.iastore, 1) := by decide +kernel
theorem d_Mo_spread_148 : decode c_Mo_spread 148 = .ok (.iinc 6 1, 3) := by decide +kernel
theorem d_Mo_spread_151 : decode c_Mo_spread 151 = .ok (.goto (-125), 3) := by decide +kernel
theorem d_Mo_spread_154 : decode c_Mo_spread 154 = .ok (.return_, 1) := by decide +kernel
theorem d_Mo_append_0 : decode c_Mo_append 0 = .ok (.aload_n 0, 1) := by decide +kernel
theorem d_Mo_append_1 : decode c_Mo_append 1 = .ok (.iload_n 1, 1) := by decide +kernel
theorem d_Mo_append_2 : decode c_Mo_append 2 = .ok (.invokevirtual 97, 3) := by decide +kernel
theorem d_Mo_append_5 : decode c_Mo_append 5 = .ok (.istore 4, 2) := by decide +kernel
theorem d_Mo_append_7 : decode c_Mo_append 7 = .ok (.iload 4, 2) := by decide +kernel
theorem d_Mo_append_9 : decode c_Mo_append 9 = .ok (.ifCond .ge 6, 3) := by decide +kernel
theorem d_Mo_append_12 : decode c_Mo_append 12 = .ok (.bipush (-3), 2) := by decide +kernel
theorem d_Mo_append_14 : decode c_Mo_append 14 = .ok (.ireturn, 1) := by decide +kernel
theorem d_Mo_append_15 : decode c_Mo_append 15 = .ok (.iconst 3, 1) := by decide +kernel
theorem d_Mo_append_16 : decode c_Mo_append 16 = .ok (.iload_n 1, 1) := by decide +kernel
theorem d_Mo_append_17 : decode c_Mo_append 17 = .ok (.imul, 1) := by decide +kernel
theorem d_Mo_append_18 : decode c_Mo_append 18 = .ok (.iload 4, 2) := by decide +kernel
theorem d_Mo_append_20 : decode c_Mo_append 20 = .ok (.iadd, 1) := by decide +kernel
theorem d_Mo_append_21 : decode c_Mo_append 21 = .ok (.istore 5, 2) := by decide +kernel
theorem d_Mo_append_23 : decode c_Mo_append 23 = .ok (.aload_n 0, 1) := by decide +kernel
theorem d_Mo_append_24 : decode c_Mo_append 24 = .ok (.getfield 32, 3) := by decide +kernel
theorem d_Mo_append_27 : decode c_Mo_append 27 = .ok (.iload 5, 2) := by decide +kernel
theorem d_Mo_append_29 : decode c_Mo_append 29 = .ok (.iaload, 1) := by decide +kernel
theorem d_Mo_append_30 : decode c_Mo_append 30 = .ok (.bipush 60, 2) := by decide +kernel
theorem d_Mo_append_32 : decode c_Mo_append 32 = .ok (.if_icmp .lt 6, 3) := by decide +kernel
theorem d_Mo_append_35 : decode c_Mo_append 35 = .ok (.bipush (-4), 2) := by decide +kernel
theorem d_Mo_append_37 : decode c_Mo_append 37 = .ok (.ireturn, 1) := by decide +kernel
theorem d_Mo_append_38 : decode c_Mo_append 38 = .ok (.aload_n 0, 1) := by decide +kernel
theorem d_Mo_append_39 : decode c_Mo_append 39 = .ok (.getfield 38, 3) := by decide +kernel
theorem d_Mo_append_42 : decode c_Mo_append 42 = .ok (.bipush 60, 2) := by decide +kernel
theorem d_Mo_append_44 : decode c_Mo_append 44 = .ok (.iload 5, 2) := by decide +kernel
theorem d_Mo_append_46 : decode c_Mo_append 46 = .ok (.imul, 1) := by decide +kernel
theorem d_Mo_append_47 : decode c_Mo_append 47 = .ok (.aload_n 0, 1) := by decide +kernel
theorem d_Mo_append_48 : decode c_Mo_append 48 = .ok (.getfield 32, 3) := by decide +kernel
theorem d_Mo_append_51 : decode c_Mo_append 51 = .ok (.iload 5, 2) := by decide +kernel
theorem d_Mo_append_53 : decode c_Mo_append 53 = .ok (.iaload, 1) := by decide +kernel
theorem d_Mo_append_54 : decode c_Mo_append 54 = .ok (.iadd, 1) := by decide +kernel
theorem d_Mo_append_55 : decode c_Mo_append 55 = .ok (.bipush 32, 2) := by decide +kernel
theorem d_Mo_append_57 : decode c_Mo_append 57 = .ok (.iload_n 2, 1) := by decide +kernel
theorem d_Mo_append_58 : decode c_Mo_append 58 = .ok (.imul, 1) := by decide +kernel
theorem d_Mo_append_59 : decode c_Mo_append 59 = .ok (.iload_n 3, 1) := by decide +kernel
theorem d_Mo_append_60 : decode c_Mo_append 60 = .ok (.iadd, 1) := by decide +kernel
theorem d_Mo_append_61 : decode c_Mo_append 61 = .ok (.iastore, 1) := by decide +kernel
theorem d_Mo_append_62 : decode c_Mo_append 62 = .ok (.aload_n 0, 1) := by decide +kernel
theorem d_Mo_append_63 : decode c_Mo_append 63 = .ok (.getfield 32, 3) := by decide +kernel
theorem d_Mo_append_66 : decode c_Mo_append 66 = .ok (.iload 5, 2) := by decide +kernel
theorem d_Mo_append_68 : decode c_Mo_append 68 = .ok (.dup2, 1) := by decide +kernel
theorem d_Mo_append_69 : decode c_Mo_append 69 = .ok (.iaload, 1) := by decide +kernel
theorem d_Mo_append_70 : decode c_Mo_append 70 = .ok (.iconst 1, 1) := by decide +kernel
theorem d_Mo_append_71 : decode c_Mo_append 71 = .ok (.iadd, 1) := by decide +kernel
theorem d_Mo_append_72 : decode c_Mo_append 72 = .ok (.iastore, 1) := by decide +kernel
theorem d_Mo_append_73 : decode c_Mo_append 73 = .ok (.aload_n 0, 1) := by decide +kernel
theorem d_Mo_append_74 : decode c_Mo_append 74 = .ok (.iload_n 1, 1) := by decide +kernel
theorem d_Mo_append_75 : decode c_Mo_append 75 = .ok (.iload 4, 2) := by decide +kernel
theorem d_Mo_append_77 : decode c_Mo_append 77 = .ok (.aload_n 0, 1) := by decide +kernel
theorem d_Mo_append_78 : decode c_Mo_append 78 = .ok (.getfield 29, 3) := by decide +kernel
theorem d_Mo_append_81 : decode c_Mo_append 81 = .ok (.iload 5, 2) := by decide +kernel
theorem d_Mo_append_83 : decode c_Mo_append 83 = .ok (.iaload, 1) := by decide +kernel
theorem d_Mo_append_84 : decode c_Mo_append 84 = .ok (.invokevirtual 100, 3) := by decide +kernel
theorem d_Mo_append_87 : decode c_Mo_append 87 = .ok (.aload_n 0, 1) := by decide +kernel
theorem d_Mo_append_88 : decode c_Mo_append 88 = .ok (.iload_n 1, 1) := by decide +kernel
theorem d_Mo_append_89 : decode c_Mo_append 89 = .ok (.invokevirtual 94, 3) := by decide +kernel
theorem d_Mo_append_92 : decode c_Mo_append 92 = .ok (.iconst 2, 1) := by decide +kernel
theorem d_Mo_append_93 : decode c_Mo_append 93 = .ok (.if_icmp .lt 7, 3) := by decide +kernel
theorem d_Mo_append_96 : decode c_Mo_append 96 = .ok (.iconst 0, 1) := by decide +kernel
theorem d_Mo_append_97 : decode c_Mo_append 97 = .ok (.goto 5, 3) := by decide +kernel
theorem d_Mo_append_100 : decode c_Mo_append 100 = .ok (.bipush (-5), 2) := by decide +kernel
theorem d_Mo_append_102 : decode c_Mo_append 102 = .ok (.ireturn, 1) := by decide +kernel
theorem d_Mo_elect_0 : decode c_Mo_elect 0 = .ok (.iload_n 1, 1) := by decide +kernel
theorem d_Mo_elect_1 : decode c_Mo_elect 1 = .ok (.iconst 0, 1) := by decide +kernel
theorem d_Mo_elect_2 : decode c_Mo_elect 2 = .ok (.iconst 3, 1) := by decide +kernel
theorem d_Mo_elect_3 : decode c_Mo_elect 3 = .ok (.invokestatic 63, 3) := by decide +kernel
theorem d_Mo_elect_6 : decode c_Mo_elect 6 = .ok (.ifCond .eq 12, 3) := by decide +kernel
theorem d_Mo_elect_9 : decode c_Mo_elect 9 = .ok (.aload_n 0, 1) := by decide +kernel
theorem d_Mo_elect_10 : decode c_Mo_elect 10 = .ok (.iload_n 1, 1) := by decide +kernel
theorem d_Mo_elect_11 : decode c_Mo_elect 11 = .ok (.invokevirtual 94, 3) := by decide +kernel
theorem d_Mo_elect_14 : decode c_Mo_elect 14 = .ok (.iconst 2, 1) := by decide +kernel
theorem d_Mo_elect_15 : decode c_Mo_elect 15 = .ok (.if_icmp .ge 5, 3) := by decide +kernel
theorem d_Mo_elect_18 : decode c_Mo_elect 18 = .ok (.iconst (-1), 1) := by decide +kernel
theorem d_Mo_elect_19 : decode c_Mo_elect 19 = .ok (.ireturn, 1) := by decide +kernel
theorem d_Mo_elect_20 : decode c_Mo_elect 20 = .ok (.aload_n 0, 1) := by decide +kernel
theorem d_Mo_elect_21 : decode c_Mo_elect 21 = .ok (.iload_n 1, 1) := by decide +kernel
theorem d_Mo_elect_22 : decode c_Mo_elect 22 = .ok (.invokevirtual 90, 3) := by decide +kernel
theorem d_Mo_elect_25 : decode c_Mo_elect 25 = .ok (.istore_n 2, 1) := by decide +kernel
theorem d_Mo_elect_26 : decode c_Mo_elect 26 = .ok (.iconst (-1), 1) := by decide +kernel
theorem d_Mo_elect_27 : decode c_Mo_elect 27 = .ok (.istore_n 3, 1) := by decide +kernel
theorem d_Mo_elect_28 : decode c_Mo_elect 28 = .ok (.iconst 0, 1) := by decide +kernel
theorem d_Mo_elect_29 : decode c_Mo_elect 29 = .ok (.istore 4, 2) := by decide +kernel
theorem d_Mo_elect_31 : decode c_Mo_elect 31 = .ok (.iload 4, 2) := by decide +kernel
theorem d_Mo_elect_33 : decode c_Mo_elect 33 = .ok (.iconst 3, 1) := by decide +kernel
theorem d_Mo_elect_34 : decode c_Mo_elect 34 = .ok (.if_icmp .ge 65, 3) := by decide +kernel
theorem d_Mo_elect_37 : decode c_Mo_elect 37 = .ok (.iconst 3, 1) := by decide +kernel
theorem d_Mo_elect_38 : decode c_Mo_elect 38 = .ok (.iload_n 1, 1) := by decide +kernel
theorem d_Mo_elect_39 : decode c_Mo_elect 39 = .ok (.imul, 1) := by decide +kernel
theorem d_Mo_elect_40 : decode c_Mo_elect 40 = .ok (.iload 4, 2) := by decide +kernel
theorem d_Mo_elect_42 : decode c_Mo_elect 42 = .ok (.iadd, 1) := by decide +kernel
theorem d_Mo_elect_43 : decode c_Mo_elect 43 = .ok (.istore 5, 2) := by decide +kernel
theorem d_Mo_elect_45 : decode c_Mo_elect 45 = .ok (.aload_n 0, 1) := by decide +kernel
theorem d_Mo_elect_46 : decode c_Mo_elect 46 = .ok (.getfield 26, 3) := by decide +kernel
theorem d_Mo_elect_49 : decode c_Mo_elect 49 = .ok (.iload 5, 2) := by decide +kernel
theorem d_Mo_elect_51 : decode c_Mo_elect 51 = .ok (.baload, 1) := by decide +kernel
theorem d_Mo_elect_52 : decode c_Mo_elect 52 = .ok (.ifCond .ne 41, 3) := by decide +kernel
theorem d_Mo_elect_55 : decode c_Mo_elect 55 = .ok (.aload_n 0, 1) := by decide +kernel
theorem d_Mo_elect_56 : decode c_Mo_elect 56 = .ok (.getfield 29, 3) := by decide +kernel
theorem d_Mo_elect_59 : decode c_Mo_elect 59 = .ok (.iload 5, 2) := by decide +kernel
theorem d_Mo_elect_61 : decode c_Mo_elect 61 = .ok (.iaload, 1) := by decide +kernel
theorem d_Mo_elect_62 : decode c_Mo_elect 62 = .ok (.iload_n 2, 1) := by decide +kernel
theorem d_Mo_elect_63 : decode c_Mo_elect 63 = .ok (.if_icmp .ne 30, 3) := by decide +kernel
theorem d_Mo_elect_66 : decode c_Mo_elect 66 = .ok (.iload_n 3, 1) := by decide +kernel
theorem d_Mo_elect_67 : decode c_Mo_elect 67 = .ok (.ifCond .lt 23, 3) := by decide +kernel
theorem d_Mo_elect_70 : decode c_Mo_elect 70 = .ok (.aload_n 0, 1) := by decide +kernel
theorem d_Mo_elect_71 : decode c_Mo_elect 71 = .ok (.getfield 32, 3) := by decide +kernel
theorem d_Mo_elect_74 : decode c_Mo_elect 74 = .ok (.iload 5, 2) := by decide +kernel
theorem d_Mo_elect_76 : decode c_Mo_elect 76 = .ok (.iaload, 1) := by decide +kernel
theorem d_Mo_elect_77 : decode c_Mo_elect 77 = .ok (.aload_n 0, 1) := by decide +kernel
theorem d_Mo_elect_78 : decode c_Mo_elect 78 = .ok (.getfield 32, 3) := by decide +kernel
theorem d_Mo_elect_81 : decode c_Mo_elect 81 = .ok (.iconst 3, 1) := by decide +kernel
theorem d_Mo_elect_82 : decode c_Mo_elect 82 = .ok (.iload_n 1, 1) := by decide +kernel
theorem d_Mo_elect_83 : decode c_Mo_elect 83 = .ok (.imul, 1) := by decide +kernel
theorem d_Mo_elect_84 : decode c_Mo_elect 84 = .ok (.iload_n 3, 1) := by decide +kernel
theorem d_Mo_elect_85 : decode c_Mo_elect 85 = .ok (.iadd, 1) := by decide +kernel
theorem d_Mo_elect_86 : decode c_Mo_elect 86 = .ok (.iaload, 1) := by decide +kernel
theorem d_Mo_elect_87 : decode c_Mo_elect 87 = .ok (.if_icmp .le 6, 3) := by decide +kernel
theorem d_Mo_elect_90 : decode c_Mo_elect 90 = .ok (.iload 4, 2) := by decide +kernel
theorem d_Mo_elect_92 : decode c_Mo_elect 92 = .ok (.istore_n 3, 1) := by decide +kernel
theorem d_Mo_elect_93 : decode c_Mo_elect 93 = .ok (.iinc 4 1, 3) := by decide +kernel
theorem d_Mo_elect_96 : decode c_Mo_elect 96 = .ok (.goto (-65), 3) := by decide +kernel
theorem d_Mo_elect_99 : decode c_Mo_elect 99 = .ok (.iload_n 2, 1) := by decide +kernel
theorem d_Mo_elect_100 : decode c_Mo_elect 100 = .ok (.iconst 1, 1) := by decide +kernel
theorem d_Mo_elect_101 : decode c_Mo_elect 101 = .ok (.iadd, 1) := by decide +kernel
theorem d_Mo_elect_102 : decode c_Mo_elect 102 = .ok (.istore 4, 2) := by decide +kernel
