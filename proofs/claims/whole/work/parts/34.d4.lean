/-! instructions -/
theorem d_Mo_elect_104 : decode c_Mo_elect 104 = .ok (.iconst 0, 1) := by decide +kernel
theorem d_Mo_elect_105 : decode c_Mo_elect 105 = .ok (.istore 5, 2) := by decide +kernel
theorem d_Mo_elect_107 : decode c_Mo_elect 107 = .ok (.iload 5, 2) := by decide +kernel
theorem d_Mo_elect_109 : decode c_Mo_elect 109 = .ok (.iconst 2, 1) := by decide +kernel
theorem d_Mo_elect_110 : decode c_Mo_elect 110 = .ok (.if_icmp .ge 28, 3) := by decide +kernel
theorem d_Mo_elect_113 : decode c_Mo_elect 113 = .ok (.aload_n 0, 1) := by decide +kernel
theorem d_Mo_elect_114 : decode c_Mo_elect 114 = .ok (.getfield 26, 3) := by decide +kernel
theorem d_Mo_elect_117 : decode c_Mo_elect 117 = .ok (.iconst 3, 1) := by decide +kernel
theorem d_Mo_elect_118 : decode c_Mo_elect 118 = .ok (.iload_n 1, 1) := by decide +kernel
theorem d_Mo_elect_119 : decode c_Mo_elect 119 = .ok (.imul, 1) := by decide +kernel
theorem d_Mo_elect_120 : decode c_Mo_elect 120 = .ok (.iload 4, 2) := by decide +kernel
theorem d_Mo_elect_122 : decode c_Mo_elect 122 = .ok (.iconst 3, 1) := by decide +kernel
theorem d_Mo_elect_123 : decode c_Mo_elect 123 = .ok (.irem, 1) := by decide +kernel
theorem d_Mo_elect_124 : decode c_Mo_elect 124 = .ok (.iadd, 1) := by decide +kernel
theorem d_Mo_elect_125 : decode c_Mo_elect 125 = .ok (.baload, 1) := by decide +kernel
theorem d_Mo_elect_126 : decode c_Mo_elect 126 = .ok (.ifCond .eq 12, 3) := by decide +kernel
theorem d_Mo_elect_129 : decode c_Mo_elect 129 = .ok (.iinc 4 1, 3) := by decide +kernel
theorem d_Mo_elect_132 : decode c_Mo_elect 132 = .ok (.iinc 5 1, 3) := by decide +kernel
theorem d_Mo_elect_135 : decode c_Mo_elect 135 = .ok (.goto (-28), 3) := by decide +kernel
theorem d_Mo_elect_138 : decode c_Mo_elect 138 = .ok (.aload_n 0, 1) := by decide +kernel
theorem d_Mo_elect_139 : decode c_Mo_elect 139 = .ok (.iload_n 1, 1) := by decide +kernel
theorem d_Mo_elect_140 : decode c_Mo_elect 140 = .ok (.iload_n 3, 1) := by decide +kernel
theorem d_Mo_elect_141 : decode c_Mo_elect 141 = .ok (.iload 4, 2) := by decide +kernel
theorem d_Mo_elect_143 : decode c_Mo_elect 143 = .ok (.invokevirtual 100, 3) := by decide +kernel
theorem d_Mo_elect_146 : decode c_Mo_elect 146 = .ok (.iload 4, 2) := by decide +kernel
theorem d_Mo_elect_148 : decode c_Mo_elect 148 = .ok (.ireturn, 1) := by decide +kernel
theorem d_Mo_crash_0 : decode c_Mo_crash 0 = .ok (.iload_n 1, 1) := by decide +kernel
theorem d_Mo_crash_1 : decode c_Mo_crash 1 = .ok (.iconst 0, 1) := by decide +kernel
theorem d_Mo_crash_2 : decode c_Mo_crash 2 = .ok (.iconst 3, 1) := by decide +kernel
theorem d_Mo_crash_3 : decode c_Mo_crash 3 = .ok (.invokestatic 63, 3) := by decide +kernel
theorem d_Mo_crash_6 : decode c_Mo_crash 6 = .ok (.ifCond .eq 25, 3) := by decide +kernel
theorem d_Mo_crash_9 : decode c_Mo_crash 9 = .ok (.iload_n 2, 1) := by decide +kernel
theorem d_Mo_crash_10 : decode c_Mo_crash 10 = .ok (.iconst 0, 1) := by decide +kernel
theorem d_Mo_crash_11 : decode c_Mo_crash 11 = .ok (.iconst 2, 1) := by decide +kernel
theorem d_Mo_crash_12 : decode c_Mo_crash 12 = .ok (.invokestatic 63, 3) := by decide +kernel
theorem d_Mo_crash_15 : decode c_Mo_crash 15 = .ok (.ifCond .eq 16, 3) := by decide +kernel
theorem d_Mo_crash_18 : decode c_Mo_crash 18 = .ok (.aload_n 0, 1) := by decide +kernel
theorem d_Mo_crash_19 : decode c_Mo_crash 19 = .ok (.getfield 26, 3) := by decide +kernel
theorem d_Mo_crash_22 : decode c_Mo_crash 22 = .ok (.iconst 3, 1) := by decide +kernel
theorem d_Mo_crash_23 : decode c_Mo_crash 23 = .ok (.iload_n 1, 1) := by decide +kernel
theorem d_Mo_crash_24 : decode c_Mo_crash 24 = .ok (.imul, 1) := by decide +kernel
theorem d_Mo_crash_25 : decode c_Mo_crash 25 = .ok (.iload_n 2, 1) := by decide +kernel
theorem d_Mo_crash_26 : decode c_Mo_crash 26 = .ok (.iadd, 1) := by decide +kernel
theorem d_Mo_crash_27 : decode c_Mo_crash 27 = .ok (.baload, 1) := by decide +kernel
theorem d_Mo_crash_28 : decode c_Mo_crash 28 = .ok (.ifCond .eq 5, 3) := by decide +kernel
theorem d_Mo_crash_31 : decode c_Mo_crash 31 = .ok (.iconst 0, 1) := by decide +kernel
theorem d_Mo_crash_32 : decode c_Mo_crash 32 = .ok (.ireturn, 1) := by decide +kernel
theorem d_Mo_crash_33 : decode c_Mo_crash 33 = .ok (.aload_n 0, 1) := by decide +kernel
theorem d_Mo_crash_34 : decode c_Mo_crash 34 = .ok (.getfield 26, 3) := by decide +kernel
theorem d_Mo_crash_37 : decode c_Mo_crash 37 = .ok (.iconst 3, 1) := by decide +kernel
theorem d_Mo_crash_38 : decode c_Mo_crash 38 = .ok (.iload_n 1, 1) := by decide +kernel
theorem d_Mo_crash_39 : decode c_Mo_crash 39 = .ok (.imul, 1) := by decide +kernel
theorem d_Mo_crash_40 : decode c_Mo_crash 40 = .ok (.iload_n 2, 1) := by decide +kernel
theorem d_Mo_crash_41 : decode c_Mo_crash 41 = .ok (.iadd, 1) := by decide +kernel
theorem d_Mo_crash_42 : decode c_Mo_crash 42 = .ok (.iconst 1, 1) := by decide +kernel
theorem d_Mo_crash_43 : decode c_Mo_crash 43 = .ok (.bastore, 1) := by decide +kernel
theorem d_Mo_crash_44 : decode c_Mo_crash 44 = .ok (.iconst 1, 1) := by decide +kernel
theorem d_Mo_crash_45 : decode c_Mo_crash 45 = .ok (.ireturn, 1) := by decide +kernel
theorem d_Mo_restart_0 : decode c_Mo_restart 0 = .ok (.iload_n 1, 1) := by decide +kernel
theorem d_Mo_restart_1 : decode c_Mo_restart 1 = .ok (.iconst 0, 1) := by decide +kernel
theorem d_Mo_restart_2 : decode c_Mo_restart 2 = .ok (.iconst 3, 1) := by decide +kernel
theorem d_Mo_restart_3 : decode c_Mo_restart 3 = .ok (.invokestatic 63, 3) := by decide +kernel
theorem d_Mo_restart_6 : decode c_Mo_restart 6 = .ok (.ifCond .eq 25, 3) := by decide +kernel
theorem d_Mo_restart_9 : decode c_Mo_restart 9 = .ok (.iload_n 2, 1) := by decide +kernel
theorem d_Mo_restart_10 : decode c_Mo_restart 10 = .ok (.iconst 0, 1) := by decide +kernel
theorem d_Mo_restart_11 : decode c_Mo_restart 11 = .ok (.iconst 2, 1) := by decide +kernel
theorem d_Mo_restart_12 : decode c_Mo_restart 12 = .ok (.invokestatic 63, 3) := by decide +kernel
theorem d_Mo_restart_15 : decode c_Mo_restart 15 = .ok (.ifCond .eq 16, 3) := by decide +kernel
theorem d_Mo_restart_18 : decode c_Mo_restart 18 = .ok (.aload_n 0, 1) := by decide +kernel
theorem d_Mo_restart_19 : decode c_Mo_restart 19 = .ok (.getfield 26, 3) := by decide +kernel
theorem d_Mo_restart_22 : decode c_Mo_restart 22 = .ok (.iconst 3, 1) := by decide +kernel
theorem d_Mo_restart_23 : decode c_Mo_restart 23 = .ok (.iload_n 1, 1) := by decide +kernel
theorem d_Mo_restart_24 : decode c_Mo_restart 24 = .ok (.imul, 1) := by decide +kernel
theorem d_Mo_restart_25 : decode c_Mo_restart 25 = .ok (.iload_n 2, 1) := by decide +kernel
theorem d_Mo_restart_26 : decode c_Mo_restart 26 = .ok (.iadd, 1) := by decide +kernel
theorem d_Mo_restart_27 : decode c_Mo_restart 27 = .ok (.baload, 1) := by decide +kernel
theorem d_Mo_restart_28 : decode c_Mo_restart 28 = .ok (.ifCond .ne 5, 3) := by decide +kernel
theorem d_Mo_restart_31 : decode c_Mo_restart 31 = .ok (.iconst 0, 1) := by decide +kernel
theorem d_Mo_restart_32 : decode c_Mo_restart 32 = .ok (.ireturn, 1) := by decide +kernel
theorem d_Mo_restart_33 : decode c_Mo_restart 33 = .ok (.aload_n 0, 1) := by decide +kernel
theorem d_Mo_restart_34 : decode c_Mo_restart 34 = .ok (.getfield 26, 3) := by decide +kernel
theorem d_Mo_restart_37 : decode c_Mo_restart 37 = .ok (.iconst 3, 1) := by decide +kernel
theorem d_Mo_restart_38 : decode c_Mo_restart 38 = .ok (.iload_n 1, 1) := by decide +kernel
theorem d_Mo_restart_39 : decode c_Mo_restart 39 = .ok (.imul, 1) := by decide +kernel
theorem d_Mo_restart_40 : decode c_Mo_restart 40 = .ok (.iload_n 2, 1) := by decide +kernel
theorem d_Mo_restart_41 : decode c_Mo_restart 41 = .ok (.iadd, 1) := by decide +kernel
theorem d_Mo_restart_42 : decode c_Mo_restart 42 = .ok (.iconst 0, 1) := by decide +kernel
theorem d_Mo_restart_43 : decode c_Mo_restart 43 = .ok (.bastore, 1) := by decide +kernel
theorem d_Mo_restart_44 : decode c_Mo_restart 44 = .ok (.iconst 1, 1) := by decide +kernel
theorem d_Mo_restart_45 : decode c_Mo_restart 45 = .ok (.ireturn, 1) := by decide +kernel
theorem d_Mo_refusal_0 : decode c_Mo_refusal 0 = .ok (.iload_n 1, 1) := by decide +kernel
theorem d_Mo_refusal_1 : decode c_Mo_refusal 1 = .ok (.iconst 1, 1) := by decide +kernel
theorem d_Mo_refusal_2 : decode c_Mo_refusal 2 = .ok (.aload_n 0, 1) := by decide +kernel
theorem d_Mo_refusal_3 : decode c_Mo_refusal 3 = .ok (.getfield 59, 3) := by decide +kernel
theorem d_Mo_refusal_6 : decode c_Mo_refusal 6 = .ok (.invokestatic 63, 3) := by decide +kernel
theorem d_Mo_refusal_9 : decode c_Mo_refusal 9 = .ok (.ifCond .eq 21, 3) := by decide +kernel
theorem d_Mo_refusal_12 : decode c_Mo_refusal 12 = .ok (.iload_n 2, 1) := by decide +kernel
theorem d_Mo_refusal_13 : decode c_Mo_refusal 13 = .ok (.iconst 0, 1) := by decide +kernel
theorem d_Mo_refusal_14 : decode c_Mo_refusal 14 = .ok (.iconst 2, 1) := by decide +kernel
theorem d_Mo_refusal_15 : decode c_Mo_refusal 15 = .ok (.invokestatic 63, 3) := by decide +kernel
theorem d_Mo_refusal_18 : decode c_Mo_refusal 18 = .ok (.ifCond .eq 12, 3) := by decide +kernel
theorem d_Mo_refusal_21 : decode c_Mo_refusal 21 = .ok (.aload_n 0, 1) := by decide +kernel
theorem d_Mo_refusal_22 : decode c_Mo_refusal 22 = .ok (.iload_n 1, 1) := by decide +kernel
theorem d_Mo_refusal_23 : decode c_Mo_refusal 23 = .ok (.iload_n 2, 1) := by decide +kernel
theorem d_Mo_refusal_24 : decode c_Mo_refusal 24 = .ok (.invokevirtual 103, 3) := by decide +kernel
theorem d_Mo_refusal_27 : decode c_Mo_refusal 27 = .ok (.ifCond .ne 5, 3) := by decide +kernel
theorem d_Mo_refusal_30 : decode c_Mo_refusal 30 = .ok (.iconst (-1), 1) := by decide +kernel
theorem d_Mo_refusal_31 : decode c_Mo_refusal 31 = .ok (.ireturn, 1) := by decide +kernel
theorem d_Mo_refusal_32 : decode c_Mo_refusal 32 = .ok (.aload_n 0, 1) := by decide +kernel
theorem d_Mo_refusal_33 : decode c_Mo_refusal 33 = .ok (.getfield 106, 3) := by decide +kernel
theorem d_Mo_refusal_36 : decode c_Mo_refusal 36 = .ok (.ifCond .eq 8, 3) := by decide +kernel
theorem d_Mo_refusal_39 : decode c_Mo_refusal 39 = .ok (.bipush (-2), 2) := by decide +kernel
theorem d_Mo_refusal_41 : decode c_Mo_refusal 41 = .ok (.goto 4, 3) := by decide +kernel
theorem d_Mo_refusal_44 : decode c_Mo_refusal 44 = .ok (.iconst 0, 1) := by decide +kernel
theorem d_Mo_refusal_45 : decode c_Mo_refusal 45 = .ok (.ireturn, 1) := by decide +kernel
theorem d_Mo_refusalAll_0 : decode c_Mo_refusalAll 0 = .ok (.iload_n 1, 1) := by decide +kernel
theorem d_Mo_refusalAll_1 : decode c_Mo_refusalAll 1 = .ok (.iconst 1, 1) := by decide +kernel
theorem d_Mo_refusalAll_2 : decode c_Mo_refusalAll 2 = .ok (.aload_n 0, 1) := by decide +kernel
theorem d_Mo_refusalAll_3 : decode c_Mo_refusalAll 3 = .ok (.getfield 59, 3) := by decide +kernel
theorem d_Mo_refusalAll_6 : decode c_Mo_refusalAll 6 = .ok (.invokestatic 63, 3) := by decide +kernel
theorem d_Mo_refusalAll_9 : decode c_Mo_refusalAll 9 = .ok (.ifCond .eq 12, 3) := by decide +kernel
theorem d_Mo_refusalAll_12 : decode c_Mo_refusalAll 12 = .ok (.aload_n 0, 1) := by decide +kernel
theorem d_Mo_refusalAll_13 : decode c_Mo_refusalAll 13 = .ok (.getfield 7, 3) := by decide +kernel
theorem d_Mo_refusalAll_16 : decode c_Mo_refusalAll 16 = .ok (.iload_n 1, 1) := by decide +kernel
theorem d_Mo_refusalAll_17 : decode c_Mo_refusalAll 17 = .ok (.iaload, 1) := by decide +kernel
theorem d_Mo_refusalAll_18 : decode c_Mo_refusalAll 18 = .ok (.ifCond .ne 5, 3) := by decide +kernel
theorem d_Mo_refusalAll_21 : decode c_Mo_refusalAll 21 = .ok (.iconst (-1), 1) := by decide +kernel
theorem d_Mo_refusalAll_22 : decode c_Mo_refusalAll 22 = .ok (.ireturn, 1) := by decide +kernel
theorem d_Mo_refusalAll_23 : decode c_Mo_refusalAll 23 = .ok (.aload_n 0, 1) := by decide +kernel
theorem d_Mo_refusalAll_24 : decode c_Mo_refusalAll 24 = .ok (.getfield 106, 3) := by decide +kernel
theorem d_Mo_refusalAll_27 : decode c_Mo_refusalAll 27 = .ok (.ifCond .eq 8, 3) := by decide +kernel
theorem d_Mo_refusalAll_30 : decode c_Mo_refusalAll 30 = .ok (.bipush (-2), 2) := by decide +kernel
theorem d_Mo_refusalAll_32 : decode c_Mo_refusalAll 32 = .ok (.goto 4, 3) := by decide +kernel
theorem d_Mo_refusalAll_35 : decode c_Mo_refusalAll 35 = .ok (.iconst 0, 1) := by decide +kernel
theorem d_Mo_refusalAll_36 : decode c_Mo_refusalAll 36 = .ok (.ireturn, 1) := by decide +kernel
theorem d_Mo_prepare_0 : decode c_Mo_prepare 0 = .ok (.aload_n 0, 1) := by decide +kernel
theorem d_Mo_prepare_1 : decode c_Mo_prepare 1 = .ok (.iload_n 1, 1) := by decide +kernel
theorem d_Mo_prepare_2 : decode c_Mo_prepare 2 = .ok (.iload_n 2, 1) := by decide +kernel
theorem d_Mo_prepare_3 : decode c_Mo_prepare 3 = .ok (.invokevirtual 110, 3) := by decide +kernel
theorem d_Mo_prepare_6 : decode c_Mo_prepare 6 = .ok (.istore 4, 2) := by decide +kernel
theorem d_Mo_prepare_8 : decode c_Mo_prepare 8 = .ok (.iload 4, 2) := by decide +kernel
theorem d_Mo_prepare_10 : decode c_Mo_prepare 10 = .ok (.ifCond .ge 6, 3) := by decide +kernel
theorem d_Mo_prepare_13 : decode c_Mo_prepare 13 = .ok (.iload 4, 2) := by decide +kernel
theorem d_Mo_prepare_15 : decode c_Mo_prepare 15 = .ok (.ireturn, 1) := by decide +kernel
theorem d_Mo_prepare_16 : decode c_Mo_prepare 16 = .ok (.aload_n 0, 1) := by decide +kernel
theorem d_Mo_prepare_17 : decode c_Mo_prepare 17 = .ok (.getfield 13, 3) := by decide +kernel
theorem d_Mo_prepare_20 : decode c_Mo_prepare 20 = .ok (.iload_n 1, 1) := by decide +kernel
theorem d_Mo_prepare_21 : decode c_Mo_prepare 21 = .ok (.iconst 1, 1) := by decide +kernel
theorem d_Mo_prepare_22 : decode c_Mo_prepare 22 = .ok (.bastore, 1) := by decide +kernel
theorem d_Mo_prepare_23 : decode c_Mo_prepare 23 = .ok (.aload_n 0, 1) := by decide +kernel
theorem d_Mo_prepare_24 : decode c_Mo_prepare 24 = .ok (.iload_n 2, 1) := by decide +kernel
theorem d_Mo_prepare_25 : decode c_Mo_prepare 25 = .ok (.invokevirtual 97, 3) := by decide +kernel
theorem d_Mo_prepare_28 : decode c_Mo_prepare 28 = .ok (.istore 5, 2) := by decide +kernel
theorem d_Mo_prepare_30 : decode c_Mo_prepare 30 = .ok (.iload 5, 2) := by decide +kernel
theorem d_Mo_prepare_32 : decode c_Mo_prepare 32 = .ok (.ifCond .ge 6, 3) := by decide +kernel
theorem d_Mo_prepare_35 : decode c_Mo_prepare 35 = .ok (.bipush (-3), 2) := by decide +kernel
theorem d_Mo_prepare_37 : decode c_Mo_prepare 37 = .ok (.ireturn, 1) := by decide +kernel
theorem d_Mo_prepare_38 : decode c_Mo_prepare 38 = .ok (.aload_n 0, 1) := by decide +kernel
theorem d_Mo_prepare_39 : decode c_Mo_prepare 39 = .ok (.iload_n 2, 1) := by decide +kernel
theorem d_Mo_prepare_40 : decode c_Mo_prepare 40 = .ok (.iload 5, 2) := by decide +kernel
theorem d_Mo_prepare_42 : decode c_Mo_prepare 42 = .ok (.invokevirtual 113, 3) := by decide +kernel
theorem d_Mo_prepare_45 : decode c_Mo_prepare 45 = .ok (.aload_n 0, 1) := by decide +kernel
theorem d_Mo_prepare_46 : decode c_Mo_prepare 46 = .ok (.getfield 47, 3) := by decide +kernel
theorem d_Mo_prepare_49 : decode c_Mo_prepare 49 = .ok (.iload_n 1, 1) := by decide +kernel
theorem d_Mo_prepare_50 : decode c_Mo_prepare 50 = .ok (.iaload, 1) := by decide +kernel
theorem d_Mo_prepare_51 : decode c_Mo_prepare 51 = .ok (.ifCond .ne 27, 3) := by decide +kernel
theorem d_Mo_prepare_54 : decode c_Mo_prepare 54 = .ok (.aload_n 0, 1) := by decide +kernel
theorem d_Mo_prepare_55 : decode c_Mo_prepare 55 = .ok (.iload_n 2, 1) := by decide +kernel
theorem d_Mo_prepare_56 : decode c_Mo_prepare 56 = .ok (.iconst 1, 1) := by decide +kernel
theorem d_Mo_prepare_57 : decode c_Mo_prepare 57 = .ok (.iload_n 1, 1) := by decide +kernel
theorem d_Mo_prepare_58 : decode c_Mo_prepare 58 = .ok (.invokevirtual 116, 3) := by decide +kernel
theorem d_Mo_prepare_61 : decode c_Mo_prepare 61 = .ok (.istore 6, 2) := by decide +kernel
theorem d_Mo_prepare_63 : decode c_Mo_prepare 63 = .ok (.iload 6, 2) := by decide +kernel
theorem d_Mo_prepare_65 : decode c_Mo_prepare 65 = .ok (.ifCond .ge 6, 3) := by decide +kernel
theorem d_Mo_prepare_68 : decode c_Mo_prepare 68 = .ok (.iload 6, 2) := by decide +kernel
theorem d_Mo_prepare_70 : decode c_Mo_prepare 70 = .ok (.ireturn, 1) := by decide +kernel
theorem d_Mo_prepare_71 : decode c_Mo_prepare 71 = .ok (.aload_n 0, 1) := by decide +kernel
theorem d_Mo_prepare_72 : decode c_Mo_prepare 72 = .ok (.iload_n 2, 1) := by decide +kernel
theorem d_Mo_prepare_73 : decode c_Mo_prepare 73 = .ok (.iload 5, 2) := by decide +kernel
theorem d_Mo_prepare_75 : decode c_Mo_prepare 75 = .ok (.invokevirtual 113, 3) := by decide +kernel
theorem d_Mo_prepare_78 : decode c_Mo_prepare 78 = .ok (.iload_n 3, 1) := by decide +kernel
theorem d_Mo_prepare_79 : decode c_Mo_prepare 79 = .ok (.ifCond .ne 5, 3) := by decide +kernel
theorem d_Mo_prepare_82 : decode c_Mo_prepare 82 = .ok (.iconst 3, 1) := by decide +kernel
theorem d_Mo_prepare_83 : decode c_Mo_prepare 83 = .ok (.ireturn, 1) := by decide +kernel
theorem d_Mo_prepare_84 : decode c_Mo_prepare 84 = .ok (.aload_n 0, 1) := by decide +kernel
theorem d_Mo_prepare_85 : decode c_Mo_prepare 85 = .ok (.getfield 41, 3) := by decide +kernel
theorem d_Mo_prepare_88 : decode c_Mo_prepare 88 = .ok (.iconst 3, 1) := by decide +kernel
theorem d_Mo_prepare_89 : decode c_Mo_prepare 89 = .ok (.iload_n 1, 1) := by decide +kernel
theorem d_Mo_prepare_90 : decode c_Mo_prepare 90 = .ok (.imul, 1) := by decide +kernel
theorem d_Mo_prepare_91 : decode c_Mo_prepare 91 = .ok (.iload_n 2, 1) := by decide +kernel
theorem d_Mo_prepare_92 : decode c_Mo_prepare 92 = .ok (.iadd, 1) := by decide +kernel
theorem d_Mo_prepare_93 : decode c_Mo_prepare 93 = .ok (.aload_n 0, 1) := by decide +kernel
theorem d_Mo_prepare_94 : decode c_Mo_prepare 94 = .ok (.getfield 47, 3) := by decide +kernel
theorem d_Mo_prepare_97 : decode c_Mo_prepare 97 = .ok (.iload_n 1, 1) := by decide +kernel
theorem d_Mo_prepare_98 : decode c_Mo_prepare 98 = .ok (.iaload, 1) := by decide +kernel
theorem d_Mo_prepare_99 : decode c_Mo_prepare 99 = .ok (.iastore, 1) := by decide +kernel
theorem d_Mo_prepare_100 : decode c_Mo_prepare 100 = .ok (.aload_n 0, 1) := by decide +kernel
theorem d_Mo_prepare_101 : decode c_Mo_prepare 101 = .ok (.getfield 47, 3) := by decide +kernel
theorem d_Mo_prepare_104 : decode c_Mo_prepare 104 = .ok (.iload_n 1, 1) := by decide +kernel
theorem d_Mo_prepare_105 : decode c_Mo_prepare 105 = .ok (.iaload, 1) := by decide +kernel
theorem d_Mo_prepare_106 : decode c_Mo_prepare 106 = .ok (.ireturn, 1) := by decide +kernel
theorem d_Mo_propose_0 : decode c_Mo_propose 0 = .ok (.aload_n 0, 1) := by decide +kernel
theorem d_Mo_propose_1 : decode c_Mo_propose 1 = .ok (.iconst 3, 1) := by decide +kernel
theorem d_Mo_propose_2 : decode c_Mo_propose 2 = .ok (.invokevirtual 97, 3) := by decide +kernel
theorem d_Mo_propose_5 : decode c_Mo_propose 5 = .ok (.istore 4, 2) := by decide +kernel
theorem d_Mo_propose_7 : decode c_Mo_propose 7 = .ok (.iload 4, 2) := by decide +kernel
theorem d_Mo_propose_9 : decode c_Mo_propose 9 = .ok (.ifCond .ge 6, 3) := by decide +kernel
theorem d_Mo_propose_12 : decode c_Mo_propose 12 = .ok (.bipush (-3), 2) := by decide +kernel
theorem d_Mo_propose_14 : decode c_Mo_propose 14 = .ok (.ireturn, 1) := by decide +kernel
theorem d_Mo_propose_15 : decode c_Mo_propose 15 = .ok (.aload_n 0, 1) := by decide +kernel
theorem d_Mo_propose_16 : decode c_Mo_propose 16 = .ok (.iconst 3, 1) := by decide +kernel
theorem d_Mo_propose_17 : decode c_Mo_propose 17 = .ok (.iload 4, 2) := by decide +kernel
theorem d_Mo_propose_19 : decode c_Mo_propose 19 = .ok (.invokevirtual 113, 3) := by decide +kernel
theorem d_Mo_propose_22 : decode c_Mo_propose 22 = .ok (.aload_n 0, 1) := by decide +kernel
theorem d_Mo_propose_23 : decode c_Mo_propose 23 = .ok (.getfield 53, 3) := by decide +kernel
theorem d_Mo_propose_26 : decode c_Mo_propose 26 = .ok (.iload_n 1, 1) := by decide +kernel
theorem d_Mo_propose_27 : decode c_Mo_propose 27 = .ok (.iaload, 1) := by decide +kernel
theorem d_Mo_propose_28 : decode c_Mo_propose 28 = .ok (.ifCond .ne 27, 3) := by decide +kernel
theorem d_Mo_propose_31 : decode c_Mo_propose 31 = .ok (.aload_n 0, 1) := by decide +kernel
theorem d_Mo_propose_32 : decode c_Mo_propose 32 = .ok (.iconst 3, 1) := by decide +kernel
theorem d_Mo_propose_33 : decode c_Mo_propose 33 = .ok (.iload_n 2, 1) := by decide +kernel
theorem d_Mo_propose_34 : decode c_Mo_propose 34 = .ok (.iload_n 1, 1) := by decide +kernel
theorem d_Mo_propose_35 : decode c_Mo_propose 35 = .ok (.invokevirtual 116, 3) := by decide +kernel
theorem d_Mo_propose_38 : decode c_Mo_propose 38 = .ok (.istore 5, 2) := by decide +kernel
theorem d_Mo_propose_40 : decode c_Mo_propose 40 = .ok (.iload 5, 2) := by decide +kernel
theorem d_Mo_propose_42 : decode c_Mo_propose 42 = .ok (.ifCond .ge 6, 3) := by decide +kernel
theorem d_Mo_propose_45 : decode c_Mo_propose 45 = .ok (.iload 5, 2) := by decide +kernel
theorem d_Mo_propose_47 : decode c_Mo_propose 47 = .ok (.ireturn, 1) := by decide +kernel
theorem d_Mo_propose_48 : decode c_Mo_propose 48 = .ok (.aload_n 0, 1) := by decide +kernel
theorem d_Mo_propose_49 : decode c_Mo_propose 49 = .ok (.iconst 3, 1) := by decide +kernel
theorem d_Mo_propose_50 : decode c_Mo_propose 50 = .ok (.iload 4, 2) := by decide +kernel
theorem d_Mo_propose_52 : decode c_Mo_propose 52 = .ok (.invokevirtual 113, 3) := by decide +kernel
theorem d_Mo_propose_55 : decode c_Mo_propose 55 = .ok (.iload_n 3, 1) := by decide +kernel
theorem d_Mo_propose_56 : decode c_Mo_propose 56 = .ok (.ifCond .ne 5, 3) := by decide +kernel
theorem d_Mo_propose_59 : decode c_Mo_propose 59 = .ok (.iconst 3, 1) := by decide +kernel
theorem d_Mo_propose_60 : decode c_Mo_propose 60 = .ok (.ireturn, 1) := by decide +kernel
theorem d_Mo_propose_61 : decode c_Mo_propose 61 = .ok (.aload_n 0, 1) := by decide +kernel
theorem d_Mo_propose_62 : decode c_Mo_propose 62 = .ok (.getfield 44, 3) := by decide +kernel
theorem d_Mo_propose_65 : decode c_Mo_propose 65 = .ok (.iload_n 1, 1) := by decide +kernel
theorem d_Mo_propose_66 : decode c_Mo_propose 66 = .ok (.aload_n 0, 1) := by decide +kernel
theorem d_Mo_propose_67 : decode c_Mo_propose 67 = .ok (.getfield 53, 3) := by decide +kernel
theorem d_Mo_propose_70 : decode c_Mo_propose 70 = .ok (.iload_n 1, 1) := by decide +kernel
theorem d_Mo_propose_71 : decode c_Mo_propose 71 = .ok (.iaload, 1) := by decide +kernel
theorem d_Mo_propose_72 : decode c_Mo_propose 72 = .ok (.iastore, 1) := by decide +kernel
theorem d_Mo_propose_73 : decode c_Mo_propose 73 = .ok (.aload_n 0, 1) := by decide +kernel
theorem d_Mo_propose_74 : decode c_Mo_propose 74 = .ok (.getfield 44, 3) := by decide +kernel
theorem d_Mo_propose_77 : decode c_Mo_propose 77 = .ok (.iload_n 1, 1) := by decide +kernel
theorem d_Mo_propose_78 : decode c_Mo_propose 78 = .ok (.iaload, 1) := by decide +kernel
theorem d_Mo_propose_79 : decode c_Mo_propose 79 = .ok (.ireturn, 1) := by decide +kernel
theorem d_Mo_decide_0 : decode c_Mo_decide 0 = .ok (.aload_n 0, 1) := by decide +kernel
theorem d_Mo_decide_1 : decode c_Mo_decide 1 = .ok (.iload_n 1, 1) := by decide +kernel
theorem d_Mo_decide_2 : decode c_Mo_decide 2 = .ok (.invokevirtual 120, 3) := by decide +kernel
theorem d_Mo_decide_5 : decode c_Mo_decide 5 = .ok (.istore_n 3, 1) := by decide +kernel
theorem d_Mo_decide_6 : decode c_Mo_decide 6 = .ok (.iload_n 3, 1) := by decide +kernel
theorem d_Mo_decide_7 : decode c_Mo_decide 7 = .ok (.ifCond .ge 5, 3) := by decide +kernel
theorem d_Mo_decide_10 : decode c_Mo_decide 10 = .ok (.iload_n 3, 1) := by decide +kernel
theorem d_Mo_decide_11 : decode c_Mo_decide 11 = .ok (.ireturn, 1) := by decide +kernel
theorem d_Mo_decide_12 : decode c_Mo_decide 12 = .ok (.aload_n 0, 1) := by decide +kernel
theorem d_Mo_decide_13 : decode c_Mo_decide 13 = .ok (.getfield 44, 3) := by decide +kernel
theorem d_Mo_decide_16 : decode c_Mo_decide 16 = .ok (.iload_n 1, 1) := by decide +kernel
theorem d_Mo_decide_17 : decode c_Mo_decide 17 = .ok (.iaload, 1) := by decide +kernel
theorem d_Mo_decide_18 : decode c_Mo_decide 18 = .ok (.ifCond .eq 10, 3) := by decide +kernel
theorem d_Mo_decide_21 : decode c_Mo_decide 21 = .ok (.aload_n 0, 1) := by decide +kernel
theorem d_Mo_decide_22 : decode c_Mo_decide 22 = .ok (.getfield 44, 3) := by decide +kernel
theorem d_Mo_decide_25 : decode c_Mo_decide 25 = .ok (.iload_n 1, 1) := by decide +kernel
theorem d_Mo_decide_26 : decode c_Mo_decide 26 = .ok (.iaload, 1) := by decide +kernel
theorem d_Mo_decide_27 : decode c_Mo_decide 27 = .ok (.ireturn, 1) := by decide +kernel
theorem d_Mo_decide_28 : decode c_Mo_decide 28 = .ok (.iconst 1, 1) := by decide +kernel
theorem d_Mo_decide_29 : decode c_Mo_decide 29 = .ok (.istore 4, 2) := by decide +kernel
theorem d_Mo_decide_31 : decode c_Mo_decide 31 = .ok (.iconst 0, 1) := by decide +kernel
theorem d_Mo_decide_32 : decode c_Mo_decide 32 = .ok (.istore 5, 2) := by decide +kernel
theorem d_Mo_decide_34 : decode c_Mo_decide 34 = .ok (.iconst 0, 1) := by decide +kernel
theorem d_Mo_decide_35 : decode c_Mo_decide 35 = .ok (.istore 6, 2) := by decide +kernel
theorem d_Mo_decide_37 : decode c_Mo_decide 37 = .ok (.iload 6, 2) := by decide +kernel
theorem d_Mo_decide_39 : decode c_Mo_decide 39 = .ok (.iconst 3, 1) := by decide +kernel
theorem d_Mo_decide_40 : decode c_Mo_decide 40 = .ok (.if_icmp .ge 72, 3) := by decide +kernel
theorem d_Mo_decide_43 : decode c_Mo_decide 43 = .ok (.iload 5, 2) := by decide +kernel
theorem d_Mo_decide_45 : decode c_Mo_decide 45 = .ok (.ifCond .ne 18, 3) := by decide +kernel
theorem d_Mo_decide_48 : decode c_Mo_decide 48 = .ok (.aload_n 0, 1) := by decide +kernel
theorem d_Mo_decide_49 : decode c_Mo_decide 49 = .ok (.getfield 41, 3) := by decide +kernel
theorem d_Mo_decide_52 : decode c_Mo_decide 52 = .ok (.iconst 3, 1) := by decide +kernel
theorem d_Mo_decide_53 : decode c_Mo_decide 53 = .ok (.iload_n 1, 1) := by decide +kernel
theorem d_Mo_decide_54 : decode c_Mo_decide 54 = .ok (.imul, 1) := by decide +kernel
theorem d_Mo_decide_55 : decode c_Mo_decide 55 = .ok (.iload 6, 2) := by decide +kernel
theorem d_Mo_decide_57 : decode c_Mo_decide 57 = .ok (.iadd, 1) := by decide +kernel
theorem d_Mo_decide_58 : decode c_Mo_decide 58 = .ok (.iaload, 1) := by decide +kernel
theorem d_Mo_decide_59 : decode c_Mo_decide 59 = .ok (.iconst 2, 1) := by decide +kernel
theorem d_Mo_decide_60 : decode c_Mo_decide 60 = .ok (.if_icmp .ne 7, 3) := by decide +kernel
theorem d_Mo_decide_63 : decode c_Mo_decide 63 = .ok (.iconst 1, 1) := by decide +kernel
theorem d_Mo_decide_64 : decode c_Mo_decide 64 = .ok (.goto 4, 3) := by decide +kernel
theorem d_Mo_decide_67 : decode c_Mo_decide 67 = .ok (.iconst 0, 1) := by decide +kernel
theorem d_Mo_decide_68 : decode c_Mo_decide 68 = .ok (.istore 5, 2) := by decide +kernel
theorem d_Mo_decide_70 : decode c_Mo_decide 70 = .ok (.iload 4, 2) := by decide +kernel
theorem d_Mo_decide_72 : decode c_Mo_decide 72 = .ok (.ifCond .eq 31, 3) := by decide +kernel
theorem d_Mo_decide_75 : decode c_Mo_decide 75 = .ok (.aload_n 0, 1) := by decide +kernel
theorem d_Mo_decide_76 : decode c_Mo_decide 76 = .ok (.getfield 41, 3) := by decide +kernel
theorem d_Mo_decide_79 : decode c_Mo_decide 79 = .ok (.iconst 3, 1) := by decide +kernel
theorem d_Mo_decide_80 : decode c_Mo_decide 80 = .ok (.iload_n 1, 1) := by decide +kernel
theorem d_Mo_decide_81 : decode c_Mo_decide 81 = .ok (.imul, 1) := by decide +kernel
theorem d_Mo_decide_82 : decode c_Mo_decide 82 = .ok (.iload 6, 2) := by decide +kernel
theorem d_Mo_decide_84 : decode c_Mo_decide 84 = .ok (.iadd, 1) := by decide +kernel
theorem d_Mo_decide_85 : decode c_Mo_decide 85 = .ok (.iaload, 1) := by decide +kernel
theorem d_Mo_decide_86 : decode c_Mo_decide 86 = .ok (.ifCond .ne 13, 3) := by decide +kernel
theorem d_Mo_decide_89 : decode c_Mo_decide 89 = .ok (.aload_n 0, 1) := by decide +kernel
theorem d_Mo_decide_90 : decode c_Mo_decide 90 = .ok (.iload_n 1, 1) := by decide +kernel
theorem d_Mo_decide_91 : decode c_Mo_decide 91 = .ok (.iload 6, 2) := by decide +kernel
theorem d_Mo_decide_93 : decode c_Mo_decide 93 = .ok (.invokevirtual 103, 3) := by decide +kernel
theorem d_Mo_decide_96 : decode c_Mo_decide 96 = .ok (.ifCond .ne 7, 3) := by decide +kernel
theorem d_Mo_decide_99 : decode c_Mo_decide 99 = .ok (.iconst 1, 1) := by decide +kernel
theorem d_Mo_decide_100 : decode c_Mo_decide 100 = .ok (.goto 4, 3) := by decide +kernel
theorem d_Mo_decide_103 : decode c_Mo_decide 103 = .ok (.iconst 0, 1) := by decide +kernel
theorem d_Mo_decide_104 : decode c_Mo_decide 104 = .ok (.istore 4, 2) := by decide +kernel
theorem d_Mo_decide_106 : decode c_Mo_decide 106 = .ok (.iinc 6 1, 3) := by decide +kernel
theorem d_Mo_decide_109 : decode c_Mo_decide 109 = .ok (.goto (-72), 3) := by decide +kernel
theorem d_Mo_decide_112 : decode c_Mo_decide 112 = .ok (.iload 5, 2) := by decide +kernel
theorem d_Mo_decide_114 : decode c_Mo_decide 114 = .ok (.ifCond .ne 10, 3) := by decide +kernel
theorem d_Mo_decide_117 : decode c_Mo_decide 117 = .ok (.iload 4, 2) := by decide +kernel
theorem d_Mo_decide_119 : decode c_Mo_decide 119 = .ok (.ifCond .ne 5, 3) := by decide +kernel
theorem d_Mo_decide_122 : decode c_Mo_decide 122 = .ok (.iconst 0, 1) := by decide +kernel
theorem d_Mo_decide_123 : decode c_Mo_decide 123 = .ok (.ireturn, 1) := by decide +kernel
theorem d_Mo_decide_124 : decode c_Mo_decide 124 = .ok (.aload_n 0, 1) := by decide +kernel
theorem d_Mo_decide_125 : decode c_Mo_decide 125 = .ok (.iload_n 1, 1) := by decide +kernel
theorem d_Mo_decide_126 : decode c_Mo_decide 126 = .ok (.iload 5, 2) := by decide +kernel
theorem d_Mo_decide_128 : decode c_Mo_decide 128 = .ok (.ifCond .eq 7, 3) := by decide +kernel
theorem d_Mo_decide_131 : decode c_Mo_decide 131 = .ok (.iconst 3, 1) := by decide +kernel
theorem d_Mo_decide_132 : decode c_Mo_decide 132 = .ok (.goto 4, 3) := by decide +kernel
theorem d_Mo_decide_135 : decode c_Mo_decide 135 = .ok (.iconst 2, 1) := by decide +kernel
theorem d_Mo_decide_136 : decode c_Mo_decide 136 = .ok (.iload_n 2, 1) := by decide +kernel
theorem d_Mo_decide_137 : decode c_Mo_decide 137 = .ok (.invokevirtual 123, 3) := by decide +kernel
theorem d_Mo_decide_140 : decode c_Mo_decide 140 = .ok (.ireturn, 1) := by decide +kernel
theorem d_Mo_timeout_0 : decode c_Mo_timeout 0 = .ok (.aload_n 0, 1) := by decide +kernel
theorem d_Mo_timeout_1 : decode c_Mo_timeout 1 = .ok (.iload_n 1, 1) := by decide +kernel
theorem d_Mo_timeout_2 : decode c_Mo_timeout 2 = .ok (.invokevirtual 120, 3) := by decide +kernel
theorem d_Mo_timeout_5 : decode c_Mo_timeout 5 = .ok (.istore_n 3, 1) := by decide +kernel
theorem d_Mo_timeout_6 : decode c_Mo_timeout 6 = .ok (.iload_n 3, 1) := by decide +kernel
theorem d_Mo_timeout_7 : decode c_Mo_timeout 7 = .ok (.ifCond .ge 5, 3) := by decide +kernel
theorem d_Mo_timeout_10 : decode c_Mo_timeout 10 = .ok (.iload_n 3, 1) := by decide +kernel
theorem d_Mo_timeout_11 : decode c_Mo_timeout 11 = .ok (.ireturn, 1) := by decide +kernel
theorem d_Mo_timeout_12 : decode c_Mo_timeout 12 = .ok (.aload_n 0, 1) := by decide +kernel
theorem d_Mo_timeout_13 : decode c_Mo_timeout 13 = .ok (.getfield 13, 3) := by decide +kernel
theorem d_Mo_timeout_16 : decode c_Mo_timeout 16 = .ok (.iload_n 1, 1) := by decide +kernel
theorem d_Mo_timeout_17 : decode c_Mo_timeout 17 = .ok (.iconst 1, 1) := by decide +kernel
theorem d_Mo_timeout_18 : decode c_Mo_timeout 18 = .ok (.bastore, 1) := by decide +kernel
theorem d_Mo_timeout_19 : decode c_Mo_timeout 19 = .ok (.aload_n 0, 1) := by decide +kernel
theorem d_Mo_timeout_20 : decode c_Mo_timeout 20 = .ok (.getfield 44, 3) := by decide +kernel
theorem d_Mo_timeout_23 : decode c_Mo_timeout 23 = .ok (.iload_n 1, 1) := by decide +kernel
theorem d_Mo_timeout_24 : decode c_Mo_timeout 24 = .ok (.iaload, 1) := by decide +kernel
theorem d_Mo_timeout_25 : decode c_Mo_timeout 25 = .ok (.ifCond .eq 12, 3) := by decide +kernel
theorem d_Mo_timeout_28 : decode c_Mo_timeout 28 = .ok (.aload_n 0, 1) := by decide +kernel
theorem d_Mo_timeout_29 : decode c_Mo_timeout 29 = .ok (.getfield 44, 3) := by decide +kernel
theorem d_Mo_timeout_32 : decode c_Mo_timeout 32 = .ok (.iload_n 1, 1) := by decide +kernel
theorem d_Mo_timeout_33 : decode c_Mo_timeout 33 = .ok (.iaload, 1) := by decide +kernel
theorem d_Mo_timeout_34 : decode c_Mo_timeout 34 = .ok (.goto 10, 3) := by decide +kernel
theorem d_Mo_timeout_37 : decode c_Mo_timeout 37 = .ok (.aload_n 0, 1) := by decide +kernel
theorem d_Mo_timeout_38 : decode c_Mo_timeout 38 = .ok (.iload_n 1, 1) := by decide +kernel
theorem d_Mo_timeout_39 : decode c_Mo_timeout 39 = .ok (.iconst 3, 1) := by decide +kernel
theorem d_Mo_timeout_40 : decode c_Mo_timeout 40 = .ok (.iload_n 2, 1) := by decide +kernel
theorem d_Mo_timeout_41 : decode c_Mo_timeout 41 = .ok (.invokevirtual 123, 3) := by decide +kernel
theorem d_Mo_timeout_44 : decode c_Mo_timeout 44 = .ok (.ireturn, 1) := by decide +kernel
theorem d_Mo_finish_0 : decode c_Mo_finish 0 = .ok (.aload_n 0, 1) := by decide +kernel
theorem d_Mo_finish_1 : decode c_Mo_finish 1 = .ok (.iload_n 1, 1) := by decide +kernel
theorem d_Mo_finish_2 : decode c_Mo_finish 2 = .ok (.iload_n 2, 1) := by decide +kernel
theorem d_Mo_finish_3 : decode c_Mo_finish 3 = .ok (.invokevirtual 110, 3) := by decide +kernel
theorem d_Mo_finish_6 : decode c_Mo_finish 6 = .ok (.istore_n 3, 1) := by decide +kernel
theorem d_Mo_finish_7 : decode c_Mo_finish 7 = .ok (.iload_n 3, 1) := by decide +kernel
theorem d_Mo_finish_8 : decode c_Mo_finish 8 = .ok (.ifCond .ge 5, 3) := by decide +kernel
theorem d_Mo_finish_11 : decode c_Mo_finish 11 = .ok (.iload_n 3, 1) := by decide +kernel
theorem d_Mo_finish_12 : decode c_Mo_finish 12 = .ok (.ireturn, 1) := by decide +kernel
theorem d_Mo_finish_13 : decode c_Mo_finish 13 = .ok (.aload_n 0, 1) := by decide +kernel
theorem d_Mo_finish_14 : decode c_Mo_finish 14 = .ok (.getfield 44, 3) := by decide +kernel
theorem d_Mo_finish_17 : decode c_Mo_finish 17 = .ok (.iload_n 1, 1) := by decide +kernel
theorem d_Mo_finish_18 : decode c_Mo_finish 18 = .ok (.iaload, 1) := by decide +kernel
theorem d_Mo_finish_19 : decode c_Mo_finish 19 = .ok (.ifCond .ne 5, 3) := by decide +kernel
theorem d_Mo_finish_22 : decode c_Mo_finish 22 = .ok (.iconst 0, 1) := by decide +kernel
theorem d_Mo_finish_23 : decode c_Mo_finish 23 = .ok (.ireturn, 1) := by decide +kernel
theorem d_Mo_finish_24 : decode c_Mo_finish 24 = .ok (.aload_n 0, 1) := by decide +kernel
theorem d_Mo_finish_25 : decode c_Mo_finish 25 = .ok (.iload_n 2, 1) := by decide +kernel
theorem d_Mo_finish_26 : decode c_Mo_finish 26 = .ok (.invokevirtual 97, 3) := by decide +kernel
theorem d_Mo_finish_29 : decode c_Mo_finish 29 = .ok (.istore 4, 2) := by decide +kernel
theorem d_Mo_finish_31 : decode c_Mo_finish 31 = .ok (.iload 4, 2) := by decide +kernel
theorem d_Mo_finish_33 : decode c_Mo_finish 33 = .ok (.ifCond .ge 6, 3) := by decide +kernel
theorem d_Mo_finish_36 : decode c_Mo_finish 36 = .ok (.bipush (-3), 2) := by decide +kernel
theorem d_Mo_finish_38 : decode c_Mo_finish 38 = .ok (.ireturn, 1) := by decide +kernel
theorem d_Mo_finish_39 : decode c_Mo_finish 39 = .ok (.aload_n 0, 1) := by decide +kernel
theorem d_Mo_finish_40 : decode c_Mo_finish 40 = .ok (.iload_n 2, 1) := by decide +kernel
theorem d_Mo_finish_41 : decode c_Mo_finish 41 = .ok (.iload 4, 2) := by decide +kernel
theorem d_Mo_finish_43 : decode c_Mo_finish 43 = .ok (.invokevirtual 113, 3) := by decide +kernel
theorem d_Mo_finish_46 : decode c_Mo_finish 46 = .ok (.aload_n 0, 1) := by decide +kernel
theorem d_Mo_finish_47 : decode c_Mo_finish 47 = .ok (.getfield 50, 3) := by decide +kernel
theorem d_Mo_finish_50 : decode c_Mo_finish 50 = .ok (.iload_n 1, 1) := by decide +kernel
theorem d_Mo_finish_51 : decode c_Mo_finish 51 = .ok (.baload, 1) := by decide +kernel
theorem d_Mo_finish_52 : decode c_Mo_finish 52 = .ok (.ifCond .eq 5, 3) := by decide +kernel
theorem d_Mo_finish_55 : decode c_Mo_finish 55 = .ok (.iconst 1, 1) := by decide +kernel
theorem d_Mo_finish_56 : decode c_Mo_finish 56 = .ok (.ireturn, 1) := by decide +kernel
theorem d_Mo_finish_57 : decode c_Mo_finish 57 = .ok (.aload_n 0, 1) := by decide +kernel
theorem d_Mo_finish_58 : decode c_Mo_finish 58 = .ok (.iload_n 2, 1) := by decide +kernel
theorem d_Mo_finish_59 : decode c_Mo_finish 59 = .ok (.aload_n 0, 1) := by decide +kernel
theorem d_Mo_finish_60 : decode c_Mo_finish 60 = .ok (.getfield 44, 3) := by decide +kernel
theorem d_Mo_finish_63 : decode c_Mo_finish 63 = .ok (.iload_n 1, 1) := by decide +kernel
theorem d_Mo_finish_64 : decode c_Mo_finish 64 = .ok (.iaload, 1) := by decide +kernel
theorem d_Mo_finish_65 : decode c_Mo_finish 65 = .ok (.iconst 1, 1) := by decide +kernel
theorem d_Mo_finish_66 : decode c_Mo_finish 66 = .ok (.if_icmp .ne 7, 3) := by decide +kernel
theorem d_Mo_finish_69 : decode c_Mo_finish 69 = .ok (.iconst 2, 1) := by decide +kernel
theorem d_Mo_finish_70 : decode c_Mo_finish 70 = .ok (.goto 4, 3) := by decide +kernel
theorem d_Mo_finish_73 : decode c_Mo_finish 73 = .ok (.iconst 3, 1) := by decide +kernel
theorem d_Mo_finish_74 : decode c_Mo_finish 74 = .ok (.iload_n 1, 1) := by decide +kernel
theorem d_Mo_finish_75 : decode c_Mo_finish 75 = .ok (.invokevirtual 116, 3) := by decide +kernel
theorem d_Mo_finish_78 : decode c_Mo_finish 78 = .ok (.istore 5, 2) := by decide +kernel
theorem d_Mo_finish_80 : decode c_Mo_finish 80 = .ok (.iload 5, 2) := by decide +kernel
theorem d_Mo_finish_82 : decode c_Mo_finish 82 = .ok (.ifCond .ge 8, 3) := by decide +kernel
theorem d_Mo_finish_85 : decode c_Mo_finish 85 = .ok (.iload 5, 2) := by decide +kernel
theorem d_Mo_finish_87 : decode c_Mo_finish 87 = .ok (.goto 4, 3) := by decide +kernel
theorem d_Mo_finish_90 : decode c_Mo_finish 90 = .ok (.iconst 1, 1) := by decide +kernel
theorem d_Mo_finish_91 : decode c_Mo_finish 91 = .ok (.ireturn, 1) := by decide +kernel
theorem d_Mo_halt_0 : decode c_Mo_halt 0 = .ok (.aload_n 0, 1) := by decide +kernel
theorem d_Mo_halt_1 : decode c_Mo_halt 1 = .ok (.getfield 106, 3) := by decide +kernel
theorem d_Mo_halt_4 : decode c_Mo_halt 4 = .ok (.ifCond .eq 5, 3) := by decide +kernel
theorem d_Mo_halt_7 : decode c_Mo_halt 7 = .ok (.iconst 0, 1) := by decide +kernel
theorem d_Mo_halt_8 : decode c_Mo_halt 8 = .ok (.ireturn, 1) := by decide +kernel
theorem d_Mo_halt_9 : decode c_Mo_halt 9 = .ok (.aload_n 0, 1) := by decide +kernel
theorem d_Mo_halt_10 : decode c_Mo_halt 10 = .ok (.iconst 1, 1) := by decide +kernel
theorem d_Mo_halt_11 : decode c_Mo_halt 11 = .ok (.putfield 106, 3) := by decide +kernel
theorem d_Mo_halt_14 : decode c_Mo_halt 14 = .ok (.iconst 0, 1) := by decide +kernel
theorem d_Mo_halt_15 : decode c_Mo_halt 15 = .ok (.istore_n 1, 1) := by decide +kernel
theorem d_Mo_halt_16 : decode c_Mo_halt 16 = .ok (.iload_n 1, 1) := by decide +kernel
theorem d_Mo_halt_17 : decode c_Mo_halt 17 = .ok (.bipush 63, 2) := by decide +kernel
theorem d_Mo_halt_19 : decode c_Mo_halt 19 = .ok (.if_icmp .ge 16, 3) := by decide +kernel
theorem d_Mo_halt_22 : decode c_Mo_halt 22 = .ok (.aload_n 0, 1) := by decide +kernel
theorem d_Mo_halt_23 : decode c_Mo_halt 23 = .ok (.getfield 41, 3) := by decide +kernel
theorem d_Mo_halt_26 : decode c_Mo_halt 26 = .ok (.iload_n 1, 1) := by decide +kernel
theorem d_Mo_halt_27 : decode c_Mo_halt 27 = .ok (.iconst 0, 1) := by decide +kernel
theorem d_Mo_halt_28 : decode c_Mo_halt 28 = .ok (.iastore, 1) := by decide +kernel
theorem d_Mo_halt_29 : decode c_Mo_halt 29 = .ok (.iinc 1 1, 3) := by decide +kernel
theorem d_Mo_halt_32 : decode c_Mo_halt 32 = .ok (.goto (-16), 3) := by decide +kernel
theorem d_Mo_halt_35 : decode c_Mo_halt 35 = .ok (.iconst 0, 1) := by decide +kernel
theorem d_Mo_halt_36 : decode c_Mo_halt 36 = .ok (.istore_n 1, 1) := by decide +kernel
theorem d_Mo_halt_37 : decode c_Mo_halt 37 = .ok (.iload_n 1, 1) := by decide +kernel
theorem d_Mo_halt_38 : decode c_Mo_halt 38 = .ok (.bipush 20, 2) := by decide +kernel
theorem d_Mo_halt_40 : decode c_Mo_halt 40 = .ok (.if_icmp .gt 16, 3) := by decide +kernel
theorem d_Mo_halt_43 : decode c_Mo_halt 43 = .ok (.aload_n 0, 1) := by decide +kernel
theorem d_Mo_halt_44 : decode c_Mo_halt 44 = .ok (.getfield 44, 3) := by decide +kernel
theorem d_Mo_halt_47 : decode c_Mo_halt 47 = .ok (.iload_n 1, 1) := by decide +kernel
theorem d_Mo_halt_48 : decode c_Mo_halt 48 = .ok (.iconst 0, 1) := by decide +kernel
theorem d_Mo_halt_49 : decode c_Mo_halt 49 = .ok (.iastore, 1) := by decide +kernel
theorem d_Mo_halt_50 : decode c_Mo_halt 50 = .ok (.iinc 1 1, 3) := by decide +kernel
theorem d_Mo_halt_53 : decode c_Mo_halt 53 = .ok (.goto (-16), 3) := by decide +kernel
theorem d_Mo_halt_56 : decode c_Mo_halt 56 = .ok (.iconst 1, 1) := by decide +kernel
theorem d_Mo_halt_57 : decode c_Mo_halt 57 = .ok (.ireturn, 1) := by decide +kernel
theorem d_Mo_resume_0 : decode c_Mo_resume 0 = .ok (.aload_n 0, 1) := by decide +kernel
theorem d_Mo_resume_1 : decode c_Mo_resume 1 = .ok (.getfield 106, 3) := by decide +kernel
theorem d_Mo_resume_4 : decode c_Mo_resume 4 = .ok (.istore_n 1, 1) := by decide +kernel
theorem d_Mo_resume_5 : decode c_Mo_resume 5 = .ok (.aload_n 0, 1) := by decide +kernel
theorem d_Mo_resume_6 : decode c_Mo_resume 6 = .ok (.iconst 0, 1) := by decide +kernel
theorem d_Mo_resume_7 : decode c_Mo_resume 7 = .ok (.putfield 106, 3) := by decide +kernel
theorem d_Mo_resume_10 : decode c_Mo_resume 10 = .ok (.iload_n 1, 1) := by decide +kernel
theorem d_Mo_resume_11 : decode c_Mo_resume 11 = .ok (.ireturn, 1) := by decide +kernel
theorem d_Mo_vote_0 : decode c_Mo_vote 0 = .ok (.iload_n 1, 1) := by decide +kernel
theorem d_Mo_vote_1 : decode c_Mo_vote 1 = .ok (.iconst 1, 1) := by decide +kernel
theorem d_Mo_vote_2 : decode c_Mo_vote 2 = .ok (.aload_n 0, 1) := by decide +kernel
theorem d_Mo_vote_3 : decode c_Mo_vote 3 = .ok (.getfield 59, 3) := by decide +kernel
theorem d_Mo_vote_6 : decode c_Mo_vote 6 = .ok (.invokestatic 63, 3) := by decide +kernel
theorem d_Mo_vote_9 : decode c_Mo_vote 9 = .ok (.ifCond .eq 25, 3) := by decide +kernel
theorem d_Mo_vote_12 : decode c_Mo_vote 12 = .ok (.iload_n 2, 1) := by decide +kernel
theorem d_Mo_vote_13 : decode c_Mo_vote 13 = .ok (.iconst 0, 1) := by decide +kernel
theorem d_Mo_vote_14 : decode c_Mo_vote 14 = .ok (.iconst 2, 1) := by decide +kernel
theorem d_Mo_vote_15 : decode c_Mo_vote 15 = .ok (.invokestatic 63, 3) := by decide +kernel
theorem d_Mo_vote_18 : decode c_Mo_vote 18 = .ok (.ifCond .eq 16, 3) := by decide +kernel
theorem d_Mo_vote_21 : decode c_Mo_vote 21 = .ok (.aload_n 0, 1) := by decide +kernel
theorem d_Mo_vote_22 : decode c_Mo_vote 22 = .ok (.getfield 41, 3) := by decide +kernel
theorem d_Mo_vote_25 : decode c_Mo_vote 25 = .ok (.iconst 3, 1) := by decide +kernel
theorem d_Mo_vote_26 : decode c_Mo_vote 26 = .ok (.iload_n 1, 1) := by decide +kernel
theorem d_Mo_vote_27 : decode c_Mo_vote 27 = .ok (.imul, 1) := by decide +kernel
theorem d_Mo_vote_28 : decode c_Mo_vote 28 = .ok (.iload_n 2, 1) := by decide +kernel
theorem d_Mo_vote_29 : decode c_Mo_vote 29 = .ok (.iadd, 1) := by decide +kernel
theorem d_Mo_vote_30 : decode c_Mo_vote 30 = .ok (.iaload, 1) := by decide +kernel
theorem d_Mo_vote_31 : decode c_Mo_vote 31 = .ok (.goto 4, 3) := by decide +kernel
theorem d_Mo_vote_34 : decode c_Mo_vote 34 = .ok (.iconst 0, 1) := by decide +kernel
theorem d_Mo_vote_35 : decode c_Mo_vote 35 = .ok (.ireturn, 1) := by decide +kernel
theorem d_Mo_outcome_0 : decode c_Mo_outcome 0 = .ok (.iload_n 1, 1) := by decide +kernel
theorem d_Mo_outcome_1 : decode c_Mo_outcome 1 = .ok (.iconst 1, 1) := by decide +kernel
theorem d_Mo_outcome_2 : decode c_Mo_outcome 2 = .ok (.aload_n 0, 1) := by decide +kernel
theorem d_Mo_outcome_3 : decode c_Mo_outcome 3 = .ok (.getfield 59, 3) := by decide +kernel
theorem d_Mo_outcome_6 : decode c_Mo_outcome 6 = .ok (.invokestatic 63, 3) := by decide +kernel
theorem d_Mo_outcome_9 : decode c_Mo_outcome 9 = .ok (.ifCond .eq 12, 3) := by decide +kernel
theorem d_Mo_outcome_12 : decode c_Mo_outcome 12 = .ok (.aload_n 0, 1) := by decide +kernel
theorem d_Mo_outcome_13 : decode c_Mo_outcome 13 = .ok (.getfield 44, 3) := by decide +kernel
theorem d_Mo_outcome_16 : decode c_Mo_outcome 16 = .ok (.iload_n 1, 1) := by decide +kernel
theorem d_Mo_outcome_17 : decode c_Mo_outcome 17 = .ok (.iaload, 1) := by decide +kernel
theorem d_Mo_outcome_18 : decode c_Mo_outcome 18 = .ok (.goto 4, 3) := by decide +kernel
theorem d_Mo_outcome_21 : decode c_Mo_outcome 21 = .ok (.iconst 0, 1) := by decide +kernel
theorem d_Mo_outcome_22 : decode c_Mo_outcome 22 = .ok (.ireturn, 1) := by decide +kernel
theorem d_Mo_serial_0 : decode c_Mo_serial 0 = .ok (.bipush 9, 2) := by decide +kernel
theorem d_Mo_serial_2 : decode c_Mo_serial 2 = .ok (.istore_n 3, 1) := by decide +kernel
theorem d_Mo_serial_3 : decode c_Mo_serial 3 = .ok (.bipush 10, 2) := by decide +kernel
theorem d_Mo_serial_5 : decode c_Mo_serial 5 = .ok (.istore 4, 2) := by decide +kernel
theorem d_Mo_serial_7 : decode c_Mo_serial 7 = .ok (.iload 4, 2) := by decide +kernel
theorem d_Mo_serial_9 : decode c_Mo_serial 9 = .ok (.bipush 12, 2) := by decide +kernel
theorem d_Mo_serial_11 : decode c_Mo_serial 11 = .ok (.if_icmp .ge 32, 3) := by decide +kernel
theorem d_Mo_serial_14 : decode c_Mo_serial 14 = .ok (.aload_n 0, 1) := by decide +kernel
theorem d_Mo_serial_15 : decode c_Mo_serial 15 = .ok (.getfield 35, 3) := by decide +kernel
theorem d_Mo_serial_18 : decode c_Mo_serial 18 = .ok (.iload 4, 2) := by decide +kernel
theorem d_Mo_serial_20 : decode c_Mo_serial 20 = .ok (.iaload, 1) := by decide +kernel
theorem d_Mo_serial_21 : decode c_Mo_serial 21 = .ok (.aload_n 0, 1) := by decide +kernel
theorem d_Mo_serial_22 : decode c_Mo_serial 22 = .ok (.getfield 35, 3) := by decide +kernel
theorem d_Mo_serial_25 : decode c_Mo_serial 25 = .ok (.iload_n 3, 1) := by decide +kernel
theorem d_Mo_serial_26 : decode c_Mo_serial 26 = .ok (.iaload, 1) := by decide +kernel
theorem d_Mo_serial_27 : decode c_Mo_serial 27 = .ok (.if_icmp .le 8, 3) := by decide +kernel
theorem d_Mo_serial_30 : decode c_Mo_serial 30 = .ok (.iload 4, 2) := by decide +kernel
theorem d_Mo_serial_32 : decode c_Mo_serial 32 = .ok (.goto 4, 3) := by decide +kernel
theorem d_Mo_serial_35 : decode c_Mo_serial 35 = .ok (.iload_n 3, 1) := by decide +kernel
theorem d_Mo_serial_36 : decode c_Mo_serial 36 = .ok (.istore_n 3, 1) := by decide +kernel
theorem d_Mo_serial_37 : decode c_Mo_serial 37 = .ok (.iinc 4 1, 3) := by decide +kernel
theorem d_Mo_serial_40 : decode c_Mo_serial 40 = .ok (.goto (-33), 3) := by decide +kernel
theorem d_Mo_serial_43 : decode c_Mo_serial 43 = .ok (.iconst 0, 1) := by decide +kernel
theorem d_Mo_serial_44 : decode c_Mo_serial 44 = .ok (.istore 4, 2) := by decide +kernel
theorem d_Mo_serial_46 : decode c_Mo_serial 46 = .ok (.iload 4, 2) := by decide +kernel
theorem d_Mo_serial_48 : decode c_Mo_serial 48 = .ok (.bipush 20, 2) := by decide +kernel
theorem d_Mo_serial_50 : decode c_Mo_serial 50 = .ok (.if_icmp .gt 17, 3) := by decide +kernel
theorem d_Mo_serial_53 : decode c_Mo_serial 53 = .ok (.aload_n 0, 1) := by decide +kernel
theorem d_Mo_serial_54 : decode c_Mo_serial 54 = .ok (.getfield 53, 3) := by decide +kernel
theorem d_Mo_serial_57 : decode c_Mo_serial 57 = .ok (.iload 4, 2) := by decide +kernel
theorem d_Mo_serial_59 : decode c_Mo_serial 59 = .ok (.iconst 0, 1) := by decide +kernel
theorem d_Mo_serial_60 : decode c_Mo_serial 60 = .ok (.iastore, 1) := by decide +kernel
theorem d_Mo_serial_61 : decode c_Mo_serial 61 = .ok (.iinc 4 1, 3) := by decide +kernel
theorem d_Mo_serial_64 : decode c_Mo_serial 64 = .ok (.goto (-18), 3) := by decide +kernel
theorem d_Mo_serial_67 : decode c_Mo_serial 67 = .ok (.iconst 0, 1) := by decide +kernel
theorem d_Mo_serial_68 : decode c_Mo_serial 68 = .ok (.istore 4, 2) := by decide +kernel
theorem d_Mo_serial_70 : decode c_Mo_serial 70 = .ok (.iload 4, 2) := by decide +kernel
theorem d_Mo_serial_72 : decode c_Mo_serial 72 = .ok (.bipush 12, 2) := by decide +kernel
theorem d_Mo_serial_74 : decode c_Mo_serial 74 = .ok (.if_icmp .ge 17, 3) := by decide +kernel
theorem d_Mo_serial_77 : decode c_Mo_serial 77 = .ok (.aload_n 0, 1) := by decide +kernel
theorem d_Mo_serial_78 : decode c_Mo_serial 78 = .ok (.getfield 56, 3) := by decide +kernel
theorem d_Mo_serial_81 : decode c_Mo_serial 81 = .ok (.iload 4, 2) := by decide +kernel
theorem d_Mo_serial_83 : decode c_Mo_serial 83 = .ok (.iconst 0, 1) := by decide +kernel
theorem d_Mo_serial_84 : decode c_Mo_serial 84 = .ok (.iastore, 1) := by decide +kernel
theorem d_Mo_serial_85 : decode c_Mo_serial 85 = .ok (.iinc 4 1, 3) := by decide +kernel
theorem d_Mo_serial_88 : decode c_Mo_serial 88 = .ok (.goto (-18), 3) := by decide +kernel
theorem d_Mo_serial_91 : decode c_Mo_serial 91 = .ok (.ldc2_w 127, 3) := by decide +kernel
theorem d_Mo_serial_94 : decode c_Mo_serial 94 = .ok (.lstore 4, 2) := by decide +kernel
theorem d_Mo_serial_96 : decode c_Mo_serial 96 = .ok (.iconst 0, 1) := by decide +kernel
theorem d_Mo_serial_97 : decode c_Mo_serial 97 = .ok (.istore 6, 2) := by decide +kernel
theorem d_Mo_serial_99 : decode c_Mo_serial 99 = .ok (.iload 6, 2) := by decide +kernel
theorem d_Mo_serial_101 : decode c_Mo_serial 101 = .ok (.aload_n 0, 1) := by decide +kernel
theorem d_Mo_serial_102 : decode c_Mo_serial 102 = .ok (.getfield 35, 3) := by decide +kernel
theorem d_Mo_serial_105 : decode c_Mo_serial 105 = .ok (.iload_n 3, 1) := by decide +kernel
theorem d_Mo_serial_106 : decode c_Mo_serial 106 = .ok (.iaload, 1) := by decide +kernel
theorem d_Mo_serial_107 : decode c_Mo_serial 107 = .ok (.if_icmp .ge 157, 3) := by decide +kernel
theorem d_Mo_serial_110 : decode c_Mo_serial 110 = .ok (.aload_n 0, 1) := by decide +kernel
theorem d_Mo_serial_111 : decode c_Mo_serial 111 = .ok (.getfield 53, 3) := by decide +kernel
theorem d_Mo_serial_114 : decode c_Mo_serial 114 = .ok (.iload_n 1, 1) := by decide +kernel
theorem d_Mo_serial_115 : decode c_Mo_serial 115 = .ok (.iaload, 1) := by decide +kernel
theorem d_Mo_serial_116 : decode c_Mo_serial 116 = .ok (.ifCond .ne 148, 3) := by decide +kernel
theorem d_Mo_serial_119 : decode c_Mo_serial 119 = .ok (.aload_n 0, 1) := by decide +kernel
theorem d_Mo_serial_120 : decode c_Mo_serial 120 = .ok (.getfield 38, 3) := by decide +kernel
theorem d_Mo_serial_123 : decode c_Mo_serial 123 = .ok (.bipush 60, 2) := by decide +kernel
theorem d_Mo_serial_125 : decode c_Mo_serial 125 = .ok (.iload_n 3, 1) := by decide +kernel
theorem d_Mo_serial_126 : decode c_Mo_serial 126 = .ok (.imul, 1) := by decide +kernel
theorem d_Mo_serial_127 : decode c_Mo_serial 127 = .ok (.iload 6, 2) := by decide +kernel
theorem d_Mo_serial_129 : decode c_Mo_serial 129 = .ok (.iadd, 1) := by decide +kernel
theorem d_Mo_serial_130 : decode c_Mo_serial 130 = .ok (.iaload, 1) := by decide +kernel
theorem d_Mo_serial_131 : decode c_Mo_serial 131 = .ok (.bipush 32, 2) := by decide +kernel
theorem d_Mo_serial_133 : decode c_Mo_serial 133 = .ok (.irem, 1) := by decide +kernel
theorem d_Mo_serial_134 : decode c_Mo_serial 134 = .ok (.istore 7, 2) := by decide +kernel
theorem d_Mo_serial_136 : decode c_Mo_serial 136 = .ok (.aload_n 0, 1) := by decide +kernel
theorem d_Mo_serial_137 : decode c_Mo_serial 137 = .ok (.getfield 53, 3) := by decide +kernel
theorem d_Mo_serial_140 : decode c_Mo_serial 140 = .ok (.iload 7, 2) := by decide +kernel
theorem d_Mo_serial_142 : decode c_Mo_serial 142 = .ok (.iaload, 1) := by decide +kernel
theorem d_Mo_serial_143 : decode c_Mo_serial 143 = .ok (.ifCond .ne 7, 3) := by decide +kernel
theorem d_Mo_serial_146 : decode c_Mo_serial 146 = .ok (.iconst 1, 1) := by decide +kernel
theorem d_Mo_serial_147 : decode c_Mo_serial 147 = .ok (.goto 4, 3) := by decide +kernel
theorem d_Mo_serial_150 : decode c_Mo_serial 150 = .ok (.iconst 0, 1) := by decide +kernel
theorem d_Mo_serial_151 : decode c_Mo_serial 151 = .ok (.istore 8, 2) := by decide +kernel
theorem d_Mo_serial_153 : decode c_Mo_serial 153 = .ok (.aload_n 0, 1) := by decide +kernel
theorem d_Mo_serial_154 : decode c_Mo_serial 154 = .ok (.getfield 53, 3) := by decide +kernel
theorem d_Mo_serial_157 : decode c_Mo_serial 157 = .ok (.iload 7, 2) := by decide +kernel
theorem d_Mo_serial_159 : decode c_Mo_serial 159 = .ok (.iload 8, 2) := by decide +kernel
theorem d_Mo_serial_161 : decode c_Mo_serial 161 = .ok (.ifCond .eq 21, 3) := by decide +kernel
theorem d_Mo_serial_164 : decode c_Mo_serial 164 = .ok (.aload_n 0, 1) := by decide +kernel
theorem d_Mo_serial_165 : decode c_Mo_serial 165 = .ok (.getfield 38, 3) := by decide +kernel
theorem d_Mo_serial_168 : decode c_Mo_serial 168 = .ok (.bipush 60, 2) := by decide +kernel
theorem d_Mo_serial_170 : decode c_Mo_serial 170 = .ok (.iload_n 3, 1) := by decide +kernel
theorem d_Mo_serial_171 : decode c_Mo_serial 171 = .ok (.imul, 1) := by decide +kernel
theorem d_Mo_serial_172 : decode c_Mo_serial 172 = .ok (.iload 6, 2) := by decide +kernel
theorem d_Mo_serial_174 : decode c_Mo_serial 174 = .ok (.iadd, 1) := by decide +kernel
theorem d_Mo_serial_175 : decode c_Mo_serial 175 = .ok (.iaload, 1) := by decide +kernel
theorem d_Mo_serial_176 : decode c_Mo_serial 176 = .ok (.bipush 32, 2) := by decide +kernel
theorem d_Mo_serial_178 : decode c_Mo_serial 178 = .ok (.idiv, 1) := by decide +kernel
theorem d_Mo_serial_179 : decode c_Mo_serial 179 = .ok (.goto 10, 3) := by decide +kernel
theorem d_Mo_serial_182 : decode c_Mo_serial 182 = .ok (.aload_n 0, 1) := by decide +kernel
theorem d_Mo_serial_183 : decode c_Mo_serial 183 = .ok (.getfield 53, 3) := by decide +kernel
theorem d_Mo_serial_186 : decode c_Mo_serial 186 = .ok (.iload 7, 2) := by decide +kernel
theorem d_Mo_serial_188 : decode c_Mo_serial 188 = .ok (.iaload, 1) := by decide +kernel
theorem d_Mo_serial_189 : decode c_Mo_serial 189 = .ok (.iastore, 1) := by decide +kernel
theorem d_Mo_serial_190 : decode c_Mo_serial 190 = .ok (.iconst 0, 1) := by decide +kernel
theorem d_Mo_serial_191 : decode c_Mo_serial 191 = .ok (.istore 9, 2) := by decide +kernel
theorem d_Mo_serial_193 : decode c_Mo_serial 193 = .ok (.iload 9, 2) := by decide +kernel
theorem d_Mo_serial_195 : decode c_Mo_serial 195 = .ok (.aload_n 0, 1) := by decide +kernel
theorem d_Mo_serial_196 : decode c_Mo_serial 196 = .ok (.getfield 7, 3) := by decide +kernel
theorem d_Mo_serial_199 : decode c_Mo_serial 199 = .ok (.iload 7, 2) := by decide +kernel
theorem d_Mo_serial_201 : decode c_Mo_serial 201 = .ok (.iaload, 1) := by decide +kernel
theorem d_Mo_serial_202 : decode c_Mo_serial 202 = .ok (.if_icmp .ge 56, 3) := by decide +kernel
theorem d_Mo_serial_205 : decode c_Mo_serial 205 = .ok (.iload 8, 2) := by decide +kernel
theorem d_Mo_serial_207 : decode c_Mo_serial 207 = .ok (.ifCond .eq 51, 3) := by decide +kernel
theorem d_Mo_serial_210 : decode c_Mo_serial 210 = .ok (.aload_n 0, 1) := by decide +kernel
theorem d_Mo_serial_211 : decode c_Mo_serial 211 = .ok (.getfield 53, 3) := by decide +kernel
theorem d_Mo_serial_214 : decode c_Mo_serial 214 = .ok (.iload 7, 2) := by decide +kernel
theorem d_Mo_serial_216 : decode c_Mo_serial 216 = .ok (.iaload, 1) := by decide +kernel
theorem d_Mo_serial_217 : decode c_Mo_serial 217 = .ok (.iconst 2, 1) := by decide +kernel
theorem d_Mo_serial_218 : decode c_Mo_serial 218 = .ok (.if_icmp .ne 40, 3) := by decide +kernel
theorem d_Mo_serial_221 : decode c_Mo_serial 221 = .ok (.aload_n 0, 1) := by decide +kernel
theorem d_Mo_serial_222 : decode c_Mo_serial 222 = .ok (.iload 7, 2) := by decide +kernel
theorem d_Mo_serial_224 : decode c_Mo_serial 224 = .ok (.iload 9, 2) := by decide +kernel
theorem d_Mo_serial_226 : decode c_Mo_serial 226 = .ok (.invokevirtual 82, 3) := by decide +kernel
theorem d_Mo_serial_229 : decode c_Mo_serial 229 = .ok (.iload 7, 2) := by decide +kernel
theorem d_Mo_serial_231 : decode c_Mo_serial 231 = .ok (.iload_n 1, 1) := by decide +kernel
theorem d_Mo_serial_232 : decode c_Mo_serial 232 = .ok (.if_icmp .ne 16, 3) := by decide +kernel
theorem d_Mo_serial_235 : decode c_Mo_serial 235 = .ok (.iload 9, 2) := by decide +kernel
theorem d_Mo_serial_237 : decode c_Mo_serial 237 = .ok (.iload_n 2, 1) := by decide +kernel
theorem d_Mo_serial_238 : decode c_Mo_serial 238 = .ok (.if_icmp .ne 10, 3) := by decide +kernel
theorem d_Mo_serial_241 : decode c_Mo_serial 241 = .ok (.aload_n 0, 1) := by decide +kernel
theorem d_Mo_serial_242 : decode c_Mo_serial 242 = .ok (.getfield 67, 3) := by decide +kernel
theorem d_Mo_serial_245 : decode c_Mo_serial 245 = .ok (.goto 5, 3) := by decide +kernel
theorem d_Mo_serial_248 : decode c_Mo_serial 248 = .ok (.lload 4, 2) := by decide +kernel
theorem d_Mo_serial_250 : decode c_Mo_serial 250 = .ok (.lstore 4, 2) := by decide +kernel
theorem d_Mo_serial_252 : decode c_Mo_serial 252 = .ok (.iinc 9 1, 3) := by decide +kernel
theorem d_Mo_serial_255 : decode c_Mo_serial 255 = .ok (.goto (-62), 3) := by decide +kernel
theorem d_Mo_serial_258 : decode c_Mo_serial 258 = .ok (.iinc 6 1, 3) := by decide +kernel
theorem d_Mo_serial_261 : decode c_Mo_serial 261 = .ok (.goto (-162), 3) := by decide +kernel
theorem d_Mo_serial_264 : decode c_Mo_serial 264 = .ok (.lload 4, 2) := by decide +kernel
theorem d_Mo_serial_266 : decode c_Mo_serial 266 = .ok (.lreturn, 1) := by decide +kernel
theorem d_Mo_result_0 : decode c_Mo_result 0 = .ok (.iload_n 1, 1) := by decide +kernel
theorem d_Mo_result_1 : decode c_Mo_result 1 = .ok (.iconst 1, 1) := by decide +kernel
theorem d_Mo_result_2 : decode c_Mo_result 2 = .ok (.aload_n 0, 1) := by decide +kernel
theorem d_Mo_result_3 : decode c_Mo_result 3 = .ok (.getfield 59, 3) := by decide +kernel
theorem d_Mo_result_6 : decode c_Mo_result 6 = .ok (.invokestatic 63, 3) := by decide +kernel
theorem d_Mo_result_9 : decode c_Mo_result 9 = .ok (.ifCond .eq 17, 3) := by decide +kernel
theorem d_Mo_result_12 : decode c_Mo_result 12 = .ok (.iload_n 2, 1) := by decide +kernel
theorem d_Mo_result_13 : decode c_Mo_result 13 = .ok (.ifCond .lt 13, 3) := by decide +kernel
theorem d_Mo_result_16 : decode c_Mo_result 16 = .ok (.iload_n 2, 1) := by decide +kernel
theorem d_Mo_result_17 : decode c_Mo_result 17 = .ok (.aload_n 0, 1) := by decide +kernel
theorem d_Mo_result_18 : decode c_Mo_result 18 = .ok (.getfield 7, 3) := by decide +kernel
theorem d_Mo_result_21 : decode c_Mo_result 21 = .ok (.iload_n 1, 1) := by decide +kernel
theorem d_Mo_result_22 : decode c_Mo_result 22 = .ok (.iaload, 1) := by decide +kernel
theorem d_Mo_result_23 : decode c_Mo_result 23 = .ok (.if_icmp .lt 7, 3) := by decide +kernel
theorem d_Mo_result_26 : decode c_Mo_result 26 = .ok (.ldc2_w 127, 3) := by decide +kernel
theorem d_Mo_result_29 : decode c_Mo_result 29 = .ok (.lreturn, 1) := by decide +kernel
theorem d_Mo_result_30 : decode c_Mo_result 30 = .ok (.aload_n 0, 1) := by decide +kernel
theorem d_Mo_result_31 : decode c_Mo_result 31 = .ok (.getfield 20, 3) := by decide +kernel
theorem d_Mo_result_34 : decode c_Mo_result 34 = .ok (.iconst 4, 1) := by decide +kernel
theorem d_Mo_result_35 : decode c_Mo_result 35 = .ok (.iload_n 1, 1) := by decide +kernel
theorem d_Mo_result_36 : decode c_Mo_result 36 = .ok (.imul, 1) := by decide +kernel
theorem d_Mo_result_37 : decode c_Mo_result 37 = .ok (.iload_n 2, 1) := by decide +kernel
theorem d_Mo_result_38 : decode c_Mo_result 38 = .ok (.iadd, 1) := by decide +kernel
theorem d_Mo_result_39 : decode c_Mo_result 39 = .ok (.iaload, 1) := by decide +kernel
theorem d_Mo_result_40 : decode c_Mo_result 40 = .ok (.iconst 3, 1) := by decide +kernel
theorem d_Mo_result_41 : decode c_Mo_result 41 = .ok (.irem, 1) := by decide +kernel
theorem d_Mo_result_42 : decode c_Mo_result 42 = .ok (.istore_n 3, 1) := by decide +kernel
theorem d_Mo_result_43 : decode c_Mo_result 43 = .ok (.aload_n 0, 1) := by decide +kernel
theorem d_Mo_result_44 : decode c_Mo_result 44 = .ok (.getfield 44, 3) := by decide +kernel
theorem d_Mo_result_47 : decode c_Mo_result 47 = .ok (.iload_n 1, 1) := by decide +kernel
theorem d_Mo_result_48 : decode c_Mo_result 48 = .ok (.iaload, 1) := by decide +kernel
theorem d_Mo_result_49 : decode c_Mo_result 49 = .ok (.iconst 1, 1) := by decide +kernel
theorem d_Mo_result_50 : decode c_Mo_result 50 = .ok (.if_icmp .ne 26, 3) := by decide +kernel
theorem d_Mo_result_53 : decode c_Mo_result 53 = .ok (.aload_n 0, 1) := by decide +kernel
theorem d_Mo_result_54 : decode c_Mo_result 54 = .ok (.getfield 41, 3) := by decide +kernel
theorem d_Mo_result_57 : decode c_Mo_result 57 = .ok (.iconst 3, 1) := by decide +kernel
theorem d_Mo_result_58 : decode c_Mo_result 58 = .ok (.iload_n 1, 1) := by decide +kernel
theorem d_Mo_result_59 : decode c_Mo_result 59 = .ok (.imul, 1) := by decide +kernel
theorem d_Mo_result_60 : decode c_Mo_result 60 = .ok (.iload_n 3, 1) := by decide +kernel
theorem d_Mo_result_61 : decode c_Mo_result 61 = .ok (.iadd, 1) := by decide +kernel
theorem d_Mo_result_62 : decode c_Mo_result 62 = .ok (.iaload, 1) := by decide +kernel
theorem d_Mo_result_63 : decode c_Mo_result 63 = .ok (.iconst 1, 1) := by decide +kernel
theorem d_Mo_result_64 : decode c_Mo_result 64 = .ok (.if_icmp .ne 12, 3) := by decide +kernel
theorem d_Mo_result_67 : decode c_Mo_result 67 = .ok (.aload_n 0, 1) := by decide +kernel
theorem d_Mo_result_68 : decode c_Mo_result 68 = .ok (.iload_n 1, 1) := by decide +kernel
theorem d_Mo_result_69 : decode c_Mo_result 69 = .ok (.iload_n 2, 1) := by decide +kernel
theorem d_Mo_result_70 : decode c_Mo_result 70 = .ok (.invokevirtual 129, 3) := by decide +kernel
theorem d_Mo_result_73 : decode c_Mo_result 73 = .ok (.goto 6, 3) := by decide +kernel
theorem d_Mo_result_76 : decode c_Mo_result 76 = .ok (.ldc2_w 127, 3) := by decide +kernel
theorem d_Mo_result_79 : decode c_Mo_result 79 = .ok (.lreturn, 1) := by decide +kernel
theorem d_Mo_view_0 : decode c_Mo_view 0 = .ok (.iload_n 1, 1) := by decide +kernel
theorem d_Mo_view_1 : decode c_Mo_view 1 = .ok (.iconst 0, 1) := by decide +kernel
theorem d_Mo_view_2 : decode c_Mo_view 2 = .ok (.iconst 3, 1) := by decide +kernel
theorem d_Mo_view_3 : decode c_Mo_view 3 = .ok (.invokestatic 63, 3) := by decide +kernel
theorem d_Mo_view_6 : decode c_Mo_view 6 = .ok (.ifCond .eq 25, 3) := by decide +kernel
theorem d_Mo_view_9 : decode c_Mo_view 9 = .ok (.iload_n 2, 1) := by decide +kernel
theorem d_Mo_view_10 : decode c_Mo_view 10 = .ok (.iconst 0, 1) := by decide +kernel
theorem d_Mo_view_11 : decode c_Mo_view 11 = .ok (.iconst 2, 1) := by decide +kernel
theorem d_Mo_view_12 : decode c_Mo_view 12 = .ok (.invokestatic 63, 3) := by decide +kernel
theorem d_Mo_view_15 : decode c_Mo_view 15 = .ok (.ifCond .eq 16, 3) := by decide +kernel
theorem d_Mo_view_18 : decode c_Mo_view 18 = .ok (.aload_n 0, 1) := by decide +kernel
theorem d_Mo_view_19 : decode c_Mo_view 19 = .ok (.getfield 29, 3) := by decide +kernel
theorem d_Mo_view_22 : decode c_Mo_view 22 = .ok (.iconst 3, 1) := by decide +kernel
theorem d_Mo_view_23 : decode c_Mo_view 23 = .ok (.iload_n 1, 1) := by decide +kernel
theorem d_Mo_view_24 : decode c_Mo_view 24 = .ok (.imul, 1) := by decide +kernel
theorem d_Mo_view_25 : decode c_Mo_view 25 = .ok (.iload_n 2, 1) := by decide +kernel
theorem d_Mo_view_26 : decode c_Mo_view 26 = .ok (.iadd, 1) := by decide +kernel
theorem d_Mo_view_27 : decode c_Mo_view 27 = .ok (.iaload, 1) := by decide +kernel
theorem d_Mo_view_28 : decode c_Mo_view 28 = .ok (.goto 4, 3) := by decide +kernel
theorem d_Mo_view_31 : decode c_Mo_view 31 = .ok (.iconst (-1), 1) := by decide +kernel
theorem d_Mo_view_32 : decode c_Mo_view 32 = .ok (.ireturn, 1) := by decide +kernel
theorem d_Mo_length_0 : decode c_Mo_length 0 = .ok (.iload_n 1, 1) := by decide +kernel
theorem d_Mo_length_1 : decode c_Mo_length 1 = .ok (.iconst 0, 1) := by decide +kernel
theorem d_Mo_length_2 : decode c_Mo_length 2 = .ok (.iconst 3, 1) := by decide +kernel
theorem d_Mo_length_3 : decode c_Mo_length 3 = .ok (.invokestatic 63, 3) := by decide +kernel
theorem d_Mo_length_6 : decode c_Mo_length 6 = .ok (.ifCond .eq 25, 3) := by decide +kernel
theorem d_Mo_length_9 : decode c_Mo_length 9 = .ok (.iload_n 2, 1) := by decide +kernel
theorem d_Mo_length_10 : decode c_Mo_length 10 = .ok (.iconst 0, 1) := by decide +kernel
theorem d_Mo_length_11 : decode c_Mo_length 11 = .ok (.iconst 2, 1) := by decide +kernel
theorem d_Mo_length_12 : decode c_Mo_length 12 = .ok (.invokestatic 63, 3) := by decide +kernel
theorem d_Mo_length_15 : decode c_Mo_length 15 = .ok (.ifCond .eq 16, 3) := by decide +kernel
theorem d_Mo_length_18 : decode c_Mo_length 18 = .ok (.aload_n 0, 1) := by decide +kernel
theorem d_Mo_length_19 : decode c_Mo_length 19 = .ok (.getfield 32, 3) := by decide +kernel
theorem d_Mo_length_22 : decode c_Mo_length 22 = .ok (.iconst 3, 1) := by decide +kernel
theorem d_Mo_length_23 : decode c_Mo_length 23 = .ok (.iload_n 1, 1) := by decide +kernel
theorem d_Mo_length_24 : decode c_Mo_length 24 = .ok (.imul, 1) := by decide +kernel
theorem d_Mo_length_25 : decode c_Mo_length 25 = .ok (.iload_n 2, 1) := by decide +kernel
theorem d_Mo_length_26 : decode c_Mo_length 26 = .ok (.iadd, 1) := by decide +kernel
theorem d_Mo_length_27 : decode c_Mo_length 27 = .ok (.iaload, 1) := by decide +kernel
theorem d_Mo_length_28 : decode c_Mo_length 28 = .ok (.goto 4, 3) := by decide +kernel
theorem d_Mo_length_31 : decode c_Mo_length 31 = .ok (.iconst (-1), 1) := by decide +kernel
theorem d_Mo_length_32 : decode c_Mo_length 32 = .ok (.ireturn, 1) := by decide +kernel
theorem d_Mo_executed_0 : decode c_Mo_executed 0 = .ok (.iload_n 1, 1) := by decide +kernel
theorem d_Mo_executed_1 : decode c_Mo_executed 1 = .ok (.iconst 0, 1) := by decide +kernel
theorem d_Mo_executed_2 : decode c_Mo_executed 2 = .ok (.iconst 3, 1) := by decide +kernel
theorem d_Mo_executed_3 : decode c_Mo_executed 3 = .ok (.invokestatic 63, 3) := by decide +kernel
theorem d_Mo_executed_6 : decode c_Mo_executed 6 = .ok (.ifCond .eq 25, 3) := by decide +kernel
theorem d_Mo_executed_9 : decode c_Mo_executed 9 = .ok (.iload_n 2, 1) := by decide +kernel
theorem d_Mo_executed_10 : decode c_Mo_executed 10 = .ok (.iconst 0, 1) := by decide +kernel
theorem d_Mo_executed_11 : decode c_Mo_executed 11 = .ok (.iconst 2, 1) := by decide +kernel
theorem d_Mo_executed_12 : decode c_Mo_executed 12 = .ok (.invokestatic 63, 3) := by decide +kernel
theorem d_Mo_executed_15 : decode c_Mo_executed 15 = .ok (.ifCond .eq 16, 3) := by decide +kernel
theorem d_Mo_executed_18 : decode c_Mo_executed 18 = .ok (.aload_n 0, 1) := by decide +kernel
theorem d_Mo_executed_19 : decode c_Mo_executed 19 = .ok (.getfield 35, 3) := by decide +kernel
theorem d_Mo_executed_22 : decode c_Mo_executed 22 = .ok (.iconst 3, 1) := by decide +kernel
theorem d_Mo_executed_23 : decode c_Mo_executed 23 = .ok (.iload_n 1, 1) := by decide +kernel
theorem d_Mo_executed_24 : decode c_Mo_executed 24 = .ok (.imul, 1) := by decide +kernel
theorem d_Mo_executed_25 : decode c_Mo_executed 25 = .ok (.iload_n 2, 1) := by decide +kernel
theorem d_Mo_executed_26 : decode c_Mo_executed 26 = .ok (.iadd, 1) := by decide +kernel
theorem d_Mo_executed_27 : decode c_Mo_executed 27 = .ok (.iaload, 1) := by decide +kernel
theorem d_Mo_executed_28 : decode c_Mo_executed 28 = .ok (.goto 4, 3) := by decide +kernel
theorem d_Mo_executed_31 : decode c_Mo_executed 31 = .ok (.iconst (-1), 1) := by decide +kernel
theorem d_Mo_executed_32 : decode c_Mo_executed 32 = .ok (.ireturn, 1) := by decide +kernel
theorem d_Mo_value_0 : decode c_Mo_value 0 = .ok (.iload_n 1, 1) := by decide +kernel
theorem d_Mo_value_1 : decode c_Mo_value 1 = .ok (.iconst 0, 1) := by decide +kernel
theorem d_Mo_value_2 : decode c_Mo_value 2 = .ok (.bipush 11, 2) := by decide +kernel
theorem d_Mo_value_4 : decode c_Mo_value 4 = .ok (.invokestatic 63, 3) := by decide +kernel
theorem d_Mo_value_7 : decode c_Mo_value 7 = .ok (.ifCond .eq 12, 3) := by decide +kernel
theorem d_Mo_value_10 : decode c_Mo_value 10 = .ok (.iload_n 2, 1) := by decide +kernel
theorem d_Mo_value_11 : decode c_Mo_value 11 = .ok (.iconst 0, 1) := by decide +kernel
theorem d_Mo_value_12 : decode c_Mo_value 12 = .ok (.iconst 2, 1) := by decide +kernel
theorem d_Mo_value_13 : decode c_Mo_value 13 = .ok (.invokestatic 63, 3) := by decide +kernel
theorem d_Mo_value_16 : decode c_Mo_value 16 = .ok (.ifCond .ne 5, 3) := by decide +kernel
theorem d_Mo_value_19 : decode c_Mo_value 19 = .ok (.iconst 0, 1) := by decide +kernel
theorem d_Mo_value_20 : decode c_Mo_value 20 = .ok (.ireturn, 1) := by decide +kernel
theorem d_Mo_value_21 : decode c_Mo_value 21 = .ok (.aload_n 0, 1) := by decide +kernel
theorem d_Mo_value_22 : decode c_Mo_value 22 = .ok (.iload_n 1, 1) := by decide +kernel
theorem d_Mo_value_23 : decode c_Mo_value 23 = .ok (.iconst 3, 1) := by decide +kernel
theorem d_Mo_value_24 : decode c_Mo_value 24 = .ok (.irem, 1) := by decide +kernel
theorem d_Mo_value_25 : decode c_Mo_value 25 = .ok (.iload_n 2, 1) := by decide +kernel
theorem d_Mo_value_26 : decode c_Mo_value 26 = .ok (.invokevirtual 113, 3) := by decide +kernel
theorem d_Mo_value_29 : decode c_Mo_value 29 = .ok (.aload_n 0, 1) := by decide +kernel
theorem d_Mo_value_30 : decode c_Mo_value 30 = .ok (.getfield 56, 3) := by decide +kernel
theorem d_Mo_value_33 : decode c_Mo_value 33 = .ok (.iload_n 1, 1) := by decide +kernel
theorem d_Mo_value_34 : decode c_Mo_value 34 = .ok (.iaload, 1) := by decide +kernel
theorem d_Mo_value_35 : decode c_Mo_value 35 = .ok (.ireturn, 1) := by decide +kernel
theorem d_Mo_holds_0 : decode c_Mo_holds 0 = .ok (.iload_n 1, 1) := by decide +kernel
theorem d_Mo_holds_1 : decode c_Mo_holds 1 = .ok (.iconst 0, 1) := by decide +kernel
theorem d_Mo_holds_2 : decode c_Mo_holds 2 = .ok (.bipush 11, 2) := by decide +kernel
theorem d_Mo_holds_4 : decode c_Mo_holds 4 = .ok (.invokestatic 63, 3) := by decide +kernel
theorem d_Mo_holds_7 : decode c_Mo_holds 7 = .ok (.ifCond .eq 12, 3) := by decide +kernel
theorem d_Mo_holds_10 : decode c_Mo_holds 10 = .ok (.iload_n 2, 1) := by decide +kernel
theorem d_Mo_holds_11 : decode c_Mo_holds 11 = .ok (.iconst 0, 1) := by decide +kernel
theorem d_Mo_holds_12 : decode c_Mo_holds 12 = .ok (.iconst 2, 1) := by decide +kernel
theorem d_Mo_holds_13 : decode c_Mo_holds 13 = .ok (.invokestatic 63, 3) := by decide +kernel
theorem d_Mo_holds_16 : decode c_Mo_holds 16 = .ok (.ifCond .ne 5, 3) := by decide +kernel
theorem d_Mo_holds_19 : decode c_Mo_holds 19 = .ok (.iconst 0, 1) := by decide +kernel
theorem d_Mo_holds_20 : decode c_Mo_holds 20 = .ok (.ireturn, 1) := by decide +kernel
theorem d_Mo_holds_21 : decode c_Mo_holds 21 = .ok (.aload_n 0, 1) := by decide +kernel
theorem d_Mo_holds_22 : decode c_Mo_holds 22 = .ok (.iload_n 1, 1) := by decide +kernel
theorem d_Mo_holds_23 : decode c_Mo_holds 23 = .ok (.iconst 3, 1) := by decide +kernel
theorem d_Mo_holds_24 : decode c_Mo_holds 24 = .ok (.irem, 1) := by decide +kernel
theorem d_Mo_holds_25 : decode c_Mo_holds 25 = .ok (.iload_n 2, 1) := by decide +kernel
theorem d_Mo_holds_26 : decode c_Mo_holds 26 = .ok (.invokevirtual 113, 3) := by decide +kernel
theorem d_Mo_holds_29 : decode c_Mo_holds 29 = .ok (.iconst 0, 1) := by decide +kernel
theorem d_Mo_holds_30 : decode c_Mo_holds 30 = .ok (.istore_n 3, 1) := by decide +kernel
theorem d_Mo_holds_31 : decode c_Mo_holds 31 = .ok (.iconst 1, 1) := by decide +kernel
theorem d_Mo_holds_32 : decode c_Mo_holds 32 = .ok (.istore 4, 2) := by decide +kernel
theorem d_Mo_holds_34 : decode c_Mo_holds 34 = .ok (.iload 4, 2) := by decide +kernel
theorem d_Mo_holds_36 : decode c_Mo_holds 36 = .ok (.aload_n 0, 1) := by decide +kernel
theorem d_Mo_holds_37 : decode c_Mo_holds 37 = .ok (.getfield 59, 3) := by decide +kernel
theorem d_Mo_holds_40 : decode c_Mo_holds 40 = .ok (.if_icmp .gt 53, 3) := by decide +kernel
theorem d_Mo_holds_43 : decode c_Mo_holds 43 = .ok (.aload_n 0, 1) := by decide +kernel
theorem d_Mo_holds_44 : decode c_Mo_holds 44 = .ok (.getfield 47, 3) := by decide +kernel
theorem d_Mo_holds_47 : decode c_Mo_holds 47 = .ok (.iload 4, 2) := by decide +kernel
theorem d_Mo_holds_49 : decode c_Mo_holds 49 = .ok (.iaload, 1) := by decide +kernel
theorem d_Mo_holds_50 : decode c_Mo_holds 50 = .ok (.iconst 1, 1) := by decide +kernel
theorem d_Mo_holds_51 : decode c_Mo_holds 51 = .ok (.if_icmp .ne 36, 3) := by decide +kernel
theorem d_Mo_holds_54 : decode c_Mo_holds 54 = .ok (.aload_n 0, 1) := by decide +kernel
theorem d_Mo_holds_55 : decode c_Mo_holds 55 = .ok (.getfield 50, 3) := by decide +kernel
theorem d_Mo_holds_58 : decode c_Mo_holds 58 = .ok (.iload 4, 2) := by decide +kernel
theorem d_Mo_holds_60 : decode c_Mo_holds 60 = .ok (.baload, 1) := by decide +kernel
theorem d_Mo_holds_61 : decode c_Mo_holds 61 = .ok (.ifCond .ne 26, 3) := by decide +kernel
theorem d_Mo_holds_64 : decode c_Mo_holds 64 = .ok (.aload_n 0, 1) := by decide +kernel
theorem d_Mo_holds_65 : decode c_Mo_holds 65 = .ok (.iload 4, 2) := by decide +kernel
theorem d_Mo_holds_67 : decode c_Mo_holds 67 = .ok (.iload_n 1, 1) := by decide +kernel
theorem d_Mo_holds_68 : decode c_Mo_holds 68 = .ok (.invokevirtual 71, 3) := by decide +kernel
theorem d_Mo_holds_71 : decode c_Mo_holds 71 = .ok (.istore 5, 2) := by decide +kernel
theorem d_Mo_holds_73 : decode c_Mo_holds 73 = .ok (.iload 5, 2) := by decide +kernel
theorem d_Mo_holds_75 : decode c_Mo_holds 75 = .ok (.iconst 2, 1) := by decide +kernel
theorem d_Mo_holds_76 : decode c_Mo_holds 76 = .ok (.if_icmp .ne 6, 3) := by decide +kernel
theorem d_Mo_holds_79 : decode c_Mo_holds 79 = .ok (.iload 4, 2) := by decide +kernel
theorem d_Mo_holds_81 : decode c_Mo_holds 81 = .ok (.ireturn, 1) := by decide +kernel
theorem d_Mo_holds_82 : decode c_Mo_holds 82 = .ok (.iload_n 3, 1) := by decide +kernel
theorem d_Mo_holds_83 : decode c_Mo_holds 83 = .ok (.iload 5, 2) := by decide +kernel
theorem d_Mo_holds_85 : decode c_Mo_holds 85 = .ok (.iadd, 1) := by decide +kernel
theorem d_Mo_holds_86 : decode c_Mo_holds 86 = .ok (.istore_n 3, 1) := by decide +kernel
theorem d_Mo_holds_87 : decode c_Mo_holds 87 = .ok (.iinc 4 1, 3) := by decide +kernel
theorem d_Mo_holds_90 : decode c_Mo_holds 90 = .ok (.goto (-56), 3) := by decide +kernel
theorem d_Mo_holds_93 : decode c_Mo_holds 93 = .ok (.iload_n 3, 1) := by decide +kernel
theorem d_Mo_holds_94 : decode c_Mo_holds 94 = .ok (.ineg, 1) := by decide +kernel
theorem d_Mo_holds_95 : decode c_Mo_holds 95 = .ok (.ireturn, 1) := by decide +kernel
