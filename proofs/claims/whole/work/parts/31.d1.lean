/-! instructions -/
theorem d_Tx_init_0 : decode c_Tx_init 0 = .ok (.aload_n 0, 1) := by decide +kernel
theorem d_Tx_init_1 : decode c_Tx_init 1 = .ok (.invokespecial 3, 3) := by decide +kernel
theorem d_Tx_init_4 : decode c_Tx_init 4 = .ok (.aload_n 0, 1) := by decide +kernel
theorem d_Tx_init_5 : decode c_Tx_init 5 = .ok (.iconst 4, 1) := by decide +kernel
theorem d_Tx_init_6 : decode c_Tx_init 6 = .ok (.newarray .int, 2) := by decide +kernel
theorem d_Tx_init_8 : decode c_Tx_init 8 = .ok (.putfield 9, 3) := by decide +kernel
theorem d_Tx_init_11 : decode c_Tx_init 11 = .ok (.aload_n 0, 1) := by decide +kernel
theorem d_Tx_init_12 : decode c_Tx_init 12 = .ok (.iconst 4, 1) := by decide +kernel
theorem d_Tx_init_13 : decode c_Tx_init 13 = .ok (.newarray .int, 2) := by decide +kernel
theorem d_Tx_init_15 : decode c_Tx_init 15 = .ok (.putfield 15, 3) := by decide +kernel
theorem d_Tx_init_18 : decode c_Tx_init 18 = .ok (.aload_n 0, 1) := by decide +kernel
theorem d_Tx_init_19 : decode c_Tx_init 19 = .ok (.iconst 4, 1) := by decide +kernel
theorem d_Tx_init_20 : decode c_Tx_init 20 = .ok (.newarray .int, 2) := by decide +kernel
theorem d_Tx_init_22 : decode c_Tx_init 22 = .ok (.putfield 18, 3) := by decide +kernel
theorem d_Tx_init_25 : decode c_Tx_init 25 = .ok (.aload_n 0, 1) := by decide +kernel
theorem d_Tx_init_26 : decode c_Tx_init 26 = .ok (.bipush 12, 2) := by decide +kernel
theorem d_Tx_init_28 : decode c_Tx_init 28 = .ok (.newarray .int, 2) := by decide +kernel
theorem d_Tx_init_30 : decode c_Tx_init 30 = .ok (.putfield 21, 3) := by decide +kernel
theorem d_Tx_init_33 : decode c_Tx_init 33 = .ok (.return_, 1) := by decide +kernel
theorem d_Tx_addOperation_0 : decode c_Tx_addOperation 0 = .ok (.aload_n 0, 1) := by decide +kernel
theorem d_Tx_addOperation_1 : decode c_Tx_addOperation 1 = .ok (.getfield 24, 3) := by decide +kernel
theorem d_Tx_addOperation_4 : decode c_Tx_addOperation 4 = .ok (.ifCond .ne 11, 3) := by decide +kernel
theorem d_Tx_addOperation_7 : decode c_Tx_addOperation 7 = .ok (.aload_n 0, 1) := by decide +kernel
theorem d_Tx_addOperation_8 : decode c_Tx_addOperation 8 = .ok (.getfield 28, 3) := by decide +kernel
theorem d_Tx_addOperation_11 : decode c_Tx_addOperation 11 = .ok (.iconst 4, 1) := by decide +kernel
theorem d_Tx_addOperation_12 : decode c_Tx_addOperation 12 = .ok (.if_icmp .lt 5, 3) := by decide +kernel
theorem d_Tx_addOperation_15 : decode c_Tx_addOperation 15 = .ok (.iconst 0, 1) := by decide +kernel
theorem d_Tx_addOperation_16 : decode c_Tx_addOperation 16 = .ok (.ireturn, 1) := by decide +kernel
theorem d_Tx_addOperation_17 : decode c_Tx_addOperation 17 = .ok (.aload_n 0, 1) := by decide +kernel
theorem d_Tx_addOperation_18 : decode c_Tx_addOperation 18 = .ok (.getfield 9, 3) := by decide +kernel
theorem d_Tx_addOperation_21 : decode c_Tx_addOperation 21 = .ok (.aload_n 0, 1) := by decide +kernel
theorem d_Tx_addOperation_22 : decode c_Tx_addOperation 22 = .ok (.getfield 28, 3) := by decide +kernel
theorem d_Tx_addOperation_25 : decode c_Tx_addOperation 25 = .ok (.iload_n 1, 1) := by decide +kernel
theorem d_Tx_addOperation_26 : decode c_Tx_addOperation 26 = .ok (.iastore, 1) := by decide +kernel
theorem d_Tx_addOperation_27 : decode c_Tx_addOperation 27 = .ok (.aload_n 0, 1) := by decide +kernel
theorem d_Tx_addOperation_28 : decode c_Tx_addOperation 28 = .ok (.getfield 15, 3) := by decide +kernel
theorem d_Tx_addOperation_31 : decode c_Tx_addOperation 31 = .ok (.aload_n 0, 1) := by decide +kernel
theorem d_Tx_addOperation_32 : decode c_Tx_addOperation 32 = .ok (.getfield 28, 3) := by decide +kernel
theorem d_Tx_addOperation_35 : decode c_Tx_addOperation 35 = .ok (.iload_n 2, 1) := by decide +kernel
theorem d_Tx_addOperation_36 : decode c_Tx_addOperation 36 = .ok (.iastore, 1) := by decide +kernel
theorem d_Tx_addOperation_37 : decode c_Tx_addOperation 37 = .ok (.aload_n 0, 1) := by decide +kernel
theorem d_Tx_addOperation_38 : decode c_Tx_addOperation 38 = .ok (.getfield 18, 3) := by decide +kernel
theorem d_Tx_addOperation_41 : decode c_Tx_addOperation 41 = .ok (.aload_n 0, 1) := by decide +kernel
theorem d_Tx_addOperation_42 : decode c_Tx_addOperation 42 = .ok (.getfield 28, 3) := by decide +kernel
theorem d_Tx_addOperation_45 : decode c_Tx_addOperation 45 = .ok (.iload_n 3, 1) := by decide +kernel
theorem d_Tx_addOperation_46 : decode c_Tx_addOperation 46 = .ok (.iastore, 1) := by decide +kernel
theorem d_Tx_addOperation_47 : decode c_Tx_addOperation 47 = .ok (.aload_n 0, 1) := by decide +kernel
theorem d_Tx_addOperation_48 : decode c_Tx_addOperation 48 = .ok (.dup, 1) := by decide +kernel
theorem d_Tx_addOperation_49 : decode c_Tx_addOperation 49 = .ok (.getfield 28, 3) := by decide +kernel
theorem d_Tx_addOperation_52 : decode c_Tx_addOperation 52 = .ok (.iconst 1, 1) := by decide +kernel
theorem d_Tx_addOperation_53 : decode c_Tx_addOperation 53 = .ok (.iadd, 1) := by decide +kernel
theorem d_Tx_addOperation_54 : decode c_Tx_addOperation 54 = .ok (.putfield 28, 3) := by decide +kernel
theorem d_Tx_addOperation_57 : decode c_Tx_addOperation 57 = .ok (.aload_n 0, 1) := by decide +kernel
theorem d_Tx_addOperation_58 : decode c_Tx_addOperation 58 = .ok (.getfield 21, 3) := by decide +kernel
theorem d_Tx_addOperation_61 : decode c_Tx_addOperation 61 = .ok (.iload_n 2, 1) := by decide +kernel
theorem d_Tx_addOperation_62 : decode c_Tx_addOperation 62 = .ok (.aload_n 0, 1) := by decide +kernel
theorem d_Tx_addOperation_63 : decode c_Tx_addOperation 63 = .ok (.getfield 21, 3) := by decide +kernel
theorem d_Tx_addOperation_66 : decode c_Tx_addOperation 66 = .ok (.iload_n 2, 1) := by decide +kernel
theorem d_Tx_addOperation_67 : decode c_Tx_addOperation 67 = .ok (.iaload, 1) := by decide +kernel
theorem d_Tx_addOperation_68 : decode c_Tx_addOperation 68 = .ok (.iload_n 1, 1) := by decide +kernel
theorem d_Tx_addOperation_69 : decode c_Tx_addOperation 69 = .ok (.ifCond .ne 7, 3) := by decide +kernel
theorem d_Tx_addOperation_72 : decode c_Tx_addOperation 72 = .ok (.iconst 1, 1) := by decide +kernel
theorem d_Tx_addOperation_73 : decode c_Tx_addOperation 73 = .ok (.goto 4, 3) := by decide +kernel
theorem d_Tx_addOperation_76 : decode c_Tx_addOperation 76 = .ok (.iconst 2, 1) := by decide +kernel
theorem d_Tx_addOperation_77 : decode c_Tx_addOperation 77 = .ok (.invokestatic 32, 3) := by decide +kernel
theorem d_Tx_addOperation_80 : decode c_Tx_addOperation 80 = .ok (.iastore, 1) := by decide +kernel
theorem d_Tx_addOperation_81 : decode c_Tx_addOperation 81 = .ok (.iconst 1, 1) := by decide +kernel
theorem d_Tx_addOperation_82 : decode c_Tx_addOperation 82 = .ok (.ireturn, 1) := by decide +kernel
theorem d_Tx_reaches_0 : decode c_Tx_reaches 0 = .ok (.iconst 0, 1) := by decide +kernel
theorem d_Tx_reaches_1 : decode c_Tx_reaches 1 = .ok (.istore_n 2, 1) := by decide +kernel
theorem d_Tx_reaches_2 : decode c_Tx_reaches 2 = .ok (.iload_n 2, 1) := by decide +kernel
theorem d_Tx_reaches_3 : decode c_Tx_reaches 3 = .ok (.aload_n 0, 1) := by decide +kernel
theorem d_Tx_reaches_4 : decode c_Tx_reaches 4 = .ok (.getfield 28, 3) := by decide +kernel
theorem d_Tx_reaches_7 : decode c_Tx_reaches 7 = .ok (.if_icmp .ge 23, 3) := by decide +kernel
theorem d_Tx_reaches_10 : decode c_Tx_reaches 10 = .ok (.aload_n 0, 1) := by decide +kernel
theorem d_Tx_reaches_11 : decode c_Tx_reaches 11 = .ok (.getfield 15, 3) := by decide +kernel
theorem d_Tx_reaches_14 : decode c_Tx_reaches 14 = .ok (.iload_n 2, 1) := by decide +kernel
theorem d_Tx_reaches_15 : decode c_Tx_reaches 15 = .ok (.iaload, 1) := by decide +kernel
theorem d_Tx_reaches_16 : decode c_Tx_reaches 16 = .ok (.iconst 3, 1) := by decide +kernel
theorem d_Tx_reaches_17 : decode c_Tx_reaches 17 = .ok (.irem, 1) := by decide +kernel
theorem d_Tx_reaches_18 : decode c_Tx_reaches 18 = .ok (.iload_n 1, 1) := by decide +kernel
theorem d_Tx_reaches_19 : decode c_Tx_reaches 19 = .ok (.if_icmp .ne 5, 3) := by decide +kernel
theorem d_Tx_reaches_22 : decode c_Tx_reaches 22 = .ok (.iconst 1, 1) := by decide +kernel
theorem d_Tx_reaches_23 : decode c_Tx_reaches 23 = .ok (.ireturn, 1) := by decide +kernel
theorem d_Tx_reaches_24 : decode c_Tx_reaches 24 = .ok (.iinc 2 1, 3) := by decide +kernel
theorem d_Tx_reaches_27 : decode c_Tx_reaches 27 = .ok (.goto (-25), 3) := by decide +kernel
theorem d_Tx_reaches_30 : decode c_Tx_reaches 30 = .ok (.iconst 0, 1) := by decide +kernel
theorem d_Tx_reaches_31 : decode c_Tx_reaches 31 = .ok (.ireturn, 1) := by decide +kernel
theorem d_Co_init_0 : decode c_Co_init 0 = .ok (.aload_n 0, 1) := by decide +kernel
theorem d_Co_init_1 : decode c_Co_init 1 = .ok (.invokespecial 3, 3) := by decide +kernel
theorem d_Co_init_4 : decode c_Co_init 4 = .ok (.aload_n 0, 1) := by decide +kernel
theorem d_Co_init_5 : decode c_Co_init 5 = .ok (.iconst 1, 1) := by decide +kernel
theorem d_Co_init_6 : decode c_Co_init 6 = .ok (.putfield 9, 3) := by decide +kernel
theorem d_Co_init_9 : decode c_Co_init 9 = .ok (.aload_n 0, 1) := by decide +kernel
theorem d_Co_init_10 : decode c_Co_init 10 = .ok (.bipush 63, 2) := by decide +kernel
theorem d_Co_init_12 : decode c_Co_init 12 = .ok (.newarray .int, 2) := by decide +kernel
theorem d_Co_init_14 : decode c_Co_init 14 = .ok (.putfield 15, 3) := by decide +kernel
theorem d_Co_init_17 : decode c_Co_init 17 = .ok (.aload_n 0, 1) := by decide +kernel
theorem d_Co_init_18 : decode c_Co_init 18 = .ok (.bipush 21, 2) := by decide +kernel
theorem d_Co_init_20 : decode c_Co_init 20 = .ok (.newarray .int, 2) := by decide +kernel
theorem d_Co_init_22 : decode c_Co_init 22 = .ok (.putfield 19, 3) := by decide +kernel
theorem d_Co_init_25 : decode c_Co_init 25 = .ok (.aload_n 0, 1) := by decide +kernel
theorem d_Co_init_26 : decode c_Co_init 26 = .ok (.bipush 84, 2) := by decide +kernel
theorem d_Co_init_28 : decode c_Co_init 28 = .ok (.newarray .int, 2) := by decide +kernel
theorem d_Co_init_30 : decode c_Co_init 30 = .ok (.putfield 22, 3) := by decide +kernel
theorem d_Co_init_33 : decode c_Co_init 33 = .ok (.return_, 1) := by decide +kernel
theorem d_Co_forget_0 : decode c_Co_forget 0 = .ok (.aload_n 0, 1) := by decide +kernel
theorem d_Co_forget_1 : decode c_Co_forget 1 = .ok (.getfield 15, 3) := by decide +kernel
theorem d_Co_forget_4 : decode c_Co_forget 4 = .ok (.iconst 0, 1) := by decide +kernel
theorem d_Co_forget_5 : decode c_Co_forget 5 = .ok (.invokestatic 25, 3) := by decide +kernel
theorem d_Co_forget_8 : decode c_Co_forget 8 = .ok (.aload_n 0, 1) := by decide +kernel
theorem d_Co_forget_9 : decode c_Co_forget 9 = .ok (.getfield 19, 3) := by decide +kernel
theorem d_Co_forget_12 : decode c_Co_forget 12 = .ok (.iconst 0, 1) := by decide +kernel
theorem d_Co_forget_13 : decode c_Co_forget 13 = .ok (.invokestatic 25, 3) := by decide +kernel
theorem d_Co_forget_16 : decode c_Co_forget 16 = .ok (.return_, 1) := by decide +kernel
theorem d_Co_learnVote_0 : decode c_Co_learnVote 0 = .ok (.aload_n 0, 1) := by decide +kernel
theorem d_Co_learnVote_1 : decode c_Co_learnVote 1 = .ok (.getfield 15, 3) := by decide +kernel
theorem d_Co_learnVote_4 : decode c_Co_learnVote 4 = .ok (.iload_n 1, 1) := by decide +kernel
theorem d_Co_learnVote_5 : decode c_Co_learnVote 5 = .ok (.iconst 3, 1) := by decide +kernel
theorem d_Co_learnVote_6 : decode c_Co_learnVote 6 = .ok (.imul, 1) := by decide +kernel
theorem d_Co_learnVote_7 : decode c_Co_learnVote 7 = .ok (.aload_n 3, 1) := by decide +kernel
theorem d_Co_learnVote_8 : decode c_Co_learnVote 8 = .ok (.getfield 31, 3) := by decide +kernel
theorem d_Co_learnVote_11 : decode c_Co_learnVote 11 = .ok (.iadd, 1) := by decide +kernel
theorem d_Co_learnVote_12 : decode c_Co_learnVote 12 = .ok (.aload_n 3, 1) := by decide +kernel
theorem d_Co_learnVote_13 : decode c_Co_learnVote 13 = .ok (.getfield 37, 3) := by decide +kernel
theorem d_Co_learnVote_16 : decode c_Co_learnVote 16 = .ok (.iload_n 1, 1) := by decide +kernel
theorem d_Co_learnVote_17 : decode c_Co_learnVote 17 = .ok (.iaload, 1) := by decide +kernel
theorem d_Co_learnVote_18 : decode c_Co_learnVote 18 = .ok (.iastore, 1) := by decide +kernel
theorem d_Co_learnVote_19 : decode c_Co_learnVote 19 = .ok (.iconst 0, 1) := by decide +kernel
theorem d_Co_learnVote_20 : decode c_Co_learnVote 20 = .ok (.istore 4, 2) := by decide +kernel
theorem d_Co_learnVote_22 : decode c_Co_learnVote 22 = .ok (.iload 4, 2) := by decide +kernel
theorem d_Co_learnVote_24 : decode c_Co_learnVote 24 = .ok (.aload_n 2, 1) := by decide +kernel
theorem d_Co_learnVote_25 : decode c_Co_learnVote 25 = .ok (.getfield 38, 3) := by decide +kernel
theorem d_Co_learnVote_28 : decode c_Co_learnVote 28 = .ok (.if_icmp .ge 47, 3) := by decide +kernel
theorem d_Co_learnVote_31 : decode c_Co_learnVote 31 = .ok (.aload_n 2, 1) := by decide +kernel
theorem d_Co_learnVote_32 : decode c_Co_learnVote 32 = .ok (.getfield 43, 3) := by decide +kernel
theorem d_Co_learnVote_35 : decode c_Co_learnVote 35 = .ok (.iload 4, 2) := by decide +kernel
theorem d_Co_learnVote_37 : decode c_Co_learnVote 37 = .ok (.iaload, 1) := by decide +kernel
theorem d_Co_learnVote_38 : decode c_Co_learnVote 38 = .ok (.iconst 3, 1) := by decide +kernel
theorem d_Co_learnVote_39 : decode c_Co_learnVote 39 = .ok (.irem, 1) := by decide +kernel
theorem d_Co_learnVote_40 : decode c_Co_learnVote 40 = .ok (.aload_n 3, 1) := by decide +kernel
theorem d_Co_learnVote_41 : decode c_Co_learnVote 41 = .ok (.getfield 31, 3) := by decide +kernel
theorem d_Co_learnVote_44 : decode c_Co_learnVote 44 = .ok (.if_icmp .ne 25, 3) := by decide +kernel
theorem d_Co_learnVote_47 : decode c_Co_learnVote 47 = .ok (.aload_n 0, 1) := by decide +kernel
theorem d_Co_learnVote_48 : decode c_Co_learnVote 48 = .ok (.getfield 22, 3) := by decide +kernel
theorem d_Co_learnVote_51 : decode c_Co_learnVote 51 = .ok (.iload_n 1, 1) := by decide +kernel
theorem d_Co_learnVote_52 : decode c_Co_learnVote 52 = .ok (.iconst 4, 1) := by decide +kernel
theorem d_Co_learnVote_53 : decode c_Co_learnVote 53 = .ok (.imul, 1) := by decide +kernel
theorem d_Co_learnVote_54 : decode c_Co_learnVote 54 = .ok (.iload 4, 2) := by decide +kernel
theorem d_Co_learnVote_56 : decode c_Co_learnVote 56 = .ok (.iadd, 1) := by decide +kernel
theorem d_Co_learnVote_57 : decode c_Co_learnVote 57 = .ok (.aload_n 3, 1) := by decide +kernel
theorem d_Co_learnVote_58 : decode c_Co_learnVote 58 = .ok (.getfield 46, 3) := by decide +kernel
theorem d_Co_learnVote_61 : decode c_Co_learnVote 61 = .ok (.iload_n 1, 1) := by decide +kernel
theorem d_Co_learnVote_62 : decode c_Co_learnVote 62 = .ok (.iconst 4, 1) := by decide +kernel
theorem d_Co_learnVote_63 : decode c_Co_learnVote 63 = .ok (.imul, 1) := by decide +kernel
theorem d_Co_learnVote_64 : decode c_Co_learnVote 64 = .ok (.iload 4, 2) := by decide +kernel
theorem d_Co_learnVote_66 : decode c_Co_learnVote 66 = .ok (.iadd, 1) := by decide +kernel
theorem d_Co_learnVote_67 : decode c_Co_learnVote 67 = .ok (.iaload, 1) := by decide +kernel
theorem d_Co_learnVote_68 : decode c_Co_learnVote 68 = .ok (.iastore, 1) := by decide +kernel
theorem d_Co_learnVote_69 : decode c_Co_learnVote 69 = .ok (.iinc 4 1, 3) := by decide +kernel
theorem d_Co_learnVote_72 : decode c_Co_learnVote 72 = .ok (.goto (-50), 3) := by decide +kernel
theorem d_Co_learnVote_75 : decode c_Co_learnVote 75 = .ok (.return_, 1) := by decide +kernel
theorem d_Co_knowsNo_0 : decode c_Co_knowsNo 0 = .ok (.iconst 0, 1) := by decide +kernel
theorem d_Co_knowsNo_1 : decode c_Co_knowsNo 1 = .ok (.istore_n 2, 1) := by decide +kernel
theorem d_Co_knowsNo_2 : decode c_Co_knowsNo 2 = .ok (.iload_n 2, 1) := by decide +kernel
theorem d_Co_knowsNo_3 : decode c_Co_knowsNo 3 = .ok (.iconst 3, 1) := by decide +kernel
theorem d_Co_knowsNo_4 : decode c_Co_knowsNo 4 = .ok (.if_icmp .ge 25, 3) := by decide +kernel
theorem d_Co_knowsNo_7 : decode c_Co_knowsNo 7 = .ok (.aload_n 0, 1) := by decide +kernel
theorem d_Co_knowsNo_8 : decode c_Co_knowsNo 8 = .ok (.getfield 15, 3) := by decide +kernel
theorem d_Co_knowsNo_11 : decode c_Co_knowsNo 11 = .ok (.iload_n 1, 1) := by decide +kernel
theorem d_Co_knowsNo_12 : decode c_Co_knowsNo 12 = .ok (.iconst 3, 1) := by decide +kernel
theorem d_Co_knowsNo_13 : decode c_Co_knowsNo 13 = .ok (.imul, 1) := by decide +kernel
theorem d_Co_knowsNo_14 : decode c_Co_knowsNo 14 = .ok (.iload_n 2, 1) := by decide +kernel
theorem d_Co_knowsNo_15 : decode c_Co_knowsNo 15 = .ok (.iadd, 1) := by decide +kernel
theorem d_Co_knowsNo_16 : decode c_Co_knowsNo 16 = .ok (.iaload, 1) := by decide +kernel
theorem d_Co_knowsNo_17 : decode c_Co_knowsNo 17 = .ok (.iconst 2, 1) := by decide +kernel
theorem d_Co_knowsNo_18 : decode c_Co_knowsNo 18 = .ok (.if_icmp .ne 5, 3) := by decide +kernel
theorem d_Co_knowsNo_21 : decode c_Co_knowsNo 21 = .ok (.iconst 1, 1) := by decide +kernel
theorem d_Co_knowsNo_22 : decode c_Co_knowsNo 22 = .ok (.ireturn, 1) := by decide +kernel
theorem d_Co_knowsNo_23 : decode c_Co_knowsNo 23 = .ok (.iinc 2 1, 3) := by decide +kernel
theorem d_Co_knowsNo_26 : decode c_Co_knowsNo 26 = .ok (.goto (-24), 3) := by decide +kernel
theorem d_Co_knowsNo_29 : decode c_Co_knowsNo 29 = .ok (.iconst 0, 1) := by decide +kernel
theorem d_Co_knowsNo_30 : decode c_Co_knowsNo 30 = .ok (.ireturn, 1) := by decide +kernel
theorem d_Co_knowsAllVotes_0 : decode c_Co_knowsAllVotes 0 = .ok (.iconst 0, 1) := by decide +kernel
theorem d_Co_knowsAllVotes_1 : decode c_Co_knowsAllVotes 1 = .ok (.istore_n 3, 1) := by decide +kernel
theorem d_Co_knowsAllVotes_2 : decode c_Co_knowsAllVotes 2 = .ok (.iload_n 3, 1) := by decide +kernel
theorem d_Co_knowsAllVotes_3 : decode c_Co_knowsAllVotes 3 = .ok (.iconst 3, 1) := by decide +kernel
theorem d_Co_knowsAllVotes_4 : decode c_Co_knowsAllVotes 4 = .ok (.if_icmp .ge 32, 3) := by decide +kernel
theorem d_Co_knowsAllVotes_7 : decode c_Co_knowsAllVotes 7 = .ok (.aload_n 2, 1) := by decide +kernel
theorem d_Co_knowsAllVotes_8 : decode c_Co_knowsAllVotes 8 = .ok (.iload_n 3, 1) := by decide +kernel
theorem d_Co_knowsAllVotes_9 : decode c_Co_knowsAllVotes 9 = .ok (.invokevirtual 49, 3) := by decide +kernel
theorem d_Co_knowsAllVotes_12 : decode c_Co_knowsAllVotes 12 = .ok (.ifCond .eq 18, 3) := by decide +kernel
theorem d_Co_knowsAllVotes_15 : decode c_Co_knowsAllVotes 15 = .ok (.aload_n 0, 1) := by decide +kernel
theorem d_Co_knowsAllVotes_16 : decode c_Co_knowsAllVotes 16 = .ok (.getfield 15, 3) := by decide +kernel
theorem d_Co_knowsAllVotes_19 : decode c_Co_knowsAllVotes 19 = .ok (.iload_n 1, 1) := by decide +kernel
theorem d_Co_knowsAllVotes_20 : decode c_Co_knowsAllVotes 20 = .ok (.iconst 3, 1) := by decide +kernel
theorem d_Co_knowsAllVotes_21 : decode c_Co_knowsAllVotes 21 = .ok (.imul, 1) := by decide +kernel
theorem d_Co_knowsAllVotes_22 : decode c_Co_knowsAllVotes 22 = .ok (.iload_n 3, 1) := by decide +kernel
theorem d_Co_knowsAllVotes_23 : decode c_Co_knowsAllVotes 23 = .ok (.iadd, 1) := by decide +kernel
theorem d_Co_knowsAllVotes_24 : decode c_Co_knowsAllVotes 24 = .ok (.iaload, 1) := by decide +kernel
theorem d_Co_knowsAllVotes_25 : decode c_Co_knowsAllVotes 25 = .ok (.ifCond .ne 5, 3) := by decide +kernel
theorem d_Co_knowsAllVotes_28 : decode c_Co_knowsAllVotes 28 = .ok (.iconst 0, 1) := by decide +kernel
theorem d_Co_knowsAllVotes_29 : decode c_Co_knowsAllVotes 29 = .ok (.ireturn, 1) := by decide +kernel
theorem d_Co_knowsAllVotes_30 : decode c_Co_knowsAllVotes 30 = .ok (.iinc 3 1, 3) := by decide +kernel
theorem d_Co_knowsAllVotes_33 : decode c_Co_knowsAllVotes 33 = .ok (.goto (-31), 3) := by decide +kernel
theorem d_Co_knowsAllVotes_36 : decode c_Co_knowsAllVotes 36 = .ok (.iconst 1, 1) := by decide +kernel
theorem d_Co_knowsAllVotes_37 : decode c_Co_knowsAllVotes 37 = .ok (.ireturn, 1) := by decide +kernel
theorem d_Sa_init_0 : decode c_Sa_init 0 = .ok (.aload_n 0, 1) := by decide +kernel
theorem d_Sa_init_1 : decode c_Sa_init 1 = .ok (.invokespecial 1, 3) := by decide +kernel
theorem d_Sa_init_4 : decode c_Sa_init 4 = .ok (.return_, 1) := by decide +kernel
theorem d_DS_init_0 : decode c_DS_init 0 = .ok (.aload_n 0, 1) := by decide +kernel
theorem d_DS_init_1 : decode c_DS_init 1 = .ok (.invokespecial 3, 3) := by decide +kernel
theorem d_DS_init_4 : decode c_DS_init 4 = .ok (.aload_n 0, 1) := by decide +kernel
theorem d_DS_init_5 : decode c_DS_init 5 = .ok (.bipush 21, 2) := by decide +kernel
theorem d_DS_init_7 : decode c_DS_init 7 = .ok (.newarray .int, 2) := by decide +kernel
theorem d_DS_init_9 : decode c_DS_init 9 = .ok (.putfield 9, 3) := by decide +kernel
theorem d_DS_init_12 : decode c_DS_init 12 = .ok (.return_, 1) := by decide +kernel
theorem d_DS_execute_0 : decode c_DS_execute 0 = .ok (.aload_n 0, 1) := by decide +kernel
theorem d_DS_execute_1 : decode c_DS_execute 1 = .ok (.getfield 9, 3) := by decide +kernel
theorem d_DS_execute_4 : decode c_DS_execute 4 = .ok (.iload_n 2, 1) := by decide +kernel
theorem d_DS_execute_5 : decode c_DS_execute 5 = .ok (.iaload, 1) := by decide +kernel
theorem d_DS_execute_6 : decode c_DS_execute 6 = .ok (.ifCond .ne 10, 3) := by decide +kernel
theorem d_DS_execute_9 : decode c_DS_execute 9 = .ok (.aload_n 0, 1) := by decide +kernel
theorem d_DS_execute_10 : decode c_DS_execute 10 = .ok (.getfield 9, 3) := by decide +kernel
theorem d_DS_execute_13 : decode c_DS_execute 13 = .ok (.iload_n 2, 1) := by decide +kernel
theorem d_DS_execute_14 : decode c_DS_execute 14 = .ok (.iload_n 1, 1) := by decide +kernel
theorem d_DS_execute_15 : decode c_DS_execute 15 = .ok (.iastore, 1) := by decide +kernel
theorem d_DS_execute_16 : decode c_DS_execute 16 = .ok (.return_, 1) := by decide +kernel
theorem d_Rp_init_0 : decode c_Rp_init 0 = .ok (.aload_n 0, 1) := by decide +kernel
theorem d_Rp_init_1 : decode c_Rp_init 1 = .ok (.invokespecial 3, 3) := by decide +kernel
theorem d_Rp_init_4 : decode c_Rp_init 4 = .ok (.aload_n 0, 1) := by decide +kernel
theorem d_Rp_init_5 : decode c_Rp_init 5 = .ok (.bipush 60, 2) := by decide +kernel
theorem d_Rp_init_7 : decode c_Rp_init 7 = .ok (.newarray .int, 2) := by decide +kernel
theorem d_Rp_init_9 : decode c_Rp_init 9 = .ok (.putfield 9, 3) := by decide +kernel
theorem d_Rp_init_12 : decode c_Rp_init 12 = .ok (.aload_n 0, 1) := by decide +kernel
theorem d_Rp_init_13 : decode c_Rp_init 13 = .ok (.iconst 1, 1) := by decide +kernel
theorem d_Rp_init_14 : decode c_Rp_init 14 = .ok (.putfield 15, 3) := by decide +kernel
theorem d_Rp_init_17 : decode c_Rp_init 17 = .ok (.aload_n 0, 1) := by decide +kernel
theorem d_Rp_init_18 : decode c_Rp_init 18 = .ok (.aload_n 1, 1) := by decide +kernel
theorem d_Rp_init_19 : decode c_Rp_init 19 = .ok (.putfield 19, 3) := by decide +kernel
theorem d_Rp_init_22 : decode c_Rp_init 22 = .ok (.return_, 1) := by decide +kernel
theorem d_Rp_append_0 : decode c_Rp_append 0 = .ok (.aload_n 0, 1) := by decide +kernel
theorem d_Rp_append_1 : decode c_Rp_append 1 = .ok (.getfield 23, 3) := by decide +kernel
theorem d_Rp_append_4 : decode c_Rp_append 4 = .ok (.bipush 60, 2) := by decide +kernel
theorem d_Rp_append_6 : decode c_Rp_append 6 = .ok (.if_icmp .ge 23, 3) := by decide +kernel
theorem d_Rp_append_9 : decode c_Rp_append 9 = .ok (.aload_n 0, 1) := by decide +kernel
theorem d_Rp_append_10 : decode c_Rp_append 10 = .ok (.getfield 9, 3) := by decide +kernel
theorem d_Rp_append_13 : decode c_Rp_append 13 = .ok (.aload_n 0, 1) := by decide +kernel
theorem d_Rp_append_14 : decode c_Rp_append 14 = .ok (.getfield 23, 3) := by decide +kernel
theorem d_Rp_append_17 : decode c_Rp_append 17 = .ok (.iload_n 1, 1) := by decide +kernel
theorem d_Rp_append_18 : decode c_Rp_append 18 = .ok (.iastore, 1) := by decide +kernel
theorem d_Rp_append_19 : decode c_Rp_append 19 = .ok (.aload_n 0, 1) := by decide +kernel
theorem d_Rp_append_20 : decode c_Rp_append 20 = .ok (.dup, 1) := by decide +kernel
theorem d_Rp_append_21 : decode c_Rp_append 21 = .ok (.getfield 23, 3) := by decide +kernel
theorem d_Rp_append_24 : decode c_Rp_append 24 = .ok (.iconst 1, 1) := by decide +kernel
theorem d_Rp_append_25 : decode c_Rp_append 25 = .ok (.iadd, 1) := by decide +kernel
theorem d_Rp_append_26 : decode c_Rp_append 26 = .ok (.putfield 23, 3) := by decide +kernel
theorem d_Rp_append_29 : decode c_Rp_append 29 = .ok (.return_, 1) := by decide +kernel
theorem d_Rp_copyLog_0 : decode c_Rp_copyLog 0 = .ok (.aload_n 1, 1) := by decide +kernel
theorem d_Rp_copyLog_1 : decode c_Rp_copyLog 1 = .ok (.getfield 9, 3) := by decide +kernel
theorem d_Rp_copyLog_4 : decode c_Rp_copyLog 4 = .ok (.iconst 0, 1) := by decide +kernel
theorem d_Rp_copyLog_5 : decode c_Rp_copyLog 5 = .ok (.aload_n 0, 1) := by decide +kernel
theorem d_Rp_copyLog_6 : decode c_Rp_copyLog 6 = .ok (.getfield 9, 3) := by decide +kernel
theorem d_Rp_copyLog_9 : decode c_Rp_copyLog 9 = .ok (.iconst 0, 1) := by decide +kernel
theorem d_Rp_copyLog_10 : decode c_Rp_copyLog 10 = .ok (.aload_n 1, 1) := by decide +kernel
theorem d_Rp_copyLog_11 : decode c_Rp_copyLog 11 = .ok (.getfield 23, 3) := by decide +kernel
theorem d_Rp_copyLog_14 : decode c_Rp_copyLog 14 = .ok (.invokestatic 27, 3) := by decide +kernel
theorem d_Rp_copyLog_17 : decode c_Rp_copyLog 17 = .ok (.aload_n 0, 1) := by decide +kernel
theorem d_Rp_copyLog_18 : decode c_Rp_copyLog 18 = .ok (.aload_n 1, 1) := by decide +kernel
theorem d_Rp_copyLog_19 : decode c_Rp_copyLog 19 = .ok (.getfield 23, 3) := by decide +kernel
theorem d_Rp_copyLog_22 : decode c_Rp_copyLog 22 = .ok (.putfield 23, 3) := by decide +kernel
theorem d_Rp_copyLog_25 : decode c_Rp_copyLog 25 = .ok (.return_, 1) := by decide +kernel
theorem d_Rp_catchUp_0 : decode c_Rp_catchUp 0 = .ok (.aload_n 0, 1) := by decide +kernel
theorem d_Rp_catchUp_1 : decode c_Rp_catchUp 1 = .ok (.getfield 33, 3) := by decide +kernel
theorem d_Rp_catchUp_4 : decode c_Rp_catchUp 4 = .ok (.aload_n 0, 1) := by decide +kernel
theorem d_Rp_catchUp_5 : decode c_Rp_catchUp 5 = .ok (.getfield 23, 3) := by decide +kernel
theorem d_Rp_catchUp_8 : decode c_Rp_catchUp 8 = .ok (.if_icmp .ge 45, 3) := by decide +kernel
theorem d_Rp_catchUp_11 : decode c_Rp_catchUp 11 = .ok (.aload_n 0, 1) := by decide +kernel
theorem d_Rp_catchUp_12 : decode c_Rp_catchUp 12 = .ok (.getfield 19, 3) := by decide +kernel
theorem d_Rp_catchUp_15 : decode c_Rp_catchUp 15 = .ok (.aload_n 0, 1) := by decide +kernel
theorem d_Rp_catchUp_16 : decode c_Rp_catchUp 16 = .ok (.getfield 9, 3) := by decide +kernel
theorem d_Rp_catchUp_19 : decode c_Rp_catchUp 19 = .ok (.aload_n 0, 1) := by decide +kernel
theorem d_Rp_catchUp_20 : decode c_Rp_catchUp 20 = .ok (.getfield 33, 3) := by decide +kernel
theorem d_Rp_catchUp_23 : decode c_Rp_catchUp 23 = .ok (.iaload, 1) := by decide +kernel
theorem d_Rp_catchUp_24 : decode c_Rp_catchUp 24 = .ok (.iconst 3, 1) := by decide +kernel
theorem d_Rp_catchUp_25 : decode c_Rp_catchUp 25 = .ok (.irem, 1) := by decide +kernel
theorem d_Rp_catchUp_26 : decode c_Rp_catchUp 26 = .ok (.aload_n 0, 1) := by decide +kernel
theorem d_Rp_catchUp_27 : decode c_Rp_catchUp 27 = .ok (.getfield 9, 3) := by decide +kernel
theorem d_Rp_catchUp_30 : decode c_Rp_catchUp 30 = .ok (.aload_n 0, 1) := by decide +kernel
theorem d_Rp_catchUp_31 : decode c_Rp_catchUp 31 = .ok (.getfield 33, 3) := by decide +kernel
theorem d_Rp_catchUp_34 : decode c_Rp_catchUp 34 = .ok (.iaload, 1) := by decide +kernel
theorem d_Rp_catchUp_35 : decode c_Rp_catchUp 35 = .ok (.iconst 3, 1) := by decide +kernel
theorem d_Rp_catchUp_36 : decode c_Rp_catchUp 36 = .ok (.idiv, 1) := by decide +kernel
theorem d_Rp_catchUp_37 : decode c_Rp_catchUp 37 = .ok (.invokevirtual 36, 3) := by decide +kernel
theorem d_Rp_catchUp_40 : decode c_Rp_catchUp 40 = .ok (.aload_n 0, 1) := by decide +kernel
theorem d_Rp_catchUp_41 : decode c_Rp_catchUp 41 = .ok (.dup, 1) := by decide +kernel
theorem d_Rp_catchUp_42 : decode c_Rp_catchUp 42 = .ok (.getfield 33, 3) := by decide +kernel
theorem d_Rp_catchUp_45 : decode c_Rp_catchUp 45 = .ok (.iconst 1, 1) := by decide +kernel
theorem d_Rp_catchUp_46 : decode c_Rp_catchUp 46 = .ok (.iadd, 1) := by decide +kernel
theorem d_Rp_catchUp_47 : decode c_Rp_catchUp 47 = .ok (.putfield 33, 3) := by decide +kernel
theorem d_Rp_catchUp_50 : decode c_Rp_catchUp 50 = .ok (.goto (-50), 3) := by decide +kernel
theorem d_Rp_catchUp_53 : decode c_Rp_catchUp 53 = .ok (.return_, 1) := by decide +kernel
theorem d_SS_init_0 : decode c_SS_init 0 = .ok (.aload_n 0, 1) := by decide +kernel
theorem d_SS_init_1 : decode c_SS_init 1 = .ok (.invokespecial 3, 3) := by decide +kernel
theorem d_SS_init_4 : decode c_SS_init 4 = .ok (.aload_n 0, 1) := by decide +kernel
theorem d_SS_init_5 : decode c_SS_init 5 = .ok (.iconst 4, 1) := by decide +kernel
theorem d_SS_init_6 : decode c_SS_init 6 = .ok (.newarray .int, 2) := by decide +kernel
theorem d_SS_init_8 : decode c_SS_init 8 = .ok (.putfield 9, 3) := by decide +kernel
theorem d_SS_init_11 : decode c_SS_init 11 = .ok (.aload_n 0, 1) := by decide +kernel
theorem d_SS_init_12 : decode c_SS_init 12 = .ok (.iconst 4, 1) := by decide +kernel
theorem d_SS_init_13 : decode c_SS_init 13 = .ok (.newarray .int, 2) := by decide +kernel
theorem d_SS_init_15 : decode c_SS_init 15 = .ok (.putfield 15, 3) := by decide +kernel
theorem d_SS_init_18 : decode c_SS_init 18 = .ok (.aload_n 0, 1) := by decide +kernel
theorem d_SS_init_19 : decode c_SS_init 19 = .ok (.iconst 4, 1) := by decide +kernel
theorem d_SS_init_20 : decode c_SS_init 20 = .ok (.newarray .int, 2) := by decide +kernel
theorem d_SS_init_22 : decode c_SS_init 22 = .ok (.putfield 18, 3) := by decide +kernel
theorem d_SS_init_25 : decode c_SS_init 25 = .ok (.aload_n 0, 1) := by decide +kernel
theorem d_SS_init_26 : decode c_SS_init 26 = .ok (.iconst 4, 1) := by decide +kernel
theorem d_SS_init_27 : decode c_SS_init 27 = .ok (.newarray .int, 2) := by decide +kernel
theorem d_SS_init_29 : decode c_SS_init 29 = .ok (.putfield 21, 3) := by decide +kernel
theorem d_SS_init_32 : decode c_SS_init 32 = .ok (.aload_n 0, 1) := by decide +kernel
theorem d_SS_init_33 : decode c_SS_init 33 = .ok (.bipush 21, 2) := by decide +kernel
theorem d_SS_init_35 : decode c_SS_init 35 = .ok (.newarray .int, 2) := by decide +kernel
theorem d_SS_init_37 : decode c_SS_init 37 = .ok (.putfield 24, 3) := by decide +kernel
theorem d_SS_init_40 : decode c_SS_init 40 = .ok (.aload_n 0, 1) := by decide +kernel
theorem d_SS_init_41 : decode c_SS_init 41 = .ok (.bipush 21, 2) := by decide +kernel
theorem d_SS_init_43 : decode c_SS_init 43 = .ok (.newarray .boolean, 2) := by decide +kernel
theorem d_SS_init_45 : decode c_SS_init 45 = .ok (.putfield 27, 3) := by decide +kernel
theorem d_SS_init_48 : decode c_SS_init 48 = .ok (.aload_n 0, 1) := by decide +kernel
theorem d_SS_init_49 : decode c_SS_init 49 = .ok (.bipush 84, 2) := by decide +kernel
theorem d_SS_init_51 : decode c_SS_init 51 = .ok (.newarray .int, 2) := by decide +kernel
theorem d_SS_init_53 : decode c_SS_init 53 = .ok (.putfield 31, 3) := by decide +kernel
theorem d_SS_init_56 : decode c_SS_init 56 = .ok (.aload_n 0, 1) := by decide +kernel
theorem d_SS_init_57 : decode c_SS_init 57 = .ok (.iload_n 1, 1) := by decide +kernel
theorem d_SS_init_58 : decode c_SS_init 58 = .ok (.putfield 34, 3) := by decide +kernel
theorem d_SS_init_61 : decode c_SS_init 61 = .ok (.aload_n 0, 1) := by decide +kernel
theorem d_SS_init_62 : decode c_SS_init 62 = .ok (.aload_n 2, 1) := by decide +kernel
theorem d_SS_init_63 : decode c_SS_init 63 = .ok (.putfield 38, 3) := by decide +kernel
theorem d_SS_init_66 : decode c_SS_init 66 = .ok (.return_, 1) := by decide +kernel
theorem d_SS_execute_0 : decode c_SS_execute 0 = .ok (.aload_n 0, 1) := by decide +kernel
theorem d_SS_execute_1 : decode c_SS_execute 1 = .ok (.getfield 27, 3) := by decide +kernel
theorem d_SS_execute_4 : decode c_SS_execute 4 = .ok (.iload_n 2, 1) := by decide +kernel
theorem d_SS_execute_5 : decode c_SS_execute 5 = .ok (.baload, 1) := by decide +kernel
theorem d_SS_execute_6 : decode c_SS_execute 6 = .ok (.ifCond .eq 4, 3) := by decide +kernel
theorem d_SS_execute_9 : decode c_SS_execute 9 = .ok (.return_, 1) := by decide +kernel
theorem d_SS_execute_10 : decode c_SS_execute 10 = .ok (.iload_n 1, 1) := by decide +kernel
theorem d_SS_execute_11 : decode c_SS_execute 11 = .ok (.ifCond .ne 11, 3) := by decide +kernel
theorem d_SS_execute_14 : decode c_SS_execute 14 = .ok (.aload_n 0, 1) := by decide +kernel
theorem d_SS_execute_15 : decode c_SS_execute 15 = .ok (.iload_n 2, 1) := by decide +kernel
theorem d_SS_execute_16 : decode c_SS_execute 16 = .ok (.invokevirtual 42, 3) := by decide +kernel
theorem d_SS_execute_19 : decode c_SS_execute 19 = .ok (.goto 35, 3) := by decide +kernel
theorem d_SS_execute_22 : decode c_SS_execute 22 = .ok (.iload_n 1, 1) := by decide +kernel
theorem d_SS_execute_23 : decode c_SS_execute 23 = .ok (.iconst 1, 1) := by decide +kernel
theorem d_SS_execute_24 : decode c_SS_execute 24 = .ok (.if_icmp .ne 20, 3) := by decide +kernel
theorem d_SS_execute_27 : decode c_SS_execute 27 = .ok (.aload_n 0, 1) := by decide +kernel
theorem d_SS_execute_28 : decode c_SS_execute 28 = .ok (.iload_n 2, 1) := by decide +kernel
theorem d_SS_execute_29 : decode c_SS_execute 29 = .ok (.aload_n 0, 1) := by decide +kernel
theorem d_SS_execute_30 : decode c_SS_execute 30 = .ok (.getfield 9, 3) := by decide +kernel
theorem d_SS_execute_33 : decode c_SS_execute 33 = .ok (.invokevirtual 46, 3) := by decide +kernel
theorem d_SS_execute_36 : decode c_SS_execute 36 = .ok (.aload_n 0, 1) := by decide +kernel
theorem d_SS_execute_37 : decode c_SS_execute 37 = .ok (.iload_n 2, 1) := by decide +kernel
theorem d_SS_execute_38 : decode c_SS_execute 38 = .ok (.invokevirtual 50, 3) := by decide +kernel
theorem d_SS_execute_41 : decode c_SS_execute 41 = .ok (.goto 13, 3) := by decide +kernel
theorem d_SS_execute_44 : decode c_SS_execute 44 = .ok (.aload_n 0, 1) := by decide +kernel
theorem d_SS_execute_45 : decode c_SS_execute 45 = .ok (.iload_n 2, 1) := by decide +kernel
theorem d_SS_execute_46 : decode c_SS_execute 46 = .ok (.invokevirtual 53, 3) := by decide +kernel
theorem d_SS_execute_49 : decode c_SS_execute 49 = .ok (.aload_n 0, 1) := by decide +kernel
theorem d_SS_execute_50 : decode c_SS_execute 50 = .ok (.iload_n 2, 1) := by decide +kernel
theorem d_SS_execute_51 : decode c_SS_execute 51 = .ok (.invokevirtual 50, 3) := by decide +kernel
theorem d_SS_execute_54 : decode c_SS_execute 54 = .ok (.return_, 1) := by decide +kernel
theorem d_SS_holderOf_0 : decode c_SS_holderOf 0 = .ok (.aload_n 0, 1) := by decide +kernel
theorem d_SS_holderOf_1 : decode c_SS_holderOf 1 = .ok (.getfield 18, 3) := by decide +kernel
theorem d_SS_holderOf_4 : decode c_SS_holderOf 4 = .ok (.iload_n 1, 1) := by decide +kernel
theorem d_SS_holderOf_5 : decode c_SS_holderOf 5 = .ok (.iaload, 1) := by decide +kernel
theorem d_SS_holderOf_6 : decode c_SS_holderOf 6 = .ok (.ifCond .eq 12, 3) := by decide +kernel
theorem d_SS_holderOf_9 : decode c_SS_holderOf 9 = .ok (.aload_n 0, 1) := by decide +kernel
theorem d_SS_holderOf_10 : decode c_SS_holderOf 10 = .ok (.getfield 18, 3) := by decide +kernel
theorem d_SS_holderOf_13 : decode c_SS_holderOf 13 = .ok (.iload_n 1, 1) := by decide +kernel
theorem d_SS_holderOf_14 : decode c_SS_holderOf 14 = .ok (.iaload, 1) := by decide +kernel
theorem d_SS_holderOf_15 : decode c_SS_holderOf 15 = .ok (.goto 13, 3) := by decide +kernel
theorem d_SS_holderOf_18 : decode c_SS_holderOf 18 = .ok (.aload_n 0, 1) := by decide +kernel
theorem d_SS_holderOf_19 : decode c_SS_holderOf 19 = .ok (.getfield 21, 3) := by decide +kernel
theorem d_SS_holderOf_22 : decode c_SS_holderOf 22 = .ok (.iload_n 1, 1) := by decide +kernel
theorem d_SS_holderOf_23 : decode c_SS_holderOf 23 = .ok (.iaload, 1) := by decide +kernel
theorem d_SS_holderOf_24 : decode c_SS_holderOf 24 = .ok (.invokestatic 56, 3) := by decide +kernel
theorem d_SS_holderOf_27 : decode c_SS_holderOf 27 = .ok (.ineg, 1) := by decide +kernel
theorem d_SS_holderOf_28 : decode c_SS_holderOf 28 = .ok (.ireturn, 1) := by decide +kernel
theorem d_SS_castVote_0 : decode c_SS_castVote 0 = .ok (.aload_n 0, 1) := by decide +kernel
theorem d_SS_castVote_1 : decode c_SS_castVote 1 = .ok (.getfield 24, 3) := by decide +kernel
theorem d_SS_castVote_4 : decode c_SS_castVote 4 = .ok (.iload_n 1, 1) := by decide +kernel
theorem d_SS_castVote_5 : decode c_SS_castVote 5 = .ok (.iaload, 1) := by decide +kernel
theorem d_SS_castVote_6 : decode c_SS_castVote 6 = .ok (.ifCond .eq 4, 3) := by decide +kernel
theorem d_SS_castVote_9 : decode c_SS_castVote 9 = .ok (.return_, 1) := by decide +kernel
theorem d_SS_castVote_10 : decode c_SS_castVote 10 = .ok (.aload_n 0, 1) := by decide +kernel
theorem d_SS_castVote_11 : decode c_SS_castVote 11 = .ok (.iload_n 1, 1) := by decide +kernel
theorem d_SS_castVote_12 : decode c_SS_castVote 12 = .ok (.invokevirtual 62, 3) := by decide +kernel
theorem d_SS_castVote_15 : decode c_SS_castVote 15 = .ok (.ifCond .eq 11, 3) := by decide +kernel
theorem d_SS_castVote_18 : decode c_SS_castVote 18 = .ok (.aload_n 0, 1) := by decide +kernel
theorem d_SS_castVote_19 : decode c_SS_castVote 19 = .ok (.getfield 24, 3) := by decide +kernel
theorem d_SS_castVote_22 : decode c_SS_castVote 22 = .ok (.iload_n 1, 1) := by decide +kernel
theorem d_SS_castVote_23 : decode c_SS_castVote 23 = .ok (.iconst 2, 1) := by decide +kernel
theorem d_SS_castVote_24 : decode c_SS_castVote 24 = .ok (.iastore, 1) := by decide +kernel
theorem d_SS_castVote_25 : decode c_SS_castVote 25 = .ok (.return_, 1) := by decide +kernel
theorem d_SS_castVote_26 : decode c_SS_castVote 26 = .ok (.aload_n 0, 1) := by decide +kernel
theorem d_SS_castVote_27 : decode c_SS_castVote 27 = .ok (.getfield 24, 3) := by decide +kernel
theorem d_SS_castVote_30 : decode c_SS_castVote 30 = .ok (.iload_n 1, 1) := by decide +kernel
theorem d_SS_castVote_31 : decode c_SS_castVote 31 = .ok (.iconst 1, 1) := by decide +kernel
theorem d_SS_castVote_32 : decode c_SS_castVote 32 = .ok (.iastore, 1) := by decide +kernel
theorem d_SS_castVote_33 : decode c_SS_castVote 33 = .ok (.aload_n 0, 1) := by decide +kernel
theorem d_SS_castVote_34 : decode c_SS_castVote 34 = .ok (.iload_n 1, 1) := by decide +kernel
theorem d_SS_castVote_35 : decode c_SS_castVote 35 = .ok (.invokevirtual 66, 3) := by decide +kernel
theorem d_SS_castVote_38 : decode c_SS_castVote 38 = .ok (.aload_n 0, 1) := by decide +kernel
theorem d_SS_castVote_39 : decode c_SS_castVote 39 = .ok (.getfield 9, 3) := by decide +kernel
theorem d_SS_castVote_42 : decode c_SS_castVote 42 = .ok (.iconst 0, 1) := by decide +kernel
theorem d_SS_castVote_43 : decode c_SS_castVote 43 = .ok (.aload_n 0, 1) := by decide +kernel
theorem d_SS_castVote_44 : decode c_SS_castVote 44 = .ok (.getfield 15, 3) := by decide +kernel
theorem d_SS_castVote_47 : decode c_SS_castVote 47 = .ok (.iconst 0, 1) := by decide +kernel
theorem d_SS_castVote_48 : decode c_SS_castVote 48 = .ok (.iconst 4, 1) := by decide +kernel
theorem d_SS_castVote_49 : decode c_SS_castVote 49 = .ok (.invokestatic 69, 3) := by decide +kernel
theorem d_SS_castVote_52 : decode c_SS_castVote 52 = .ok (.aload_n 0, 1) := by decide +kernel
theorem d_SS_castVote_53 : decode c_SS_castVote 53 = .ok (.iload_n 1, 1) := by decide +kernel
theorem d_SS_castVote_54 : decode c_SS_castVote 54 = .ok (.aload_n 0, 1) := by decide +kernel
theorem d_SS_castVote_55 : decode c_SS_castVote 55 = .ok (.getfield 15, 3) := by decide +kernel
theorem d_SS_castVote_58 : decode c_SS_castVote 58 = .ok (.invokevirtual 46, 3) := by decide +kernel
theorem d_SS_castVote_61 : decode c_SS_castVote 61 = .ok (.return_, 1) := by decide +kernel
theorem d_SS_isHindered_0 : decode c_SS_isHindered 0 = .ok (.iconst 0, 1) := by decide +kernel
theorem d_SS_isHindered_1 : decode c_SS_isHindered 1 = .ok (.istore_n 2, 1) := by decide +kernel
theorem d_SS_isHindered_2 : decode c_SS_isHindered 2 = .ok (.iload_n 2, 1) := by decide +kernel
theorem d_SS_isHindered_3 : decode c_SS_isHindered 3 = .ok (.iconst 4, 1) := by decide +kernel
theorem d_SS_isHindered_4 : decode c_SS_isHindered 4 = .ok (.if_icmp .ge 97, 3) := by decide +kernel
theorem d_SS_isHindered_7 : decode c_SS_isHindered 7 = .ok (.aload_n 0, 1) := by decide +kernel
theorem d_SS_isHindered_8 : decode c_SS_isHindered 8 = .ok (.getfield 38, 3) := by decide +kernel
theorem d_SS_isHindered_11 : decode c_SS_isHindered 11 = .ok (.iload_n 1, 1) := by decide +kernel
theorem d_SS_isHindered_12 : decode c_SS_isHindered 12 = .ok (.aaload, 1) := by decide +kernel
theorem d_SS_isHindered_13 : decode c_SS_isHindered 13 = .ok (.getfield 75, 3) := by decide +kernel
theorem d_SS_isHindered_16 : decode c_SS_isHindered 16 = .ok (.iload_n 2, 1) := by decide +kernel
theorem d_SS_isHindered_17 : decode c_SS_isHindered 17 = .ok (.iconst 3, 1) := by decide +kernel
theorem d_SS_isHindered_18 : decode c_SS_isHindered 18 = .ok (.imul, 1) := by decide +kernel
theorem d_SS_isHindered_19 : decode c_SS_isHindered 19 = .ok (.aload_n 0, 1) := by decide +kernel
theorem d_SS_isHindered_20 : decode c_SS_isHindered 20 = .ok (.getfield 34, 3) := by decide +kernel
theorem d_SS_isHindered_23 : decode c_SS_isHindered 23 = .ok (.iadd, 1) := by decide +kernel
theorem d_SS_isHindered_24 : decode c_SS_isHindered 24 = .ok (.iaload, 1) := by decide +kernel
theorem d_SS_isHindered_25 : decode c_SS_isHindered 25 = .ok (.istore_n 3, 1) := by decide +kernel
theorem d_SS_isHindered_26 : decode c_SS_isHindered 26 = .ok (.aload_n 0, 1) := by decide +kernel
theorem d_SS_isHindered_27 : decode c_SS_isHindered 27 = .ok (.getfield 18, 3) := by decide +kernel
theorem d_SS_isHindered_30 : decode c_SS_isHindered 30 = .ok (.iload_n 2, 1) := by decide +kernel
theorem d_SS_isHindered_31 : decode c_SS_isHindered 31 = .ok (.iaload, 1) := by decide +kernel
theorem d_SS_isHindered_32 : decode c_SS_isHindered 32 = .ok (.ifCond .eq 17, 3) := by decide +kernel
theorem d_SS_isHindered_35 : decode c_SS_isHindered 35 = .ok (.aload_n 0, 1) := by decide +kernel
theorem d_SS_isHindered_36 : decode c_SS_isHindered 36 = .ok (.getfield 18, 3) := by decide +kernel
theorem d_SS_isHindered_39 : decode c_SS_isHindered 39 = .ok (.iload_n 2, 1) := by decide +kernel
theorem d_SS_isHindered_40 : decode c_SS_isHindered 40 = .ok (.iaload, 1) := by decide +kernel
theorem d_SS_isHindered_41 : decode c_SS_isHindered 41 = .ok (.iload_n 1, 1) := by decide +kernel
theorem d_SS_isHindered_42 : decode c_SS_isHindered 42 = .ok (.if_icmp .eq 7, 3) := by decide +kernel
theorem d_SS_isHindered_45 : decode c_SS_isHindered 45 = .ok (.iconst 1, 1) := by decide +kernel
theorem d_SS_isHindered_46 : decode c_SS_isHindered 46 = .ok (.goto 4, 3) := by decide +kernel
theorem d_SS_isHindered_49 : decode c_SS_isHindered 49 = .ok (.iconst 0, 1) := by decide +kernel
theorem d_SS_isHindered_50 : decode c_SS_isHindered 50 = .ok (.istore 4, 2) := by decide +kernel
theorem d_SS_isHindered_52 : decode c_SS_isHindered 52 = .ok (.aload_n 0, 1) := by decide +kernel
theorem d_SS_isHindered_53 : decode c_SS_isHindered 53 = .ok (.getfield 21, 3) := by decide +kernel
theorem d_SS_isHindered_56 : decode c_SS_isHindered 56 = .ok (.iload_n 2, 1) := by decide +kernel
theorem d_SS_isHindered_57 : decode c_SS_isHindered 57 = .ok (.iaload, 1) := by decide +kernel
theorem d_SS_isHindered_58 : decode c_SS_isHindered 58 = .ok (.iconst 1, 1) := by decide +kernel
theorem d_SS_isHindered_59 : decode c_SS_isHindered 59 = .ok (.iload_n 1, 1) := by decide +kernel
theorem d_SS_isHindered_60 : decode c_SS_isHindered 60 = .ok (.ishl, 1) := by decide +kernel
theorem d_SS_isHindered_61 : decode c_SS_isHindered 61 = .ok (.iconst (-1), 1) := by decide +kernel
theorem d_SS_isHindered_62 : decode c_SS_isHindered 62 = .ok (.ixor, 1) := by decide +kernel
theorem d_SS_isHindered_63 : decode c_SS_isHindered 63 = .ok (.iand, 1) := by decide +kernel
theorem d_SS_isHindered_64 : decode c_SS_isHindered 64 = .ok (.ifCond .eq 7, 3) := by decide +kernel
theorem d_SS_isHindered_67 : decode c_SS_isHindered 67 = .ok (.iconst 1, 1) := by decide +kernel
theorem d_SS_isHindered_68 : decode c_SS_isHindered 68 = .ok (.goto 4, 3) := by decide +kernel
theorem d_SS_isHindered_71 : decode c_SS_isHindered 71 = .ok (.iconst 0, 1) := by decide +kernel
theorem d_SS_isHindered_72 : decode c_SS_isHindered 72 = .ok (.istore 5, 2) := by decide +kernel
theorem d_SS_isHindered_74 : decode c_SS_isHindered 74 = .ok (.iload_n 3, 1) := by decide +kernel
theorem d_SS_isHindered_75 : decode c_SS_isHindered 75 = .ok (.ifCond .eq 8, 3) := by decide +kernel
theorem d_SS_isHindered_78 : decode c_SS_isHindered 78 = .ok (.iload 4, 2) := by decide +kernel
theorem d_SS_isHindered_80 : decode c_SS_isHindered 80 = .ok (.ifCond .ne 13, 3) := by decide +kernel
theorem d_SS_isHindered_83 : decode c_SS_isHindered 83 = .ok (.iload_n 3, 1) := by decide +kernel
theorem d_SS_isHindered_84 : decode c_SS_isHindered 84 = .ok (.iconst 2, 1) := by decide +kernel
theorem d_SS_isHindered_85 : decode c_SS_isHindered 85 = .ok (.if_icmp .ne 10, 3) := by decide +kernel
theorem d_SS_isHindered_88 : decode c_SS_isHindered 88 = .ok (.iload 5, 2) := by decide +kernel
theorem d_SS_isHindered_90 : decode c_SS_isHindered 90 = .ok (.ifCond .eq 5, 3) := by decide +kernel
theorem d_SS_isHindered_93 : decode c_SS_isHindered 93 = .ok (.iconst 1, 1) := by decide +kernel
theorem d_SS_isHindered_94 : decode c_SS_isHindered 94 = .ok (.ireturn, 1) := by decide +kernel
theorem d_SS_isHindered_95 : decode c_SS_isHindered 95 = .ok (.iinc 2 1, 3) := by decide +kernel
theorem d_SS_isHindered_98 : decode c_SS_isHindered 98 = .ok (.goto (-96), 3) := by decide +kernel
theorem d_SS_isHindered_101 : decode c_SS_isHindered 101 = .ok (.iconst 0, 1) := by decide +kernel
theorem d_SS_isHindered_102 : decode c_SS_isHindered 102 = .ok (.ireturn, 1) := by decide +kernel
theorem d_SS_takeKeys_0 : decode c_SS_takeKeys 0 = .ok (.iconst 0, 1) := by decide +kernel
theorem d_SS_takeKeys_1 : decode c_SS_takeKeys 1 = .ok (.istore_n 2, 1) := by decide +kernel
theorem d_SS_takeKeys_2 : decode c_SS_takeKeys 2 = .ok (.iload_n 2, 1) := by decide +kernel
theorem d_SS_takeKeys_3 : decode c_SS_takeKeys 3 = .ok (.iconst 4, 1) := by decide +kernel
theorem d_SS_takeKeys_4 : decode c_SS_takeKeys 4 = .ok (.if_icmp .ge 60, 3) := by decide +kernel
theorem d_SS_takeKeys_7 : decode c_SS_takeKeys 7 = .ok (.aload_n 0, 1) := by decide +kernel
theorem d_SS_takeKeys_8 : decode c_SS_takeKeys 8 = .ok (.getfield 38, 3) := by decide +kernel
theorem d_SS_takeKeys_11 : decode c_SS_takeKeys 11 = .ok (.iload_n 1, 1) := by decide +kernel
theorem d_SS_takeKeys_12 : decode c_SS_takeKeys 12 = .ok (.aaload, 1) := by decide +kernel
theorem d_SS_takeKeys_13 : decode c_SS_takeKeys 13 = .ok (.getfield 75, 3) := by decide +kernel
theorem d_SS_takeKeys_16 : decode c_SS_takeKeys 16 = .ok (.iload_n 2, 1) := by decide +kernel
theorem d_SS_takeKeys_17 : decode c_SS_takeKeys 17 = .ok (.iconst 3, 1) := by decide +kernel
theorem d_SS_takeKeys_18 : decode c_SS_takeKeys 18 = .ok (.imul, 1) := by decide +kernel
theorem d_SS_takeKeys_19 : decode c_SS_takeKeys 19 = .ok (.aload_n 0, 1) := by decide +kernel
theorem d_SS_takeKeys_20 : decode c_SS_takeKeys 20 = .ok (.getfield 34, 3) := by decide +kernel
theorem d_SS_takeKeys_23 : decode c_SS_takeKeys 23 = .ok (.iadd, 1) := by decide +kernel
theorem d_SS_takeKeys_24 : decode c_SS_takeKeys 24 = .ok (.iaload, 1) := by decide +kernel
theorem d_SS_takeKeys_25 : decode c_SS_takeKeys 25 = .ok (.istore_n 3, 1) := by decide +kernel
theorem d_SS_takeKeys_26 : decode c_SS_takeKeys 26 = .ok (.iload_n 3, 1) := by decide +kernel
theorem d_SS_takeKeys_27 : decode c_SS_takeKeys 27 = .ok (.iconst 2, 1) := by decide +kernel
theorem d_SS_takeKeys_28 : decode c_SS_takeKeys 28 = .ok (.if_icmp .ne 13, 3) := by decide +kernel
theorem d_SS_takeKeys_31 : decode c_SS_takeKeys 31 = .ok (.aload_n 0, 1) := by decide +kernel
theorem d_SS_takeKeys_32 : decode c_SS_takeKeys 32 = .ok (.getfield 18, 3) := by decide +kernel
theorem d_SS_takeKeys_35 : decode c_SS_takeKeys 35 = .ok (.iload_n 2, 1) := by decide +kernel
theorem d_SS_takeKeys_36 : decode c_SS_takeKeys 36 = .ok (.iload_n 1, 1) := by decide +kernel
theorem d_SS_takeKeys_37 : decode c_SS_takeKeys 37 = .ok (.iastore, 1) := by decide +kernel
theorem d_SS_takeKeys_38 : decode c_SS_takeKeys 38 = .ok (.goto 20, 3) := by decide +kernel
theorem d_SS_takeKeys_41 : decode c_SS_takeKeys 41 = .ok (.iload_n 3, 1) := by decide +kernel
theorem d_SS_takeKeys_42 : decode c_SS_takeKeys 42 = .ok (.iconst 1, 1) := by decide +kernel
theorem d_SS_takeKeys_43 : decode c_SS_takeKeys 43 = .ok (.if_icmp .ne 15, 3) := by decide +kernel
theorem d_SS_takeKeys_46 : decode c_SS_takeKeys 46 = .ok (.aload_n 0, 1) := by decide +kernel
theorem d_SS_takeKeys_47 : decode c_SS_takeKeys 47 = .ok (.getfield 21, 3) := by decide +kernel
theorem d_SS_takeKeys_50 : decode c_SS_takeKeys 50 = .ok (.iload_n 2, 1) := by decide +kernel
theorem d_SS_takeKeys_51 : decode c_SS_takeKeys 51 = .ok (.dup2, 1) := by decide +kernel
theorem d_SS_takeKeys_52 : decode c_SS_takeKeys 52 = .ok (.iaload, 1) := by decide +kernel
theorem d_SS_takeKeys_53 : decode c_SS_takeKeys 53 = .ok (.iconst 1, 1) := by decide +kernel
theorem d_SS_takeKeys_54 : decode c_SS_takeKeys 54 = .ok (.iload_n 1, 1) := by decide +kernel
theorem d_SS_takeKeys_55 : decode c_SS_takeKeys 55 = .ok (.ishl, 1) := by decide +kernel
theorem d_SS_takeKeys_56 : decode c_SS_takeKeys 56 = .ok (.ior, 1) := by decide +kernel
theorem d_SS_takeKeys_57 : decode c_SS_takeKeys 57 = .ok (.iastore, 1) := by decide +kernel
theorem d_SS_takeKeys_58 : decode c_SS_takeKeys 58 = .ok (.iinc 2 1, 3) := by decide +kernel
theorem d_SS_takeKeys_61 : decode c_SS_takeKeys 61 = .ok (.goto (-59), 3) := by decide +kernel
theorem d_SS_takeKeys_64 : decode c_SS_takeKeys 64 = .ok (.return_, 1) := by decide +kernel
theorem d_SS_doOperations_0 : decode c_SS_doOperations 0 = .ok (.aload_n 0, 1) := by decide +kernel
theorem d_SS_doOperations_1 : decode c_SS_doOperations 1 = .ok (.getfield 38, 3) := by decide +kernel
theorem d_SS_doOperations_4 : decode c_SS_doOperations 4 = .ok (.iload_n 1, 1) := by decide +kernel
theorem d_SS_doOperations_5 : decode c_SS_doOperations 5 = .ok (.aaload, 1) := by decide +kernel
theorem d_SS_doOperations_6 : decode c_SS_doOperations 6 = .ok (.astore_n 3, 1) := by decide +kernel
theorem d_SS_doOperations_7 : decode c_SS_doOperations 7 = .ok (.iconst 0, 1) := by decide +kernel
theorem d_SS_doOperations_8 : decode c_SS_doOperations 8 = .ok (.istore 4, 2) := by decide +kernel
theorem d_SS_doOperations_10 : decode c_SS_doOperations 10 = .ok (.iload 4, 2) := by decide +kernel
theorem d_SS_doOperations_12 : decode c_SS_doOperations 12 = .ok (.aload_n 3, 1) := by decide +kernel
theorem d_SS_doOperations_13 : decode c_SS_doOperations 13 = .ok (.getfield 80, 3) := by decide +kernel
theorem d_SS_doOperations_16 : decode c_SS_doOperations 16 = .ok (.if_icmp .ge 123, 3) := by decide +kernel
theorem d_SS_doOperations_19 : decode c_SS_doOperations 19 = .ok (.aload_n 3, 1) := by decide +kernel
theorem d_SS_doOperations_20 : decode c_SS_doOperations 20 = .ok (.getfield 83, 3) := by decide +kernel
theorem d_SS_doOperations_23 : decode c_SS_doOperations 23 = .ok (.iload 4, 2) := by decide +kernel
theorem d_SS_doOperations_25 : decode c_SS_doOperations 25 = .ok (.iaload, 1) := by decide +kernel
theorem d_SS_doOperations_26 : decode c_SS_doOperations 26 = .ok (.iconst 3, 1) := by decide +kernel
theorem d_SS_doOperations_27 : decode c_SS_doOperations 27 = .ok (.irem, 1) := by decide +kernel
theorem d_SS_doOperations_28 : decode c_SS_doOperations 28 = .ok (.aload_n 0, 1) := by decide +kernel
theorem d_SS_doOperations_29 : decode c_SS_doOperations 29 = .ok (.getfield 34, 3) := by decide +kernel
theorem d_SS_doOperations_32 : decode c_SS_doOperations 32 = .ok (.if_icmp .ne 101, 3) := by decide +kernel
theorem d_SS_doOperations_35 : decode c_SS_doOperations 35 = .ok (.aload_n 3, 1) := by decide +kernel
theorem d_SS_doOperations_36 : decode c_SS_doOperations 36 = .ok (.getfield 83, 3) := by decide +kernel
theorem d_SS_doOperations_39 : decode c_SS_doOperations 39 = .ok (.iload 4, 2) := by decide +kernel
theorem d_SS_doOperations_41 : decode c_SS_doOperations 41 = .ok (.iaload, 1) := by decide +kernel
theorem d_SS_doOperations_42 : decode c_SS_doOperations 42 = .ok (.iconst 3, 1) := by decide +kernel
theorem d_SS_doOperations_43 : decode c_SS_doOperations 43 = .ok (.idiv, 1) := by decide +kernel
theorem d_SS_doOperations_44 : decode c_SS_doOperations 44 = .ok (.istore 5, 2) := by decide +kernel
theorem d_SS_doOperations_46 : decode c_SS_doOperations 46 = .ok (.aload_n 2, 1) := by decide +kernel
theorem d_SS_doOperations_47 : decode c_SS_doOperations 47 = .ok (.iload 5, 2) := by decide +kernel
theorem d_SS_doOperations_49 : decode c_SS_doOperations 49 = .ok (.iaload, 1) := by decide +kernel
theorem d_SS_doOperations_50 : decode c_SS_doOperations 50 = .ok (.istore 6, 2) := by decide +kernel
theorem d_SS_doOperations_52 : decode c_SS_doOperations 52 = .ok (.aload_n 3, 1) := by decide +kernel
theorem d_SS_doOperations_53 : decode c_SS_doOperations 53 = .ok (.getfield 86, 3) := by decide +kernel
theorem d_SS_doOperations_56 : decode c_SS_doOperations 56 = .ok (.iload 4, 2) := by decide +kernel
theorem d_SS_doOperations_58 : decode c_SS_doOperations 58 = .ok (.iaload, 1) := by decide +kernel
theorem d_SS_doOperations_59 : decode c_SS_doOperations 59 = .ok (.iconst 1, 1) := by decide +kernel
theorem d_SS_doOperations_60 : decode c_SS_doOperations 60 = .ok (.if_icmp .ne 17, 3) := by decide +kernel
theorem d_SS_doOperations_63 : decode c_SS_doOperations 63 = .ok (.aload_n 2, 1) := by decide +kernel
theorem d_SS_doOperations_64 : decode c_SS_doOperations 64 = .ok (.iload 5, 2) := by decide +kernel
theorem d_SS_doOperations_66 : decode c_SS_doOperations 66 = .ok (.aload_n 3, 1) := by decide +kernel
theorem d_SS_doOperations_67 : decode c_SS_doOperations 67 = .ok (.getfield 89, 3) := by decide +kernel
theorem d_SS_doOperations_70 : decode c_SS_doOperations 70 = .ok (.iload 4, 2) := by decide +kernel
theorem d_SS_doOperations_72 : decode c_SS_doOperations 72 = .ok (.iaload, 1) := by decide +kernel
theorem d_SS_doOperations_73 : decode c_SS_doOperations 73 = .ok (.iastore, 1) := by decide +kernel
theorem d_SS_doOperations_74 : decode c_SS_doOperations 74 = .ok (.goto 28, 3) := by decide +kernel
theorem d_SS_doOperations_77 : decode c_SS_doOperations 77 = .ok (.aload_n 3, 1) := by decide +kernel
theorem d_SS_doOperations_78 : decode c_SS_doOperations 78 = .ok (.getfield 86, 3) := by decide +kernel
theorem d_SS_doOperations_81 : decode c_SS_doOperations 81 = .ok (.iload 4, 2) := by decide +kernel
theorem d_SS_doOperations_83 : decode c_SS_doOperations 83 = .ok (.iaload, 1) := by decide +kernel
theorem d_SS_doOperations_84 : decode c_SS_doOperations 84 = .ok (.iconst 2, 1) := by decide +kernel
theorem d_SS_doOperations_85 : decode c_SS_doOperations 85 = .ok (.if_icmp .ne 17, 3) := by decide +kernel
theorem d_SS_doOperations_88 : decode c_SS_doOperations 88 = .ok (.aload_n 2, 1) := by decide +kernel
theorem d_SS_doOperations_89 : decode c_SS_doOperations 89 = .ok (.iload 5, 2) := by decide +kernel
theorem d_SS_doOperations_91 : decode c_SS_doOperations 91 = .ok (.iload 6, 2) := by decide +kernel
theorem d_SS_doOperations_93 : decode c_SS_doOperations 93 = .ok (.aload_n 3, 1) := by decide +kernel
theorem d_SS_doOperations_94 : decode c_SS_doOperations 94 = .ok (.getfield 89, 3) := by decide +kernel
theorem d_SS_doOperations_97 : decode c_SS_doOperations 97 = .ok (.iload 4, 2) := by decide +kernel
theorem d_SS_doOperations_99 : decode c_SS_doOperations 99 = .ok (.iaload, 1) := by decide +kernel
theorem d_SS_doOperations_100 : decode c_SS_doOperations 100 = .ok (.iadd, 1) := by decide +kernel
theorem d_SS_doOperations_101 : decode c_SS_doOperations 101 = .ok (.iastore, 1) := by decide +kernel
theorem d_SS_doOperations_102 : decode c_SS_doOperations 102 = .ok (.aload_n 0, 1) := by decide +kernel
theorem d_SS_doOperations_103 : decode c_SS_doOperations 103 = .ok (.getfield 31, 3) := by decide +kernel
theorem d_SS_doOperations_106 : decode c_SS_doOperations 106 = .ok (.iload_n 1, 1) := by decide +kernel
theorem d_SS_doOperations_107 : decode c_SS_doOperations 107 = .ok (.iconst 4, 1) := by decide +kernel
theorem d_SS_doOperations_108 : decode c_SS_doOperations 108 = .ok (.imul, 1) := by decide +kernel
theorem d_SS_doOperations_109 : decode c_SS_doOperations 109 = .ok (.iload 4, 2) := by decide +kernel
theorem d_SS_doOperations_111 : decode c_SS_doOperations 111 = .ok (.iadd, 1) := by decide +kernel
theorem d_SS_doOperations_112 : decode c_SS_doOperations 112 = .ok (.aload_n 3, 1) := by decide +kernel
theorem d_SS_doOperations_113 : decode c_SS_doOperations 113 = .ok (.getfield 86, 3) := by decide +kernel
theorem d_SS_doOperations_116 : decode c_SS_doOperations 116 = .ok (.iload 4, 2) := by decide +kernel
theorem d_SS_doOperations_118 : decode c_SS_doOperations 118 = .ok (.iaload, 1) := by decide +kernel
theorem d_SS_doOperations_119 : decode c_SS_doOperations 119 = .ok (.iconst 2, 1) := by decide +kernel
theorem d_SS_doOperations_120 : decode c_SS_doOperations 120 = .ok (.if_icmp .ne 10, 3) := by decide +kernel
theorem d_SS_doOperations_123 : decode c_SS_doOperations 123 = .ok (.aload_n 2, 1) := by decide +kernel
theorem d_SS_doOperations_124 : decode c_SS_doOperations 124 = .ok (.iload 5, 2) := by decide +kernel
theorem d_SS_doOperations_126 : decode c_SS_doOperations 126 = .ok (.iaload, 1) := by decide +kernel
theorem d_SS_doOperations_127 : decode c_SS_doOperations 127 = .ok (.goto 5, 3) := by decide +kernel
theorem d_SS_doOperations_130 : decode c_SS_doOperations 130 = .ok (.iload 6, 2) := by decide +kernel
theorem d_SS_doOperations_132 : decode c_SS_doOperations 132 = .ok (.iastore, 1) := by decide +kernel
theorem d_SS_doOperations_133 : decode c_SS_doOperations 133 = .ok (.iinc 4 1, 3) := by decide +kernel
theorem d_SS_doOperations_136 : decode c_SS_doOperations 136 = .ok (.goto (-126), 3) := by decide +kernel
theorem d_SS_doOperations_139 : decode c_SS_doOperations 139 = .ok (.return_, 1) := by decide +kernel
theorem d_SS_refuseUnvoted_0 : decode c_SS_refuseUnvoted 0 = .ok (.aload_n 0, 1) := by decide +kernel
theorem d_SS_refuseUnvoted_1 : decode c_SS_refuseUnvoted 1 = .ok (.getfield 24, 3) := by decide +kernel
theorem d_SS_refuseUnvoted_4 : decode c_SS_refuseUnvoted 4 = .ok (.iload_n 1, 1) := by decide +kernel
theorem d_SS_refuseUnvoted_5 : decode c_SS_refuseUnvoted 5 = .ok (.iaload, 1) := by decide +kernel
theorem d_SS_refuseUnvoted_6 : decode c_SS_refuseUnvoted 6 = .ok (.ifCond .ne 10, 3) := by decide +kernel
theorem d_SS_refuseUnvoted_9 : decode c_SS_refuseUnvoted 9 = .ok (.aload_n 0, 1) := by decide +kernel
theorem d_SS_refuseUnvoted_10 : decode c_SS_refuseUnvoted 10 = .ok (.getfield 24, 3) := by decide +kernel
theorem d_SS_refuseUnvoted_13 : decode c_SS_refuseUnvoted 13 = .ok (.iload_n 1, 1) := by decide +kernel
theorem d_SS_refuseUnvoted_14 : decode c_SS_refuseUnvoted 14 = .ok (.iconst 2, 1) := by decide +kernel
theorem d_SS_refuseUnvoted_15 : decode c_SS_refuseUnvoted 15 = .ok (.iastore, 1) := by decide +kernel
theorem d_SS_refuseUnvoted_16 : decode c_SS_refuseUnvoted 16 = .ok (.return_, 1) := by decide +kernel
theorem d_SS_release_0 : decode c_SS_release 0 = .ok (.iconst 0, 1) := by decide +kernel
theorem d_SS_release_1 : decode c_SS_release 1 = .ok (.istore_n 2, 1) := by decide +kernel
theorem d_SS_release_2 : decode c_SS_release 2 = .ok (.iload_n 2, 1) := by decide +kernel
theorem d_SS_release_3 : decode c_SS_release 3 = .ok (.iconst 4, 1) := by decide +kernel
theorem d_SS_release_4 : decode c_SS_release 4 = .ok (.if_icmp .ge 40, 3) := by decide +kernel
theorem d_SS_release_7 : decode c_SS_release 7 = .ok (.aload_n 0, 1) := by decide +kernel
theorem d_SS_release_8 : decode c_SS_release 8 = .ok (.getfield 18, 3) := by decide +kernel
theorem d_SS_release_11 : decode c_SS_release 11 = .ok (.iload_n 2, 1) := by decide +kernel
theorem d_SS_release_12 : decode c_SS_release 12 = .ok (.iaload, 1) := by decide +kernel
theorem d_SS_release_13 : decode c_SS_release 13 = .ok (.iload_n 1, 1) := by decide +kernel
theorem d_SS_release_14 : decode c_SS_release 14 = .ok (.if_icmp .ne 10, 3) := by decide +kernel
theorem d_SS_release_17 : decode c_SS_release 17 = .ok (.aload_n 0, 1) := by decide +kernel
theorem d_SS_release_18 : decode c_SS_release 18 = .ok (.getfield 18, 3) := by decide +kernel
theorem d_SS_release_21 : decode c_SS_release 21 = .ok (.iload_n 2, 1) := by decide +kernel
theorem d_SS_release_22 : decode c_SS_release 22 = .ok (.iconst 0, 1) := by decide +kernel
theorem d_SS_release_23 : decode c_SS_release 23 = .ok (.iastore, 1) := by decide +kernel
theorem d_SS_release_24 : decode c_SS_release 24 = .ok (.aload_n 0, 1) := by decide +kernel
theorem d_SS_release_25 : decode c_SS_release 25 = .ok (.getfield 21, 3) := by decide +kernel
theorem d_SS_release_28 : decode c_SS_release 28 = .ok (.iload_n 2, 1) := by decide +kernel
theorem d_SS_release_29 : decode c_SS_release 29 = .ok (.dup2, 1) := by decide +kernel
theorem d_SS_release_30 : decode c_SS_release 30 = .ok (.iaload, 1) := by decide +kernel
theorem d_SS_release_31 : decode c_SS_release 31 = .ok (.iconst 1, 1) := by decide +kernel
theorem d_SS_release_32 : decode c_SS_release 32 = .ok (.iload_n 1, 1) := by decide +kernel
theorem d_SS_release_33 : decode c_SS_release 33 = .ok (.ishl, 1) := by decide +kernel
theorem d_SS_release_34 : decode c_SS_release 34 = .ok (.iconst (-1), 1) := by decide +kernel
theorem d_SS_release_35 : decode c_SS_release 35 = .ok (.ixor, 1) := by decide +kernel
theorem d_SS_release_36 : decode c_SS_release 36 = .ok (.iand, 1) := by decide +kernel
theorem d_SS_release_37 : decode c_SS_release 37 = .ok (.iastore, 1) := by decide +kernel
theorem d_SS_release_38 : decode c_SS_release 38 = .ok (.iinc 2 1, 3) := by decide +kernel
theorem d_SS_release_41 : decode c_SS_release 41 = .ok (.goto (-39), 3) := by decide +kernel
theorem d_SS_release_44 : decode c_SS_release 44 = .ok (.aload_n 0, 1) := by decide +kernel
theorem d_SS_release_45 : decode c_SS_release 45 = .ok (.getfield 27, 3) := by decide +kernel
theorem d_SS_release_48 : decode c_SS_release 48 = .ok (.iload_n 1, 1) := by decide +kernel
theorem d_SS_release_49 : decode c_SS_release 49 = .ok (.iconst 1, 1) := by decide +kernel
theorem d_SS_release_50 : decode c_SS_release 50 = .ok (.bastore, 1) := by decide +kernel
theorem d_SS_release_51 : decode c_SS_release 51 = .ok (.return_, 1) := by decide +kernel
theorem d_Gr_init_0 : decode c_Gr_init 0 = .ok (.aload_n 0, 1) := by decide +kernel
theorem d_Gr_init_1 : decode c_Gr_init 1 = .ok (.invokespecial 3, 3) := by decide +kernel
theorem d_Gr_init_4 : decode c_Gr_init 4 = .ok (.aload_n 0, 1) := by decide +kernel
theorem d_Gr_init_5 : decode c_Gr_init 5 = .ok (.aload_n 1, 1) := by decide +kernel
theorem d_Gr_init_6 : decode c_Gr_init 6 = .ok (.putfield 9, 3) := by decide +kernel
theorem d_Gr_init_9 : decode c_Gr_init 9 = .ok (.return_, 1) := by decide +kernel
theorem d_Gr_countUp_0 : decode c_Gr_countUp 0 = .ok (.iconst 0, 1) := by decide +kernel
theorem d_Gr_countUp_1 : decode c_Gr_countUp 1 = .ok (.istore_n 1, 1) := by decide +kernel
theorem d_Gr_countUp_2 : decode c_Gr_countUp 2 = .ok (.iconst 0, 1) := by decide +kernel
theorem d_Gr_countUp_3 : decode c_Gr_countUp 3 = .ok (.istore_n 2, 1) := by decide +kernel
theorem d_Gr_countUp_4 : decode c_Gr_countUp 4 = .ok (.iload_n 2, 1) := by decide +kernel
theorem d_Gr_countUp_5 : decode c_Gr_countUp 5 = .ok (.iconst 3, 1) := by decide +kernel
theorem d_Gr_countUp_6 : decode c_Gr_countUp 6 = .ok (.if_icmp .ge 24, 3) := by decide +kernel
theorem d_Gr_countUp_9 : decode c_Gr_countUp 9 = .ok (.aload_n 0, 1) := by decide +kernel
theorem d_Gr_countUp_10 : decode c_Gr_countUp 10 = .ok (.getfield 9, 3) := by decide +kernel
theorem d_Gr_countUp_13 : decode c_Gr_countUp 13 = .ok (.iload_n 2, 1) := by decide +kernel
theorem d_Gr_countUp_14 : decode c_Gr_countUp 14 = .ok (.aaload, 1) := by decide +kernel
theorem d_Gr_countUp_15 : decode c_Gr_countUp 15 = .ok (.getfield 15, 3) := by decide +kernel
theorem d_Gr_countUp_18 : decode c_Gr_countUp 18 = .ok (.ifCond .eq 6, 3) := by decide +kernel
theorem d_Gr_countUp_21 : decode c_Gr_countUp 21 = .ok (.iinc 1 1, 3) := by decide +kernel
theorem d_Gr_countUp_24 : decode c_Gr_countUp 24 = .ok (.iinc 2 1, 3) := by decide +kernel
theorem d_Gr_countUp_27 : decode c_Gr_countUp 27 = .ok (.goto (-23), 3) := by decide +kernel
theorem d_Gr_countUp_30 : decode c_Gr_countUp 30 = .ok (.iload_n 1, 1) := by decide +kernel
theorem d_Gr_countUp_31 : decode c_Gr_countUp 31 = .ok (.ireturn, 1) := by decide +kernel
theorem d_Gr_findLeader_0 : decode c_Gr_findLeader 0 = .ok (.aload_n 0, 1) := by decide +kernel
theorem d_Gr_findLeader_1 : decode c_Gr_findLeader 1 = .ok (.invokevirtual 21, 3) := by decide +kernel
theorem d_Gr_findLeader_4 : decode c_Gr_findLeader 4 = .ok (.iconst 3, 1) := by decide +kernel
theorem d_Gr_findLeader_5 : decode c_Gr_findLeader 5 = .ok (.invokestatic 25, 3) := by decide +kernel
theorem d_Gr_findLeader_8 : decode c_Gr_findLeader 8 = .ok (.istore_n 1, 1) := by decide +kernel
theorem d_Gr_findLeader_9 : decode c_Gr_findLeader 9 = .ok (.aload_n 0, 1) := by decide +kernel
theorem d_Gr_findLeader_10 : decode c_Gr_findLeader 10 = .ok (.getfield 9, 3) := by decide +kernel
theorem d_Gr_findLeader_13 : decode c_Gr_findLeader 13 = .ok (.iload_n 1, 1) := by decide +kernel
theorem d_Gr_findLeader_14 : decode c_Gr_findLeader 14 = .ok (.aaload, 1) := by decide +kernel
theorem d_Gr_findLeader_15 : decode c_Gr_findLeader 15 = .ok (.getfield 15, 3) := by decide +kernel
theorem d_Gr_findLeader_18 : decode c_Gr_findLeader 18 = .ok (.ifCond .eq 7, 3) := by decide +kernel
theorem d_Gr_findLeader_21 : decode c_Gr_findLeader 21 = .ok (.iload_n 1, 1) := by decide +kernel
theorem d_Gr_findLeader_22 : decode c_Gr_findLeader 22 = .ok (.goto 4, 3) := by decide +kernel
theorem d_Gr_findLeader_25 : decode c_Gr_findLeader 25 = .ok (.iconst (-1), 1) := by decide +kernel
theorem d_Gr_findLeader_26 : decode c_Gr_findLeader 26 = .ok (.ireturn, 1) := by decide +kernel
theorem d_Gr_log_0 : decode c_Gr_log 0 = .ok (.aload_n 0, 1) := by decide +kernel
theorem d_Gr_log_1 : decode c_Gr_log 1 = .ok (.invokevirtual 31, 3) := by decide +kernel
theorem d_Gr_log_4 : decode c_Gr_log 4 = .ok (.istore_n 2, 1) := by decide +kernel
theorem d_Gr_log_5 : decode c_Gr_log 5 = .ok (.iload_n 2, 1) := by decide +kernel
theorem d_Gr_log_6 : decode c_Gr_log 6 = .ok (.ifCond .ge 6, 3) := by decide +kernel
theorem d_Gr_log_9 : decode c_Gr_log 9 = .ok (.bipush (-3), 2) := by decide +kernel
theorem d_Gr_log_11 : decode c_Gr_log 11 = .ok (.ireturn, 1) := by decide +kernel
theorem d_Gr_log_12 : decode c_Gr_log 12 = .ok (.aload_n 0, 1) := by decide +kernel
theorem d_Gr_log_13 : decode c_Gr_log 13 = .ok (.getfield 9, 3) := by decide +kernel
theorem d_Gr_log_16 : decode c_Gr_log 16 = .ok (.iload_n 2, 1) := by decide +kernel
theorem d_Gr_log_17 : decode c_Gr_log 17 = .ok (.aaload, 1) := by decide +kernel
theorem d_Gr_log_18 : decode c_Gr_log 18 = .ok (.astore_n 3, 1) := by decide +kernel
theorem d_Gr_log_19 : decode c_Gr_log 19 = .ok (.aload_n 3, 1) := by decide +kernel
theorem d_Gr_log_20 : decode c_Gr_log 20 = .ok (.getfield 34, 3) := by decide +kernel
theorem d_Gr_log_23 : decode c_Gr_log 23 = .ok (.bipush 60, 2) := by decide +kernel
theorem d_Gr_log_25 : decode c_Gr_log 25 = .ok (.if_icmp .lt 6, 3) := by decide +kernel
theorem d_Gr_log_28 : decode c_Gr_log 28 = .ok (.bipush (-4), 2) := by decide +kernel
theorem d_Gr_log_30 : decode c_Gr_log 30 = .ok (.ireturn, 1) := by decide +kernel
theorem d_Gr_log_31 : decode c_Gr_log 31 = .ok (.aload_n 3, 1) := by decide +kernel
theorem d_Gr_log_32 : decode c_Gr_log 32 = .ok (.iload_n 1, 1) := by decide +kernel
theorem d_Gr_log_33 : decode c_Gr_log 33 = .ok (.invokevirtual 38, 3) := by decide +kernel
theorem d_Gr_log_36 : decode c_Gr_log 36 = .ok (.aload_n 0, 1) := by decide +kernel
theorem d_Gr_log_37 : decode c_Gr_log 37 = .ok (.invokevirtual 42, 3) := by decide +kernel
theorem d_Gr_log_40 : decode c_Gr_log 40 = .ok (.iconst 2, 1) := by decide +kernel
theorem d_Gr_log_41 : decode c_Gr_log 41 = .ok (.if_icmp .ge 6, 3) := by decide +kernel
theorem d_Gr_log_44 : decode c_Gr_log 44 = .ok (.bipush (-5), 2) := by decide +kernel
theorem d_Gr_log_46 : decode c_Gr_log 46 = .ok (.ireturn, 1) := by decide +kernel
theorem d_Gr_log_47 : decode c_Gr_log 47 = .ok (.aload_n 0, 1) := by decide +kernel
theorem d_Gr_log_48 : decode c_Gr_log 48 = .ok (.aload_n 3, 1) := by decide +kernel
theorem d_Gr_log_49 : decode c_Gr_log 49 = .ok (.aload_n 3, 1) := by decide +kernel
theorem d_Gr_log_50 : decode c_Gr_log 50 = .ok (.getfield 45, 3) := by decide +kernel
theorem d_Gr_log_53 : decode c_Gr_log 53 = .ok (.invokevirtual 48, 3) := by decide +kernel
theorem d_Gr_log_56 : decode c_Gr_log 56 = .ok (.iconst 0, 1) := by decide +kernel
theorem d_Gr_log_57 : decode c_Gr_log 57 = .ok (.ireturn, 1) := by decide +kernel
theorem d_Gr_startView_0 : decode c_Gr_startView 0 = .ok (.aload_n 0, 1) := by decide +kernel
theorem d_Gr_startView_1 : decode c_Gr_startView 1 = .ok (.invokevirtual 52, 3) := by decide +kernel
theorem d_Gr_startView_4 : decode c_Gr_startView 4 = .ok (.istore_n 1, 1) := by decide +kernel
theorem d_Gr_startView_5 : decode c_Gr_startView 5 = .ok (.aload_n 0, 1) := by decide +kernel
theorem d_Gr_startView_6 : decode c_Gr_startView 6 = .ok (.aload_n 0, 1) := by decide +kernel
theorem d_Gr_startView_7 : decode c_Gr_startView 7 = .ok (.getfield 9, 3) := by decide +kernel
theorem d_Gr_startView_10 : decode c_Gr_startView 10 = .ok (.aload_n 0, 1) := by decide +kernel
theorem d_Gr_startView_11 : decode c_Gr_startView 11 = .ok (.invokevirtual 55, 3) := by decide +kernel
theorem d_Gr_startView_14 : decode c_Gr_startView 14 = .ok (.aaload, 1) := by decide +kernel
theorem d_Gr_startView_15 : decode c_Gr_startView 15 = .ok (.iload_n 1, 1) := by decide +kernel
theorem d_Gr_startView_16 : decode c_Gr_startView 16 = .ok (.invokevirtual 48, 3) := by decide +kernel
theorem d_Gr_startView_19 : decode c_Gr_startView 19 = .ok (.iload_n 1, 1) := by decide +kernel
theorem d_Gr_startView_20 : decode c_Gr_startView 20 = .ok (.ireturn, 1) := by decide +kernel
theorem d_Gr_greatestView_0 : decode c_Gr_greatestView 0 = .ok (.iconst 0, 1) := by decide +kernel
theorem d_Gr_greatestView_1 : decode c_Gr_greatestView 1 = .ok (.istore_n 1, 1) := by decide +kernel
theorem d_Gr_greatestView_2 : decode c_Gr_greatestView 2 = .ok (.iconst 0, 1) := by decide +kernel
theorem d_Gr_greatestView_3 : decode c_Gr_greatestView 3 = .ok (.istore_n 2, 1) := by decide +kernel
theorem d_Gr_greatestView_4 : decode c_Gr_greatestView 4 = .ok (.iload_n 2, 1) := by decide +kernel
theorem d_Gr_greatestView_5 : decode c_Gr_greatestView 5 = .ok (.iconst 3, 1) := by decide +kernel
theorem d_Gr_greatestView_6 : decode c_Gr_greatestView 6 = .ok (.if_icmp .ge 35, 3) := by decide +kernel
theorem d_Gr_greatestView_9 : decode c_Gr_greatestView 9 = .ok (.aload_n 0, 1) := by decide +kernel
theorem d_Gr_greatestView_10 : decode c_Gr_greatestView 10 = .ok (.getfield 9, 3) := by decide +kernel
theorem d_Gr_greatestView_13 : decode c_Gr_greatestView 13 = .ok (.iload_n 2, 1) := by decide +kernel
theorem d_Gr_greatestView_14 : decode c_Gr_greatestView 14 = .ok (.aaload, 1) := by decide +kernel
theorem d_Gr_greatestView_15 : decode c_Gr_greatestView 15 = .ok (.getfield 15, 3) := by decide +kernel
theorem d_Gr_greatestView_18 : decode c_Gr_greatestView 18 = .ok (.ifCond .eq 17, 3) := by decide +kernel
theorem d_Gr_greatestView_21 : decode c_Gr_greatestView 21 = .ok (.iload_n 1, 1) := by decide +kernel
theorem d_Gr_greatestView_22 : decode c_Gr_greatestView 22 = .ok (.aload_n 0, 1) := by decide +kernel
theorem d_Gr_greatestView_23 : decode c_Gr_greatestView 23 = .ok (.getfield 9, 3) := by decide +kernel
theorem d_Gr_greatestView_26 : decode c_Gr_greatestView 26 = .ok (.iload_n 2, 1) := by decide +kernel
theorem d_Gr_greatestView_27 : decode c_Gr_greatestView 27 = .ok (.aaload, 1) := by decide +kernel
theorem d_Gr_greatestView_28 : decode c_Gr_greatestView 28 = .ok (.getfield 45, 3) := by decide +kernel
theorem d_Gr_greatestView_31 : decode c_Gr_greatestView 31 = .ok (.invokestatic 58, 3) := by decide +kernel
theorem d_Gr_greatestView_34 : decode c_Gr_greatestView 34 = .ok (.istore_n 1, 1) := by decide +kernel
theorem d_Gr_greatestView_35 : decode c_Gr_greatestView 35 = .ok (.iinc 2 1, 3) := by decide +kernel
theorem d_Gr_greatestView_38 : decode c_Gr_greatestView 38 = .ok (.goto (-34), 3) := by decide +kernel
theorem d_Gr_greatestView_41 : decode c_Gr_greatestView 41 = .ok (.iload_n 1, 1) := by decide +kernel
theorem d_Gr_greatestView_42 : decode c_Gr_greatestView 42 = .ok (.ireturn, 1) := by decide +kernel
theorem d_Gr_nextView_0 : decode c_Gr_nextView 0 = .ok (.aload_n 0, 1) := by decide +kernel
theorem d_Gr_nextView_1 : decode c_Gr_nextView 1 = .ok (.invokevirtual 21, 3) := by decide +kernel
theorem d_Gr_nextView_4 : decode c_Gr_nextView 4 = .ok (.iconst 1, 1) := by decide +kernel
theorem d_Gr_nextView_5 : decode c_Gr_nextView 5 = .ok (.iadd, 1) := by decide +kernel
theorem d_Gr_nextView_6 : decode c_Gr_nextView 6 = .ok (.istore_n 1, 1) := by decide +kernel
theorem d_Gr_nextView_7 : decode c_Gr_nextView 7 = .ok (.iconst 1, 1) := by decide +kernel
theorem d_Gr_nextView_8 : decode c_Gr_nextView 8 = .ok (.istore_n 2, 1) := by decide +kernel
theorem d_Gr_nextView_9 : decode c_Gr_nextView 9 = .ok (.iload_n 2, 1) := by decide +kernel
theorem d_Gr_nextView_10 : decode c_Gr_nextView 10 = .ok (.iconst 3, 1) := by decide +kernel
theorem d_Gr_nextView_11 : decode c_Gr_nextView 11 = .ok (.if_icmp .ge 28, 3) := by decide +kernel
theorem d_Gr_nextView_14 : decode c_Gr_nextView 14 = .ok (.aload_n 0, 1) := by decide +kernel
theorem d_Gr_nextView_15 : decode c_Gr_nextView 15 = .ok (.getfield 9, 3) := by decide +kernel
theorem d_Gr_nextView_18 : decode c_Gr_nextView 18 = .ok (.iload_n 1, 1) := by decide +kernel
theorem d_Gr_nextView_19 : decode c_Gr_nextView 19 = .ok (.iconst 3, 1) := by decide +kernel
theorem d_Gr_nextView_20 : decode c_Gr_nextView 20 = .ok (.invokestatic 25, 3) := by decide +kernel
theorem d_Gr_nextView_23 : decode c_Gr_nextView 23 = .ok (.aaload, 1) := by decide +kernel
theorem d_Gr_nextView_24 : decode c_Gr_nextView 24 = .ok (.getfield 15, 3) := by decide +kernel
theorem d_Gr_nextView_27 : decode c_Gr_nextView 27 = .ok (.ifCond .ne 12, 3) := by decide +kernel
theorem d_Gr_nextView_30 : decode c_Gr_nextView 30 = .ok (.iinc 1 1, 3) := by decide +kernel
theorem d_Gr_nextView_33 : decode c_Gr_nextView 33 = .ok (.iinc 2 1, 3) := by decide +kernel
theorem d_Gr_nextView_36 : decode c_Gr_nextView 36 = .ok (.goto (-27), 3) := by decide +kernel
theorem d_Gr_nextView_39 : decode c_Gr_nextView 39 = .ok (.iload_n 1, 1) := by decide +kernel
theorem d_Gr_nextView_40 : decode c_Gr_nextView 40 = .ok (.ireturn, 1) := by decide +kernel
theorem d_Gr_bestLog_0 : decode c_Gr_bestLog 0 = .ok (.aload_n 0, 1) := by decide +kernel
theorem d_Gr_bestLog_1 : decode c_Gr_bestLog 1 = .ok (.invokevirtual 21, 3) := by decide +kernel
theorem d_Gr_bestLog_4 : decode c_Gr_bestLog 4 = .ok (.istore_n 1, 1) := by decide +kernel
theorem d_Gr_bestLog_5 : decode c_Gr_bestLog 5 = .ok (.iconst 0, 1) := by decide +kernel
theorem d_Gr_bestLog_6 : decode c_Gr_bestLog 6 = .ok (.istore_n 2, 1) := by decide +kernel
theorem d_Gr_bestLog_7 : decode c_Gr_bestLog 7 = .ok (.iconst (-1), 1) := by decide +kernel
theorem d_Gr_bestLog_8 : decode c_Gr_bestLog 8 = .ok (.istore_n 3, 1) := by decide +kernel
theorem d_Gr_bestLog_9 : decode c_Gr_bestLog 9 = .ok (.iconst 0, 1) := by decide +kernel
theorem d_Gr_bestLog_10 : decode c_Gr_bestLog 10 = .ok (.istore 4, 2) := by decide +kernel
theorem d_Gr_bestLog_12 : decode c_Gr_bestLog 12 = .ok (.iload 4, 2) := by decide +kernel
theorem d_Gr_bestLog_14 : decode c_Gr_bestLog 14 = .ok (.iconst 3, 1) := by decide +kernel
theorem d_Gr_bestLog_15 : decode c_Gr_bestLog 15 = .ok (.if_icmp .ge 64, 3) := by decide +kernel
theorem d_Gr_bestLog_18 : decode c_Gr_bestLog 18 = .ok (.aload_n 0, 1) := by decide +kernel
theorem d_Gr_bestLog_19 : decode c_Gr_bestLog 19 = .ok (.getfield 9, 3) := by decide +kernel
theorem d_Gr_bestLog_22 : decode c_Gr_bestLog 22 = .ok (.iload 4, 2) := by decide +kernel
theorem d_Gr_bestLog_24 : decode c_Gr_bestLog 24 = .ok (.aaload, 1) := by decide +kernel
theorem d_Gr_bestLog_25 : decode c_Gr_bestLog 25 = .ok (.getfield 15, 3) := by decide +kernel
theorem d_Gr_bestLog_28 : decode c_Gr_bestLog 28 = .ok (.ifCond .eq 45, 3) := by decide +kernel
theorem d_Gr_bestLog_31 : decode c_Gr_bestLog 31 = .ok (.aload_n 0, 1) := by decide +kernel
theorem d_Gr_bestLog_32 : decode c_Gr_bestLog 32 = .ok (.getfield 9, 3) := by decide +kernel
theorem d_Gr_bestLog_35 : decode c_Gr_bestLog 35 = .ok (.iload 4, 2) := by decide +kernel
theorem d_Gr_bestLog_37 : decode c_Gr_bestLog 37 = .ok (.aaload, 1) := by decide +kernel
theorem d_Gr_bestLog_38 : decode c_Gr_bestLog 38 = .ok (.getfield 45, 3) := by decide +kernel
theorem d_Gr_bestLog_41 : decode c_Gr_bestLog 41 = .ok (.iload_n 1, 1) := by decide +kernel
theorem d_Gr_bestLog_42 : decode c_Gr_bestLog 42 = .ok (.if_icmp .ne 31, 3) := by decide +kernel
theorem d_Gr_bestLog_45 : decode c_Gr_bestLog 45 = .ok (.aload_n 0, 1) := by decide +kernel
theorem d_Gr_bestLog_46 : decode c_Gr_bestLog 46 = .ok (.getfield 9, 3) := by decide +kernel
theorem d_Gr_bestLog_49 : decode c_Gr_bestLog 49 = .ok (.iload 4, 2) := by decide +kernel
theorem d_Gr_bestLog_51 : decode c_Gr_bestLog 51 = .ok (.aaload, 1) := by decide +kernel
theorem d_Gr_bestLog_52 : decode c_Gr_bestLog 52 = .ok (.getfield 34, 3) := by decide +kernel
theorem d_Gr_bestLog_55 : decode c_Gr_bestLog 55 = .ok (.iload_n 3, 1) := by decide +kernel
theorem d_Gr_bestLog_56 : decode c_Gr_bestLog 56 = .ok (.if_icmp .le 17, 3) := by decide +kernel
theorem d_Gr_bestLog_59 : decode c_Gr_bestLog 59 = .ok (.iload 4, 2) := by decide +kernel
theorem d_Gr_bestLog_61 : decode c_Gr_bestLog 61 = .ok (.istore_n 2, 1) := by decide +kernel
theorem d_Gr_bestLog_62 : decode c_Gr_bestLog 62 = .ok (.aload_n 0, 1) := by decide +kernel
theorem d_Gr_bestLog_63 : decode c_Gr_bestLog 63 = .ok (.getfield 9, 3) := by decide +kernel
theorem d_Gr_bestLog_66 : decode c_Gr_bestLog 66 = .ok (.iload 4, 2) := by decide +kernel
theorem d_Gr_bestLog_68 : decode c_Gr_bestLog 68 = .ok (.aaload, 1) := by decide +kernel
theorem d_Gr_bestLog_69 : decode c_Gr_bestLog 69 = .ok (.getfield 34, 3) := by decide +kernel
theorem d_Gr_bestLog_72 : decode c_Gr_bestLog 72 = .ok (.istore_n 3, 1) := by decide +kernel
theorem d_Gr_bestLog_73 : decode c_Gr_bestLog 73 = .ok (.iinc 4 1, 3) := by decide +kernel
theorem d_Gr_bestLog_76 : decode c_Gr_bestLog 76 = .ok (.goto (-64), 3) := by decide +kernel
theorem d_Gr_bestLog_79 : decode c_Gr_bestLog 79 = .ok (.iload_n 2, 1) := by decide +kernel
theorem d_Gr_bestLog_80 : decode c_Gr_bestLog 80 = .ok (.ireturn, 1) := by decide +kernel
theorem d_Gr_spread_0 : decode c_Gr_spread 0 = .ok (.iconst 0, 1) := by decide +kernel
theorem d_Gr_spread_1 : decode c_Gr_spread 1 = .ok (.istore_n 3, 1) := by decide +kernel
theorem d_Gr_spread_2 : decode c_Gr_spread 2 = .ok (.iload_n 3, 1) := by decide +kernel
theorem d_Gr_spread_3 : decode c_Gr_spread 3 = .ok (.iconst 3, 1) := by decide +kernel
theorem d_Gr_spread_4 : decode c_Gr_spread 4 = .ok (.if_icmp .ge 48, 3) := by decide +kernel
theorem d_Gr_spread_7 : decode c_Gr_spread 7 = .ok (.aload_n 0, 1) := by decide +kernel
theorem d_Gr_spread_8 : decode c_Gr_spread 8 = .ok (.getfield 9, 3) := by decide +kernel
theorem d_Gr_spread_11 : decode c_Gr_spread 11 = .ok (.iload_n 3, 1) := by decide +kernel
theorem d_Gr_spread_12 : decode c_Gr_spread 12 = .ok (.aaload, 1) := by decide +kernel
theorem d_Gr_spread_13 : decode c_Gr_spread 13 = .ok (.astore 4, 2) := by decide +kernel
theorem d_Gr_spread_15 : decode c_Gr_spread 15 = .ok (.aload 4, 2) := by decide +kernel
theorem d_Gr_spread_17 : decode c_Gr_spread 17 = .ok (.getfield 15, 3) := by decide +kernel
theorem d_Gr_spread_20 : decode c_Gr_spread 20 = .ok (.ifCond .eq 26, 3) := by decide +kernel
theorem d_Gr_spread_23 : decode c_Gr_spread 23 = .ok (.aload 4, 2) := by decide +kernel
theorem d_Gr_spread_25 : decode c_Gr_spread 25 = .ok (.aload_n 1, 1) := by decide +kernel
theorem d_Gr_spread_26 : decode c_Gr_spread 26 = .ok (.if_acmp .eq 9, 3) := by decide +kernel
theorem d_Gr_spread_29 : decode c_Gr_spread 29 = .ok (.aload 4, 2) := by decide +kernel
theorem d_Gr_spread_31 : decode c_Gr_spread 31 = .ok (.aload_n 1, 1) := by decide +kernel
theorem d_Gr_spread_32 : decode c_Gr_spread 32 = .ok (.invokevirtual 61, 3) := by decide +kernel
theorem d_Gr_spread_35 : decode c_Gr_spread 35 = .ok (.aload 4, 2) := by decide +kernel
theorem d_Gr_spread_37 : decode c_Gr_spread 37 = .ok (.iload_n 2, 1) := by decide +kernel
theorem d_Gr_spread_38 : decode c_Gr_spread 38 = .ok (.putfield 45, 3) := by decide +kernel
theorem d_Gr_spread_41 : decode c_Gr_spread 41 = .ok (.aload 4, 2) := by decide +kernel
theorem d_Gr_spread_43 : decode c_Gr_spread 43 = .ok (.invokevirtual 65, 3) := by decide +kernel
theorem d_Gr_spread_46 : decode c_Gr_spread 46 = .ok (.iinc 3 1, 3) := by decide +kernel
theorem d_Gr_spread_49 : decode c_Gr_spread 49 = .ok (.goto (-47), 3) := by decide +kernel
theorem d_Gr_spread_52 : decode c_Gr_spread 52 = .ok (.return_, 1) := by decide +kernel
theorem d_In_bitCount_0 : decode c_In_bitCount 0 = .ok (.iload_n 0, 1) := by decide +kernel
theorem d_In_bitCount_1 : decode c_In_bitCount 1 = .ok (.iload_n 0, 1) := by decide +kernel
theorem d_In_bitCount_2 : decode c_In_bitCount 2 = .ok (.iconst 1, 1) := by decide +kernel
theorem d_In_bitCount_3 : decode c_In_bitCount 3 = .ok (.iushr, 1) := by decide +kernel
theorem d_In_bitCount_4 : decode c_In_bitCount 4 = .ok (.ldc_w 265, 3) := by decide +kernel
theorem d_In_bitCount_7 : decode c_In_bitCount 7 = .ok (.iand, 1) := by decide +kernel
theorem d_In_bitCount_8 : decode c_In_bitCount 8 = .ok (.isub, 1) := by decide +kernel
theorem d_In_bitCount_9 : decode c_In_bitCount 9 = .ok (.istore_n 0, 1) := by decide +kernel
theorem d_In_bitCount_10 : decode c_In_bitCount 10 = .ok (.iload_n 0, 1) := by decide +kernel
theorem d_In_bitCount_11 : decode c_In_bitCount 11 = .ok (.ldc_w 266, 3) := by decide +kernel
theorem d_In_bitCount_14 : decode c_In_bitCount 14 = .ok (.iand, 1) := by decide +kernel
theorem d_In_bitCount_15 : decode c_In_bitCount 15 = .ok (.iload_n 0, 1) := by decide +kernel
theorem d_In_bitCount_16 : decode c_In_bitCount 16 = .ok (.iconst 2, 1) := by decide +kernel
theorem d_In_bitCount_17 : decode c_In_bitCount 17 = .ok (.iushr, 1) := by decide +kernel
theorem d_In_bitCount_18 : decode c_In_bitCount 18 = .ok (.ldc_w 266, 3) := by decide +kernel
theorem d_In_bitCount_21 : decode c_In_bitCount 21 = .ok (.iand, 1) := by decide +kernel
theorem d_In_bitCount_22 : decode c_In_bitCount 22 = .ok (.iadd, 1) := by decide +kernel
theorem d_In_bitCount_23 : decode c_In_bitCount 23 = .ok (.istore_n 0, 1) := by decide +kernel
theorem d_In_bitCount_24 : decode c_In_bitCount 24 = .ok (.iload_n 0, 1) := by decide +kernel
theorem d_In_bitCount_25 : decode c_In_bitCount 25 = .ok (.iload_n 0, 1) := by decide +kernel
theorem d_In_bitCount_26 : decode c_In_bitCount 26 = .ok (.iconst 4, 1) := by decide +kernel
theorem d_In_bitCount_27 : decode c_In_bitCount 27 = .ok (.iushr, 1) := by decide +kernel
theorem d_In_bitCount_28 : decode c_In_bitCount 28 = .ok (.iadd, 1) := by decide +kernel
theorem d_In_bitCount_29 : decode c_In_bitCount 29 = .ok (.ldc_w 267, 3) := by decide +kernel
theorem d_In_bitCount_32 : decode c_In_bitCount 32 = .ok (.iand, 1) := by decide +kernel
theorem d_In_bitCount_33 : decode c_In_bitCount 33 = .ok (.istore_n 0, 1) := by decide +kernel
theorem d_In_bitCount_34 : decode c_In_bitCount 34 = .ok (.iload_n 0, 1) := by decide +kernel
theorem d_In_bitCount_35 : decode c_In_bitCount 35 = .ok (.iload_n 0, 1) := by decide +kernel
theorem d_In_bitCount_36 : decode c_In_bitCount 36 = .ok (.bipush 8, 2) := by decide +kernel
theorem d_In_bitCount_38 : decode c_In_bitCount 38 = .ok (.iushr, 1) := by decide +kernel
theorem d_In_bitCount_39 : decode c_In_bitCount 39 = .ok (.iadd, 1) := by decide +kernel
theorem d_In_bitCount_40 : decode c_In_bitCount 40 = .ok (.istore_n 0, 1) := by decide +kernel
theorem d_In_bitCount_41 : decode c_In_bitCount 41 = .ok (.iload_n 0, 1) := by decide +kernel
theorem d_In_bitCount_42 : decode c_In_bitCount 42 = .ok (.iload_n 0, 1) := by decide +kernel
theorem d_In_bitCount_43 : decode c_In_bitCount 43 = .ok (.bipush 16, 2) := by decide +kernel
theorem d_In_bitCount_45 : decode c_In_bitCount 45 = .ok (.iushr, 1) := by decide +kernel
theorem d_In_bitCount_46 : decode c_In_bitCount 46 = .ok (.iadd, 1) := by decide +kernel
theorem d_In_bitCount_47 : decode c_In_bitCount 47 = .ok (.istore_n 0, 1) := by decide +kernel
theorem d_In_bitCount_48 : decode c_In_bitCount 48 = .ok (.iload_n 0, 1) := by decide +kernel
theorem d_In_bitCount_49 : decode c_In_bitCount 49 = .ok (.bipush 63, 2) := by decide +kernel
theorem d_In_bitCount_51 : decode c_In_bitCount 51 = .ok (.iand, 1) := by decide +kernel
theorem d_In_bitCount_52 : decode c_In_bitCount 52 = .ok (.ireturn, 1) := by decide +kernel
theorem d_Ma_floorMod_0 : decode c_Ma_floorMod 0 = .ok (.iload_n 0, 1) := by decide +kernel
theorem d_Ma_floorMod_1 : decode c_Ma_floorMod 1 = .ok (.iload_n 1, 1) := by decide +kernel
theorem d_Ma_floorMod_2 : decode c_Ma_floorMod 2 = .ok (.irem, 1) := by decide +kernel
theorem d_Ma_floorMod_3 : decode c_Ma_floorMod 3 = .ok (.istore_n 2, 1) := by decide +kernel
theorem d_Ma_floorMod_4 : decode c_Ma_floorMod 4 = .ok (.iload_n 0, 1) := by decide +kernel
theorem d_Ma_floorMod_5 : decode c_Ma_floorMod 5 = .ok (.iload_n 1, 1) := by decide +kernel
theorem d_Ma_floorMod_6 : decode c_Ma_floorMod 6 = .ok (.ixor, 1) := by decide +kernel
theorem d_Ma_floorMod_7 : decode c_Ma_floorMod 7 = .ok (.ifCond .ge 11, 3) := by decide +kernel
theorem d_Ma_floorMod_10 : decode c_Ma_floorMod 10 = .ok (.iload_n 2, 1) := by decide +kernel
theorem d_Ma_floorMod_11 : decode c_Ma_floorMod 11 = .ok (.ifCond .eq 7, 3) := by decide +kernel
theorem d_Ma_floorMod_14 : decode c_Ma_floorMod 14 = .ok (.iload_n 2, 1) := by decide +kernel
theorem d_Ma_floorMod_15 : decode c_Ma_floorMod 15 = .ok (.iload_n 1, 1) := by decide +kernel
theorem d_Ma_floorMod_16 : decode c_Ma_floorMod 16 = .ok (.iadd, 1) := by decide +kernel
theorem d_Ma_floorMod_17 : decode c_Ma_floorMod 17 = .ok (.ireturn, 1) := by decide +kernel
theorem d_Ma_floorMod_18 : decode c_Ma_floorMod 18 = .ok (.iload_n 2, 1) := by decide +kernel
theorem d_Ma_floorMod_19 : decode c_Ma_floorMod 19 = .ok (.ireturn, 1) := by decide +kernel
theorem d_Ma_max_0 : decode c_Ma_max 0 = .ok (.iload_n 0, 1) := by decide +kernel
theorem d_Ma_max_1 : decode c_Ma_max 1 = .ok (.iload_n 1, 1) := by decide +kernel
theorem d_Ma_max_2 : decode c_Ma_max 2 = .ok (.if_icmp .lt 7, 3) := by decide +kernel
theorem d_Ma_max_5 : decode c_Ma_max 5 = .ok (.iload_n 0, 1) := by decide +kernel
theorem d_Ma_max_6 : decode c_Ma_max 6 = .ok (.goto 4, 3) := by decide +kernel
theorem d_Ma_max_9 : decode c_Ma_max 9 = .ok (.iload_n 1, 1) := by decide +kernel
theorem d_Ma_max_10 : decode c_Ma_max 10 = .ok (.ireturn, 1) := by decide +kernel
theorem d_Ar_fill_0 : decode c_Ar_fill 0 = .ok (.iconst 0, 1) := by decide +kernel
theorem d_Ar_fill_1 : decode c_Ar_fill 1 = .ok (.istore_n 2, 1) := by decide +kernel
theorem d_Ar_fill_2 : decode c_Ar_fill 2 = .ok (.aload_n 0, 1) := by decide +kernel
theorem d_Ar_fill_3 : decode c_Ar_fill 3 = .ok (.arraylength, 1) := by decide +kernel
theorem d_Ar_fill_4 : decode c_Ar_fill 4 = .ok (.istore_n 3, 1) := by decide +kernel
theorem d_Ar_fill_5 : decode c_Ar_fill 5 = .ok (.iload_n 2, 1) := by decide +kernel
theorem d_Ar_fill_6 : decode c_Ar_fill 6 = .ok (.iload_n 3, 1) := by decide +kernel
theorem d_Ar_fill_7 : decode c_Ar_fill 7 = .ok (.if_icmp .ge 13, 3) := by decide +kernel
theorem d_Ar_fill_10 : decode c_Ar_fill 10 = .ok (.aload_n 0, 1) := by decide +kernel
theorem d_Ar_fill_11 : decode c_Ar_fill 11 = .ok (.iload_n 2, 1) := by decide +kernel
theorem d_Ar_fill_12 : decode c_Ar_fill 12 = .ok (.iload_n 1, 1) := by decide +kernel
theorem d_Ar_fill_13 : decode c_Ar_fill 13 = .ok (.iastore, 1) := by decide +kernel
theorem d_Ar_fill_14 : decode c_Ar_fill 14 = .ok (.iinc 2 1, 3) := by decide +kernel
theorem d_Ar_fill_17 : decode c_Ar_fill 17 = .ok (.goto (-12), 3) := by decide +kernel
theorem d_Ar_fill_20 : decode c_Ar_fill 20 = .ok (.return_, 1) := by decide +kernel
