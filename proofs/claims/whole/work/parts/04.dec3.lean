theorem dX10_in_0 : decode cX10_in 0 = .ok (.iload_n 0, 1) := by decide +kernel
theorem dX10_in_1 : decode cX10_in 1 = .ok (.iload_n 1, 1) := by decide +kernel
theorem dX10_in_2 : decode cX10_in 2 = .ok (.if_icmp .lt 12, 3) := by decide +kernel
theorem dX10_in_5 : decode cX10_in 5 = .ok (.iload_n 0, 1) := by decide +kernel
theorem dX10_in_6 : decode cX10_in 6 = .ok (.iload_n 2, 1) := by decide +kernel
theorem dX10_in_7 : decode cX10_in 7 = .ok (.if_icmp .gt 7, 3) := by decide +kernel
theorem dX10_in_10 : decode cX10_in 10 = .ok (.iconst 1, 1) := by decide +kernel
theorem dX10_in_11 : decode cX10_in 11 = .ok (.goto 4, 3) := by decide +kernel
theorem dX10_in_14 : decode cX10_in 14 = .ok (.iconst 0, 1) := by decide +kernel
theorem dX10_in_15 : decode cX10_in 15 = .ok (.ireturn, 1) := by decide +kernel
theorem dX10_init_0 : decode cX10_init 0 = .ok (.aload_n 0, 1) := by decide +kernel
theorem dX10_init_1 : decode cX10_init 1 = .ok (.invokespecial 7, 3) := by decide +kernel
theorem dX10_init_4 : decode cX10_init 4 = .ok (.aload_n 0, 1) := by decide +kernel
theorem dX10_init_5 : decode cX10_init 5 = .ok (.sipush 564, 3) := by decide +kernel
theorem dX10_init_8 : decode cX10_init 8 = .ok (.newarray .int, 2) := by decide +kernel
theorem dX10_init_10 : decode cX10_init 10 = .ok (.putfield 13, 3) := by decide +kernel
theorem dX10_init_13 : decode cX10_init 13 = .ok (.aload_n 0, 1) := by decide +kernel
theorem dX10_init_14 : decode cX10_init 14 = .ok (.sipush 564, 3) := by decide +kernel
theorem dX10_init_17 : decode cX10_init 17 = .ok (.newarray .int, 2) := by decide +kernel
theorem dX10_init_19 : decode cX10_init 19 = .ok (.putfield 17, 3) := by decide +kernel
theorem dX10_init_22 : decode cX10_init 22 = .ok (.aload_n 0, 1) := by decide +kernel
theorem dX10_init_23 : decode cX10_init 23 = .ok (.sipush 564, 3) := by decide +kernel
theorem dX10_init_26 : decode cX10_init 26 = .ok (.newarray .int, 2) := by decide +kernel
theorem dX10_init_28 : decode cX10_init 28 = .ok (.putfield 20, 3) := by decide +kernel
theorem dX10_init_31 : decode cX10_init 31 = .ok (.aload_n 0, 1) := by decide +kernel
theorem dX10_init_32 : decode cX10_init 32 = .ok (.sipush 2256, 3) := by decide +kernel
theorem dX10_init_35 : decode cX10_init 35 = .ok (.newarray .int, 2) := by decide +kernel
theorem dX10_init_37 : decode cX10_init 37 = .ok (.putfield 23, 3) := by decide +kernel
theorem dX10_init_40 : decode cX10_init 40 = .ok (.aload_n 0, 1) := by decide +kernel
theorem dX10_init_41 : decode cX10_init 41 = .ok (.bipush 60, 2) := by decide +kernel
theorem dX10_init_43 : decode cX10_init 43 = .ok (.newarray .int, 2) := by decide +kernel
theorem dX10_init_45 : decode cX10_init 45 = .ok (.putfield 26, 3) := by decide +kernel
theorem dX10_init_48 : decode cX10_init 48 = .ok (.aload_n 0, 1) := by decide +kernel
theorem dX10_init_49 : decode cX10_init 49 = .ok (.bipush 60, 2) := by decide +kernel
theorem dX10_init_51 : decode cX10_init 51 = .ok (.newarray .int, 2) := by decide +kernel
theorem dX10_init_53 : decode cX10_init 53 = .ok (.putfield 29, 3) := by decide +kernel
theorem dX10_init_56 : decode cX10_init 56 = .ok (.aload_n 0, 1) := by decide +kernel
theorem dX10_init_57 : decode cX10_init 57 = .ok (.bipush 60, 2) := by decide +kernel
theorem dX10_init_59 : decode cX10_init 59 = .ok (.newarray .int, 2) := by decide +kernel
theorem dX10_init_61 : decode cX10_init 61 = .ok (.putfield 32, 3) := by decide +kernel
theorem dX10_init_64 : decode cX10_init 64 = .ok (.aload_n 0, 1) := by decide +kernel
theorem dX10_init_65 : decode cX10_init 65 = .ok (.bipush 64, 2) := by decide +kernel
theorem dX10_init_67 : decode cX10_init 67 = .ok (.newarray .int, 2) := by decide +kernel
theorem dX10_init_69 : decode cX10_init 69 = .ok (.putfield 35, 3) := by decide +kernel
theorem dX10_init_72 : decode cX10_init 72 = .ok (.aload_n 0, 1) := by decide +kernel
theorem dX10_init_73 : decode cX10_init 73 = .ok (.getfield 13, 3) := by decide +kernel
theorem dX10_init_76 : decode cX10_init 76 = .ok (.iconst 5, 1) := by decide +kernel
theorem dX10_init_77 : decode cX10_init 77 = .ok (.iconst 5, 1) := by decide +kernel
theorem dX10_init_78 : decode cX10_init 78 = .ok (.iastore, 1) := by decide +kernel
theorem dX10_init_79 : decode cX10_init 79 = .ok (.return_, 1) := by decide +kernel
theorem dX10_of_0 : decode cX10_of 0 = .ok (.aload_n 0, 1) := by decide +kernel
theorem dX10_of_1 : decode cX10_of 1 = .ok (.getfield 13, 3) := by decide +kernel
theorem dX10_of_4 : decode cX10_of 4 = .ok (.bipush 34, 2) := by decide +kernel
theorem dX10_of_6 : decode cX10_of 6 = .ok (.bipush 11, 2) := by decide +kernel
theorem dX10_of_8 : decode cX10_of 8 = .ok (.iload_n 1, 1) := by decide +kernel
theorem dX10_of_9 : decode cX10_of 9 = .ok (.imul, 1) := by decide +kernel
theorem dX10_of_10 : decode cX10_of 10 = .ok (.iadd, 1) := by decide +kernel
theorem dX10_of_11 : decode cX10_of 11 = .ok (.iload_n 2, 1) := by decide +kernel
theorem dX10_of_12 : decode cX10_of 12 = .ok (.iadd, 1) := by decide +kernel
theorem dX10_of_13 : decode cX10_of 13 = .ok (.iaload, 1) := by decide +kernel
theorem dX10_of_14 : decode cX10_of 14 = .ok (.ireturn, 1) := by decide +kernel
theorem dX10_be_0 : decode cX10_be 0 = .ok (.aload_n 0, 1) := by decide +kernel
theorem dX10_be_1 : decode cX10_be 1 = .ok (.getfield 13, 3) := by decide +kernel
theorem dX10_be_4 : decode cX10_be 4 = .ok (.bipush 34, 2) := by decide +kernel
theorem dX10_be_6 : decode cX10_be 6 = .ok (.bipush 11, 2) := by decide +kernel
theorem dX10_be_8 : decode cX10_be 8 = .ok (.iload_n 1, 1) := by decide +kernel
theorem dX10_be_9 : decode cX10_be 9 = .ok (.imul, 1) := by decide +kernel
theorem dX10_be_10 : decode cX10_be 10 = .ok (.iadd, 1) := by decide +kernel
theorem dX10_be_11 : decode cX10_be 11 = .ok (.iload_n 2, 1) := by decide +kernel
theorem dX10_be_12 : decode cX10_be 12 = .ok (.iadd, 1) := by decide +kernel
theorem dX10_be_13 : decode cX10_be 13 = .ok (.iload_n 3, 1) := by decide +kernel
theorem dX10_be_14 : decode cX10_be 14 = .ok (.iastore, 1) := by decide +kernel
theorem dX10_be_15 : decode cX10_be 15 = .ok (.return_, 1) := by decide +kernel
theorem dX10_ofNote_0 : decode cX10_ofNote 0 = .ok (.aload_n 0, 1) := by decide +kernel
theorem dX10_ofNote_1 : decode cX10_ofNote 1 = .ok (.getfield 13, 3) := by decide +kernel
theorem dX10_ofNote_4 : decode cX10_ofNote 4 = .ok (.sipush 144, 3) := by decide +kernel
theorem dX10_ofNote_7 : decode cX10_ofNote 7 = .ok (.bipush 7, 2) := by decide +kernel
theorem dX10_ofNote_9 : decode cX10_ofNote 9 = .ok (.iload_n 1, 1) := by decide +kernel
theorem dX10_ofNote_10 : decode cX10_ofNote 10 = .ok (.imul, 1) := by decide +kernel
theorem dX10_ofNote_11 : decode cX10_ofNote 11 = .ok (.iadd, 1) := by decide +kernel
theorem dX10_ofNote_12 : decode cX10_ofNote 12 = .ok (.iload_n 2, 1) := by decide +kernel
theorem dX10_ofNote_13 : decode cX10_ofNote 13 = .ok (.iadd, 1) := by decide +kernel
theorem dX10_ofNote_14 : decode cX10_ofNote 14 = .ok (.iaload, 1) := by decide +kernel
theorem dX10_ofNote_15 : decode cX10_ofNote 15 = .ok (.ireturn, 1) := by decide +kernel
theorem dX10_more_0 : decode cX10_more 0 = .ok (.aload_n 0, 1) := by decide +kernel
theorem dX10_more_1 : decode cX10_more 1 = .ok (.getfield 13, 3) := by decide +kernel
theorem dX10_more_4 : decode cX10_more 4 = .ok (.sipush 144, 3) := by decide +kernel
theorem dX10_more_7 : decode cX10_more 7 = .ok (.bipush 7, 2) := by decide +kernel
theorem dX10_more_9 : decode cX10_more 9 = .ok (.iload_n 1, 1) := by decide +kernel
theorem dX10_more_10 : decode cX10_more 10 = .ok (.imul, 1) := by decide +kernel
theorem dX10_more_11 : decode cX10_more 11 = .ok (.iadd, 1) := by decide +kernel
theorem dX10_more_12 : decode cX10_more 12 = .ok (.iload_n 2, 1) := by decide +kernel
theorem dX10_more_13 : decode cX10_more 13 = .ok (.iadd, 1) := by decide +kernel
theorem dX10_more_14 : decode cX10_more 14 = .ok (.dup2, 1) := by decide +kernel
theorem dX10_more_15 : decode cX10_more 15 = .ok (.iaload, 1) := by decide +kernel
theorem dX10_more_16 : decode cX10_more 16 = .ok (.iload_n 3, 1) := by decide +kernel
theorem dX10_more_17 : decode cX10_more 17 = .ok (.iadd, 1) := by decide +kernel
theorem dX10_more_18 : decode cX10_more 18 = .ok (.iastore, 1) := by decide +kernel
theorem dX10_more_19 : decode cX10_more 19 = .ok (.return_, 1) := by decide +kernel
theorem dX10_isInvestor_0 : decode cX10_isInvestor 0 = .ok (.iload_n 1, 1) := by decide +kernel
theorem dX10_isInvestor_1 : decode cX10_isInvestor 1 = .ok (.iconst 0, 1) := by decide +kernel
theorem dX10_isInvestor_2 : decode cX10_isInvestor 2 = .ok (.aload_n 0, 1) := by decide +kernel
theorem dX10_isInvestor_3 : decode cX10_isInvestor 3 = .ok (.getfield 13, 3) := by decide +kernel
theorem dX10_isInvestor_6 : decode cX10_isInvestor 6 = .ok (.iconst 1, 1) := by decide +kernel
theorem dX10_isInvestor_7 : decode cX10_isInvestor 7 = .ok (.iaload, 1) := by decide +kernel
theorem dX10_isInvestor_8 : decode cX10_isInvestor 8 = .ok (.iconst 1, 1) := by decide +kernel
theorem dX10_isInvestor_9 : decode cX10_isInvestor 9 = .ok (.isub, 1) := by decide +kernel
theorem dX10_isInvestor_10 : decode cX10_isInvestor 10 = .ok (.invokestatic 38, 3) := by decide +kernel
theorem dX10_isInvestor_13 : decode cX10_isInvestor 13 = .ok (.ireturn, 1) := by decide +kernel
theorem dX10_isLoan_0 : decode cX10_isLoan 0 = .ok (.iload_n 1, 1) := by decide +kernel
theorem dX10_isLoan_1 : decode cX10_isLoan 1 = .ok (.iconst 0, 1) := by decide +kernel
theorem dX10_isLoan_2 : decode cX10_isLoan 2 = .ok (.aload_n 0, 1) := by decide +kernel
theorem dX10_isLoan_3 : decode cX10_isLoan 3 = .ok (.getfield 13, 3) := by decide +kernel
theorem dX10_isLoan_6 : decode cX10_isLoan 6 = .ok (.iconst 2, 1) := by decide +kernel
theorem dX10_isLoan_7 : decode cX10_isLoan 7 = .ok (.iaload, 1) := by decide +kernel
theorem dX10_isLoan_8 : decode cX10_isLoan 8 = .ok (.iconst 1, 1) := by decide +kernel
theorem dX10_isLoan_9 : decode cX10_isLoan 9 = .ok (.isub, 1) := by decide +kernel
theorem dX10_isLoan_10 : decode cX10_isLoan 10 = .ok (.invokestatic 38, 3) := by decide +kernel
theorem dX10_isLoan_13 : decode cX10_isLoan 13 = .ok (.ireturn, 1) := by decide +kernel
theorem dX10_isNote_0 : decode cX10_isNote 0 = .ok (.iload_n 1, 1) := by decide +kernel
theorem dX10_isNote_1 : decode cX10_isNote 1 = .ok (.iconst 0, 1) := by decide +kernel
theorem dX10_isNote_2 : decode cX10_isNote 2 = .ok (.aload_n 0, 1) := by decide +kernel
theorem dX10_isNote_3 : decode cX10_isNote 3 = .ok (.getfield 13, 3) := by decide +kernel
theorem dX10_isNote_6 : decode cX10_isNote 6 = .ok (.iconst 3, 1) := by decide +kernel
theorem dX10_isNote_7 : decode cX10_isNote 7 = .ok (.iaload, 1) := by decide +kernel
theorem dX10_isNote_8 : decode cX10_isNote 8 = .ok (.iconst 1, 1) := by decide +kernel
theorem dX10_isNote_9 : decode cX10_isNote 9 = .ok (.isub, 1) := by decide +kernel
theorem dX10_isNote_10 : decode cX10_isNote 10 = .ok (.invokestatic 38, 3) := by decide +kernel
theorem dX10_isNote_13 : decode cX10_isNote 13 = .ok (.ireturn, 1) := by decide +kernel
theorem dX10_isServicer_0 : decode cX10_isServicer 0 = .ok (.iload_n 0, 1) := by decide +kernel
theorem dX10_isServicer_1 : decode cX10_isServicer 1 = .ok (.iconst 0, 1) := by decide +kernel
theorem dX10_isServicer_2 : decode cX10_isServicer 2 = .ok (.iconst 3, 1) := by decide +kernel
theorem dX10_isServicer_3 : decode cX10_isServicer 3 = .ok (.invokestatic 38, 3) := by decide +kernel
theorem dX10_isServicer_6 : decode cX10_isServicer 6 = .ok (.ireturn, 1) := by decide +kernel
theorem dX10_runs_0 : decode cX10_runs 0 = .ok (.aload_n 0, 1) := by decide +kernel
theorem dX10_runs_1 : decode cX10_runs 1 = .ok (.iload_n 1, 1) := by decide +kernel
theorem dX10_runs_2 : decode cX10_runs 2 = .ok (.iconst 3, 1) := by decide +kernel
theorem dX10_runs_3 : decode cX10_runs 3 = .ok (.invokevirtual 42, 3) := by decide +kernel
theorem dX10_runs_6 : decode cX10_runs 6 = .ok (.iconst 1, 1) := by decide +kernel
theorem dX10_runs_7 : decode cX10_runs 7 = .ok (.if_icmp .ne 7, 3) := by decide +kernel
theorem dX10_runs_10 : decode cX10_runs 10 = .ok (.iconst 1, 1) := by decide +kernel
theorem dX10_runs_11 : decode cX10_runs 11 = .ok (.goto 4, 3) := by decide +kernel
theorem dX10_runs_14 : decode cX10_runs 14 = .ok (.iconst 0, 1) := by decide +kernel
theorem dX10_runs_15 : decode cX10_runs 15 = .ok (.ireturn, 1) := by decide +kernel
theorem dX10_feeOf_0 : decode cX10_feeOf 0 = .ok (.iload_n 0, 1) := by decide +kernel
theorem dX10_feeOf_1 : decode cX10_feeOf 1 = .ok (.ifCond .ne 7, 3) := by decide +kernel
theorem dX10_feeOf_4 : decode cX10_feeOf 4 = .ok (.iconst 5, 1) := by decide +kernel
theorem dX10_feeOf_5 : decode cX10_feeOf 5 = .ok (.goto 25, 3) := by decide +kernel
theorem dX10_feeOf_8 : decode cX10_feeOf 8 = .ok (.iload_n 0, 1) := by decide +kernel
theorem dX10_feeOf_9 : decode cX10_feeOf 9 = .ok (.iconst 1, 1) := by decide +kernel
theorem dX10_feeOf_10 : decode cX10_feeOf 10 = .ok (.if_icmp .ne 8, 3) := by decide +kernel
theorem dX10_feeOf_13 : decode cX10_feeOf 13 = .ok (.bipush 10, 2) := by decide +kernel
theorem dX10_feeOf_15 : decode cX10_feeOf 15 = .ok (.goto 15, 3) := by decide +kernel
theorem dX10_feeOf_18 : decode cX10_feeOf 18 = .ok (.iload_n 0, 1) := by decide +kernel
theorem dX10_feeOf_19 : decode cX10_feeOf 19 = .ok (.iconst 2, 1) := by decide +kernel
theorem dX10_feeOf_20 : decode cX10_feeOf 20 = .ok (.if_icmp .ne 8, 3) := by decide +kernel
theorem dX10_feeOf_23 : decode cX10_feeOf 23 = .ok (.bipush 20, 2) := by decide +kernel
theorem dX10_feeOf_25 : decode cX10_feeOf 25 = .ok (.goto 5, 3) := by decide +kernel
theorem dX10_feeOf_28 : decode cX10_feeOf 28 = .ok (.bipush 40, 2) := by decide +kernel
theorem dX10_feeOf_30 : decode cX10_feeOf 30 = .ok (.ireturn, 1) := by decide +kernel
theorem dX10_aside_0 : decode cX10_aside 0 = .ok (.aload_n 0, 1) := by decide +kernel
theorem dX10_aside_1 : decode cX10_aside 1 = .ok (.iconst 0, 1) := by decide +kernel
theorem dX10_aside_2 : decode cX10_aside 2 = .ok (.putfield 1, 3) := by decide +kernel
theorem dX10_aside_5 : decode cX10_aside 5 = .ok (.aload_n 0, 1) := by decide +kernel
theorem dX10_aside_6 : decode cX10_aside 6 = .ok (.iconst 0, 1) := by decide +kernel
theorem dX10_aside_7 : decode cX10_aside 7 = .ok (.putfield 46, 3) := by decide +kernel
theorem dX10_aside_10 : decode cX10_aside 10 = .ok (.iconst 0, 1) := by decide +kernel
theorem dX10_aside_11 : decode cX10_aside 11 = .ok (.istore_n 1, 1) := by decide +kernel
theorem dX10_aside_12 : decode cX10_aside 12 = .ok (.iload_n 1, 1) := by decide +kernel
theorem dX10_aside_13 : decode cX10_aside 13 = .ok (.sipush 564, 3) := by decide +kernel
theorem dX10_aside_16 : decode cX10_aside 16 = .ok (.if_icmp .ge 21, 3) := by decide +kernel
theorem dX10_aside_19 : decode cX10_aside 19 = .ok (.aload_n 0, 1) := by decide +kernel
theorem dX10_aside_20 : decode cX10_aside 20 = .ok (.getfield 17, 3) := by decide +kernel
theorem dX10_aside_23 : decode cX10_aside 23 = .ok (.iload_n 1, 1) := by decide +kernel
theorem dX10_aside_24 : decode cX10_aside 24 = .ok (.aload_n 0, 1) := by decide +kernel
theorem dX10_aside_25 : decode cX10_aside 25 = .ok (.getfield 13, 3) := by decide +kernel
theorem dX10_aside_28 : decode cX10_aside 28 = .ok (.iload_n 1, 1) := by decide +kernel
theorem dX10_aside_29 : decode cX10_aside 29 = .ok (.iaload, 1) := by decide +kernel
theorem dX10_aside_30 : decode cX10_aside 30 = .ok (.iastore, 1) := by decide +kernel
theorem dX10_aside_31 : decode cX10_aside 31 = .ok (.iinc 1 1, 3) := by decide +kernel
theorem dX10_aside_34 : decode cX10_aside 34 = .ok (.goto (-22), 3) := by decide +kernel
theorem dX10_aside_37 : decode cX10_aside 37 = .ok (.return_, 1) := by decide +kernel
theorem dX10_putBack_0 : decode cX10_putBack 0 = .ok (.iconst 0, 1) := by decide +kernel
theorem dX10_putBack_1 : decode cX10_putBack 1 = .ok (.istore_n 1, 1) := by decide +kernel
theorem dX10_putBack_2 : decode cX10_putBack 2 = .ok (.iload_n 1, 1) := by decide +kernel
theorem dX10_putBack_3 : decode cX10_putBack 3 = .ok (.sipush 564, 3) := by decide +kernel
theorem dX10_putBack_6 : decode cX10_putBack 6 = .ok (.if_icmp .ge 21, 3) := by decide +kernel
theorem dX10_putBack_9 : decode cX10_putBack 9 = .ok (.aload_n 0, 1) := by decide +kernel
theorem dX10_putBack_10 : decode cX10_putBack 10 = .ok (.getfield 13, 3) := by decide +kernel
theorem dX10_putBack_13 : decode cX10_putBack 13 = .ok (.iload_n 1, 1) := by decide +kernel
theorem dX10_putBack_14 : decode cX10_putBack 14 = .ok (.aload_n 0, 1) := by decide +kernel
theorem dX10_putBack_15 : decode cX10_putBack 15 = .ok (.getfield 17, 3) := by decide +kernel
theorem dX10_putBack_18 : decode cX10_putBack 18 = .ok (.iload_n 1, 1) := by decide +kernel
theorem dX10_putBack_19 : decode cX10_putBack 19 = .ok (.iaload, 1) := by decide +kernel
theorem dX10_putBack_20 : decode cX10_putBack 20 = .ok (.iastore, 1) := by decide +kernel
theorem dX10_putBack_21 : decode cX10_putBack 21 = .ok (.iinc 1 1, 3) := by decide +kernel
theorem dX10_putBack_24 : decode cX10_putBack 24 = .ok (.goto (-22), 3) := by decide +kernel
theorem dX10_putBack_27 : decode cX10_putBack 27 = .ok (.return_, 1) := by decide +kernel
theorem dX10_acted_0 : decode cX10_acted 0 = .ok (.aload_n 0, 1) := by decide +kernel
theorem dX10_acted_1 : decode cX10_acted 1 = .ok (.getfield 46, 3) := by decide +kernel
theorem dX10_acted_4 : decode cX10_acted 4 = .ok (.ifCond .eq 10, 3) := by decide +kernel
theorem dX10_acted_7 : decode cX10_acted 7 = .ok (.aload_n 0, 1) := by decide +kernel
theorem dX10_acted_8 : decode cX10_acted 8 = .ok (.invokevirtual 50, 3) := by decide +kernel
theorem dX10_acted_11 : decode cX10_acted 11 = .ok (.bipush (-3), 2) := by decide +kernel
theorem dX10_acted_13 : decode cX10_acted 13 = .ok (.ireturn, 1) := by decide +kernel
theorem dX10_acted_14 : decode cX10_acted 14 = .ok (.aload_n 0, 1) := by decide +kernel
theorem dX10_acted_15 : decode cX10_acted 15 = .ok (.getfield 53, 3) := by decide +kernel
theorem dX10_acted_18 : decode cX10_acted 18 = .ok (.iconst 4, 1) := by decide +kernel
theorem dX10_acted_19 : decode cX10_acted 19 = .ok (.if_icmp .ne 44, 3) := by decide +kernel
theorem dX10_acted_22 : decode cX10_acted 22 = .ok (.iconst 0, 1) := by decide +kernel
theorem dX10_acted_23 : decode cX10_acted 23 = .ok (.istore_n 2, 1) := by decide +kernel
theorem dX10_acted_24 : decode cX10_acted 24 = .ok (.iload_n 2, 1) := by decide +kernel
theorem dX10_acted_25 : decode cX10_acted 25 = .ok (.sipush 1692, 3) := by decide +kernel
theorem dX10_acted_28 : decode cX10_acted 28 = .ok (.if_icmp .ge 25, 3) := by decide +kernel
theorem dX10_acted_31 : decode cX10_acted 31 = .ok (.aload_n 0, 1) := by decide +kernel
theorem dX10_acted_32 : decode cX10_acted 32 = .ok (.getfield 23, 3) := by decide +kernel
theorem dX10_acted_35 : decode cX10_acted 35 = .ok (.iload_n 2, 1) := by decide +kernel
theorem dX10_acted_36 : decode cX10_acted 36 = .ok (.aload_n 0, 1) := by decide +kernel
theorem dX10_acted_37 : decode cX10_acted 37 = .ok (.getfield 23, 3) := by decide +kernel
theorem dX10_acted_40 : decode cX10_acted 40 = .ok (.iload_n 2, 1) := by decide +kernel
theorem dX10_acted_41 : decode cX10_acted 41 = .ok (.sipush 564, 3) := by decide +kernel
theorem dX10_acted_44 : decode cX10_acted 44 = .ok (.iadd, 1) := by decide +kernel
theorem dX10_acted_45 : decode cX10_acted 45 = .ok (.iaload, 1) := by decide +kernel
theorem dX10_acted_46 : decode cX10_acted 46 = .ok (.iastore, 1) := by decide +kernel
theorem dX10_acted_47 : decode cX10_acted 47 = .ok (.iinc 2 1, 3) := by decide +kernel
theorem dX10_acted_50 : decode cX10_acted 50 = .ok (.goto (-26), 3) := by decide +kernel
theorem dX10_acted_53 : decode cX10_acted 53 = .ok (.aload_n 0, 1) := by decide +kernel
theorem dX10_acted_54 : decode cX10_acted 54 = .ok (.dup, 1) := by decide +kernel
theorem dX10_acted_55 : decode cX10_acted 55 = .ok (.getfield 53, 3) := by decide +kernel
theorem dX10_acted_58 : decode cX10_acted 58 = .ok (.iconst 1, 1) := by decide +kernel
theorem dX10_acted_59 : decode cX10_acted 59 = .ok (.isub, 1) := by decide +kernel
theorem dX10_acted_60 : decode cX10_acted 60 = .ok (.putfield 53, 3) := by decide +kernel
theorem dX10_acted_63 : decode cX10_acted 63 = .ok (.iconst 0, 1) := by decide +kernel
theorem dX10_acted_64 : decode cX10_acted 64 = .ok (.istore_n 2, 1) := by decide +kernel
theorem dX10_acted_65 : decode cX10_acted 65 = .ok (.iload_n 2, 1) := by decide +kernel
theorem dX10_acted_66 : decode cX10_acted 66 = .ok (.sipush 564, 3) := by decide +kernel
theorem dX10_acted_69 : decode cX10_acted 69 = .ok (.if_icmp .ge 30, 3) := by decide +kernel
theorem dX10_acted_72 : decode cX10_acted 72 = .ok (.aload_n 0, 1) := by decide +kernel
theorem dX10_acted_73 : decode cX10_acted 73 = .ok (.getfield 23, 3) := by decide +kernel
theorem dX10_acted_76 : decode cX10_acted 76 = .ok (.sipush 564, 3) := by decide +kernel
theorem dX10_acted_79 : decode cX10_acted 79 = .ok (.aload_n 0, 1) := by decide +kernel
theorem dX10_acted_80 : decode cX10_acted 80 = .ok (.getfield 53, 3) := by decide +kernel
theorem dX10_acted_83 : decode cX10_acted 83 = .ok (.imul, 1) := by decide +kernel
theorem dX10_acted_84 : decode cX10_acted 84 = .ok (.iload_n 2, 1) := by decide +kernel
theorem dX10_acted_85 : decode cX10_acted 85 = .ok (.iadd, 1) := by decide +kernel
theorem dX10_acted_86 : decode cX10_acted 86 = .ok (.aload_n 0, 1) := by decide +kernel
theorem dX10_acted_87 : decode cX10_acted 87 = .ok (.getfield 17, 3) := by decide +kernel
theorem dX10_acted_90 : decode cX10_acted 90 = .ok (.iload_n 2, 1) := by decide +kernel
theorem dX10_acted_91 : decode cX10_acted 91 = .ok (.iaload, 1) := by decide +kernel
theorem dX10_acted_92 : decode cX10_acted 92 = .ok (.iastore, 1) := by decide +kernel
theorem dX10_acted_93 : decode cX10_acted 93 = .ok (.iinc 2 1, 3) := by decide +kernel
theorem dX10_acted_96 : decode cX10_acted 96 = .ok (.goto (-31), 3) := by decide +kernel
theorem dX10_acted_99 : decode cX10_acted 99 = .ok (.aload_n 0, 1) := by decide +kernel
theorem dX10_acted_100 : decode cX10_acted 100 = .ok (.dup, 1) := by decide +kernel
theorem dX10_acted_101 : decode cX10_acted 101 = .ok (.getfield 53, 3) := by decide +kernel
theorem dX10_acted_104 : decode cX10_acted 104 = .ok (.iconst 1, 1) := by decide +kernel
theorem dX10_acted_105 : decode cX10_acted 105 = .ok (.iadd, 1) := by decide +kernel
theorem dX10_acted_106 : decode cX10_acted 106 = .ok (.putfield 53, 3) := by decide +kernel
theorem dX10_acted_109 : decode cX10_acted 109 = .ok (.iload_n 1, 1) := by decide +kernel
theorem dX10_acted_110 : decode cX10_acted 110 = .ok (.ireturn, 1) := by decide +kernel
theorem dX10_payOut_0 : decode cX10_payOut 0 = .ok (.bipush 10, 2) := by decide +kernel
theorem dX10_payOut_2 : decode cX10_payOut 2 = .ok (.iconst 3, 1) := by decide +kernel
theorem dX10_payOut_3 : decode cX10_payOut 3 = .ok (.iload_n 1, 1) := by decide +kernel
theorem dX10_payOut_4 : decode cX10_payOut 4 = .ok (.imul, 1) := by decide +kernel
theorem dX10_payOut_5 : decode cX10_payOut 5 = .ok (.iadd, 1) := by decide +kernel
theorem dX10_payOut_6 : decode cX10_payOut 6 = .ok (.iconst 0, 1) := by decide +kernel
theorem dX10_payOut_7 : decode cX10_payOut 7 = .ok (.iadd, 1) := by decide +kernel
theorem dX10_payOut_8 : decode cX10_payOut 8 = .ok (.istore_n 3, 1) := by decide +kernel
theorem dX10_payOut_9 : decode cX10_payOut 9 = .ok (.aload_n 0, 1) := by decide +kernel
theorem dX10_payOut_10 : decode cX10_payOut 10 = .ok (.aload_n 0, 1) := by decide +kernel
theorem dX10_payOut_11 : decode cX10_payOut 11 = .ok (.getfield 46, 3) := by decide +kernel
theorem dX10_payOut_14 : decode cX10_payOut 14 = .ok (.ifCond .ne 20, 3) := by decide +kernel
theorem dX10_payOut_17 : decode cX10_payOut 17 = .ok (.aload_n 0, 1) := by decide +kernel
theorem dX10_payOut_18 : decode cX10_payOut 18 = .ok (.getfield 13, 3) := by decide +kernel
theorem dX10_payOut_21 : decode cX10_payOut 21 = .ok (.iload_n 3, 1) := by decide +kernel
theorem dX10_payOut_22 : decode cX10_payOut 22 = .ok (.iaload, 1) := by decide +kernel
theorem dX10_payOut_23 : decode cX10_payOut 23 = .ok (.i2l, 1) := by decide +kernel
theorem dX10_payOut_24 : decode cX10_payOut 24 = .ok (.iload_n 2, 1) := by decide +kernel
theorem dX10_payOut_25 : decode cX10_payOut 25 = .ok (.i2l, 1) := by decide +kernel
theorem dX10_payOut_26 : decode cX10_payOut 26 = .ok (.ladd, 1) := by decide +kernel
theorem dX10_payOut_27 : decode cX10_payOut 27 = .ok (.ldc2_w 56, 3) := by decide +kernel
theorem dX10_payOut_30 : decode cX10_payOut 30 = .ok (.lcmp, 1) := by decide +kernel
theorem dX10_payOut_31 : decode cX10_payOut 31 = .ok (.ifCond .le 7, 3) := by decide +kernel
theorem dX10_payOut_34 : decode cX10_payOut 34 = .ok (.iconst 1, 1) := by decide +kernel
theorem dX10_payOut_35 : decode cX10_payOut 35 = .ok (.goto 4, 3) := by decide +kernel
theorem dX10_payOut_38 : decode cX10_payOut 38 = .ok (.iconst 0, 1) := by decide +kernel
theorem dX10_payOut_39 : decode cX10_payOut 39 = .ok (.putfield 46, 3) := by decide +kernel
theorem dX10_payOut_42 : decode cX10_payOut 42 = .ok (.aload_n 0, 1) := by decide +kernel
theorem dX10_payOut_43 : decode cX10_payOut 43 = .ok (.getfield 13, 3) := by decide +kernel
theorem dX10_payOut_46 : decode cX10_payOut 46 = .ok (.iload_n 3, 1) := by decide +kernel
theorem dX10_payOut_47 : decode cX10_payOut 47 = .ok (.dup2, 1) := by decide +kernel
theorem dX10_payOut_48 : decode cX10_payOut 48 = .ok (.iaload, 1) := by decide +kernel
theorem dX10_payOut_49 : decode cX10_payOut 49 = .ok (.aload_n 0, 1) := by decide +kernel
theorem dX10_payOut_50 : decode cX10_payOut 50 = .ok (.getfield 46, 3) := by decide +kernel
theorem dX10_payOut_53 : decode cX10_payOut 53 = .ok (.ifCond .eq 7, 3) := by decide +kernel
theorem dX10_payOut_56 : decode cX10_payOut 56 = .ok (.iconst 0, 1) := by decide +kernel
theorem dX10_payOut_57 : decode cX10_payOut 57 = .ok (.goto 4, 3) := by decide +kernel
theorem dX10_payOut_60 : decode cX10_payOut 60 = .ok (.iload_n 2, 1) := by decide +kernel
theorem dX10_payOut_61 : decode cX10_payOut 61 = .ok (.iadd, 1) := by decide +kernel
theorem dX10_payOut_62 : decode cX10_payOut 62 = .ok (.iastore, 1) := by decide +kernel
theorem dX10_payOut_63 : decode cX10_payOut 63 = .ok (.return_, 1) := by decide +kernel
theorem dX10_addInvestor_0 : decode cX10_addInvestor 0 = .ok (.aload_n 0, 1) := by decide +kernel
theorem dX10_addInvestor_1 : decode cX10_addInvestor 1 = .ok (.invokevirtual 58, 3) := by decide +kernel
theorem dX10_addInvestor_4 : decode cX10_addInvestor 4 = .ok (.iload_n 1, 1) := by decide +kernel
theorem dX10_addInvestor_5 : decode cX10_addInvestor 5 = .ok (.ifCond .ge 6, 3) := by decide +kernel
theorem dX10_addInvestor_8 : decode cX10_addInvestor 8 = .ok (.bipush (-2), 2) := by decide +kernel
theorem dX10_addInvestor_10 : decode cX10_addInvestor 10 = .ok (.ireturn, 1) := by decide +kernel
theorem dX10_addInvestor_11 : decode cX10_addInvestor 11 = .ok (.aload_n 0, 1) := by decide +kernel
theorem dX10_addInvestor_12 : decode cX10_addInvestor 12 = .ok (.getfield 13, 3) := by decide +kernel
theorem dX10_addInvestor_15 : decode cX10_addInvestor 15 = .ok (.iconst 1, 1) := by decide +kernel
theorem dX10_addInvestor_16 : decode cX10_addInvestor 16 = .ok (.iaload, 1) := by decide +kernel
theorem dX10_addInvestor_17 : decode cX10_addInvestor 17 = .ok (.bipush 8, 2) := by decide +kernel
theorem dX10_addInvestor_19 : decode cX10_addInvestor 19 = .ok (.if_icmp .ne 6, 3) := by decide +kernel
theorem dX10_addInvestor_22 : decode cX10_addInvestor 22 = .ok (.bipush (-3), 2) := by decide +kernel
theorem dX10_addInvestor_24 : decode cX10_addInvestor 24 = .ok (.ireturn, 1) := by decide +kernel
theorem dX10_addInvestor_25 : decode cX10_addInvestor 25 = .ok (.aload_n 0, 1) := by decide +kernel
theorem dX10_addInvestor_26 : decode cX10_addInvestor 26 = .ok (.getfield 13, 3) := by decide +kernel
theorem dX10_addInvestor_29 : decode cX10_addInvestor 29 = .ok (.bipush 10, 2) := by decide +kernel
theorem dX10_addInvestor_31 : decode cX10_addInvestor 31 = .ok (.iconst 3, 1) := by decide +kernel
theorem dX10_addInvestor_32 : decode cX10_addInvestor 32 = .ok (.aload_n 0, 1) := by decide +kernel
theorem dX10_addInvestor_33 : decode cX10_addInvestor 33 = .ok (.getfield 13, 3) := by decide +kernel
theorem dX10_addInvestor_36 : decode cX10_addInvestor 36 = .ok (.iconst 1, 1) := by decide +kernel
theorem dX10_addInvestor_37 : decode cX10_addInvestor 37 = .ok (.iaload, 1) := by decide +kernel
theorem dX10_addInvestor_38 : decode cX10_addInvestor 38 = .ok (.imul, 1) := by decide +kernel
theorem dX10_addInvestor_39 : decode cX10_addInvestor 39 = .ok (.iadd, 1) := by decide +kernel
theorem dX10_addInvestor_40 : decode cX10_addInvestor 40 = .ok (.iload_n 1, 1) := by decide +kernel
theorem dX10_addInvestor_41 : decode cX10_addInvestor 41 = .ok (.iastore, 1) := by decide +kernel
theorem dX10_addInvestor_42 : decode cX10_addInvestor 42 = .ok (.aload_n 0, 1) := by decide +kernel
theorem dX10_addInvestor_43 : decode cX10_addInvestor 43 = .ok (.getfield 13, 3) := by decide +kernel
theorem dX10_addInvestor_46 : decode cX10_addInvestor 46 = .ok (.iconst 1, 1) := by decide +kernel
theorem dX10_addInvestor_47 : decode cX10_addInvestor 47 = .ok (.dup2, 1) := by decide +kernel
theorem dX10_addInvestor_48 : decode cX10_addInvestor 48 = .ok (.iaload, 1) := by decide +kernel
theorem dX10_addInvestor_49 : decode cX10_addInvestor 49 = .ok (.iconst 1, 1) := by decide +kernel
theorem dX10_addInvestor_50 : decode cX10_addInvestor 50 = .ok (.iadd, 1) := by decide +kernel
theorem dX10_addInvestor_51 : decode cX10_addInvestor 51 = .ok (.iastore, 1) := by decide +kernel
theorem dX10_addInvestor_52 : decode cX10_addInvestor 52 = .ok (.aload_n 0, 1) := by decide +kernel
theorem dX10_addInvestor_53 : decode cX10_addInvestor 53 = .ok (.aload_n 0, 1) := by decide +kernel
theorem dX10_addInvestor_54 : decode cX10_addInvestor 54 = .ok (.getfield 13, 3) := by decide +kernel
theorem dX10_addInvestor_57 : decode cX10_addInvestor 57 = .ok (.iconst 1, 1) := by decide +kernel
theorem dX10_addInvestor_58 : decode cX10_addInvestor 58 = .ok (.iaload, 1) := by decide +kernel
theorem dX10_addInvestor_59 : decode cX10_addInvestor 59 = .ok (.iconst 1, 1) := by decide +kernel
theorem dX10_addInvestor_60 : decode cX10_addInvestor 60 = .ok (.isub, 1) := by decide +kernel
theorem dX10_addInvestor_61 : decode cX10_addInvestor 61 = .ok (.invokevirtual 61, 3) := by decide +kernel
theorem dX10_addInvestor_64 : decode cX10_addInvestor 64 = .ok (.ireturn, 1) := by decide +kernel
theorem dX10_deposit_0 : decode cX10_deposit 0 = .ok (.aload_n 0, 1) := by decide +kernel
theorem dX10_deposit_1 : decode cX10_deposit 1 = .ok (.invokevirtual 58, 3) := by decide +kernel
theorem dX10_deposit_4 : decode cX10_deposit 4 = .ok (.aload_n 0, 1) := by decide +kernel
theorem dX10_deposit_5 : decode cX10_deposit 5 = .ok (.iload_n 1, 1) := by decide +kernel
theorem dX10_deposit_6 : decode cX10_deposit 6 = .ok (.invokevirtual 65, 3) := by decide +kernel
theorem dX10_deposit_9 : decode cX10_deposit 9 = .ok (.ifCond .ne 5, 3) := by decide +kernel
theorem dX10_deposit_12 : decode cX10_deposit 12 = .ok (.iconst (-1), 1) := by decide +kernel
theorem dX10_deposit_13 : decode cX10_deposit 13 = .ok (.ireturn, 1) := by decide +kernel
theorem dX10_deposit_14 : decode cX10_deposit 14 = .ok (.iload_n 2, 1) := by decide +kernel
theorem dX10_deposit_15 : decode cX10_deposit 15 = .ok (.iconst 1, 1) := by decide +kernel
theorem dX10_deposit_16 : decode cX10_deposit 16 = .ok (.if_icmp .ge 6, 3) := by decide +kernel
theorem dX10_deposit_19 : decode cX10_deposit 19 = .ok (.bipush (-2), 2) := by decide +kernel
theorem dX10_deposit_21 : decode cX10_deposit 21 = .ok (.ireturn, 1) := by decide +kernel
theorem dX10_deposit_22 : decode cX10_deposit 22 = .ok (.aload_n 0, 1) := by decide +kernel
theorem dX10_deposit_23 : decode cX10_deposit 23 = .ok (.iload_n 1, 1) := by decide +kernel
theorem dX10_deposit_24 : decode cX10_deposit 24 = .ok (.iload_n 2, 1) := by decide +kernel
theorem dX10_deposit_25 : decode cX10_deposit 25 = .ok (.invokevirtual 69, 3) := by decide +kernel
theorem dX10_deposit_28 : decode cX10_deposit 28 = .ok (.aload_n 0, 1) := by decide +kernel
theorem dX10_deposit_29 : decode cX10_deposit 29 = .ok (.aload_n 0, 1) := by decide +kernel
theorem dX10_deposit_30 : decode cX10_deposit 30 = .ok (.getfield 13, 3) := by decide +kernel
theorem dX10_deposit_33 : decode cX10_deposit 33 = .ok (.bipush 10, 2) := by decide +kernel
theorem dX10_deposit_35 : decode cX10_deposit 35 = .ok (.iconst 3, 1) := by decide +kernel
theorem dX10_deposit_36 : decode cX10_deposit 36 = .ok (.iload_n 1, 1) := by decide +kernel
theorem dX10_deposit_37 : decode cX10_deposit 37 = .ok (.imul, 1) := by decide +kernel
theorem dX10_deposit_38 : decode cX10_deposit 38 = .ok (.iadd, 1) := by decide +kernel
theorem dX10_deposit_39 : decode cX10_deposit 39 = .ok (.iaload, 1) := by decide +kernel
theorem dX10_deposit_40 : decode cX10_deposit 40 = .ok (.invokevirtual 61, 3) := by decide +kernel
theorem dX10_deposit_43 : decode cX10_deposit 43 = .ok (.ireturn, 1) := by decide +kernel
theorem dX10_setPoolShare_0 : decode cX10_setPoolShare 0 = .ok (.aload_n 0, 1) := by decide +kernel
theorem dX10_setPoolShare_1 : decode cX10_setPoolShare 1 = .ok (.invokevirtual 58, 3) := by decide +kernel
theorem dX10_setPoolShare_4 : decode cX10_setPoolShare 4 = .ok (.iload_n 1, 1) := by decide +kernel
theorem dX10_setPoolShare_5 : decode cX10_setPoolShare 5 = .ok (.iconst 0, 1) := by decide +kernel
theorem dX10_setPoolShare_6 : decode cX10_setPoolShare 6 = .ok (.bipush 50, 2) := by decide +kernel
theorem dX10_setPoolShare_8 : decode cX10_setPoolShare 8 = .ok (.invokestatic 38, 3) := by decide +kernel
theorem dX10_setPoolShare_11 : decode cX10_setPoolShare 11 = .ok (.ifCond .ne 6, 3) := by decide +kernel
theorem dX10_setPoolShare_14 : decode cX10_setPoolShare 14 = .ok (.bipush (-2), 2) := by decide +kernel
theorem dX10_setPoolShare_16 : decode cX10_setPoolShare 16 = .ok (.ireturn, 1) := by decide +kernel
theorem dX10_setPoolShare_17 : decode cX10_setPoolShare 17 = .ok (.aload_n 0, 1) := by decide +kernel
theorem dX10_setPoolShare_18 : decode cX10_setPoolShare 18 = .ok (.getfield 13, 3) := by decide +kernel
theorem dX10_setPoolShare_21 : decode cX10_setPoolShare 21 = .ok (.iconst 5, 1) := by decide +kernel
theorem dX10_setPoolShare_22 : decode cX10_setPoolShare 22 = .ok (.iaload, 1) := by decide +kernel
theorem dX10_setPoolShare_23 : decode cX10_setPoolShare 23 = .ok (.istore_n 2, 1) := by decide +kernel
theorem dX10_setPoolShare_24 : decode cX10_setPoolShare 24 = .ok (.iload_n 2, 1) := by decide +kernel
theorem dX10_setPoolShare_25 : decode cX10_setPoolShare 25 = .ok (.iload_n 1, 1) := by decide +kernel
theorem dX10_setPoolShare_26 : decode cX10_setPoolShare 26 = .ok (.if_icmp .ne 6, 3) := by decide +kernel
theorem dX10_setPoolShare_29 : decode cX10_setPoolShare 29 = .ok (.bipush (-5), 2) := by decide +kernel
theorem dX10_setPoolShare_31 : decode cX10_setPoolShare 31 = .ok (.ireturn, 1) := by decide +kernel
theorem dX10_setPoolShare_32 : decode cX10_setPoolShare 32 = .ok (.aload_n 0, 1) := by decide +kernel
theorem dX10_setPoolShare_33 : decode cX10_setPoolShare 33 = .ok (.getfield 13, 3) := by decide +kernel
theorem dX10_setPoolShare_36 : decode cX10_setPoolShare 36 = .ok (.iconst 5, 1) := by decide +kernel
theorem dX10_setPoolShare_37 : decode cX10_setPoolShare 37 = .ok (.iload_n 1, 1) := by decide +kernel
theorem dX10_setPoolShare_38 : decode cX10_setPoolShare 38 = .ok (.iastore, 1) := by decide +kernel
theorem dX10_setPoolShare_39 : decode cX10_setPoolShare 39 = .ok (.aload_n 0, 1) := by decide +kernel
theorem dX10_setPoolShare_40 : decode cX10_setPoolShare 40 = .ok (.iload_n 2, 1) := by decide +kernel
theorem dX10_setPoolShare_41 : decode cX10_setPoolShare 41 = .ok (.invokevirtual 61, 3) := by decide +kernel
theorem dX10_setPoolShare_44 : decode cX10_setPoolShare 44 = .ok (.ireturn, 1) := by decide +kernel
theorem dX10_openLoan_0 : decode cX10_openLoan 0 = .ok (.aload_n 0, 1) := by decide +kernel
theorem dX10_openLoan_1 : decode cX10_openLoan 1 = .ok (.invokevirtual 58, 3) := by decide +kernel
theorem dX10_openLoan_4 : decode cX10_openLoan 4 = .ok (.iload_n 1, 1) := by decide +kernel
theorem dX10_openLoan_5 : decode cX10_openLoan 5 = .ok (.bipush 100, 2) := by decide +kernel
theorem dX10_openLoan_7 : decode cX10_openLoan 7 = .ok (.ldc 73, 2) := by decide +kernel
theorem dX10_openLoan_9 : decode cX10_openLoan 9 = .ok (.invokestatic 38, 3) := by decide +kernel
theorem dX10_openLoan_12 : decode cX10_openLoan 12 = .ok (.ifCond .eq 23, 3) := by decide +kernel
theorem dX10_openLoan_15 : decode cX10_openLoan 15 = .ok (.iload_n 2, 1) := by decide +kernel
theorem dX10_openLoan_16 : decode cX10_openLoan 16 = .ok (.iconst 0, 1) := by decide +kernel
theorem dX10_openLoan_17 : decode cX10_openLoan 17 = .ok (.bipush 50, 2) := by decide +kernel
theorem dX10_openLoan_19 : decode cX10_openLoan 19 = .ok (.invokestatic 38, 3) := by decide +kernel
theorem dX10_openLoan_22 : decode cX10_openLoan 22 = .ok (.ifCond .eq 13, 3) := by decide +kernel
theorem dX10_openLoan_25 : decode cX10_openLoan 25 = .ok (.iload_n 3, 1) := by decide +kernel
theorem dX10_openLoan_26 : decode cX10_openLoan 26 = .ok (.iconst 1, 1) := by decide +kernel
theorem dX10_openLoan_27 : decode cX10_openLoan 27 = .ok (.bipush 36, 2) := by decide +kernel
theorem dX10_openLoan_29 : decode cX10_openLoan 29 = .ok (.invokestatic 38, 3) := by decide +kernel
theorem dX10_openLoan_32 : decode cX10_openLoan 32 = .ok (.ifCond .ne 6, 3) := by decide +kernel
theorem dX10_openLoan_35 : decode cX10_openLoan 35 = .ok (.bipush (-2), 2) := by decide +kernel
theorem dX10_openLoan_37 : decode cX10_openLoan 37 = .ok (.ireturn, 1) := by decide +kernel
theorem dX10_openLoan_38 : decode cX10_openLoan 38 = .ok (.aload_n 0, 1) := by decide +kernel
theorem dX10_openLoan_39 : decode cX10_openLoan 39 = .ok (.getfield 13, 3) := by decide +kernel
theorem dX10_openLoan_42 : decode cX10_openLoan 42 = .ok (.iconst 2, 1) := by decide +kernel
theorem dX10_openLoan_43 : decode cX10_openLoan 43 = .ok (.iaload, 1) := by decide +kernel
theorem dX10_openLoan_44 : decode cX10_openLoan 44 = .ok (.bipush 10, 2) := by decide +kernel
theorem dX10_openLoan_46 : decode cX10_openLoan 46 = .ok (.if_icmp .ne 6, 3) := by decide +kernel
theorem dX10_openLoan_49 : decode cX10_openLoan 49 = .ok (.bipush (-3), 2) := by decide +kernel
theorem dX10_openLoan_51 : decode cX10_openLoan 51 = .ok (.ireturn, 1) := by decide +kernel
theorem dX10_openLoan_52 : decode cX10_openLoan 52 = .ok (.aload_n 0, 1) := by decide +kernel
theorem dX10_openLoan_53 : decode cX10_openLoan 53 = .ok (.getfield 13, 3) := by decide +kernel
theorem dX10_openLoan_56 : decode cX10_openLoan 56 = .ok (.iconst 2, 1) := by decide +kernel
theorem dX10_openLoan_57 : decode cX10_openLoan 57 = .ok (.iaload, 1) := by decide +kernel
theorem dX10_openLoan_58 : decode cX10_openLoan 58 = .ok (.istore 4, 2) := by decide +kernel
theorem dX10_openLoan_60 : decode cX10_openLoan 60 = .ok (.iconst 0, 1) := by decide +kernel
theorem dX10_openLoan_61 : decode cX10_openLoan 61 = .ok (.istore 5, 2) := by decide +kernel
theorem dX10_openLoan_63 : decode cX10_openLoan 63 = .ok (.iload 5, 2) := by decide +kernel
theorem dX10_openLoan_65 : decode cX10_openLoan 65 = .ok (.bipush 11, 2) := by decide +kernel
theorem dX10_openLoan_67 : decode cX10_openLoan 67 = .ok (.if_icmp .ge 18, 3) := by decide +kernel
theorem dX10_openLoan_70 : decode cX10_openLoan 70 = .ok (.aload_n 0, 1) := by decide +kernel
theorem dX10_openLoan_71 : decode cX10_openLoan 71 = .ok (.iload 4, 2) := by decide +kernel
theorem dX10_openLoan_73 : decode cX10_openLoan 73 = .ok (.iload 5, 2) := by decide +kernel
theorem dX10_openLoan_75 : decode cX10_openLoan 75 = .ok (.iconst 0, 1) := by decide +kernel
theorem dX10_openLoan_76 : decode cX10_openLoan 76 = .ok (.invokevirtual 74, 3) := by decide +kernel
theorem dX10_openLoan_79 : decode cX10_openLoan 79 = .ok (.iinc 5 1, 3) := by decide +kernel
theorem dX10_openLoan_82 : decode cX10_openLoan 82 = .ok (.goto (-19), 3) := by decide +kernel
theorem dX10_openLoan_85 : decode cX10_openLoan 85 = .ok (.aload_n 0, 1) := by decide +kernel
theorem dX10_openLoan_86 : decode cX10_openLoan 86 = .ok (.iload 4, 2) := by decide +kernel
theorem dX10_openLoan_88 : decode cX10_openLoan 88 = .ok (.iconst 0, 1) := by decide +kernel
theorem dX10_openLoan_89 : decode cX10_openLoan 89 = .ok (.iload_n 1, 1) := by decide +kernel
theorem dX10_openLoan_90 : decode cX10_openLoan 90 = .ok (.invokevirtual 74, 3) := by decide +kernel
theorem dX10_openLoan_93 : decode cX10_openLoan 93 = .ok (.aload_n 0, 1) := by decide +kernel
theorem dX10_openLoan_94 : decode cX10_openLoan 94 = .ok (.iload 4, 2) := by decide +kernel
theorem dX10_openLoan_96 : decode cX10_openLoan 96 = .ok (.iconst 1, 1) := by decide +kernel
theorem dX10_openLoan_97 : decode cX10_openLoan 97 = .ok (.iload_n 2, 1) := by decide +kernel
theorem dX10_openLoan_98 : decode cX10_openLoan 98 = .ok (.invokevirtual 74, 3) := by decide +kernel
theorem dX10_openLoan_101 : decode cX10_openLoan 101 = .ok (.aload_n 0, 1) := by decide +kernel
theorem dX10_openLoan_102 : decode cX10_openLoan 102 = .ok (.iload 4, 2) := by decide +kernel
theorem dX10_openLoan_104 : decode cX10_openLoan 104 = .ok (.iconst 2, 1) := by decide +kernel
theorem dX10_openLoan_105 : decode cX10_openLoan 105 = .ok (.iload_n 3, 1) := by decide +kernel
theorem dX10_openLoan_106 : decode cX10_openLoan 106 = .ok (.invokevirtual 74, 3) := by decide +kernel
theorem dX10_openLoan_109 : decode cX10_openLoan 109 = .ok (.aload_n 0, 1) := by decide +kernel
theorem dX10_openLoan_110 : decode cX10_openLoan 110 = .ok (.iload 4, 2) := by decide +kernel
theorem dX10_openLoan_112 : decode cX10_openLoan 112 = .ok (.iconst 5, 1) := by decide +kernel
theorem dX10_openLoan_113 : decode cX10_openLoan 113 = .ok (.bipush (-5), 2) := by decide +kernel
theorem dX10_openLoan_115 : decode cX10_openLoan 115 = .ok (.invokevirtual 74, 3) := by decide +kernel
theorem dX10_openLoan_118 : decode cX10_openLoan 118 = .ok (.aload_n 0, 1) := by decide +kernel
theorem dX10_openLoan_119 : decode cX10_openLoan 119 = .ok (.iload 4, 2) := by decide +kernel
theorem dX10_openLoan_121 : decode cX10_openLoan 121 = .ok (.bipush 10, 2) := by decide +kernel
theorem dX10_openLoan_123 : decode cX10_openLoan 123 = .ok (.bipush (-5), 2) := by decide +kernel
theorem dX10_openLoan_125 : decode cX10_openLoan 125 = .ok (.invokevirtual 74, 3) := by decide +kernel
theorem dX10_openLoan_128 : decode cX10_openLoan 128 = .ok (.aload_n 0, 1) := by decide +kernel
theorem dX10_openLoan_129 : decode cX10_openLoan 129 = .ok (.getfield 13, 3) := by decide +kernel
theorem dX10_openLoan_132 : decode cX10_openLoan 132 = .ok (.iconst 2, 1) := by decide +kernel
theorem dX10_openLoan_133 : decode cX10_openLoan 133 = .ok (.dup2, 1) := by decide +kernel
theorem dX10_openLoan_134 : decode cX10_openLoan 134 = .ok (.iaload, 1) := by decide +kernel
theorem dX10_openLoan_135 : decode cX10_openLoan 135 = .ok (.iconst 1, 1) := by decide +kernel
theorem dX10_openLoan_136 : decode cX10_openLoan 136 = .ok (.iadd, 1) := by decide +kernel
theorem dX10_openLoan_137 : decode cX10_openLoan 137 = .ok (.iastore, 1) := by decide +kernel
theorem dX10_openLoan_138 : decode cX10_openLoan 138 = .ok (.aload_n 0, 1) := by decide +kernel
theorem dX10_openLoan_139 : decode cX10_openLoan 139 = .ok (.iload 4, 2) := by decide +kernel
theorem dX10_openLoan_141 : decode cX10_openLoan 141 = .ok (.invokevirtual 61, 3) := by decide +kernel
theorem dX10_openLoan_144 : decode cX10_openLoan 144 = .ok (.ireturn, 1) := by decide +kernel
theorem dX10_principals_0 : decode cX10_principals 0 = .ok (.iconst 0, 1) := by decide +kernel
theorem dX10_principals_1 : decode cX10_principals 1 = .ok (.istore_n 3, 1) := by decide +kernel
theorem dX10_principals_2 : decode cX10_principals 2 = .ok (.iconst 0, 1) := by decide +kernel
theorem dX10_principals_3 : decode cX10_principals 3 = .ok (.istore 4, 2) := by decide +kernel
theorem dX10_principals_5 : decode cX10_principals 5 = .ok (.iload 4, 2) := by decide +kernel
theorem dX10_principals_7 : decode cX10_principals 7 = .ok (.aload_n 0, 1) := by decide +kernel
theorem dX10_principals_8 : decode cX10_principals 8 = .ok (.getfield 13, 3) := by decide +kernel
theorem dX10_principals_11 : decode cX10_principals 11 = .ok (.iconst 3, 1) := by decide +kernel
theorem dX10_principals_12 : decode cX10_principals 12 = .ok (.iaload, 1) := by decide +kernel
theorem dX10_principals_13 : decode cX10_principals 13 = .ok (.if_icmp .ge 50, 3) := by decide +kernel
theorem dX10_principals_16 : decode cX10_principals 16 = .ok (.iload_n 3, 1) := by decide +kernel
theorem dX10_principals_17 : decode cX10_principals 17 = .ok (.aload_n 0, 1) := by decide +kernel
theorem dX10_principals_18 : decode cX10_principals 18 = .ok (.iload 4, 2) := by decide +kernel
theorem dX10_principals_20 : decode cX10_principals 20 = .ok (.iconst 1, 1) := by decide +kernel
theorem dX10_principals_21 : decode cX10_principals 21 = .ok (.invokevirtual 78, 3) := by decide +kernel
theorem dX10_principals_24 : decode cX10_principals 24 = .ok (.iload_n 1, 1) := by decide +kernel
theorem dX10_principals_25 : decode cX10_principals 25 = .ok (.if_icmp .ne 29, 3) := by decide +kernel
theorem dX10_principals_28 : decode cX10_principals 28 = .ok (.iload_n 2, 1) := by decide +kernel
theorem dX10_principals_29 : decode cX10_principals 29 = .ok (.iconst 2, 1) := by decide +kernel
theorem dX10_principals_30 : decode cX10_principals 30 = .ok (.if_icmp .eq 14, 3) := by decide +kernel
theorem dX10_principals_33 : decode cX10_principals 33 = .ok (.aload_n 0, 1) := by decide +kernel
theorem dX10_principals_34 : decode cX10_principals 34 = .ok (.iload 4, 2) := by decide +kernel
theorem dX10_principals_36 : decode cX10_principals 36 = .ok (.iconst 2, 1) := by decide +kernel
theorem dX10_principals_37 : decode cX10_principals 37 = .ok (.invokevirtual 78, 3) := by decide +kernel
theorem dX10_principals_40 : decode cX10_principals 40 = .ok (.iload_n 2, 1) := by decide +kernel
theorem dX10_principals_41 : decode cX10_principals 41 = .ok (.if_icmp .ne 13, 3) := by decide +kernel
theorem dX10_principals_44 : decode cX10_principals 44 = .ok (.aload_n 0, 1) := by decide +kernel
theorem dX10_principals_45 : decode cX10_principals 45 = .ok (.iload 4, 2) := by decide +kernel
theorem dX10_principals_47 : decode cX10_principals 47 = .ok (.iconst 3, 1) := by decide +kernel
theorem dX10_principals_48 : decode cX10_principals 48 = .ok (.invokevirtual 78, 3) := by decide +kernel
theorem dX10_principals_51 : decode cX10_principals 51 = .ok (.goto 4, 3) := by decide +kernel
theorem dX10_principals_54 : decode cX10_principals 54 = .ok (.iconst 0, 1) := by decide +kernel
theorem dX10_principals_55 : decode cX10_principals 55 = .ok (.iadd, 1) := by decide +kernel
theorem dX10_principals_56 : decode cX10_principals 56 = .ok (.istore_n 3, 1) := by decide +kernel
theorem dX10_principals_57 : decode cX10_principals 57 = .ok (.iinc 4 1, 3) := by decide +kernel
theorem dX10_principals_60 : decode cX10_principals 60 = .ok (.goto (-55), 3) := by decide +kernel
theorem dX10_principals_63 : decode cX10_principals 63 = .ok (.iload_n 3, 1) := by decide +kernel
theorem dX10_principals_64 : decode cX10_principals 64 = .ok (.ireturn, 1) := by decide +kernel
theorem dX10_missing_0 : decode cX10_missing 0 = .ok (.aload_n 0, 1) := by decide +kernel
theorem dX10_missing_1 : decode cX10_missing 1 = .ok (.iload_n 1, 1) := by decide +kernel
theorem dX10_missing_2 : decode cX10_missing 2 = .ok (.iconst 3, 1) := by decide +kernel
theorem dX10_missing_3 : decode cX10_missing 3 = .ok (.invokevirtual 42, 3) := by decide +kernel
theorem dX10_missing_6 : decode cX10_missing 6 = .ok (.ifCond .ne 19, 3) := by decide +kernel
theorem dX10_missing_9 : decode cX10_missing 9 = .ok (.aload_n 0, 1) := by decide +kernel
theorem dX10_missing_10 : decode cX10_missing 10 = .ok (.iload_n 1, 1) := by decide +kernel
theorem dX10_missing_11 : decode cX10_missing 11 = .ok (.iconst 0, 1) := by decide +kernel
theorem dX10_missing_12 : decode cX10_missing 12 = .ok (.invokevirtual 42, 3) := by decide +kernel
theorem dX10_missing_15 : decode cX10_missing 15 = .ok (.aload_n 0, 1) := by decide +kernel
theorem dX10_missing_16 : decode cX10_missing 16 = .ok (.iload_n 1, 1) := by decide +kernel
theorem dX10_missing_17 : decode cX10_missing 17 = .ok (.iconst 2, 1) := by decide +kernel
theorem dX10_missing_18 : decode cX10_missing 18 = .ok (.invokevirtual 81, 3) := by decide +kernel
theorem dX10_missing_21 : decode cX10_missing 21 = .ok (.isub, 1) := by decide +kernel
theorem dX10_missing_22 : decode cX10_missing 22 = .ok (.goto 4, 3) := by decide +kernel
theorem dX10_missing_25 : decode cX10_missing 25 = .ok (.iconst 0, 1) := by decide +kernel
theorem dX10_missing_26 : decode cX10_missing 26 = .ok (.ireturn, 1) := by decide +kernel
theorem dX10_upwards_0 : decode cX10_upwards 0 = .ok (.iload_n 0, 1) := by decide +kernel
theorem dX10_upwards_1 : decode cX10_upwards 1 = .ok (.iload_n 1, 1) := by decide +kernel
theorem dX10_upwards_2 : decode cX10_upwards 2 = .ok (.iadd, 1) := by decide +kernel
theorem dX10_upwards_3 : decode cX10_upwards 3 = .ok (.iconst 1, 1) := by decide +kernel
theorem dX10_upwards_4 : decode cX10_upwards 4 = .ok (.isub, 1) := by decide +kernel
theorem dX10_upwards_5 : decode cX10_upwards 5 = .ok (.iload_n 1, 1) := by decide +kernel
theorem dX10_upwards_6 : decode cX10_upwards 6 = .ok (.idiv, 1) := by decide +kernel
theorem dX10_upwards_7 : decode cX10_upwards 7 = .ok (.ireturn, 1) := by decide +kernel
theorem dX10_funds_0 : decode cX10_funds 0 = .ok (.aload_n 0, 1) := by decide +kernel
theorem dX10_funds_1 : decode cX10_funds 1 = .ok (.iload_n 1, 1) := by decide +kernel
theorem dX10_funds_2 : decode cX10_funds 2 = .ok (.invokevirtual 65, 3) := by decide +kernel
theorem dX10_funds_5 : decode cX10_funds 5 = .ok (.ifCond .eq 11, 3) := by decide +kernel
theorem dX10_funds_8 : decode cX10_funds 8 = .ok (.aload_n 0, 1) := by decide +kernel
theorem dX10_funds_9 : decode cX10_funds 9 = .ok (.iload_n 2, 1) := by decide +kernel
theorem dX10_funds_10 : decode cX10_funds 10 = .ok (.invokevirtual 84, 3) := by decide +kernel
theorem dX10_funds_13 : decode cX10_funds 13 = .ok (.ifCond .ne 5, 3) := by decide +kernel
theorem dX10_funds_16 : decode cX10_funds 16 = .ok (.iconst (-1), 1) := by decide +kernel
theorem dX10_funds_17 : decode cX10_funds 17 = .ok (.ireturn, 1) := by decide +kernel
theorem dX10_funds_18 : decode cX10_funds 18 = .ok (.iload 4, 2) := by decide +kernel
theorem dX10_funds_20 : decode cX10_funds 20 = .ok (.iconst 1, 1) := by decide +kernel
theorem dX10_funds_21 : decode cX10_funds 21 = .ok (.ldc 73, 2) := by decide +kernel
theorem dX10_funds_23 : decode cX10_funds 23 = .ok (.invokestatic 38, 3) := by decide +kernel
theorem dX10_funds_26 : decode cX10_funds 26 = .ok (.ifCond .ne 6, 3) := by decide +kernel
theorem dX10_funds_29 : decode cX10_funds 29 = .ok (.bipush (-2), 2) := by decide +kernel
theorem dX10_funds_31 : decode cX10_funds 31 = .ok (.ireturn, 1) := by decide +kernel
theorem dX10_funds_32 : decode cX10_funds 32 = .ok (.aload_n 0, 1) := by decide +kernel
theorem dX10_funds_33 : decode cX10_funds 33 = .ok (.iload_n 2, 1) := by decide +kernel
theorem dX10_funds_34 : decode cX10_funds 34 = .ok (.iconst 3, 1) := by decide +kernel
theorem dX10_funds_35 : decode cX10_funds 35 = .ok (.invokevirtual 42, 3) := by decide +kernel
theorem dX10_funds_38 : decode cX10_funds 38 = .ok (.ifCond .ne 29, 3) := by decide +kernel
theorem dX10_funds_41 : decode cX10_funds 41 = .ok (.aload_n 0, 1) := by decide +kernel
theorem dX10_funds_42 : decode cX10_funds 42 = .ok (.iload_n 2, 1) := by decide +kernel
theorem dX10_funds_43 : decode cX10_funds 43 = .ok (.invokevirtual 87, 3) := by decide +kernel
theorem dX10_funds_46 : decode cX10_funds 46 = .ok (.iload 4, 2) := by decide +kernel
theorem dX10_funds_48 : decode cX10_funds 48 = .ok (.if_icmp .lt 19, 3) := by decide +kernel
theorem dX10_funds_51 : decode cX10_funds 51 = .ok (.aload_n 0, 1) := by decide +kernel
theorem dX10_funds_52 : decode cX10_funds 52 = .ok (.getfield 13, 3) := by decide +kernel
theorem dX10_funds_55 : decode cX10_funds 55 = .ok (.bipush 10, 2) := by decide +kernel
theorem dX10_funds_57 : decode cX10_funds 57 = .ok (.iconst 3, 1) := by decide +kernel
theorem dX10_funds_58 : decode cX10_funds 58 = .ok (.iload_n 1, 1) := by decide +kernel
theorem dX10_funds_59 : decode cX10_funds 59 = .ok (.imul, 1) := by decide +kernel
theorem dX10_funds_60 : decode cX10_funds 60 = .ok (.iadd, 1) := by decide +kernel
theorem dX10_funds_61 : decode cX10_funds 61 = .ok (.iaload, 1) := by decide +kernel
theorem dX10_funds_62 : decode cX10_funds 62 = .ok (.iload 4, 2) := by decide +kernel
theorem dX10_funds_64 : decode cX10_funds 64 = .ok (.if_icmp .ge 6, 3) := by decide +kernel
theorem dX10_funds_67 : decode cX10_funds 67 = .ok (.bipush (-4), 2) := by decide +kernel
theorem dX10_funds_69 : decode cX10_funds 69 = .ok (.ireturn, 1) := by decide +kernel
theorem dX10_funds_70 : decode cX10_funds 70 = .ok (.aload_n 0, 1) := by decide +kernel
theorem dX10_funds_71 : decode cX10_funds 71 = .ok (.getfield 13, 3) := by decide +kernel
theorem dX10_funds_74 : decode cX10_funds 74 = .ok (.iconst 3, 1) := by decide +kernel
theorem dX10_funds_75 : decode cX10_funds 75 = .ok (.iaload, 1) := by decide +kernel
theorem dX10_funds_76 : decode cX10_funds 76 = .ok (.bipush 60, 2) := by decide +kernel
theorem dX10_funds_78 : decode cX10_funds 78 = .ok (.if_icmp .ne 6, 3) := by decide +kernel
theorem dX10_funds_81 : decode cX10_funds 81 = .ok (.bipush (-3), 2) := by decide +kernel
theorem dX10_funds_83 : decode cX10_funds 83 = .ok (.ireturn, 1) := by decide +kernel
theorem dX10_funds_84 : decode cX10_funds 84 = .ok (.sipush 144, 3) := by decide +kernel
theorem dX10_funds_87 : decode cX10_funds 87 = .ok (.bipush 7, 2) := by decide +kernel
theorem dX10_funds_89 : decode cX10_funds 89 = .ok (.aload_n 0, 1) := by decide +kernel
theorem dX10_funds_90 : decode cX10_funds 90 = .ok (.getfield 13, 3) := by decide +kernel
theorem dX10_funds_93 : decode cX10_funds 93 = .ok (.iconst 3, 1) := by decide +kernel
theorem dX10_funds_94 : decode cX10_funds 94 = .ok (.iaload, 1) := by decide +kernel
theorem dX10_funds_95 : decode cX10_funds 95 = .ok (.imul, 1) := by decide +kernel
theorem dX10_funds_96 : decode cX10_funds 96 = .ok (.iadd, 1) := by decide +kernel
theorem dX10_funds_97 : decode cX10_funds 97 = .ok (.istore 5, 2) := by decide +kernel
theorem dX10_funds_99 : decode cX10_funds 99 = .ok (.iconst 0, 1) := by decide +kernel
theorem dX10_funds_100 : decode cX10_funds 100 = .ok (.istore 6, 2) := by decide +kernel
theorem dX10_funds_102 : decode cX10_funds 102 = .ok (.iload 6, 2) := by decide +kernel
theorem dX10_funds_104 : decode cX10_funds 104 = .ok (.bipush 7, 2) := by decide +kernel
theorem dX10_funds_106 : decode cX10_funds 106 = .ok (.if_icmp .ge 20, 3) := by decide +kernel
theorem dX10_funds_109 : decode cX10_funds 109 = .ok (.aload_n 0, 1) := by decide +kernel
theorem dX10_funds_110 : decode cX10_funds 110 = .ok (.getfield 13, 3) := by decide +kernel
theorem dX10_funds_113 : decode cX10_funds 113 = .ok (.iload 5, 2) := by decide +kernel
theorem dX10_funds_115 : decode cX10_funds 115 = .ok (.iload 6, 2) := by decide +kernel
theorem dX10_funds_117 : decode cX10_funds 117 = .ok (.iadd, 1) := by decide +kernel
theorem dX10_funds_118 : decode cX10_funds 118 = .ok (.iconst 0, 1) := by decide +kernel
theorem dX10_funds_119 : decode cX10_funds 119 = .ok (.iastore, 1) := by decide +kernel
theorem dX10_funds_120 : decode cX10_funds 120 = .ok (.iinc 6 1, 3) := by decide +kernel
theorem dX10_funds_123 : decode cX10_funds 123 = .ok (.goto (-21), 3) := by decide +kernel
theorem dX10_funds_126 : decode cX10_funds 126 = .ok (.aload_n 0, 1) := by decide +kernel
theorem dX10_funds_127 : decode cX10_funds 127 = .ok (.getfield 13, 3) := by decide +kernel
theorem dX10_funds_130 : decode cX10_funds 130 = .ok (.iload 5, 2) := by decide +kernel
theorem dX10_funds_132 : decode cX10_funds 132 = .ok (.iconst 0, 1) := by decide +kernel
theorem dX10_funds_133 : decode cX10_funds 133 = .ok (.iadd, 1) := by decide +kernel
theorem dX10_funds_134 : decode cX10_funds 134 = .ok (.iload_n 1, 1) := by decide +kernel
theorem dX10_funds_135 : decode cX10_funds 135 = .ok (.iastore, 1) := by decide +kernel
theorem dX10_funds_136 : decode cX10_funds 136 = .ok (.aload_n 0, 1) := by decide +kernel
theorem dX10_funds_137 : decode cX10_funds 137 = .ok (.getfield 13, 3) := by decide +kernel
theorem dX10_funds_140 : decode cX10_funds 140 = .ok (.iload 5, 2) := by decide +kernel
theorem dX10_funds_142 : decode cX10_funds 142 = .ok (.iconst 1, 1) := by decide +kernel
theorem dX10_funds_143 : decode cX10_funds 143 = .ok (.iadd, 1) := by decide +kernel
theorem dX10_funds_144 : decode cX10_funds 144 = .ok (.iload_n 2, 1) := by decide +kernel
theorem dX10_funds_145 : decode cX10_funds 145 = .ok (.iastore, 1) := by decide +kernel
theorem dX10_funds_146 : decode cX10_funds 146 = .ok (.aload_n 0, 1) := by decide +kernel
theorem dX10_funds_147 : decode cX10_funds 147 = .ok (.getfield 13, 3) := by decide +kernel
theorem dX10_funds_150 : decode cX10_funds 150 = .ok (.iload 5, 2) := by decide +kernel
theorem dX10_funds_152 : decode cX10_funds 152 = .ok (.iconst 2, 1) := by decide +kernel
theorem dX10_funds_153 : decode cX10_funds 153 = .ok (.iadd, 1) := by decide +kernel
theorem dX10_funds_154 : decode cX10_funds 154 = .ok (.iload_n 3, 1) := by decide +kernel
theorem dX10_funds_155 : decode cX10_funds 155 = .ok (.iastore, 1) := by decide +kernel
theorem dX10_funds_156 : decode cX10_funds 156 = .ok (.aload_n 0, 1) := by decide +kernel
theorem dX10_funds_157 : decode cX10_funds 157 = .ok (.getfield 13, 3) := by decide +kernel
theorem dX10_funds_160 : decode cX10_funds 160 = .ok (.iload 5, 2) := by decide +kernel
theorem dX10_funds_162 : decode cX10_funds 162 = .ok (.iconst 3, 1) := by decide +kernel
theorem dX10_funds_163 : decode cX10_funds 163 = .ok (.iadd, 1) := by decide +kernel
theorem dX10_funds_164 : decode cX10_funds 164 = .ok (.iload 4, 2) := by decide +kernel
theorem dX10_funds_166 : decode cX10_funds 166 = .ok (.iastore, 1) := by decide +kernel
theorem dX10_funds_167 : decode cX10_funds 167 = .ok (.aload_n 0, 1) := by decide +kernel
theorem dX10_funds_168 : decode cX10_funds 168 = .ok (.getfield 13, 3) := by decide +kernel
theorem dX10_funds_171 : decode cX10_funds 171 = .ok (.iload 5, 2) := by decide +kernel
theorem dX10_funds_173 : decode cX10_funds 173 = .ok (.iconst 4, 1) := by decide +kernel
theorem dX10_funds_174 : decode cX10_funds 174 = .ok (.iadd, 1) := by decide +kernel
theorem dX10_funds_175 : decode cX10_funds 175 = .ok (.iload 4, 2) := by decide +kernel
theorem dX10_funds_177 : decode cX10_funds 177 = .ok (.iastore, 1) := by decide +kernel
theorem dX10_funds_178 : decode cX10_funds 178 = .ok (.aload_n 0, 1) := by decide +kernel
theorem dX10_funds_179 : decode cX10_funds 179 = .ok (.getfield 13, 3) := by decide +kernel
theorem dX10_funds_182 : decode cX10_funds 182 = .ok (.iconst 3, 1) := by decide +kernel
theorem dX10_funds_183 : decode cX10_funds 183 = .ok (.dup2, 1) := by decide +kernel
theorem dX10_funds_184 : decode cX10_funds 184 = .ok (.iaload, 1) := by decide +kernel
theorem dX10_funds_185 : decode cX10_funds 185 = .ok (.iconst 1, 1) := by decide +kernel
theorem dX10_funds_186 : decode cX10_funds 186 = .ok (.iadd, 1) := by decide +kernel
theorem dX10_funds_187 : decode cX10_funds 187 = .ok (.iastore, 1) := by decide +kernel
theorem dX10_funds_188 : decode cX10_funds 188 = .ok (.aload_n 0, 1) := by decide +kernel
theorem dX10_funds_189 : decode cX10_funds 189 = .ok (.getfield 13, 3) := by decide +kernel
theorem dX10_funds_192 : decode cX10_funds 192 = .ok (.bipush 10, 2) := by decide +kernel
theorem dX10_funds_194 : decode cX10_funds 194 = .ok (.iconst 3, 1) := by decide +kernel
theorem dX10_funds_195 : decode cX10_funds 195 = .ok (.iload_n 1, 1) := by decide +kernel
theorem dX10_funds_196 : decode cX10_funds 196 = .ok (.imul, 1) := by decide +kernel
theorem dX10_funds_197 : decode cX10_funds 197 = .ok (.iadd, 1) := by decide +kernel
theorem dX10_funds_198 : decode cX10_funds 198 = .ok (.dup2, 1) := by decide +kernel
theorem dX10_funds_199 : decode cX10_funds 199 = .ok (.iaload, 1) := by decide +kernel
theorem dX10_funds_200 : decode cX10_funds 200 = .ok (.iload 4, 2) := by decide +kernel
theorem dX10_funds_202 : decode cX10_funds 202 = .ok (.isub, 1) := by decide +kernel
theorem dX10_funds_203 : decode cX10_funds 203 = .ok (.iastore, 1) := by decide +kernel
theorem dX10_funds_204 : decode cX10_funds 204 = .ok (.aload_n 0, 1) := by decide +kernel
theorem dX10_funds_205 : decode cX10_funds 205 = .ok (.iload_n 2, 1) := by decide +kernel
theorem dX10_funds_206 : decode cX10_funds 206 = .ok (.invokevirtual 87, 3) := by decide +kernel
theorem dX10_funds_209 : decode cX10_funds 209 = .ok (.istore 6, 2) := by decide +kernel
theorem dX10_funds_211 : decode cX10_funds 211 = .ok (.iload 6, 2) := by decide +kernel
theorem dX10_funds_213 : decode cX10_funds 213 = .ok (.ifCond .ne 43, 3) := by decide +kernel
theorem dX10_funds_216 : decode cX10_funds 216 = .ok (.aload_n 0, 1) := by decide +kernel
theorem dX10_funds_217 : decode cX10_funds 217 = .ok (.iload_n 2, 1) := by decide +kernel
theorem dX10_funds_218 : decode cX10_funds 218 = .ok (.iconst 3, 1) := by decide +kernel
theorem dX10_funds_219 : decode cX10_funds 219 = .ok (.iconst 1, 1) := by decide +kernel
theorem dX10_funds_220 : decode cX10_funds 220 = .ok (.invokevirtual 74, 3) := by decide +kernel
theorem dX10_funds_223 : decode cX10_funds 223 = .ok (.aload_n 0, 1) := by decide +kernel
theorem dX10_funds_224 : decode cX10_funds 224 = .ok (.iload_n 2, 1) := by decide +kernel
theorem dX10_funds_225 : decode cX10_funds 225 = .ok (.iconst 4, 1) := by decide +kernel
theorem dX10_funds_226 : decode cX10_funds 226 = .ok (.aload_n 0, 1) := by decide +kernel
theorem dX10_funds_227 : decode cX10_funds 227 = .ok (.iload_n 2, 1) := by decide +kernel
theorem dX10_funds_228 : decode cX10_funds 228 = .ok (.iconst 0, 1) := by decide +kernel
theorem dX10_funds_229 : decode cX10_funds 229 = .ok (.invokevirtual 42, 3) := by decide +kernel
theorem dX10_funds_232 : decode cX10_funds 232 = .ok (.invokevirtual 74, 3) := by decide +kernel
theorem dX10_funds_235 : decode cX10_funds 235 = .ok (.aload_n 0, 1) := by decide +kernel
theorem dX10_funds_236 : decode cX10_funds 236 = .ok (.iload_n 2, 1) := by decide +kernel
theorem dX10_funds_237 : decode cX10_funds 237 = .ok (.iconst 5, 1) := by decide +kernel
theorem dX10_funds_238 : decode cX10_funds 238 = .ok (.aload_n 0, 1) := by decide +kernel
theorem dX10_funds_239 : decode cX10_funds 239 = .ok (.iload_n 2, 1) := by decide +kernel
theorem dX10_funds_240 : decode cX10_funds 240 = .ok (.iconst 0, 1) := by decide +kernel
theorem dX10_funds_241 : decode cX10_funds 241 = .ok (.invokevirtual 42, 3) := by decide +kernel
theorem dX10_funds_244 : decode cX10_funds 244 = .ok (.aload_n 0, 1) := by decide +kernel
theorem dX10_funds_245 : decode cX10_funds 245 = .ok (.iload_n 2, 1) := by decide +kernel
theorem dX10_funds_246 : decode cX10_funds 246 = .ok (.iconst 2, 1) := by decide +kernel
theorem dX10_funds_247 : decode cX10_funds 247 = .ok (.invokevirtual 42, 3) := by decide +kernel
theorem dX10_funds_250 : decode cX10_funds 250 = .ok (.invokestatic 90, 3) := by decide +kernel
theorem dX10_funds_253 : decode cX10_funds 253 = .ok (.invokevirtual 74, 3) := by decide +kernel
theorem dX10_funds_256 : decode cX10_funds 256 = .ok (.iload 6, 2) := by decide +kernel
theorem dX10_funds_258 : decode cX10_funds 258 = .ok (.ireturn, 1) := by decide +kernel
theorem dX10_fund_0 : decode cX10_fund 0 = .ok (.aload_n 0, 1) := by decide +kernel
theorem dX10_fund_1 : decode cX10_fund 1 = .ok (.invokevirtual 58, 3) := by decide +kernel
theorem dX10_fund_4 : decode cX10_fund 4 = .ok (.aload_n 0, 1) := by decide +kernel
theorem dX10_fund_5 : decode cX10_fund 5 = .ok (.iload_n 1, 1) := by decide +kernel
theorem dX10_fund_6 : decode cX10_fund 6 = .ok (.iload_n 2, 1) := by decide +kernel
theorem dX10_fund_7 : decode cX10_fund 7 = .ok (.iload_n 3, 1) := by decide +kernel
theorem dX10_fund_8 : decode cX10_fund 8 = .ok (.ifCond .eq 7, 3) := by decide +kernel
theorem dX10_fund_11 : decode cX10_fund 11 = .ok (.iconst 1, 1) := by decide +kernel
theorem dX10_fund_12 : decode cX10_fund 12 = .ok (.goto 4, 3) := by decide +kernel
theorem dX10_fund_15 : decode cX10_fund 15 = .ok (.iconst 0, 1) := by decide +kernel
theorem dX10_fund_16 : decode cX10_fund 16 = .ok (.iload 4, 2) := by decide +kernel
theorem dX10_fund_18 : decode cX10_fund 18 = .ok (.invokevirtual 93, 3) := by decide +kernel
theorem dX10_fund_21 : decode cX10_fund 21 = .ok (.istore 5, 2) := by decide +kernel
theorem dX10_fund_23 : decode cX10_fund 23 = .ok (.iload 5, 2) := by decide +kernel
theorem dX10_fund_25 : decode cX10_fund 25 = .ok (.ifCond .ge 8, 3) := by decide +kernel
theorem dX10_fund_28 : decode cX10_fund 28 = .ok (.iload 5, 2) := by decide +kernel
theorem dX10_fund_30 : decode cX10_fund 30 = .ok (.goto 9, 3) := by decide +kernel
theorem dX10_fund_33 : decode cX10_fund 33 = .ok (.aload_n 0, 1) := by decide +kernel
theorem dX10_fund_34 : decode cX10_fund 34 = .ok (.iload 5, 2) := by decide +kernel
theorem dX10_fund_36 : decode cX10_fund 36 = .ok (.invokevirtual 61, 3) := by decide +kernel
theorem dX10_fund_39 : decode cX10_fund 39 = .ok (.ireturn, 1) := by decide +kernel
theorem dX10_ends_0 : decode cX10_ends 0 = .ok (.aload_n 0, 1) := by decide +kernel
theorem dX10_ends_1 : decode cX10_ends 1 = .ok (.iload_n 1, 1) := by decide +kernel
theorem dX10_ends_2 : decode cX10_ends 2 = .ok (.iconst 3, 1) := by decide +kernel
theorem dX10_ends_3 : decode cX10_ends 3 = .ok (.iload_n 2, 1) := by decide +kernel
theorem dX10_ends_4 : decode cX10_ends 4 = .ok (.invokevirtual 74, 3) := by decide +kernel
theorem dX10_ends_7 : decode cX10_ends 7 = .ok (.aload_n 0, 1) := by decide +kernel
theorem dX10_ends_8 : decode cX10_ends 8 = .ok (.iload_n 1, 1) := by decide +kernel
theorem dX10_ends_9 : decode cX10_ends 9 = .ok (.bipush 8, 2) := by decide +kernel
theorem dX10_ends_11 : decode cX10_ends 11 = .ok (.iconst 0, 1) := by decide +kernel
theorem dX10_ends_12 : decode cX10_ends 12 = .ok (.invokevirtual 74, 3) := by decide +kernel
theorem dX10_ends_15 : decode cX10_ends 15 = .ok (.aload_n 0, 1) := by decide +kernel
theorem dX10_ends_16 : decode cX10_ends 16 = .ok (.iload_n 1, 1) := by decide +kernel
theorem dX10_ends_17 : decode cX10_ends 17 = .ok (.bipush 10, 2) := by decide +kernel
theorem dX10_ends_19 : decode cX10_ends 19 = .ok (.bipush (-5), 2) := by decide +kernel
theorem dX10_ends_21 : decode cX10_ends 21 = .ok (.invokevirtual 74, 3) := by decide +kernel
theorem dX10_ends_24 : decode cX10_ends 24 = .ok (.return_, 1) := by decide +kernel
theorem dX10_giveUp_0 : decode cX10_giveUp 0 = .ok (.aload_n 0, 1) := by decide +kernel
theorem dX10_giveUp_1 : decode cX10_giveUp 1 = .ok (.invokevirtual 58, 3) := by decide +kernel
theorem dX10_giveUp_4 : decode cX10_giveUp 4 = .ok (.aload_n 0, 1) := by decide +kernel
theorem dX10_giveUp_5 : decode cX10_giveUp 5 = .ok (.iload_n 1, 1) := by decide +kernel
theorem dX10_giveUp_6 : decode cX10_giveUp 6 = .ok (.invokevirtual 84, 3) := by decide +kernel
theorem dX10_giveUp_9 : decode cX10_giveUp 9 = .ok (.ifCond .ne 5, 3) := by decide +kernel
theorem dX10_giveUp_12 : decode cX10_giveUp 12 = .ok (.iconst (-1), 1) := by decide +kernel
theorem dX10_giveUp_13 : decode cX10_giveUp 13 = .ok (.ireturn, 1) := by decide +kernel
theorem dX10_giveUp_14 : decode cX10_giveUp 14 = .ok (.aload_n 0, 1) := by decide +kernel
theorem dX10_giveUp_15 : decode cX10_giveUp 15 = .ok (.iload_n 1, 1) := by decide +kernel
theorem dX10_giveUp_16 : decode cX10_giveUp 16 = .ok (.iconst 3, 1) := by decide +kernel
theorem dX10_giveUp_17 : decode cX10_giveUp 17 = .ok (.invokevirtual 42, 3) := by decide +kernel
theorem dX10_giveUp_20 : decode cX10_giveUp 20 = .ok (.ifCond .eq 6, 3) := by decide +kernel
theorem dX10_giveUp_23 : decode cX10_giveUp 23 = .ok (.bipush (-4), 2) := by decide +kernel
theorem dX10_giveUp_25 : decode cX10_giveUp 25 = .ok (.ireturn, 1) := by decide +kernel
theorem dX10_giveUp_26 : decode cX10_giveUp 26 = .ok (.aload_n 0, 1) := by decide +kernel
theorem dX10_giveUp_27 : decode cX10_giveUp 27 = .ok (.iload_n 1, 1) := by decide +kernel
theorem dX10_giveUp_28 : decode cX10_giveUp 28 = .ok (.iconst 2, 1) := by decide +kernel
theorem dX10_giveUp_29 : decode cX10_giveUp 29 = .ok (.invokevirtual 81, 3) := by decide +kernel
theorem dX10_giveUp_32 : decode cX10_giveUp 32 = .ok (.istore_n 2, 1) := by decide +kernel
theorem dX10_giveUp_33 : decode cX10_giveUp 33 = .ok (.iconst 0, 1) := by decide +kernel
theorem dX10_giveUp_34 : decode cX10_giveUp 34 = .ok (.istore_n 3, 1) := by decide +kernel
theorem dX10_giveUp_35 : decode cX10_giveUp 35 = .ok (.iload_n 3, 1) := by decide +kernel
theorem dX10_giveUp_36 : decode cX10_giveUp 36 = .ok (.aload_n 0, 1) := by decide +kernel
theorem dX10_giveUp_37 : decode cX10_giveUp 37 = .ok (.getfield 13, 3) := by decide +kernel
theorem dX10_giveUp_40 : decode cX10_giveUp 40 = .ok (.iconst 3, 1) := by decide +kernel
theorem dX10_giveUp_41 : decode cX10_giveUp 41 = .ok (.iaload, 1) := by decide +kernel
theorem dX10_giveUp_42 : decode cX10_giveUp 42 = .ok (.if_icmp .ge 48, 3) := by decide +kernel
theorem dX10_giveUp_45 : decode cX10_giveUp 45 = .ok (.aload_n 0, 1) := by decide +kernel
theorem dX10_giveUp_46 : decode cX10_giveUp 46 = .ok (.iload_n 3, 1) := by decide +kernel
theorem dX10_giveUp_47 : decode cX10_giveUp 47 = .ok (.iconst 1, 1) := by decide +kernel
theorem dX10_giveUp_48 : decode cX10_giveUp 48 = .ok (.invokevirtual 78, 3) := by decide +kernel
theorem dX10_giveUp_51 : decode cX10_giveUp 51 = .ok (.iload_n 1, 1) := by decide +kernel
theorem dX10_giveUp_52 : decode cX10_giveUp 52 = .ok (.if_icmp .ne 32, 3) := by decide +kernel
theorem dX10_giveUp_55 : decode cX10_giveUp 55 = .ok (.aload_n 0, 1) := by decide +kernel
theorem dX10_giveUp_56 : decode cX10_giveUp 56 = .ok (.aload_n 0, 1) := by decide +kernel
theorem dX10_giveUp_57 : decode cX10_giveUp 57 = .ok (.iload_n 3, 1) := by decide +kernel
theorem dX10_giveUp_58 : decode cX10_giveUp 58 = .ok (.iconst 0, 1) := by decide +kernel
theorem dX10_giveUp_59 : decode cX10_giveUp 59 = .ok (.invokevirtual 78, 3) := by decide +kernel
theorem dX10_giveUp_62 : decode cX10_giveUp 62 = .ok (.aload_n 0, 1) := by decide +kernel
theorem dX10_giveUp_63 : decode cX10_giveUp 63 = .ok (.iload_n 3, 1) := by decide +kernel
theorem dX10_giveUp_64 : decode cX10_giveUp 64 = .ok (.iconst 3, 1) := by decide +kernel
theorem dX10_giveUp_65 : decode cX10_giveUp 65 = .ok (.invokevirtual 78, 3) := by decide +kernel
theorem dX10_giveUp_68 : decode cX10_giveUp 68 = .ok (.invokevirtual 69, 3) := by decide +kernel
theorem dX10_giveUp_71 : decode cX10_giveUp 71 = .ok (.aload_n 0, 1) := by decide +kernel
theorem dX10_giveUp_72 : decode cX10_giveUp 72 = .ok (.iload_n 3, 1) := by decide +kernel
theorem dX10_giveUp_73 : decode cX10_giveUp 73 = .ok (.iconst 3, 1) := by decide +kernel
theorem dX10_giveUp_74 : decode cX10_giveUp 74 = .ok (.aload_n 0, 1) := by decide +kernel
theorem dX10_giveUp_75 : decode cX10_giveUp 75 = .ok (.iload_n 3, 1) := by decide +kernel
theorem dX10_giveUp_76 : decode cX10_giveUp 76 = .ok (.iconst 3, 1) := by decide +kernel
theorem dX10_giveUp_77 : decode cX10_giveUp 77 = .ok (.invokevirtual 78, 3) := by decide +kernel
theorem dX10_giveUp_80 : decode cX10_giveUp 80 = .ok (.ineg, 1) := by decide +kernel
theorem dX10_giveUp_81 : decode cX10_giveUp 81 = .ok (.invokevirtual 97, 3) := by decide +kernel
theorem dX10_giveUp_84 : decode cX10_giveUp 84 = .ok (.iinc 3 1, 3) := by decide +kernel
theorem dX10_giveUp_87 : decode cX10_giveUp 87 = .ok (.goto (-52), 3) := by decide +kernel
theorem dX10_giveUp_90 : decode cX10_giveUp 90 = .ok (.aload_n 0, 1) := by decide +kernel
theorem dX10_giveUp_91 : decode cX10_giveUp 91 = .ok (.iload_n 1, 1) := by decide +kernel
theorem dX10_giveUp_92 : decode cX10_giveUp 92 = .ok (.iconst 4, 1) := by decide +kernel
theorem dX10_giveUp_93 : decode cX10_giveUp 93 = .ok (.invokevirtual 100, 3) := by decide +kernel
theorem dX10_giveUp_96 : decode cX10_giveUp 96 = .ok (.aload_n 0, 1) := by decide +kernel
theorem dX10_giveUp_97 : decode cX10_giveUp 97 = .ok (.iload_n 2, 1) := by decide +kernel
theorem dX10_giveUp_98 : decode cX10_giveUp 98 = .ok (.invokevirtual 61, 3) := by decide +kernel
theorem dX10_giveUp_101 : decode cX10_giveUp 101 = .ok (.ireturn, 1) := by decide +kernel
theorem dX10_weigh_0 : decode cX10_weigh 0 = .ok (.iconst 0, 1) := by decide +kernel
theorem dX10_weigh_1 : decode cX10_weigh 1 = .ok (.istore_n 3, 1) := by decide +kernel
theorem dX10_weigh_2 : decode cX10_weigh 2 = .ok (.iconst 0, 1) := by decide +kernel
theorem dX10_weigh_3 : decode cX10_weigh 3 = .ok (.istore 4, 2) := by decide +kernel
theorem dX10_weigh_5 : decode cX10_weigh 5 = .ok (.iload 4, 2) := by decide +kernel
theorem dX10_weigh_7 : decode cX10_weigh 7 = .ok (.aload_n 0, 1) := by decide +kernel
theorem dX10_weigh_8 : decode cX10_weigh 8 = .ok (.getfield 13, 3) := by decide +kernel
theorem dX10_weigh_11 : decode cX10_weigh 11 = .ok (.iconst 3, 1) := by decide +kernel
theorem dX10_weigh_12 : decode cX10_weigh 12 = .ok (.iaload, 1) := by decide +kernel
theorem dX10_weigh_13 : decode cX10_weigh 13 = .ok (.if_icmp .ge 64, 3) := by decide +kernel
theorem dX10_weigh_16 : decode cX10_weigh 16 = .ok (.aload_n 0, 1) := by decide +kernel
theorem dX10_weigh_17 : decode cX10_weigh 17 = .ok (.getfield 29, 3) := by decide +kernel
theorem dX10_weigh_20 : decode cX10_weigh 20 = .ok (.iload 4, 2) := by decide +kernel
theorem dX10_weigh_22 : decode cX10_weigh 22 = .ok (.aload_n 0, 1) := by decide +kernel
theorem dX10_weigh_23 : decode cX10_weigh 23 = .ok (.iload 4, 2) := by decide +kernel
theorem dX10_weigh_25 : decode cX10_weigh 25 = .ok (.iconst 1, 1) := by decide +kernel
theorem dX10_weigh_26 : decode cX10_weigh 26 = .ok (.invokevirtual 78, 3) := by decide +kernel
theorem dX10_weigh_29 : decode cX10_weigh 29 = .ok (.iload_n 1, 1) := by decide +kernel
theorem dX10_weigh_30 : decode cX10_weigh 30 = .ok (.if_icmp .ne 29, 3) := by decide +kernel
theorem dX10_weigh_33 : decode cX10_weigh 33 = .ok (.iload_n 2, 1) := by decide +kernel
theorem dX10_weigh_34 : decode cX10_weigh 34 = .ok (.iconst 2, 1) := by decide +kernel
theorem dX10_weigh_35 : decode cX10_weigh 35 = .ok (.if_icmp .eq 14, 3) := by decide +kernel
theorem dX10_weigh_38 : decode cX10_weigh 38 = .ok (.aload_n 0, 1) := by decide +kernel
theorem dX10_weigh_39 : decode cX10_weigh 39 = .ok (.iload 4, 2) := by decide +kernel
theorem dX10_weigh_41 : decode cX10_weigh 41 = .ok (.iconst 2, 1) := by decide +kernel
theorem dX10_weigh_42 : decode cX10_weigh 42 = .ok (.invokevirtual 78, 3) := by decide +kernel
theorem dX10_weigh_45 : decode cX10_weigh 45 = .ok (.iload_n 2, 1) := by decide +kernel
theorem dX10_weigh_46 : decode cX10_weigh 46 = .ok (.if_icmp .ne 13, 3) := by decide +kernel
theorem dX10_weigh_49 : decode cX10_weigh 49 = .ok (.aload_n 0, 1) := by decide +kernel
theorem dX10_weigh_50 : decode cX10_weigh 50 = .ok (.iload 4, 2) := by decide +kernel
theorem dX10_weigh_52 : decode cX10_weigh 52 = .ok (.iconst 3, 1) := by decide +kernel
theorem dX10_weigh_53 : decode cX10_weigh 53 = .ok (.invokevirtual 78, 3) := by decide +kernel
theorem dX10_weigh_56 : decode cX10_weigh 56 = .ok (.goto 4, 3) := by decide +kernel
theorem dX10_weigh_59 : decode cX10_weigh 59 = .ok (.iconst 0, 1) := by decide +kernel
theorem dX10_weigh_60 : decode cX10_weigh 60 = .ok (.iastore, 1) := by decide +kernel
theorem dX10_weigh_61 : decode cX10_weigh 61 = .ok (.iload_n 3, 1) := by decide +kernel
theorem dX10_weigh_62 : decode cX10_weigh 62 = .ok (.aload_n 0, 1) := by decide +kernel
theorem dX10_weigh_63 : decode cX10_weigh 63 = .ok (.getfield 29, 3) := by decide +kernel
theorem dX10_weigh_66 : decode cX10_weigh 66 = .ok (.iload 4, 2) := by decide +kernel
theorem dX10_weigh_68 : decode cX10_weigh 68 = .ok (.iaload, 1) := by decide +kernel
theorem dX10_weigh_69 : decode cX10_weigh 69 = .ok (.iadd, 1) := by decide +kernel
theorem dX10_weigh_70 : decode cX10_weigh 70 = .ok (.istore_n 3, 1) := by decide +kernel
theorem dX10_weigh_71 : decode cX10_weigh 71 = .ok (.iinc 4 1, 3) := by decide +kernel
theorem dX10_weigh_74 : decode cX10_weigh 74 = .ok (.goto (-69), 3) := by decide +kernel
theorem dX10_weigh_77 : decode cX10_weigh 77 = .ok (.iload_n 3, 1) := by decide +kernel
theorem dX10_weigh_78 : decode cX10_weigh 78 = .ok (.ireturn, 1) := by decide +kernel
theorem dX10_share_0 : decode cX10_share 0 = .ok (.iload_n 1, 1) := by decide +kernel
theorem dX10_share_1 : decode cX10_share 1 = .ok (.istore_n 3, 1) := by decide +kernel
theorem dX10_share_2 : decode cX10_share 2 = .ok (.iconst 0, 1) := by decide +kernel
theorem dX10_share_3 : decode cX10_share 3 = .ok (.istore 4, 2) := by decide +kernel
theorem dX10_share_5 : decode cX10_share 5 = .ok (.iload 4, 2) := by decide +kernel
theorem dX10_share_7 : decode cX10_share 7 = .ok (.aload_n 0, 1) := by decide +kernel
theorem dX10_share_8 : decode cX10_share 8 = .ok (.getfield 13, 3) := by decide +kernel
theorem dX10_share_11 : decode cX10_share 11 = .ok (.iconst 3, 1) := by decide +kernel
theorem dX10_share_12 : decode cX10_share 12 = .ok (.iaload, 1) := by decide +kernel
theorem dX10_share_13 : decode cX10_share 13 = .ok (.if_icmp .ge 49, 3) := by decide +kernel
theorem dX10_share_16 : decode cX10_share 16 = .ok (.aload_n 0, 1) := by decide +kernel
theorem dX10_share_17 : decode cX10_share 17 = .ok (.getfield 32, 3) := by decide +kernel
theorem dX10_share_20 : decode cX10_share 20 = .ok (.iload 4, 2) := by decide +kernel
theorem dX10_share_22 : decode cX10_share 22 = .ok (.iload_n 2, 1) := by decide +kernel
theorem dX10_share_23 : decode cX10_share 23 = .ok (.ifCond .ne 7, 3) := by decide +kernel
theorem dX10_share_26 : decode cX10_share 26 = .ok (.iconst 0, 1) := by decide +kernel
theorem dX10_share_27 : decode cX10_share 27 = .ok (.goto 18, 3) := by decide +kernel
theorem dX10_share_30 : decode cX10_share 30 = .ok (.iload_n 1, 1) := by decide +kernel
theorem dX10_share_31 : decode cX10_share 31 = .ok (.i2l, 1) := by decide +kernel
theorem dX10_share_32 : decode cX10_share 32 = .ok (.aload_n 0, 1) := by decide +kernel
theorem dX10_share_33 : decode cX10_share 33 = .ok (.getfield 29, 3) := by decide +kernel
theorem dX10_share_36 : decode cX10_share 36 = .ok (.iload 4, 2) := by decide +kernel
theorem dX10_share_38 : decode cX10_share 38 = .ok (.iaload, 1) := by decide +kernel
theorem dX10_share_39 : decode cX10_share 39 = .ok (.i2l, 1) := by decide +kernel
theorem dX10_share_40 : decode cX10_share 40 = .ok (.lmul, 1) := by decide +kernel
theorem dX10_share_41 : decode cX10_share 41 = .ok (.iload_n 2, 1) := by decide +kernel
theorem dX10_share_42 : decode cX10_share 42 = .ok (.i2l, 1) := by decide +kernel
theorem dX10_share_43 : decode cX10_share 43 = .ok (.ldiv, 1) := by decide +kernel
theorem dX10_share_44 : decode cX10_share 44 = .ok (.l2i, 1) := by decide +kernel
theorem dX10_share_45 : decode cX10_share 45 = .ok (.iastore, 1) := by decide +kernel
theorem dX10_share_46 : decode cX10_share 46 = .ok (.iload_n 3, 1) := by decide +kernel
theorem dX10_share_47 : decode cX10_share 47 = .ok (.aload_n 0, 1) := by decide +kernel
theorem dX10_share_48 : decode cX10_share 48 = .ok (.getfield 32, 3) := by decide +kernel
theorem dX10_share_51 : decode cX10_share 51 = .ok (.iload 4, 2) := by decide +kernel
theorem dX10_share_53 : decode cX10_share 53 = .ok (.iaload, 1) := by decide +kernel
theorem dX10_share_54 : decode cX10_share 54 = .ok (.isub, 1) := by decide +kernel
theorem dX10_share_55 : decode cX10_share 55 = .ok (.istore_n 3, 1) := by decide +kernel
theorem dX10_share_56 : decode cX10_share 56 = .ok (.iinc 4 1, 3) := by decide +kernel
theorem dX10_share_59 : decode cX10_share 59 = .ok (.goto (-54), 3) := by decide +kernel
theorem dX10_share_62 : decode cX10_share 62 = .ok (.iconst 0, 1) := by decide +kernel
theorem dX10_share_63 : decode cX10_share 63 = .ok (.istore 4, 2) := by decide +kernel
theorem dX10_share_65 : decode cX10_share 65 = .ok (.iload 4, 2) := by decide +kernel
theorem dX10_share_67 : decode cX10_share 67 = .ok (.aload_n 0, 1) := by decide +kernel
theorem dX10_share_68 : decode cX10_share 68 = .ok (.getfield 13, 3) := by decide +kernel
theorem dX10_share_71 : decode cX10_share 71 = .ok (.iconst 3, 1) := by decide +kernel
theorem dX10_share_72 : decode cX10_share 72 = .ok (.iaload, 1) := by decide +kernel
theorem dX10_share_73 : decode cX10_share 73 = .ok (.if_icmp .ge 51, 3) := by decide +kernel
theorem dX10_share_76 : decode cX10_share 76 = .ok (.iload_n 2, 1) := by decide +kernel
theorem dX10_share_77 : decode cX10_share 77 = .ok (.ifCond .le 47, 3) := by decide +kernel
theorem dX10_share_80 : decode cX10_share 80 = .ok (.iload_n 3, 1) := by decide +kernel
theorem dX10_share_81 : decode cX10_share 81 = .ok (.ifCond .le 17, 3) := by decide +kernel
theorem dX10_share_84 : decode cX10_share 84 = .ok (.aload_n 0, 1) := by decide +kernel
theorem dX10_share_85 : decode cX10_share 85 = .ok (.getfield 29, 3) := by decide +kernel
theorem dX10_share_88 : decode cX10_share 88 = .ok (.iload 4, 2) := by decide +kernel
theorem dX10_share_90 : decode cX10_share 90 = .ok (.iaload, 1) := by decide +kernel
theorem dX10_share_91 : decode cX10_share 91 = .ok (.ifCond .le 7, 3) := by decide +kernel
theorem dX10_share_94 : decode cX10_share 94 = .ok (.iconst 1, 1) := by decide +kernel
theorem dX10_share_95 : decode cX10_share 95 = .ok (.goto 4, 3) := by decide +kernel
theorem dX10_share_98 : decode cX10_share 98 = .ok (.iconst 0, 1) := by decide +kernel
theorem dX10_share_99 : decode cX10_share 99 = .ok (.istore 5, 2) := by decide +kernel
theorem dX10_share_101 : decode cX10_share 101 = .ok (.aload_n 0, 1) := by decide +kernel
theorem dX10_share_102 : decode cX10_share 102 = .ok (.getfield 32, 3) := by decide +kernel
theorem dX10_share_105 : decode cX10_share 105 = .ok (.iload 4, 2) := by decide +kernel
theorem dX10_share_107 : decode cX10_share 107 = .ok (.dup2, 1) := by decide +kernel
theorem dX10_share_108 : decode cX10_share 108 = .ok (.iaload, 1) := by decide +kernel
theorem dX10_share_109 : decode cX10_share 109 = .ok (.iload 5, 2) := by decide +kernel
theorem dX10_share_111 : decode cX10_share 111 = .ok (.iadd, 1) := by decide +kernel
theorem dX10_share_112 : decode cX10_share 112 = .ok (.iastore, 1) := by decide +kernel
theorem dX10_share_113 : decode cX10_share 113 = .ok (.iload_n 3, 1) := by decide +kernel
theorem dX10_share_114 : decode cX10_share 114 = .ok (.iload 5, 2) := by decide +kernel
theorem dX10_share_116 : decode cX10_share 116 = .ok (.isub, 1) := by decide +kernel
theorem dX10_share_117 : decode cX10_share 117 = .ok (.istore_n 3, 1) := by decide +kernel
theorem dX10_share_118 : decode cX10_share 118 = .ok (.iinc 4 1, 3) := by decide +kernel
theorem dX10_share_121 : decode cX10_share 121 = .ok (.goto (-56), 3) := by decide +kernel
theorem dX10_share_124 : decode cX10_share 124 = .ok (.return_, 1) := by decide +kernel
theorem dX10_payInterest_0 : decode cX10_payInterest 0 = .ok (.aload_n 0, 1) := by decide +kernel
theorem dX10_payInterest_1 : decode cX10_payInterest 1 = .ok (.iload_n 2, 1) := by decide +kernel
theorem dX10_payInterest_2 : decode cX10_payInterest 2 = .ok (.aload_n 0, 1) := by decide +kernel
theorem dX10_payInterest_3 : decode cX10_payInterest 3 = .ok (.iload_n 1, 1) := by decide +kernel
theorem dX10_payInterest_4 : decode cX10_payInterest 4 = .ok (.iconst 2, 1) := by decide +kernel
theorem dX10_payInterest_5 : decode cX10_payInterest 5 = .ok (.invokevirtual 103, 3) := by decide +kernel
theorem dX10_payInterest_8 : decode cX10_payInterest 8 = .ok (.invokevirtual 106, 3) := by decide +kernel
theorem dX10_payInterest_11 : decode cX10_payInterest 11 = .ok (.iconst 0, 1) := by decide +kernel
theorem dX10_payInterest_12 : decode cX10_payInterest 12 = .ok (.istore_n 3, 1) := by decide +kernel
theorem dX10_payInterest_13 : decode cX10_payInterest 13 = .ok (.iload_n 3, 1) := by decide +kernel
theorem dX10_payInterest_14 : decode cX10_payInterest 14 = .ok (.aload_n 0, 1) := by decide +kernel
theorem dX10_payInterest_15 : decode cX10_payInterest 15 = .ok (.getfield 13, 3) := by decide +kernel
theorem dX10_payInterest_18 : decode cX10_payInterest 18 = .ok (.iconst 3, 1) := by decide +kernel
theorem dX10_payInterest_19 : decode cX10_payInterest 19 = .ok (.iaload, 1) := by decide +kernel
theorem dX10_payInterest_20 : decode cX10_payInterest 20 = .ok (.if_icmp .ge 64, 3) := by decide +kernel
theorem dX10_payInterest_23 : decode cX10_payInterest 23 = .ok (.aload_n 0, 1) := by decide +kernel
theorem dX10_payInterest_24 : decode cX10_payInterest 24 = .ok (.aload_n 0, 1) := by decide +kernel
theorem dX10_payInterest_25 : decode cX10_payInterest 25 = .ok (.iload_n 3, 1) := by decide +kernel
theorem dX10_payInterest_26 : decode cX10_payInterest 26 = .ok (.iconst 0, 1) := by decide +kernel
theorem dX10_payInterest_27 : decode cX10_payInterest 27 = .ok (.invokevirtual 78, 3) := by decide +kernel
theorem dX10_payInterest_30 : decode cX10_payInterest 30 = .ok (.aload_n 0, 1) := by decide +kernel
theorem dX10_payInterest_31 : decode cX10_payInterest 31 = .ok (.getfield 32, 3) := by decide +kernel
theorem dX10_payInterest_34 : decode cX10_payInterest 34 = .ok (.iload_n 3, 1) := by decide +kernel
theorem dX10_payInterest_35 : decode cX10_payInterest 35 = .ok (.iaload, 1) := by decide +kernel
theorem dX10_payInterest_36 : decode cX10_payInterest 36 = .ok (.invokevirtual 69, 3) := by decide +kernel
theorem dX10_payInterest_39 : decode cX10_payInterest 39 = .ok (.aload_n 0, 1) := by decide +kernel
theorem dX10_payInterest_40 : decode cX10_payInterest 40 = .ok (.getfield 13, 3) := by decide +kernel
theorem dX10_payInterest_43 : decode cX10_payInterest 43 = .ok (.bipush 10, 2) := by decide +kernel
theorem dX10_payInterest_45 : decode cX10_payInterest 45 = .ok (.iconst 3, 1) := by decide +kernel
theorem dX10_payInterest_46 : decode cX10_payInterest 46 = .ok (.aload_n 0, 1) := by decide +kernel
theorem dX10_payInterest_47 : decode cX10_payInterest 47 = .ok (.iload_n 3, 1) := by decide +kernel
theorem dX10_payInterest_48 : decode cX10_payInterest 48 = .ok (.iconst 0, 1) := by decide +kernel
theorem dX10_payInterest_49 : decode cX10_payInterest 49 = .ok (.invokevirtual 78, 3) := by decide +kernel
theorem dX10_payInterest_52 : decode cX10_payInterest 52 = .ok (.imul, 1) := by decide +kernel
theorem dX10_payInterest_53 : decode cX10_payInterest 53 = .ok (.iadd, 1) := by decide +kernel
theorem dX10_payInterest_54 : decode cX10_payInterest 54 = .ok (.iconst 1, 1) := by decide +kernel
theorem dX10_payInterest_55 : decode cX10_payInterest 55 = .ok (.iadd, 1) := by decide +kernel
theorem dX10_payInterest_56 : decode cX10_payInterest 56 = .ok (.dup2, 1) := by decide +kernel
theorem dX10_payInterest_57 : decode cX10_payInterest 57 = .ok (.iaload, 1) := by decide +kernel
theorem dX10_payInterest_58 : decode cX10_payInterest 58 = .ok (.aload_n 0, 1) := by decide +kernel
theorem dX10_payInterest_59 : decode cX10_payInterest 59 = .ok (.getfield 32, 3) := by decide +kernel
theorem dX10_payInterest_62 : decode cX10_payInterest 62 = .ok (.iload_n 3, 1) := by decide +kernel
theorem dX10_payInterest_63 : decode cX10_payInterest 63 = .ok (.iaload, 1) := by decide +kernel
theorem dX10_payInterest_64 : decode cX10_payInterest 64 = .ok (.iadd, 1) := by decide +kernel
theorem dX10_payInterest_65 : decode cX10_payInterest 65 = .ok (.iastore, 1) := by decide +kernel
theorem dX10_payInterest_66 : decode cX10_payInterest 66 = .ok (.aload_n 0, 1) := by decide +kernel
theorem dX10_payInterest_67 : decode cX10_payInterest 67 = .ok (.iload_n 3, 1) := by decide +kernel
theorem dX10_payInterest_68 : decode cX10_payInterest 68 = .ok (.iconst 5, 1) := by decide +kernel
theorem dX10_payInterest_69 : decode cX10_payInterest 69 = .ok (.aload_n 0, 1) := by decide +kernel
theorem dX10_payInterest_70 : decode cX10_payInterest 70 = .ok (.getfield 32, 3) := by decide +kernel
theorem dX10_payInterest_73 : decode cX10_payInterest 73 = .ok (.iload_n 3, 1) := by decide +kernel
theorem dX10_payInterest_74 : decode cX10_payInterest 74 = .ok (.iaload, 1) := by decide +kernel
theorem dX10_payInterest_75 : decode cX10_payInterest 75 = .ok (.invokevirtual 97, 3) := by decide +kernel
theorem dX10_payInterest_78 : decode cX10_payInterest 78 = .ok (.iinc 3 1, 3) := by decide +kernel
theorem dX10_payInterest_81 : decode cX10_payInterest 81 = .ok (.goto (-68), 3) := by decide +kernel
theorem dX10_payInterest_84 : decode cX10_payInterest 84 = .ok (.return_, 1) := by decide +kernel
theorem dX10_payPrincipal_0 : decode cX10_payPrincipal 0 = .ok (.aload_n 0, 1) := by decide +kernel
theorem dX10_payPrincipal_1 : decode cX10_payPrincipal 1 = .ok (.iload_n 1, 1) := by decide +kernel
theorem dX10_payPrincipal_2 : decode cX10_payPrincipal 2 = .ok (.iload_n 2, 1) := by decide +kernel
theorem dX10_payPrincipal_3 : decode cX10_payPrincipal 3 = .ok (.invokevirtual 103, 3) := by decide +kernel
theorem dX10_payPrincipal_6 : decode cX10_payPrincipal 6 = .ok (.istore 4, 2) := by decide +kernel
theorem dX10_payPrincipal_8 : decode cX10_payPrincipal 8 = .ok (.iload_n 3, 1) := by decide +kernel
theorem dX10_payPrincipal_9 : decode cX10_payPrincipal 9 = .ok (.iload 4, 2) := by decide +kernel
theorem dX10_payPrincipal_11 : decode cX10_payPrincipal 11 = .ok (.if_icmp .ge 7, 3) := by decide +kernel
theorem dX10_payPrincipal_14 : decode cX10_payPrincipal 14 = .ok (.iload_n 3, 1) := by decide +kernel
theorem dX10_payPrincipal_15 : decode cX10_payPrincipal 15 = .ok (.goto 5, 3) := by decide +kernel
theorem dX10_payPrincipal_18 : decode cX10_payPrincipal 18 = .ok (.iload 4, 2) := by decide +kernel
theorem dX10_payPrincipal_20 : decode cX10_payPrincipal 20 = .ok (.istore 5, 2) := by decide +kernel
theorem dX10_payPrincipal_22 : decode cX10_payPrincipal 22 = .ok (.aload_n 0, 1) := by decide +kernel
theorem dX10_payPrincipal_23 : decode cX10_payPrincipal 23 = .ok (.iload 5, 2) := by decide +kernel
theorem dX10_payPrincipal_25 : decode cX10_payPrincipal 25 = .ok (.iload 4, 2) := by decide +kernel
theorem dX10_payPrincipal_27 : decode cX10_payPrincipal 27 = .ok (.invokevirtual 106, 3) := by decide +kernel
theorem dX10_payPrincipal_30 : decode cX10_payPrincipal 30 = .ok (.iconst 0, 1) := by decide +kernel
theorem dX10_payPrincipal_31 : decode cX10_payPrincipal 31 = .ok (.istore 6, 2) := by decide +kernel
theorem dX10_payPrincipal_33 : decode cX10_payPrincipal 33 = .ok (.iload 6, 2) := by decide +kernel
theorem dX10_payPrincipal_35 : decode cX10_payPrincipal 35 = .ok (.aload_n 0, 1) := by decide +kernel
theorem dX10_payPrincipal_36 : decode cX10_payPrincipal 36 = .ok (.getfield 13, 3) := by decide +kernel
theorem dX10_payPrincipal_39 : decode cX10_payPrincipal 39 = .ok (.iconst 3, 1) := by decide +kernel
theorem dX10_payPrincipal_40 : decode cX10_payPrincipal 40 = .ok (.iaload, 1) := by decide +kernel
theorem dX10_payPrincipal_41 : decode cX10_payPrincipal 41 = .ok (.if_icmp .ge 42, 3) := by decide +kernel
theorem dX10_payPrincipal_44 : decode cX10_payPrincipal 44 = .ok (.aload_n 0, 1) := by decide +kernel
theorem dX10_payPrincipal_45 : decode cX10_payPrincipal 45 = .ok (.aload_n 0, 1) := by decide +kernel
theorem dX10_payPrincipal_46 : decode cX10_payPrincipal 46 = .ok (.iload 6, 2) := by decide +kernel
theorem dX10_payPrincipal_48 : decode cX10_payPrincipal 48 = .ok (.iconst 0, 1) := by decide +kernel
theorem dX10_payPrincipal_49 : decode cX10_payPrincipal 49 = .ok (.invokevirtual 78, 3) := by decide +kernel
theorem dX10_payPrincipal_52 : decode cX10_payPrincipal 52 = .ok (.aload_n 0, 1) := by decide +kernel
theorem dX10_payPrincipal_53 : decode cX10_payPrincipal 53 = .ok (.getfield 32, 3) := by decide +kernel
theorem dX10_payPrincipal_56 : decode cX10_payPrincipal 56 = .ok (.iload 6, 2) := by decide +kernel
theorem dX10_payPrincipal_58 : decode cX10_payPrincipal 58 = .ok (.iaload, 1) := by decide +kernel
theorem dX10_payPrincipal_59 : decode cX10_payPrincipal 59 = .ok (.invokevirtual 69, 3) := by decide +kernel
theorem dX10_payPrincipal_62 : decode cX10_payPrincipal 62 = .ok (.aload_n 0, 1) := by decide +kernel
theorem dX10_payPrincipal_63 : decode cX10_payPrincipal 63 = .ok (.iload 6, 2) := by decide +kernel
theorem dX10_payPrincipal_65 : decode cX10_payPrincipal 65 = .ok (.iconst 3, 1) := by decide +kernel
theorem dX10_payPrincipal_66 : decode cX10_payPrincipal 66 = .ok (.aload_n 0, 1) := by decide +kernel
theorem dX10_payPrincipal_67 : decode cX10_payPrincipal 67 = .ok (.getfield 32, 3) := by decide +kernel
theorem dX10_payPrincipal_70 : decode cX10_payPrincipal 70 = .ok (.iload 6, 2) := by decide +kernel
theorem dX10_payPrincipal_72 : decode cX10_payPrincipal 72 = .ok (.iaload, 1) := by decide +kernel
theorem dX10_payPrincipal_73 : decode cX10_payPrincipal 73 = .ok (.ineg, 1) := by decide +kernel
theorem dX10_payPrincipal_74 : decode cX10_payPrincipal 74 = .ok (.invokevirtual 97, 3) := by decide +kernel
theorem dX10_payPrincipal_77 : decode cX10_payPrincipal 77 = .ok (.iinc 6 1, 3) := by decide +kernel
theorem dX10_payPrincipal_80 : decode cX10_payPrincipal 80 = .ok (.goto (-47), 3) := by decide +kernel
theorem dX10_payPrincipal_83 : decode cX10_payPrincipal 83 = .ok (.iload_n 3, 1) := by decide +kernel
theorem dX10_payPrincipal_84 : decode cX10_payPrincipal 84 = .ok (.iload 5, 2) := by decide +kernel
theorem dX10_payPrincipal_86 : decode cX10_payPrincipal 86 = .ok (.isub, 1) := by decide +kernel
theorem dX10_payPrincipal_87 : decode cX10_payPrincipal 87 = .ok (.ireturn, 1) := by decide +kernel
theorem dX10_feeFor_0 : decode cX10_feeFor 0 = .ok (.iload_n 2, 1) := by decide +kernel
theorem dX10_feeFor_1 : decode cX10_feeFor 1 = .ok (.i2l, 1) := by decide +kernel
theorem dX10_feeFor_2 : decode cX10_feeFor 2 = .ok (.aload_n 0, 1) := by decide +kernel
theorem dX10_feeFor_3 : decode cX10_feeFor 3 = .ok (.iload_n 1, 1) := by decide +kernel
theorem dX10_feeFor_4 : decode cX10_feeFor 4 = .ok (.bipush 9, 2) := by decide +kernel
theorem dX10_feeFor_6 : decode cX10_feeFor 6 = .ok (.invokevirtual 42, 3) := by decide +kernel
theorem dX10_feeFor_9 : decode cX10_feeFor 9 = .ok (.invokestatic 109, 3) := by decide +kernel
theorem dX10_feeFor_12 : decode cX10_feeFor 12 = .ok (.i2l, 1) := by decide +kernel
theorem dX10_feeFor_13 : decode cX10_feeFor 13 = .ok (.lmul, 1) := by decide +kernel
theorem dX10_feeFor_14 : decode cX10_feeFor 14 = .ok (.ldc2_w 112, 3) := by decide +kernel
theorem dX10_feeFor_17 : decode cX10_feeFor 17 = .ok (.ldiv, 1) := by decide +kernel
theorem dX10_feeFor_18 : decode cX10_feeFor 18 = .ok (.l2i, 1) := by decide +kernel
theorem dX10_feeFor_19 : decode cX10_feeFor 19 = .ok (.ireturn, 1) := by decide +kernel
theorem dX10_canPay_0 : decode cX10_canPay 0 = .ok (.aload_n 0, 1) := by decide +kernel
theorem dX10_canPay_1 : decode cX10_canPay 1 = .ok (.iload_n 1, 1) := by decide +kernel
theorem dX10_canPay_2 : decode cX10_canPay 2 = .ok (.invokevirtual 114, 3) := by decide +kernel
theorem dX10_canPay_5 : decode cX10_canPay 5 = .ok (.ifCond .eq 32, 3) := by decide +kernel
theorem dX10_canPay_8 : decode cX10_canPay 8 = .ok (.iload_n 2, 1) := by decide +kernel
theorem dX10_canPay_9 : decode cX10_canPay 9 = .ok (.aload_n 0, 1) := by decide +kernel
theorem dX10_canPay_10 : decode cX10_canPay 10 = .ok (.iload_n 1, 1) := by decide +kernel
theorem dX10_canPay_11 : decode cX10_canPay 11 = .ok (.iload_n 2, 1) := by decide +kernel
theorem dX10_canPay_12 : decode cX10_canPay 12 = .ok (.invokevirtual 117, 3) := by decide +kernel
theorem dX10_canPay_15 : decode cX10_canPay 15 = .ok (.isub, 1) := by decide +kernel
theorem dX10_canPay_16 : decode cX10_canPay 16 = .ok (.aload_n 0, 1) := by decide +kernel
theorem dX10_canPay_17 : decode cX10_canPay 17 = .ok (.iload_n 1, 1) := by decide +kernel
theorem dX10_canPay_18 : decode cX10_canPay 18 = .ok (.bipush 6, 2) := by decide +kernel
theorem dX10_canPay_20 : decode cX10_canPay 20 = .ok (.invokevirtual 42, 3) := by decide +kernel
theorem dX10_canPay_23 : decode cX10_canPay 23 = .ok (.aload_n 0, 1) := by decide +kernel
theorem dX10_canPay_24 : decode cX10_canPay 24 = .ok (.iload_n 1, 1) := by decide +kernel
theorem dX10_canPay_25 : decode cX10_canPay 25 = .ok (.iconst 4, 1) := by decide +kernel
theorem dX10_canPay_26 : decode cX10_canPay 26 = .ok (.invokevirtual 42, 3) := by decide +kernel
theorem dX10_canPay_29 : decode cX10_canPay 29 = .ok (.iadd, 1) := by decide +kernel
theorem dX10_canPay_30 : decode cX10_canPay 30 = .ok (.if_icmp .gt 7, 3) := by decide +kernel
theorem dX10_canPay_33 : decode cX10_canPay 33 = .ok (.iconst 1, 1) := by decide +kernel
theorem dX10_canPay_34 : decode cX10_canPay 34 = .ok (.goto 4, 3) := by decide +kernel
theorem dX10_canPay_37 : decode cX10_canPay 37 = .ok (.iconst 0, 1) := by decide +kernel
theorem dX10_canPay_38 : decode cX10_canPay 38 = .ok (.ireturn, 1) := by decide +kernel
theorem dX10_splitBy_0 : decode cX10_splitBy 0 = .ok (.aload_n 0, 1) := by decide +kernel
theorem dX10_splitBy_1 : decode cX10_splitBy 1 = .ok (.iload_n 1, 1) := by decide +kernel
theorem dX10_splitBy_2 : decode cX10_splitBy 2 = .ok (.iload_n 2, 1) := by decide +kernel
theorem dX10_splitBy_3 : decode cX10_splitBy 3 = .ok (.invokevirtual 117, 3) := by decide +kernel
theorem dX10_splitBy_6 : decode cX10_splitBy 6 = .ok (.istore 4, 2) := by decide +kernel
theorem dX10_splitBy_8 : decode cX10_splitBy 8 = .ok (.iload_n 2, 1) := by decide +kernel
theorem dX10_splitBy_9 : decode cX10_splitBy 9 = .ok (.iload 4, 2) := by decide +kernel
theorem dX10_splitBy_11 : decode cX10_splitBy 11 = .ok (.isub, 1) := by decide +kernel
theorem dX10_splitBy_12 : decode cX10_splitBy 12 = .ok (.aload_n 0, 1) := by decide +kernel
theorem dX10_splitBy_13 : decode cX10_splitBy 13 = .ok (.iload_n 1, 1) := by decide +kernel
theorem dX10_splitBy_14 : decode cX10_splitBy 14 = .ok (.bipush 6, 2) := by decide +kernel
theorem dX10_splitBy_16 : decode cX10_splitBy 16 = .ok (.invokevirtual 42, 3) := by decide +kernel
theorem dX10_splitBy_19 : decode cX10_splitBy 19 = .ok (.if_icmp .ge 10, 3) := by decide +kernel
theorem dX10_splitBy_22 : decode cX10_splitBy 22 = .ok (.iload_n 2, 1) := by decide +kernel
theorem dX10_splitBy_23 : decode cX10_splitBy 23 = .ok (.iload 4, 2) := by decide +kernel
theorem dX10_splitBy_25 : decode cX10_splitBy 25 = .ok (.isub, 1) := by decide +kernel
theorem dX10_splitBy_26 : decode cX10_splitBy 26 = .ok (.goto 10, 3) := by decide +kernel
theorem dX10_splitBy_29 : decode cX10_splitBy 29 = .ok (.aload_n 0, 1) := by decide +kernel
theorem dX10_splitBy_30 : decode cX10_splitBy 30 = .ok (.iload_n 1, 1) := by decide +kernel
theorem dX10_splitBy_31 : decode cX10_splitBy 31 = .ok (.bipush 6, 2) := by decide +kernel
theorem dX10_splitBy_33 : decode cX10_splitBy 33 = .ok (.invokevirtual 42, 3) := by decide +kernel
theorem dX10_splitBy_36 : decode cX10_splitBy 36 = .ok (.istore 5, 2) := by decide +kernel
theorem dX10_splitBy_38 : decode cX10_splitBy 38 = .ok (.iload_n 2, 1) := by decide +kernel
theorem dX10_splitBy_39 : decode cX10_splitBy 39 = .ok (.iload 4, 2) := by decide +kernel
theorem dX10_splitBy_41 : decode cX10_splitBy 41 = .ok (.isub, 1) := by decide +kernel
theorem dX10_splitBy_42 : decode cX10_splitBy 42 = .ok (.iload 5, 2) := by decide +kernel
theorem dX10_splitBy_44 : decode cX10_splitBy 44 = .ok (.isub, 1) := by decide +kernel
theorem dX10_splitBy_45 : decode cX10_splitBy 45 = .ok (.istore 6, 2) := by decide +kernel
theorem dX10_splitBy_47 : decode cX10_splitBy 47 = .ok (.aload_n 0, 1) := by decide +kernel
theorem dX10_splitBy_48 : decode cX10_splitBy 48 = .ok (.iload_n 1, 1) := by decide +kernel
theorem dX10_splitBy_49 : decode cX10_splitBy 49 = .ok (.iconst 0, 1) := by decide +kernel
theorem dX10_splitBy_50 : decode cX10_splitBy 50 = .ok (.invokevirtual 81, 3) := by decide +kernel
theorem dX10_splitBy_53 : decode cX10_splitBy 53 = .ok (.istore 7, 2) := by decide +kernel
theorem dX10_splitBy_55 : decode cX10_splitBy 55 = .ok (.iload 6, 2) := by decide +kernel
theorem dX10_splitBy_57 : decode cX10_splitBy 57 = .ok (.iload 7, 2) := by decide +kernel
theorem dX10_splitBy_59 : decode cX10_splitBy 59 = .ok (.if_icmp .ge 8, 3) := by decide +kernel
theorem dX10_splitBy_62 : decode cX10_splitBy 62 = .ok (.iload 6, 2) := by decide +kernel
theorem dX10_splitBy_64 : decode cX10_splitBy 64 = .ok (.goto 5, 3) := by decide +kernel
theorem dX10_splitBy_67 : decode cX10_splitBy 67 = .ok (.iload 7, 2) := by decide +kernel
theorem dX10_splitBy_69 : decode cX10_splitBy 69 = .ok (.istore 8, 2) := by decide +kernel
theorem dX10_splitBy_71 : decode cX10_splitBy 71 = .ok (.iload_n 3, 1) := by decide +kernel
theorem dX10_splitBy_72 : decode cX10_splitBy 72 = .ok (.tableswitch 65 0 4 #[36, 39, 42, 59, 62], 36) := by decide +kernel
theorem dX10_splitBy_108 : decode cX10_splitBy 108 = .ok (.iload 4, 2) := by decide +kernel
theorem dX10_splitBy_110 : decode cX10_splitBy 110 = .ok (.ireturn, 1) := by decide +kernel
theorem dX10_splitBy_111 : decode cX10_splitBy 111 = .ok (.iload 5, 2) := by decide +kernel
theorem dX10_splitBy_113 : decode cX10_splitBy 113 = .ok (.ireturn, 1) := by decide +kernel
theorem dX10_splitBy_114 : decode cX10_splitBy 114 = .ok (.iload 5, 2) := by decide +kernel
theorem dX10_splitBy_116 : decode cX10_splitBy 116 = .ok (.i2l, 1) := by decide +kernel
theorem dX10_splitBy_117 : decode cX10_splitBy 117 = .ok (.aload_n 0, 1) := by decide +kernel
theorem dX10_splitBy_118 : decode cX10_splitBy 118 = .ok (.getfield 13, 3) := by decide +kernel
theorem dX10_splitBy_121 : decode cX10_splitBy 121 = .ok (.iconst 5, 1) := by decide +kernel
theorem dX10_splitBy_122 : decode cX10_splitBy 122 = .ok (.iaload, 1) := by decide +kernel
theorem dX10_splitBy_123 : decode cX10_splitBy 123 = .ok (.i2l, 1) := by decide +kernel
theorem dX10_splitBy_124 : decode cX10_splitBy 124 = .ok (.lmul, 1) := by decide +kernel
theorem dX10_splitBy_125 : decode cX10_splitBy 125 = .ok (.ldc2_w 120, 3) := by decide +kernel
theorem dX10_splitBy_128 : decode cX10_splitBy 128 = .ok (.ldiv, 1) := by decide +kernel
theorem dX10_splitBy_129 : decode cX10_splitBy 129 = .ok (.l2i, 1) := by decide +kernel
theorem dX10_splitBy_130 : decode cX10_splitBy 130 = .ok (.ireturn, 1) := by decide +kernel
theorem dX10_splitBy_131 : decode cX10_splitBy 131 = .ok (.iload 6, 2) := by decide +kernel
theorem dX10_splitBy_133 : decode cX10_splitBy 133 = .ok (.ireturn, 1) := by decide +kernel
theorem dX10_splitBy_134 : decode cX10_splitBy 134 = .ok (.iload 8, 2) := by decide +kernel
theorem dX10_splitBy_136 : decode cX10_splitBy 136 = .ok (.ireturn, 1) := by decide +kernel
theorem dX10_splitBy_137 : decode cX10_splitBy 137 = .ok (.iload 6, 2) := by decide +kernel
theorem dX10_splitBy_139 : decode cX10_splitBy 139 = .ok (.iload 8, 2) := by decide +kernel
theorem dX10_splitBy_141 : decode cX10_splitBy 141 = .ok (.isub, 1) := by decide +kernel
theorem dX10_splitBy_142 : decode cX10_splitBy 142 = .ok (.ireturn, 1) := by decide +kernel
theorem dX10_pay_0 : decode cX10_pay 0 = .ok (.aload_n 0, 1) := by decide +kernel
theorem dX10_pay_1 : decode cX10_pay 1 = .ok (.invokevirtual 58, 3) := by decide +kernel
theorem dX10_pay_4 : decode cX10_pay 4 = .ok (.aload_n 0, 1) := by decide +kernel
theorem dX10_pay_5 : decode cX10_pay 5 = .ok (.iload_n 1, 1) := by decide +kernel
theorem dX10_pay_6 : decode cX10_pay 6 = .ok (.invokevirtual 84, 3) := by decide +kernel
theorem dX10_pay_9 : decode cX10_pay 9 = .ok (.ifCond .ne 5, 3) := by decide +kernel
theorem dX10_pay_12 : decode cX10_pay 12 = .ok (.iconst (-1), 1) := by decide +kernel
theorem dX10_pay_13 : decode cX10_pay 13 = .ok (.ireturn, 1) := by decide +kernel
theorem dX10_pay_14 : decode cX10_pay 14 = .ok (.iload_n 2, 1) := by decide +kernel
theorem dX10_pay_15 : decode cX10_pay 15 = .ok (.iconst 1, 1) := by decide +kernel
theorem dX10_pay_16 : decode cX10_pay 16 = .ok (.ldc 122, 2) := by decide +kernel
theorem dX10_pay_18 : decode cX10_pay 18 = .ok (.invokestatic 38, 3) := by decide +kernel
theorem dX10_pay_21 : decode cX10_pay 21 = .ok (.ifCond .ne 6, 3) := by decide +kernel
theorem dX10_pay_24 : decode cX10_pay 24 = .ok (.bipush (-2), 2) := by decide +kernel
theorem dX10_pay_26 : decode cX10_pay 26 = .ok (.ireturn, 1) := by decide +kernel
theorem dX10_pay_27 : decode cX10_pay 27 = .ok (.aload_n 0, 1) := by decide +kernel
theorem dX10_pay_28 : decode cX10_pay 28 = .ok (.iload_n 1, 1) := by decide +kernel
theorem dX10_pay_29 : decode cX10_pay 29 = .ok (.iload_n 2, 1) := by decide +kernel
theorem dX10_pay_30 : decode cX10_pay 30 = .ok (.invokevirtual 123, 3) := by decide +kernel
theorem dX10_pay_33 : decode cX10_pay 33 = .ok (.ifCond .ne 6, 3) := by decide +kernel
theorem dX10_pay_36 : decode cX10_pay 36 = .ok (.bipush (-4), 2) := by decide +kernel
theorem dX10_pay_38 : decode cX10_pay 38 = .ok (.ireturn, 1) := by decide +kernel
theorem dX10_pay_39 : decode cX10_pay 39 = .ok (.aload_n 0, 1) := by decide +kernel
theorem dX10_pay_40 : decode cX10_pay 40 = .ok (.iload_n 1, 1) := by decide +kernel
theorem dX10_pay_41 : decode cX10_pay 41 = .ok (.iload_n 2, 1) := by decide +kernel
theorem dX10_pay_42 : decode cX10_pay 42 = .ok (.iconst 1, 1) := by decide +kernel
theorem dX10_pay_43 : decode cX10_pay 43 = .ok (.invokevirtual 127, 3) := by decide +kernel
theorem dX10_pay_46 : decode cX10_pay 46 = .ok (.istore_n 3, 1) := by decide +kernel
theorem dX10_pay_47 : decode cX10_pay 47 = .ok (.aload_n 0, 1) := by decide +kernel
theorem dX10_pay_48 : decode cX10_pay 48 = .ok (.iload_n 1, 1) := by decide +kernel
theorem dX10_pay_49 : decode cX10_pay 49 = .ok (.iload_n 2, 1) := by decide +kernel
theorem dX10_pay_50 : decode cX10_pay 50 = .ok (.iconst 2, 1) := by decide +kernel
theorem dX10_pay_51 : decode cX10_pay 51 = .ok (.invokevirtual 127, 3) := by decide +kernel
theorem dX10_pay_54 : decode cX10_pay 54 = .ok (.istore 4, 2) := by decide +kernel
theorem dX10_pay_56 : decode cX10_pay 56 = .ok (.aload_n 0, 1) := by decide +kernel
theorem dX10_pay_57 : decode cX10_pay 57 = .ok (.iload_n 1, 1) := by decide +kernel
theorem dX10_pay_58 : decode cX10_pay 58 = .ok (.iload_n 2, 1) := by decide +kernel
theorem dX10_pay_59 : decode cX10_pay 59 = .ok (.iconst 3, 1) := by decide +kernel
theorem dX10_pay_60 : decode cX10_pay 60 = .ok (.invokevirtual 127, 3) := by decide +kernel
theorem dX10_pay_63 : decode cX10_pay 63 = .ok (.istore 5, 2) := by decide +kernel
theorem dX10_pay_65 : decode cX10_pay 65 = .ok (.aload_n 0, 1) := by decide +kernel
theorem dX10_pay_66 : decode cX10_pay 66 = .ok (.getfield 13, 3) := by decide +kernel
theorem dX10_pay_69 : decode cX10_pay 69 = .ok (.bipush 6, 2) := by decide +kernel
theorem dX10_pay_71 : decode cX10_pay 71 = .ok (.aload_n 0, 1) := by decide +kernel
theorem dX10_pay_72 : decode cX10_pay 72 = .ok (.iload_n 1, 1) := by decide +kernel
theorem dX10_pay_73 : decode cX10_pay 73 = .ok (.bipush 9, 2) := by decide +kernel
theorem dX10_pay_75 : decode cX10_pay 75 = .ok (.invokevirtual 42, 3) := by decide +kernel
theorem dX10_pay_78 : decode cX10_pay 78 = .ok (.iadd, 1) := by decide +kernel
theorem dX10_pay_79 : decode cX10_pay 79 = .ok (.dup2, 1) := by decide +kernel
theorem dX10_pay_80 : decode cX10_pay 80 = .ok (.iaload, 1) := by decide +kernel
theorem dX10_pay_81 : decode cX10_pay 81 = .ok (.aload_n 0, 1) := by decide +kernel
theorem dX10_pay_82 : decode cX10_pay 82 = .ok (.iload_n 1, 1) := by decide +kernel
theorem dX10_pay_83 : decode cX10_pay 83 = .ok (.iload_n 2, 1) := by decide +kernel
theorem dX10_pay_84 : decode cX10_pay 84 = .ok (.iconst 0, 1) := by decide +kernel
theorem dX10_pay_85 : decode cX10_pay 85 = .ok (.invokevirtual 127, 3) := by decide +kernel
theorem dX10_pay_88 : decode cX10_pay 88 = .ok (.iadd, 1) := by decide +kernel
theorem dX10_pay_89 : decode cX10_pay 89 = .ok (.iastore, 1) := by decide +kernel
theorem dX10_pay_90 : decode cX10_pay 90 = .ok (.aload_n 0, 1) := by decide +kernel
theorem dX10_pay_91 : decode cX10_pay 91 = .ok (.getfield 13, 3) := by decide +kernel
theorem dX10_pay_94 : decode cX10_pay 94 = .ok (.iconst 4, 1) := by decide +kernel
theorem dX10_pay_95 : decode cX10_pay 95 = .ok (.dup2, 1) := by decide +kernel
theorem dX10_pay_96 : decode cX10_pay 96 = .ok (.iaload, 1) := by decide +kernel
theorem dX10_pay_97 : decode cX10_pay 97 = .ok (.iload 4, 2) := by decide +kernel
theorem dX10_pay_99 : decode cX10_pay 99 = .ok (.iadd, 1) := by decide +kernel
theorem dX10_pay_100 : decode cX10_pay 100 = .ok (.iastore, 1) := by decide +kernel
theorem dX10_pay_101 : decode cX10_pay 101 = .ok (.aload_n 0, 1) := by decide +kernel
theorem dX10_pay_102 : decode cX10_pay 102 = .ok (.iload_n 1, 1) := by decide +kernel
theorem dX10_pay_103 : decode cX10_pay 103 = .ok (.iload_n 3, 1) := by decide +kernel
theorem dX10_pay_104 : decode cX10_pay 104 = .ok (.iload 4, 2) := by decide +kernel
theorem dX10_pay_106 : decode cX10_pay 106 = .ok (.isub, 1) := by decide +kernel
theorem dX10_pay_107 : decode cX10_pay 107 = .ok (.invokevirtual 131, 3) := by decide +kernel
theorem dX10_pay_110 : decode cX10_pay 110 = .ok (.aload_n 0, 1) := by decide +kernel
theorem dX10_pay_111 : decode cX10_pay 111 = .ok (.iload_n 1, 1) := by decide +kernel
theorem dX10_pay_112 : decode cX10_pay 112 = .ok (.iconst 1, 1) := by decide +kernel
theorem dX10_pay_113 : decode cX10_pay 113 = .ok (.aload_n 0, 1) := by decide +kernel
theorem dX10_pay_114 : decode cX10_pay 114 = .ok (.iload_n 1, 1) := by decide +kernel
theorem dX10_pay_115 : decode cX10_pay 115 = .ok (.iconst 0, 1) := by decide +kernel
theorem dX10_pay_116 : decode cX10_pay 116 = .ok (.iload 5, 2) := by decide +kernel
theorem dX10_pay_118 : decode cX10_pay 118 = .ok (.invokevirtual 134, 3) := by decide +kernel
theorem dX10_pay_121 : decode cX10_pay 121 = .ok (.invokevirtual 134, 3) := by decide +kernel
theorem dX10_pay_124 : decode cX10_pay 124 = .ok (.pop, 1) := by decide +kernel
theorem dX10_pay_125 : decode cX10_pay 125 = .ok (.aload_n 0, 1) := by decide +kernel
theorem dX10_pay_126 : decode cX10_pay 126 = .ok (.iload_n 1, 1) := by decide +kernel
theorem dX10_pay_127 : decode cX10_pay 127 = .ok (.bipush 6, 2) := by decide +kernel
theorem dX10_pay_129 : decode cX10_pay 129 = .ok (.aload_n 0, 1) := by decide +kernel
theorem dX10_pay_130 : decode cX10_pay 130 = .ok (.iload_n 1, 1) := by decide +kernel
theorem dX10_pay_131 : decode cX10_pay 131 = .ok (.bipush 6, 2) := by decide +kernel
theorem dX10_pay_133 : decode cX10_pay 133 = .ok (.invokevirtual 42, 3) := by decide +kernel
theorem dX10_pay_136 : decode cX10_pay 136 = .ok (.iload_n 3, 1) := by decide +kernel
theorem dX10_pay_137 : decode cX10_pay 137 = .ok (.isub, 1) := by decide +kernel
theorem dX10_pay_138 : decode cX10_pay 138 = .ok (.invokevirtual 74, 3) := by decide +kernel
theorem dX10_pay_141 : decode cX10_pay 141 = .ok (.aload_n 0, 1) := by decide +kernel
theorem dX10_pay_142 : decode cX10_pay 142 = .ok (.iload_n 1, 1) := by decide +kernel
theorem dX10_pay_143 : decode cX10_pay 143 = .ok (.iconst 4, 1) := by decide +kernel
theorem dX10_pay_144 : decode cX10_pay 144 = .ok (.aload_n 0, 1) := by decide +kernel
theorem dX10_pay_145 : decode cX10_pay 145 = .ok (.iload_n 1, 1) := by decide +kernel
theorem dX10_pay_146 : decode cX10_pay 146 = .ok (.iconst 4, 1) := by decide +kernel
theorem dX10_pay_147 : decode cX10_pay 147 = .ok (.invokevirtual 42, 3) := by decide +kernel
theorem dX10_pay_150 : decode cX10_pay 150 = .ok (.iload 5, 2) := by decide +kernel
theorem dX10_pay_152 : decode cX10_pay 152 = .ok (.isub, 1) := by decide +kernel
theorem dX10_pay_153 : decode cX10_pay 153 = .ok (.invokevirtual 74, 3) := by decide +kernel
theorem dX10_pay_156 : decode cX10_pay 156 = .ok (.aload_n 0, 1) := by decide +kernel
theorem dX10_pay_157 : decode cX10_pay 157 = .ok (.iload_n 1, 1) := by decide +kernel
theorem dX10_pay_158 : decode cX10_pay 158 = .ok (.bipush 7, 2) := by decide +kernel
theorem dX10_pay_160 : decode cX10_pay 160 = .ok (.aload_n 0, 1) := by decide +kernel
theorem dX10_pay_161 : decode cX10_pay 161 = .ok (.iload_n 1, 1) := by decide +kernel
theorem dX10_pay_162 : decode cX10_pay 162 = .ok (.bipush 7, 2) := by decide +kernel
theorem dX10_pay_164 : decode cX10_pay 164 = .ok (.invokevirtual 42, 3) := by decide +kernel
theorem dX10_pay_167 : decode cX10_pay 167 = .ok (.iload 5, 2) := by decide +kernel
theorem dX10_pay_169 : decode cX10_pay 169 = .ok (.if_icmp .le 16, 3) := by decide +kernel
theorem dX10_pay_172 : decode cX10_pay 172 = .ok (.aload_n 0, 1) := by decide +kernel
theorem dX10_pay_173 : decode cX10_pay 173 = .ok (.iload_n 1, 1) := by decide +kernel
theorem dX10_pay_174 : decode cX10_pay 174 = .ok (.bipush 7, 2) := by decide +kernel
theorem dX10_pay_176 : decode cX10_pay 176 = .ok (.invokevirtual 42, 3) := by decide +kernel
theorem dX10_pay_179 : decode cX10_pay 179 = .ok (.iload 5, 2) := by decide +kernel
theorem dX10_pay_181 : decode cX10_pay 181 = .ok (.isub, 1) := by decide +kernel
theorem dX10_pay_182 : decode cX10_pay 182 = .ok (.goto 4, 3) := by decide +kernel
theorem dX10_pay_185 : decode cX10_pay 185 = .ok (.iconst 0, 1) := by decide +kernel
theorem dX10_pay_186 : decode cX10_pay 186 = .ok (.invokevirtual 74, 3) := by decide +kernel
theorem dX10_pay_189 : decode cX10_pay 189 = .ok (.aload_n 0, 1) := by decide +kernel
theorem dX10_pay_190 : decode cX10_pay 190 = .ok (.iload_n 1, 1) := by decide +kernel
theorem dX10_pay_191 : decode cX10_pay 191 = .ok (.bipush 8, 2) := by decide +kernel
theorem dX10_pay_193 : decode cX10_pay 193 = .ok (.aload_n 0, 1) := by decide +kernel
theorem dX10_pay_194 : decode cX10_pay 194 = .ok (.iload_n 1, 1) := by decide +kernel
theorem dX10_pay_195 : decode cX10_pay 195 = .ok (.bipush 6, 2) := by decide +kernel
theorem dX10_pay_197 : decode cX10_pay 197 = .ok (.invokevirtual 42, 3) := by decide +kernel
theorem dX10_pay_200 : decode cX10_pay 200 = .ok (.aload_n 0, 1) := by decide +kernel
theorem dX10_pay_201 : decode cX10_pay 201 = .ok (.iload_n 1, 1) := by decide +kernel
theorem dX10_pay_202 : decode cX10_pay 202 = .ok (.bipush 7, 2) := by decide +kernel
theorem dX10_pay_204 : decode cX10_pay 204 = .ok (.invokevirtual 42, 3) := by decide +kernel
theorem dX10_pay_207 : decode cX10_pay 207 = .ok (.iadd, 1) := by decide +kernel
theorem dX10_pay_208 : decode cX10_pay 208 = .ok (.ifCond .ne 7, 3) := by decide +kernel
theorem dX10_pay_211 : decode cX10_pay 211 = .ok (.iconst 0, 1) := by decide +kernel
theorem dX10_pay_212 : decode cX10_pay 212 = .ok (.goto 10, 3) := by decide +kernel
theorem dX10_pay_215 : decode cX10_pay 215 = .ok (.aload_n 0, 1) := by decide +kernel
theorem dX10_pay_216 : decode cX10_pay 216 = .ok (.iload_n 1, 1) := by decide +kernel
theorem dX10_pay_217 : decode cX10_pay 217 = .ok (.bipush 8, 2) := by decide +kernel
theorem dX10_pay_219 : decode cX10_pay 219 = .ok (.invokevirtual 42, 3) := by decide +kernel
theorem dX10_pay_222 : decode cX10_pay 222 = .ok (.invokevirtual 74, 3) := by decide +kernel
theorem dX10_pay_225 : decode cX10_pay 225 = .ok (.aload_n 0, 1) := by decide +kernel
theorem dX10_pay_226 : decode cX10_pay 226 = .ok (.iload_n 1, 1) := by decide +kernel
theorem dX10_pay_227 : decode cX10_pay 227 = .ok (.iconst 4, 1) := by decide +kernel
theorem dX10_pay_228 : decode cX10_pay 228 = .ok (.invokevirtual 42, 3) := by decide +kernel
theorem dX10_pay_231 : decode cX10_pay 231 = .ok (.aload_n 0, 1) := by decide +kernel
theorem dX10_pay_232 : decode cX10_pay 232 = .ok (.iload_n 1, 1) := by decide +kernel
theorem dX10_pay_233 : decode cX10_pay 233 = .ok (.bipush 6, 2) := by decide +kernel
theorem dX10_pay_235 : decode cX10_pay 235 = .ok (.invokevirtual 42, 3) := by decide +kernel
theorem dX10_pay_238 : decode cX10_pay 238 = .ok (.iadd, 1) := by decide +kernel
theorem dX10_pay_239 : decode cX10_pay 239 = .ok (.ifCond .ne 9, 3) := by decide +kernel
theorem dX10_pay_242 : decode cX10_pay 242 = .ok (.aload_n 0, 1) := by decide +kernel
theorem dX10_pay_243 : decode cX10_pay 243 = .ok (.iload_n 1, 1) := by decide +kernel
theorem dX10_pay_244 : decode cX10_pay 244 = .ok (.iconst 2, 1) := by decide +kernel
theorem dX10_pay_245 : decode cX10_pay 245 = .ok (.invokevirtual 100, 3) := by decide +kernel
theorem dX10_pay_248 : decode cX10_pay 248 = .ok (.aload_n 0, 1) := by decide +kernel
theorem dX10_pay_249 : decode cX10_pay 249 = .ok (.aload_n 0, 1) := by decide +kernel
theorem dX10_pay_250 : decode cX10_pay 250 = .ok (.iload_n 1, 1) := by decide +kernel
theorem dX10_pay_251 : decode cX10_pay 251 = .ok (.iconst 4, 1) := by decide +kernel
theorem dX10_pay_252 : decode cX10_pay 252 = .ok (.invokevirtual 42, 3) := by decide +kernel
theorem dX10_pay_255 : decode cX10_pay 255 = .ok (.invokevirtual 61, 3) := by decide +kernel
theorem dX10_pay_258 : decode cX10_pay 258 = .ok (.ireturn, 1) := by decide +kernel
theorem dX10_cure_0 : decode cX10_cure 0 = .ok (.aload_n 0, 1) := by decide +kernel
theorem dX10_cure_1 : decode cX10_cure 1 = .ok (.invokevirtual 58, 3) := by decide +kernel
theorem dX10_cure_4 : decode cX10_cure 4 = .ok (.aload_n 0, 1) := by decide +kernel
theorem dX10_cure_5 : decode cX10_cure 5 = .ok (.iload_n 1, 1) := by decide +kernel
theorem dX10_cure_6 : decode cX10_cure 6 = .ok (.invokevirtual 84, 3) := by decide +kernel
theorem dX10_cure_9 : decode cX10_cure 9 = .ok (.ifCond .ne 5, 3) := by decide +kernel
theorem dX10_cure_12 : decode cX10_cure 12 = .ok (.iconst (-1), 1) := by decide +kernel
theorem dX10_cure_13 : decode cX10_cure 13 = .ok (.ireturn, 1) := by decide +kernel
theorem dX10_cure_14 : decode cX10_cure 14 = .ok (.iload_n 2, 1) := by decide +kernel
theorem dX10_cure_15 : decode cX10_cure 15 = .ok (.iconst 1, 1) := by decide +kernel
theorem dX10_cure_16 : decode cX10_cure 16 = .ok (.bipush 36, 2) := by decide +kernel
theorem dX10_cure_18 : decode cX10_cure 18 = .ok (.invokestatic 38, 3) := by decide +kernel
theorem dX10_cure_21 : decode cX10_cure 21 = .ok (.ifCond .ne 6, 3) := by decide +kernel
theorem dX10_cure_24 : decode cX10_cure 24 = .ok (.bipush (-2), 2) := by decide +kernel
theorem dX10_cure_26 : decode cX10_cure 26 = .ok (.ireturn, 1) := by decide +kernel
theorem dX10_cure_27 : decode cX10_cure 27 = .ok (.aload_n 0, 1) := by decide +kernel
theorem dX10_cure_28 : decode cX10_cure 28 = .ok (.iload_n 1, 1) := by decide +kernel
theorem dX10_cure_29 : decode cX10_cure 29 = .ok (.invokevirtual 114, 3) := by decide +kernel
theorem dX10_cure_32 : decode cX10_cure 32 = .ok (.ifCond .eq 23, 3) := by decide +kernel
theorem dX10_cure_35 : decode cX10_cure 35 = .ok (.aload_n 0, 1) := by decide +kernel
theorem dX10_cure_36 : decode cX10_cure 36 = .ok (.iload_n 1, 1) := by decide +kernel
theorem dX10_cure_37 : decode cX10_cure 37 = .ok (.bipush 8, 2) := by decide +kernel
theorem dX10_cure_39 : decode cX10_cure 39 = .ok (.invokevirtual 42, 3) := by decide +kernel
theorem dX10_cure_42 : decode cX10_cure 42 = .ok (.ifCond .eq 13, 3) := by decide +kernel
theorem dX10_cure_45 : decode cX10_cure 45 = .ok (.aload_n 0, 1) := by decide +kernel
theorem dX10_cure_46 : decode cX10_cure 46 = .ok (.iload_n 1, 1) := by decide +kernel
theorem dX10_cure_47 : decode cX10_cure 47 = .ok (.bipush 6, 2) := by decide +kernel
theorem dX10_cure_49 : decode cX10_cure 49 = .ok (.invokevirtual 42, 3) := by decide +kernel
theorem dX10_cure_52 : decode cX10_cure 52 = .ok (.ifCond .le 6, 3) := by decide +kernel
theorem dX10_cure_55 : decode cX10_cure 55 = .ok (.bipush (-4), 2) := by decide +kernel
theorem dX10_cure_57 : decode cX10_cure 57 = .ok (.ireturn, 1) := by decide +kernel
theorem dX10_cure_58 : decode cX10_cure 58 = .ok (.aload_n 0, 1) := by decide +kernel
theorem dX10_cure_59 : decode cX10_cure 59 = .ok (.iload_n 1, 1) := by decide +kernel
theorem dX10_cure_60 : decode cX10_cure 60 = .ok (.bipush 7, 2) := by decide +kernel
theorem dX10_cure_62 : decode cX10_cure 62 = .ok (.iconst 0, 1) := by decide +kernel
theorem dX10_cure_63 : decode cX10_cure 63 = .ok (.invokevirtual 74, 3) := by decide +kernel
theorem dX10_cure_66 : decode cX10_cure 66 = .ok (.aload_n 0, 1) := by decide +kernel
theorem dX10_cure_67 : decode cX10_cure 67 = .ok (.iload_n 1, 1) := by decide +kernel
theorem dX10_cure_68 : decode cX10_cure 68 = .ok (.bipush 8, 2) := by decide +kernel
theorem dX10_cure_70 : decode cX10_cure 70 = .ok (.iconst 0, 1) := by decide +kernel
theorem dX10_cure_71 : decode cX10_cure 71 = .ok (.invokevirtual 74, 3) := by decide +kernel
theorem dX10_cure_74 : decode cX10_cure 74 = .ok (.aload_n 0, 1) := by decide +kernel
theorem dX10_cure_75 : decode cX10_cure 75 = .ok (.iload_n 1, 1) := by decide +kernel
theorem dX10_cure_76 : decode cX10_cure 76 = .ok (.iconst 5, 1) := by decide +kernel
theorem dX10_cure_77 : decode cX10_cure 77 = .ok (.aload_n 0, 1) := by decide +kernel
theorem dX10_cure_78 : decode cX10_cure 78 = .ok (.iload_n 1, 1) := by decide +kernel
theorem dX10_cure_79 : decode cX10_cure 79 = .ok (.iconst 4, 1) := by decide +kernel
theorem dX10_cure_80 : decode cX10_cure 80 = .ok (.invokevirtual 42, 3) := by decide +kernel
theorem dX10_cure_83 : decode cX10_cure 83 = .ok (.iload_n 2, 1) := by decide +kernel
theorem dX10_cure_84 : decode cX10_cure 84 = .ok (.invokestatic 90, 3) := by decide +kernel
theorem dX10_cure_87 : decode cX10_cure 87 = .ok (.invokevirtual 74, 3) := by decide +kernel
theorem dX10_cure_90 : decode cX10_cure 90 = .ok (.aload_n 0, 1) := by decide +kernel
theorem dX10_cure_91 : decode cX10_cure 91 = .ok (.aload_n 0, 1) := by decide +kernel
theorem dX10_cure_92 : decode cX10_cure 92 = .ok (.iload_n 1, 1) := by decide +kernel
theorem dX10_cure_93 : decode cX10_cure 93 = .ok (.iconst 5, 1) := by decide +kernel
theorem dX10_cure_94 : decode cX10_cure 94 = .ok (.invokevirtual 42, 3) := by decide +kernel
theorem dX10_cure_97 : decode cX10_cure 97 = .ok (.invokevirtual 61, 3) := by decide +kernel
theorem dX10_cure_100 : decode cX10_cure 100 = .ok (.ireturn, 1) := by decide +kernel
theorem dX10_sell_0 : decode cX10_sell 0 = .ok (.aload_n 0, 1) := by decide +kernel
theorem dX10_sell_1 : decode cX10_sell 1 = .ok (.invokevirtual 58, 3) := by decide +kernel
theorem dX10_sell_4 : decode cX10_sell 4 = .ok (.aload_n 0, 1) := by decide +kernel
theorem dX10_sell_5 : decode cX10_sell 5 = .ok (.iload_n 1, 1) := by decide +kernel
theorem dX10_sell_6 : decode cX10_sell 6 = .ok (.invokevirtual 84, 3) := by decide +kernel
theorem dX10_sell_9 : decode cX10_sell 9 = .ok (.ifCond .ne 5, 3) := by decide +kernel
theorem dX10_sell_12 : decode cX10_sell 12 = .ok (.iconst (-1), 1) := by decide +kernel
theorem dX10_sell_13 : decode cX10_sell 13 = .ok (.ireturn, 1) := by decide +kernel
theorem dX10_sell_14 : decode cX10_sell 14 = .ok (.iload_n 2, 1) := by decide +kernel
theorem dX10_sell_15 : decode cX10_sell 15 = .ok (.iconst 0, 1) := by decide +kernel
theorem dX10_sell_16 : decode cX10_sell 16 = .ok (.ldc 73, 2) := by decide +kernel
theorem dX10_sell_18 : decode cX10_sell 18 = .ok (.invokestatic 38, 3) := by decide +kernel
theorem dX10_sell_21 : decode cX10_sell 21 = .ok (.ifCond .ne 6, 3) := by decide +kernel
theorem dX10_sell_24 : decode cX10_sell 24 = .ok (.bipush (-2), 2) := by decide +kernel
theorem dX10_sell_26 : decode cX10_sell 26 = .ok (.ireturn, 1) := by decide +kernel
theorem dX10_sell_27 : decode cX10_sell 27 = .ok (.aload_n 0, 1) := by decide +kernel
theorem dX10_sell_28 : decode cX10_sell 28 = .ok (.iload_n 1, 1) := by decide +kernel
theorem dX10_sell_29 : decode cX10_sell 29 = .ok (.invokevirtual 114, 3) := by decide +kernel
theorem dX10_sell_32 : decode cX10_sell 32 = .ok (.ifCond .eq 14, 3) := by decide +kernel
theorem dX10_sell_35 : decode cX10_sell 35 = .ok (.aload_n 0, 1) := by decide +kernel
theorem dX10_sell_36 : decode cX10_sell 36 = .ok (.iload_n 1, 1) := by decide +kernel
theorem dX10_sell_37 : decode cX10_sell 37 = .ok (.bipush 8, 2) := by decide +kernel
theorem dX10_sell_39 : decode cX10_sell 39 = .ok (.invokevirtual 42, 3) := by decide +kernel
theorem dX10_sell_42 : decode cX10_sell 42 = .ok (.iconst 3, 1) := by decide +kernel
theorem dX10_sell_43 : decode cX10_sell 43 = .ok (.if_icmp .ge 6, 3) := by decide +kernel
theorem dX10_sell_46 : decode cX10_sell 46 = .ok (.bipush (-4), 2) := by decide +kernel
theorem dX10_sell_48 : decode cX10_sell 48 = .ok (.ireturn, 1) := by decide +kernel
theorem dX10_sell_49 : decode cX10_sell 49 = .ok (.aload_n 0, 1) := by decide +kernel
theorem dX10_sell_50 : decode cX10_sell 50 = .ok (.getfield 13, 3) := by decide +kernel
theorem dX10_sell_53 : decode cX10_sell 53 = .ok (.iconst 4, 1) := by decide +kernel
theorem dX10_sell_54 : decode cX10_sell 54 = .ok (.dup2, 1) := by decide +kernel
theorem dX10_sell_55 : decode cX10_sell 55 = .ok (.iaload, 1) := by decide +kernel
theorem dX10_sell_56 : decode cX10_sell 56 = .ok (.aload_n 0, 1) := by decide +kernel
theorem dX10_sell_57 : decode cX10_sell 57 = .ok (.iload_n 1, 1) := by decide +kernel
theorem dX10_sell_58 : decode cX10_sell 58 = .ok (.iconst 1, 1) := by decide +kernel
theorem dX10_sell_59 : decode cX10_sell 59 = .ok (.aload_n 0, 1) := by decide +kernel
theorem dX10_sell_60 : decode cX10_sell 60 = .ok (.iload_n 1, 1) := by decide +kernel
theorem dX10_sell_61 : decode cX10_sell 61 = .ok (.iconst 0, 1) := by decide +kernel
theorem dX10_sell_62 : decode cX10_sell 62 = .ok (.iload_n 2, 1) := by decide +kernel
theorem dX10_sell_63 : decode cX10_sell 63 = .ok (.invokevirtual 134, 3) := by decide +kernel
theorem dX10_sell_66 : decode cX10_sell 66 = .ok (.invokevirtual 134, 3) := by decide +kernel
theorem dX10_sell_69 : decode cX10_sell 69 = .ok (.iadd, 1) := by decide +kernel
theorem dX10_sell_70 : decode cX10_sell 70 = .ok (.iastore, 1) := by decide +kernel
theorem dX10_sell_71 : decode cX10_sell 71 = .ok (.aload_n 0, 1) := by decide +kernel
theorem dX10_sell_72 : decode cX10_sell 72 = .ok (.getfield 13, 3) := by decide +kernel
theorem dX10_sell_75 : decode cX10_sell 75 = .ok (.iconst 4, 1) := by decide +kernel
theorem dX10_sell_76 : decode cX10_sell 76 = .ok (.aload_n 0, 1) := by decide +kernel
theorem dX10_sell_77 : decode cX10_sell 77 = .ok (.iload_n 1, 1) := by decide +kernel
theorem dX10_sell_78 : decode cX10_sell 78 = .ok (.iconst 0, 1) := by decide +kernel
theorem dX10_sell_79 : decode cX10_sell 79 = .ok (.aload_n 0, 1) := by decide +kernel
theorem dX10_sell_80 : decode cX10_sell 80 = .ok (.getfield 13, 3) := by decide +kernel
theorem dX10_sell_83 : decode cX10_sell 83 = .ok (.iconst 4, 1) := by decide +kernel
theorem dX10_sell_84 : decode cX10_sell 84 = .ok (.iaload, 1) := by decide +kernel
theorem dX10_sell_85 : decode cX10_sell 85 = .ok (.invokevirtual 134, 3) := by decide +kernel
theorem dX10_sell_88 : decode cX10_sell 88 = .ok (.iastore, 1) := by decide +kernel
theorem dX10_sell_89 : decode cX10_sell 89 = .ok (.iconst 0, 1) := by decide +kernel
theorem dX10_sell_90 : decode cX10_sell 90 = .ok (.istore_n 3, 1) := by decide +kernel
theorem dX10_sell_91 : decode cX10_sell 91 = .ok (.iconst 0, 1) := by decide +kernel
theorem dX10_sell_92 : decode cX10_sell 92 = .ok (.istore 4, 2) := by decide +kernel
theorem dX10_sell_94 : decode cX10_sell 94 = .ok (.iload 4, 2) := by decide +kernel
theorem dX10_sell_96 : decode cX10_sell 96 = .ok (.aload_n 0, 1) := by decide +kernel
theorem dX10_sell_97 : decode cX10_sell 97 = .ok (.getfield 13, 3) := by decide +kernel
theorem dX10_sell_100 : decode cX10_sell 100 = .ok (.iconst 3, 1) := by decide +kernel
theorem dX10_sell_101 : decode cX10_sell 101 = .ok (.iaload, 1) := by decide +kernel
theorem dX10_sell_102 : decode cX10_sell 102 = .ok (.if_icmp .ge 78, 3) := by decide +kernel
theorem dX10_sell_105 : decode cX10_sell 105 = .ok (.aload_n 0, 1) := by decide +kernel
theorem dX10_sell_106 : decode cX10_sell 106 = .ok (.iload 4, 2) := by decide +kernel
theorem dX10_sell_108 : decode cX10_sell 108 = .ok (.iconst 1, 1) := by decide +kernel
theorem dX10_sell_109 : decode cX10_sell 109 = .ok (.invokevirtual 78, 3) := by decide +kernel
theorem dX10_sell_112 : decode cX10_sell 112 = .ok (.iload_n 1, 1) := by decide +kernel
theorem dX10_sell_113 : decode cX10_sell 113 = .ok (.if_icmp .ne 61, 3) := by decide +kernel
theorem dX10_sell_116 : decode cX10_sell 116 = .ok (.aload_n 0, 1) := by decide +kernel
theorem dX10_sell_117 : decode cX10_sell 117 = .ok (.iload 4, 2) := by decide +kernel
theorem dX10_sell_119 : decode cX10_sell 119 = .ok (.iconst 3, 1) := by decide +kernel
theorem dX10_sell_120 : decode cX10_sell 120 = .ok (.invokevirtual 78, 3) := by decide +kernel
theorem dX10_sell_123 : decode cX10_sell 123 = .ok (.istore 5, 2) := by decide +kernel
theorem dX10_sell_125 : decode cX10_sell 125 = .ok (.aload_n 0, 1) := by decide +kernel
theorem dX10_sell_126 : decode cX10_sell 126 = .ok (.iload 4, 2) := by decide +kernel
theorem dX10_sell_128 : decode cX10_sell 128 = .ok (.bipush 6, 2) := by decide +kernel
theorem dX10_sell_130 : decode cX10_sell 130 = .ok (.iload 5, 2) := by decide +kernel
theorem dX10_sell_132 : decode cX10_sell 132 = .ok (.invokevirtual 97, 3) := by decide +kernel
theorem dX10_sell_135 : decode cX10_sell 135 = .ok (.aload_n 0, 1) := by decide +kernel
theorem dX10_sell_136 : decode cX10_sell 136 = .ok (.iload 4, 2) := by decide +kernel
theorem dX10_sell_138 : decode cX10_sell 138 = .ok (.iconst 3, 1) := by decide +kernel
theorem dX10_sell_139 : decode cX10_sell 139 = .ok (.iload 5, 2) := by decide +kernel
theorem dX10_sell_141 : decode cX10_sell 141 = .ok (.ineg, 1) := by decide +kernel
theorem dX10_sell_142 : decode cX10_sell 142 = .ok (.invokevirtual 97, 3) := by decide +kernel
theorem dX10_sell_145 : decode cX10_sell 145 = .ok (.aload_n 0, 1) := by decide +kernel
theorem dX10_sell_146 : decode cX10_sell 146 = .ok (.getfield 13, 3) := by decide +kernel
theorem dX10_sell_149 : decode cX10_sell 149 = .ok (.bipush 10, 2) := by decide +kernel
theorem dX10_sell_151 : decode cX10_sell 151 = .ok (.iconst 3, 1) := by decide +kernel
theorem dX10_sell_152 : decode cX10_sell 152 = .ok (.aload_n 0, 1) := by decide +kernel
theorem dX10_sell_153 : decode cX10_sell 153 = .ok (.iload 4, 2) := by decide +kernel
theorem dX10_sell_155 : decode cX10_sell 155 = .ok (.iconst 0, 1) := by decide +kernel
theorem dX10_sell_156 : decode cX10_sell 156 = .ok (.invokevirtual 78, 3) := by decide +kernel
theorem dX10_sell_159 : decode cX10_sell 159 = .ok (.imul, 1) := by decide +kernel
theorem dX10_sell_160 : decode cX10_sell 160 = .ok (.iadd, 1) := by decide +kernel
theorem dX10_sell_161 : decode cX10_sell 161 = .ok (.iconst 2, 1) := by decide +kernel
theorem dX10_sell_162 : decode cX10_sell 162 = .ok (.iadd, 1) := by decide +kernel
theorem dX10_sell_163 : decode cX10_sell 163 = .ok (.dup2, 1) := by decide +kernel
theorem dX10_sell_164 : decode cX10_sell 164 = .ok (.iaload, 1) := by decide +kernel
theorem dX10_sell_165 : decode cX10_sell 165 = .ok (.iload 5, 2) := by decide +kernel
theorem dX10_sell_167 : decode cX10_sell 167 = .ok (.iadd, 1) := by decide +kernel
theorem dX10_sell_168 : decode cX10_sell 168 = .ok (.iastore, 1) := by decide +kernel
theorem dX10_sell_169 : decode cX10_sell 169 = .ok (.iload_n 3, 1) := by decide +kernel
theorem dX10_sell_170 : decode cX10_sell 170 = .ok (.iload 5, 2) := by decide +kernel
theorem dX10_sell_172 : decode cX10_sell 172 = .ok (.iadd, 1) := by decide +kernel
theorem dX10_sell_173 : decode cX10_sell 173 = .ok (.istore_n 3, 1) := by decide +kernel
theorem dX10_sell_174 : decode cX10_sell 174 = .ok (.iinc 4 1, 3) := by decide +kernel
theorem dX10_sell_177 : decode cX10_sell 177 = .ok (.goto (-83), 3) := by decide +kernel
theorem dX10_sell_180 : decode cX10_sell 180 = .ok (.aload_n 0, 1) := by decide +kernel
theorem dX10_sell_181 : decode cX10_sell 181 = .ok (.iload_n 1, 1) := by decide +kernel
theorem dX10_sell_182 : decode cX10_sell 182 = .ok (.iconst 4, 1) := by decide +kernel
theorem dX10_sell_183 : decode cX10_sell 183 = .ok (.iconst 0, 1) := by decide +kernel
theorem dX10_sell_184 : decode cX10_sell 184 = .ok (.invokevirtual 74, 3) := by decide +kernel
theorem dX10_sell_187 : decode cX10_sell 187 = .ok (.aload_n 0, 1) := by decide +kernel
theorem dX10_sell_188 : decode cX10_sell 188 = .ok (.iload_n 1, 1) := by decide +kernel
theorem dX10_sell_189 : decode cX10_sell 189 = .ok (.bipush 6, 2) := by decide +kernel
theorem dX10_sell_191 : decode cX10_sell 191 = .ok (.iconst 0, 1) := by decide +kernel
theorem dX10_sell_192 : decode cX10_sell 192 = .ok (.invokevirtual 74, 3) := by decide +kernel
theorem dX10_sell_195 : decode cX10_sell 195 = .ok (.aload_n 0, 1) := by decide +kernel
theorem dX10_sell_196 : decode cX10_sell 196 = .ok (.iload_n 1, 1) := by decide +kernel
theorem dX10_sell_197 : decode cX10_sell 197 = .ok (.bipush 7, 2) := by decide +kernel
theorem dX10_sell_199 : decode cX10_sell 199 = .ok (.iconst 0, 1) := by decide +kernel
theorem dX10_sell_200 : decode cX10_sell 200 = .ok (.invokevirtual 74, 3) := by decide +kernel
theorem dX10_sell_203 : decode cX10_sell 203 = .ok (.aload_n 0, 1) := by decide +kernel
theorem dX10_sell_204 : decode cX10_sell 204 = .ok (.iload_n 1, 1) := by decide +kernel
theorem dX10_sell_205 : decode cX10_sell 205 = .ok (.iconst 3, 1) := by decide +kernel
theorem dX10_sell_206 : decode cX10_sell 206 = .ok (.invokevirtual 100, 3) := by decide +kernel
theorem dX10_sell_209 : decode cX10_sell 209 = .ok (.aload_n 0, 1) := by decide +kernel
theorem dX10_sell_210 : decode cX10_sell 210 = .ok (.iload_n 3, 1) := by decide +kernel
theorem dX10_sell_211 : decode cX10_sell 211 = .ok (.invokevirtual 61, 3) := by decide +kernel
theorem dX10_sell_214 : decode cX10_sell 214 = .ok (.ireturn, 1) := by decide +kernel
theorem dX10_switchServicer_0 : decode cX10_switchServicer 0 = .ok (.aload_n 0, 1) := by decide +kernel
theorem dX10_switchServicer_1 : decode cX10_switchServicer 1 = .ok (.invokevirtual 58, 3) := by decide +kernel
theorem dX10_switchServicer_4 : decode cX10_switchServicer 4 = .ok (.aload_n 0, 1) := by decide +kernel
theorem dX10_switchServicer_5 : decode cX10_switchServicer 5 = .ok (.iload_n 1, 1) := by decide +kernel
theorem dX10_switchServicer_6 : decode cX10_switchServicer 6 = .ok (.invokevirtual 84, 3) := by decide +kernel
theorem dX10_switchServicer_9 : decode cX10_switchServicer 9 = .ok (.ifCond .eq 10, 3) := by decide +kernel
theorem dX10_switchServicer_12 : decode cX10_switchServicer 12 = .ok (.iload_n 2, 1) := by decide +kernel
theorem dX10_switchServicer_13 : decode cX10_switchServicer 13 = .ok (.invokestatic 137, 3) := by decide +kernel
theorem dX10_switchServicer_16 : decode cX10_switchServicer 16 = .ok (.ifCond .ne 5, 3) := by decide +kernel
theorem dX10_switchServicer_19 : decode cX10_switchServicer 19 = .ok (.iconst (-1), 1) := by decide +kernel
theorem dX10_switchServicer_20 : decode cX10_switchServicer 20 = .ok (.ireturn, 1) := by decide +kernel
theorem dX10_switchServicer_21 : decode cX10_switchServicer 21 = .ok (.aload_n 0, 1) := by decide +kernel
theorem dX10_switchServicer_22 : decode cX10_switchServicer 22 = .ok (.iload_n 1, 1) := by decide +kernel
theorem dX10_switchServicer_23 : decode cX10_switchServicer 23 = .ok (.invokevirtual 114, 3) := by decide +kernel
theorem dX10_switchServicer_26 : decode cX10_switchServicer 26 = .ok (.ifCond .ne 6, 3) := by decide +kernel
theorem dX10_switchServicer_29 : decode cX10_switchServicer 29 = .ok (.bipush (-4), 2) := by decide +kernel
theorem dX10_switchServicer_31 : decode cX10_switchServicer 31 = .ok (.ireturn, 1) := by decide +kernel
theorem dX10_switchServicer_32 : decode cX10_switchServicer 32 = .ok (.aload_n 0, 1) := by decide +kernel
theorem dX10_switchServicer_33 : decode cX10_switchServicer 33 = .ok (.iload_n 1, 1) := by decide +kernel
theorem dX10_switchServicer_34 : decode cX10_switchServicer 34 = .ok (.bipush 10, 2) := by decide +kernel
theorem dX10_switchServicer_36 : decode cX10_switchServicer 36 = .ok (.invokevirtual 42, 3) := by decide +kernel
theorem dX10_switchServicer_39 : decode cX10_switchServicer 39 = .ok (.istore_n 3, 1) := by decide +kernel
theorem dX10_switchServicer_40 : decode cX10_switchServicer 40 = .ok (.iload_n 3, 1) := by decide +kernel
theorem dX10_switchServicer_41 : decode cX10_switchServicer 41 = .ok (.iload_n 2, 1) := by decide +kernel
theorem dX10_switchServicer_42 : decode cX10_switchServicer 42 = .ok (.if_icmp .eq 20, 3) := by decide +kernel
theorem dX10_switchServicer_45 : decode cX10_switchServicer 45 = .ok (.iload_n 3, 1) := by decide +kernel
theorem dX10_switchServicer_46 : decode cX10_switchServicer 46 = .ok (.bipush (-5), 2) := by decide +kernel
theorem dX10_switchServicer_48 : decode cX10_switchServicer 48 = .ok (.if_icmp .ne 17, 3) := by decide +kernel
theorem dX10_switchServicer_51 : decode cX10_switchServicer 51 = .ok (.aload_n 0, 1) := by decide +kernel
theorem dX10_switchServicer_52 : decode cX10_switchServicer 52 = .ok (.iload_n 1, 1) := by decide +kernel
theorem dX10_switchServicer_53 : decode cX10_switchServicer 53 = .ok (.bipush 9, 2) := by decide +kernel
theorem dX10_switchServicer_55 : decode cX10_switchServicer 55 = .ok (.invokevirtual 42, 3) := by decide +kernel
theorem dX10_switchServicer_58 : decode cX10_switchServicer 58 = .ok (.iload_n 2, 1) := by decide +kernel
theorem dX10_switchServicer_59 : decode cX10_switchServicer 59 = .ok (.if_icmp .ne 6, 3) := by decide +kernel
theorem dX10_switchServicer_62 : decode cX10_switchServicer 62 = .ok (.bipush (-5), 2) := by decide +kernel
theorem dX10_switchServicer_64 : decode cX10_switchServicer 64 = .ok (.ireturn, 1) := by decide +kernel
theorem dX10_switchServicer_65 : decode cX10_switchServicer 65 = .ok (.aload_n 0, 1) := by decide +kernel
theorem dX10_switchServicer_66 : decode cX10_switchServicer 66 = .ok (.iload_n 1, 1) := by decide +kernel
theorem dX10_switchServicer_67 : decode cX10_switchServicer 67 = .ok (.bipush 10, 2) := by decide +kernel
theorem dX10_switchServicer_69 : decode cX10_switchServicer 69 = .ok (.iload_n 2, 1) := by decide +kernel
theorem dX10_switchServicer_70 : decode cX10_switchServicer 70 = .ok (.invokevirtual 74, 3) := by decide +kernel
theorem dX10_switchServicer_73 : decode cX10_switchServicer 73 = .ok (.aload_n 0, 1) := by decide +kernel
theorem dX10_switchServicer_74 : decode cX10_switchServicer 74 = .ok (.aload_n 0, 1) := by decide +kernel
theorem dX10_switchServicer_75 : decode cX10_switchServicer 75 = .ok (.iload_n 1, 1) := by decide +kernel
theorem dX10_switchServicer_76 : decode cX10_switchServicer 76 = .ok (.bipush 9, 2) := by decide +kernel
theorem dX10_switchServicer_78 : decode cX10_switchServicer 78 = .ok (.invokevirtual 42, 3) := by decide +kernel
theorem dX10_switchServicer_81 : decode cX10_switchServicer 81 = .ok (.invokevirtual 61, 3) := by decide +kernel
theorem dX10_switchServicer_84 : decode cX10_switchServicer 84 = .ok (.ireturn, 1) := by decide +kernel
theorem dX10_sellNote_0 : decode cX10_sellNote 0 = .ok (.aload_n 0, 1) := by decide +kernel
theorem dX10_sellNote_1 : decode cX10_sellNote 1 = .ok (.invokevirtual 58, 3) := by decide +kernel
theorem dX10_sellNote_4 : decode cX10_sellNote 4 = .ok (.aload_n 0, 1) := by decide +kernel
theorem dX10_sellNote_5 : decode cX10_sellNote 5 = .ok (.iload_n 1, 1) := by decide +kernel
theorem dX10_sellNote_6 : decode cX10_sellNote 6 = .ok (.invokevirtual 140, 3) := by decide +kernel
theorem dX10_sellNote_9 : decode cX10_sellNote 9 = .ok (.ifCond .eq 11, 3) := by decide +kernel
theorem dX10_sellNote_12 : decode cX10_sellNote 12 = .ok (.aload_n 0, 1) := by decide +kernel
theorem dX10_sellNote_13 : decode cX10_sellNote 13 = .ok (.iload_n 2, 1) := by decide +kernel
theorem dX10_sellNote_14 : decode cX10_sellNote 14 = .ok (.invokevirtual 65, 3) := by decide +kernel
theorem dX10_sellNote_17 : decode cX10_sellNote 17 = .ok (.ifCond .ne 5, 3) := by decide +kernel
theorem dX10_sellNote_20 : decode cX10_sellNote 20 = .ok (.iconst (-1), 1) := by decide +kernel
theorem dX10_sellNote_21 : decode cX10_sellNote 21 = .ok (.ireturn, 1) := by decide +kernel
theorem dX10_sellNote_22 : decode cX10_sellNote 22 = .ok (.iload_n 3, 1) := by decide +kernel
theorem dX10_sellNote_23 : decode cX10_sellNote 23 = .ok (.iconst 0, 1) := by decide +kernel
theorem dX10_sellNote_24 : decode cX10_sellNote 24 = .ok (.ldc 73, 2) := by decide +kernel
theorem dX10_sellNote_26 : decode cX10_sellNote 26 = .ok (.invokestatic 38, 3) := by decide +kernel
theorem dX10_sellNote_29 : decode cX10_sellNote 29 = .ok (.ifCond .eq 13, 3) := by decide +kernel
theorem dX10_sellNote_32 : decode cX10_sellNote 32 = .ok (.aload_n 0, 1) := by decide +kernel
theorem dX10_sellNote_33 : decode cX10_sellNote 33 = .ok (.iload_n 1, 1) := by decide +kernel
theorem dX10_sellNote_34 : decode cX10_sellNote 34 = .ok (.iconst 0, 1) := by decide +kernel
theorem dX10_sellNote_35 : decode cX10_sellNote 35 = .ok (.invokevirtual 78, 3) := by decide +kernel
theorem dX10_sellNote_38 : decode cX10_sellNote 38 = .ok (.iload_n 2, 1) := by decide +kernel
theorem dX10_sellNote_39 : decode cX10_sellNote 39 = .ok (.if_icmp .ne 6, 3) := by decide +kernel
theorem dX10_sellNote_42 : decode cX10_sellNote 42 = .ok (.bipush (-2), 2) := by decide +kernel
theorem dX10_sellNote_44 : decode cX10_sellNote 44 = .ok (.ireturn, 1) := by decide +kernel
theorem dX10_sellNote_45 : decode cX10_sellNote 45 = .ok (.aload_n 0, 1) := by decide +kernel
theorem dX10_sellNote_46 : decode cX10_sellNote 46 = .ok (.aload_n 0, 1) := by decide +kernel
theorem dX10_sellNote_47 : decode cX10_sellNote 47 = .ok (.iload_n 1, 1) := by decide +kernel
theorem dX10_sellNote_48 : decode cX10_sellNote 48 = .ok (.iconst 1, 1) := by decide +kernel
theorem dX10_sellNote_49 : decode cX10_sellNote 49 = .ok (.invokevirtual 78, 3) := by decide +kernel
theorem dX10_sellNote_52 : decode cX10_sellNote 52 = .ok (.invokevirtual 114, 3) := by decide +kernel
theorem dX10_sellNote_55 : decode cX10_sellNote 55 = .ok (.ifCond .eq 18, 3) := by decide +kernel
theorem dX10_sellNote_58 : decode cX10_sellNote 58 = .ok (.aload_n 0, 1) := by decide +kernel
theorem dX10_sellNote_59 : decode cX10_sellNote 59 = .ok (.getfield 13, 3) := by decide +kernel
theorem dX10_sellNote_62 : decode cX10_sellNote 62 = .ok (.bipush 10, 2) := by decide +kernel
theorem dX10_sellNote_64 : decode cX10_sellNote 64 = .ok (.iconst 3, 1) := by decide +kernel
theorem dX10_sellNote_65 : decode cX10_sellNote 65 = .ok (.iload_n 2, 1) := by decide +kernel
theorem dX10_sellNote_66 : decode cX10_sellNote 66 = .ok (.imul, 1) := by decide +kernel
theorem dX10_sellNote_67 : decode cX10_sellNote 67 = .ok (.iadd, 1) := by decide +kernel
theorem dX10_sellNote_68 : decode cX10_sellNote 68 = .ok (.iaload, 1) := by decide +kernel
theorem dX10_sellNote_69 : decode cX10_sellNote 69 = .ok (.iload_n 3, 1) := by decide +kernel
theorem dX10_sellNote_70 : decode cX10_sellNote 70 = .ok (.if_icmp .ge 6, 3) := by decide +kernel
theorem dX10_sellNote_73 : decode cX10_sellNote 73 = .ok (.bipush (-4), 2) := by decide +kernel
theorem dX10_sellNote_75 : decode cX10_sellNote 75 = .ok (.ireturn, 1) := by decide +kernel
theorem dX10_sellNote_76 : decode cX10_sellNote 76 = .ok (.aload_n 0, 1) := by decide +kernel
theorem dX10_sellNote_77 : decode cX10_sellNote 77 = .ok (.aload_n 0, 1) := by decide +kernel
theorem dX10_sellNote_78 : decode cX10_sellNote 78 = .ok (.iload_n 1, 1) := by decide +kernel
theorem dX10_sellNote_79 : decode cX10_sellNote 79 = .ok (.iconst 0, 1) := by decide +kernel
theorem dX10_sellNote_80 : decode cX10_sellNote 80 = .ok (.invokevirtual 78, 3) := by decide +kernel
theorem dX10_sellNote_83 : decode cX10_sellNote 83 = .ok (.iload_n 3, 1) := by decide +kernel
theorem dX10_sellNote_84 : decode cX10_sellNote 84 = .ok (.invokevirtual 69, 3) := by decide +kernel
theorem dX10_sellNote_87 : decode cX10_sellNote 87 = .ok (.aload_n 0, 1) := by decide +kernel
theorem dX10_sellNote_88 : decode cX10_sellNote 88 = .ok (.getfield 13, 3) := by decide +kernel
theorem dX10_sellNote_91 : decode cX10_sellNote 91 = .ok (.bipush 10, 2) := by decide +kernel
theorem dX10_sellNote_93 : decode cX10_sellNote 93 = .ok (.iconst 3, 1) := by decide +kernel
theorem dX10_sellNote_94 : decode cX10_sellNote 94 = .ok (.iload_n 2, 1) := by decide +kernel
theorem dX10_sellNote_95 : decode cX10_sellNote 95 = .ok (.imul, 1) := by decide +kernel
theorem dX10_sellNote_96 : decode cX10_sellNote 96 = .ok (.iadd, 1) := by decide +kernel
theorem dX10_sellNote_97 : decode cX10_sellNote 97 = .ok (.dup2, 1) := by decide +kernel
theorem dX10_sellNote_98 : decode cX10_sellNote 98 = .ok (.iaload, 1) := by decide +kernel
theorem dX10_sellNote_99 : decode cX10_sellNote 99 = .ok (.iload_n 3, 1) := by decide +kernel
theorem dX10_sellNote_100 : decode cX10_sellNote 100 = .ok (.isub, 1) := by decide +kernel
theorem dX10_sellNote_101 : decode cX10_sellNote 101 = .ok (.iastore, 1) := by decide +kernel
theorem dX10_sellNote_102 : decode cX10_sellNote 102 = .ok (.aload_n 0, 1) := by decide +kernel
theorem dX10_sellNote_103 : decode cX10_sellNote 103 = .ok (.iload_n 1, 1) := by decide +kernel
theorem dX10_sellNote_104 : decode cX10_sellNote 104 = .ok (.iconst 0, 1) := by decide +kernel
theorem dX10_sellNote_105 : decode cX10_sellNote 105 = .ok (.iload_n 2, 1) := by decide +kernel
theorem dX10_sellNote_106 : decode cX10_sellNote 106 = .ok (.aload_n 0, 1) := by decide +kernel
theorem dX10_sellNote_107 : decode cX10_sellNote 107 = .ok (.iload_n 1, 1) := by decide +kernel
theorem dX10_sellNote_108 : decode cX10_sellNote 108 = .ok (.iconst 0, 1) := by decide +kernel
theorem dX10_sellNote_109 : decode cX10_sellNote 109 = .ok (.invokevirtual 78, 3) := by decide +kernel
theorem dX10_sellNote_112 : decode cX10_sellNote 112 = .ok (.isub, 1) := by decide +kernel
theorem dX10_sellNote_113 : decode cX10_sellNote 113 = .ok (.invokevirtual 97, 3) := by decide +kernel
theorem dX10_sellNote_116 : decode cX10_sellNote 116 = .ok (.aload_n 0, 1) := by decide +kernel
theorem dX10_sellNote_117 : decode cX10_sellNote 117 = .ok (.aload_n 0, 1) := by decide +kernel
theorem dX10_sellNote_118 : decode cX10_sellNote 118 = .ok (.iload_n 1, 1) := by decide +kernel
theorem dX10_sellNote_119 : decode cX10_sellNote 119 = .ok (.iconst 3, 1) := by decide +kernel
theorem dX10_sellNote_120 : decode cX10_sellNote 120 = .ok (.invokevirtual 78, 3) := by decide +kernel
theorem dX10_sellNote_123 : decode cX10_sellNote 123 = .ok (.invokevirtual 61, 3) := by decide +kernel
theorem dX10_sellNote_126 : decode cX10_sellNote 126 = .ok (.ireturn, 1) := by decide +kernel
theorem dX10_inArrears_0 : decode cX10_inArrears 0 = .ok (.iconst 0, 1) := by decide +kernel
theorem dX10_inArrears_1 : decode cX10_inArrears 1 = .ok (.istore_n 1, 1) := by decide +kernel
theorem dX10_inArrears_2 : decode cX10_inArrears 2 = .ok (.iconst 0, 1) := by decide +kernel
theorem dX10_inArrears_3 : decode cX10_inArrears 3 = .ok (.istore_n 2, 1) := by decide +kernel
theorem dX10_inArrears_4 : decode cX10_inArrears 4 = .ok (.iload_n 2, 1) := by decide +kernel
theorem dX10_inArrears_5 : decode cX10_inArrears 5 = .ok (.aload_n 0, 1) := by decide +kernel
theorem dX10_inArrears_6 : decode cX10_inArrears 6 = .ok (.getfield 13, 3) := by decide +kernel
theorem dX10_inArrears_9 : decode cX10_inArrears 9 = .ok (.iconst 2, 1) := by decide +kernel
theorem dX10_inArrears_10 : decode cX10_inArrears 10 = .ok (.iaload, 1) := by decide +kernel
theorem dX10_inArrears_11 : decode cX10_inArrears 11 = .ok (.if_icmp .ge 35, 3) := by decide +kernel
theorem dX10_inArrears_14 : decode cX10_inArrears 14 = .ok (.iload_n 1, 1) := by decide +kernel
theorem dX10_inArrears_15 : decode cX10_inArrears 15 = .ok (.aload_n 0, 1) := by decide +kernel
theorem dX10_inArrears_16 : decode cX10_inArrears 16 = .ok (.iload_n 2, 1) := by decide +kernel
theorem dX10_inArrears_17 : decode cX10_inArrears 17 = .ok (.invokevirtual 114, 3) := by decide +kernel
theorem dX10_inArrears_20 : decode cX10_inArrears 20 = .ok (.ifCond .eq 17, 3) := by decide +kernel
theorem dX10_inArrears_23 : decode cX10_inArrears 23 = .ok (.aload_n 0, 1) := by decide +kernel
theorem dX10_inArrears_24 : decode cX10_inArrears 24 = .ok (.iload_n 2, 1) := by decide +kernel
theorem dX10_inArrears_25 : decode cX10_inArrears 25 = .ok (.bipush 8, 2) := by decide +kernel
theorem dX10_inArrears_27 : decode cX10_inArrears 27 = .ok (.invokevirtual 42, 3) := by decide +kernel
theorem dX10_inArrears_30 : decode cX10_inArrears 30 = .ok (.ifCond .le 7, 3) := by decide +kernel
theorem dX10_inArrears_33 : decode cX10_inArrears 33 = .ok (.iconst 1, 1) := by decide +kernel
theorem dX10_inArrears_34 : decode cX10_inArrears 34 = .ok (.goto 4, 3) := by decide +kernel
theorem dX10_inArrears_37 : decode cX10_inArrears 37 = .ok (.iconst 0, 1) := by decide +kernel
theorem dX10_inArrears_38 : decode cX10_inArrears 38 = .ok (.iadd, 1) := by decide +kernel
theorem dX10_inArrears_39 : decode cX10_inArrears 39 = .ok (.istore_n 1, 1) := by decide +kernel
theorem dX10_inArrears_40 : decode cX10_inArrears 40 = .ok (.iinc 2 1, 3) := by decide +kernel
theorem dX10_inArrears_43 : decode cX10_inArrears 43 = .ok (.goto (-39), 3) := by decide +kernel
theorem dX10_inArrears_46 : decode cX10_inArrears 46 = .ok (.iload_n 1, 1) := by decide +kernel
theorem dX10_inArrears_47 : decode cX10_inArrears 47 = .ok (.ireturn, 1) := by decide +kernel
theorem dX10_month_0 : decode cX10_month 0 = .ok (.aload_n 0, 1) := by decide +kernel
theorem dX10_month_1 : decode cX10_month 1 = .ok (.iload_n 1, 1) := by decide +kernel
theorem dX10_month_2 : decode cX10_month 2 = .ok (.bipush 10, 2) := by decide +kernel
theorem dX10_month_4 : decode cX10_month 4 = .ok (.invokevirtual 42, 3) := by decide +kernel
theorem dX10_month_7 : decode cX10_month 7 = .ok (.bipush (-5), 2) := by decide +kernel
theorem dX10_month_9 : decode cX10_month 9 = .ok (.if_icmp .eq 26, 3) := by decide +kernel
theorem dX10_month_12 : decode cX10_month 12 = .ok (.aload_n 0, 1) := by decide +kernel
theorem dX10_month_13 : decode cX10_month 13 = .ok (.iload_n 1, 1) := by decide +kernel
theorem dX10_month_14 : decode cX10_month 14 = .ok (.bipush 9, 2) := by decide +kernel
theorem dX10_month_16 : decode cX10_month 16 = .ok (.aload_n 0, 1) := by decide +kernel
theorem dX10_month_17 : decode cX10_month 17 = .ok (.iload_n 1, 1) := by decide +kernel
theorem dX10_month_18 : decode cX10_month 18 = .ok (.bipush 10, 2) := by decide +kernel
theorem dX10_month_20 : decode cX10_month 20 = .ok (.invokevirtual 42, 3) := by decide +kernel
theorem dX10_month_23 : decode cX10_month 23 = .ok (.invokevirtual 74, 3) := by decide +kernel
theorem dX10_month_26 : decode cX10_month 26 = .ok (.aload_n 0, 1) := by decide +kernel
theorem dX10_month_27 : decode cX10_month 27 = .ok (.iload_n 1, 1) := by decide +kernel
theorem dX10_month_28 : decode cX10_month 28 = .ok (.bipush 10, 2) := by decide +kernel
theorem dX10_month_30 : decode cX10_month 30 = .ok (.bipush (-5), 2) := by decide +kernel
theorem dX10_month_32 : decode cX10_month 32 = .ok (.invokevirtual 74, 3) := by decide +kernel
theorem dX10_month_35 : decode cX10_month 35 = .ok (.aload_n 0, 1) := by decide +kernel
theorem dX10_month_36 : decode cX10_month 36 = .ok (.iload_n 1, 1) := by decide +kernel
theorem dX10_month_37 : decode cX10_month 37 = .ok (.bipush 8, 2) := by decide +kernel
theorem dX10_month_39 : decode cX10_month 39 = .ok (.aload_n 0, 1) := by decide +kernel
theorem dX10_month_40 : decode cX10_month 40 = .ok (.iload_n 1, 1) := by decide +kernel
theorem dX10_month_41 : decode cX10_month 41 = .ok (.bipush 6, 2) := by decide +kernel
theorem dX10_month_43 : decode cX10_month 43 = .ok (.invokevirtual 42, 3) := by decide +kernel
theorem dX10_month_46 : decode cX10_month 46 = .ok (.aload_n 0, 1) := by decide +kernel
theorem dX10_month_47 : decode cX10_month 47 = .ok (.iload_n 1, 1) := by decide +kernel
theorem dX10_month_48 : decode cX10_month 48 = .ok (.bipush 7, 2) := by decide +kernel
theorem dX10_month_50 : decode cX10_month 50 = .ok (.invokevirtual 42, 3) := by decide +kernel
theorem dX10_month_53 : decode cX10_month 53 = .ok (.iadd, 1) := by decide +kernel
theorem dX10_month_54 : decode cX10_month 54 = .ok (.ifCond .le 15, 3) := by decide +kernel
theorem dX10_month_57 : decode cX10_month 57 = .ok (.aload_n 0, 1) := by decide +kernel
theorem dX10_month_58 : decode cX10_month 58 = .ok (.iload_n 1, 1) := by decide +kernel
theorem dX10_month_59 : decode cX10_month 59 = .ok (.bipush 8, 2) := by decide +kernel
theorem dX10_month_61 : decode cX10_month 61 = .ok (.invokevirtual 42, 3) := by decide +kernel
theorem dX10_month_64 : decode cX10_month 64 = .ok (.iconst 1, 1) := by decide +kernel
theorem dX10_month_65 : decode cX10_month 65 = .ok (.iadd, 1) := by decide +kernel
theorem dX10_month_66 : decode cX10_month 66 = .ok (.goto 4, 3) := by decide +kernel
theorem dX10_month_69 : decode cX10_month 69 = .ok (.iconst 0, 1) := by decide +kernel
theorem dX10_month_70 : decode cX10_month 70 = .ok (.invokevirtual 74, 3) := by decide +kernel
theorem dX10_month_73 : decode cX10_month 73 = .ok (.aload_n 0, 1) := by decide +kernel
theorem dX10_month_74 : decode cX10_month 74 = .ok (.iload_n 1, 1) := by decide +kernel
theorem dX10_month_75 : decode cX10_month 75 = .ok (.bipush 6, 2) := by decide +kernel
theorem dX10_month_77 : decode cX10_month 77 = .ok (.aload_n 0, 1) := by decide +kernel
theorem dX10_month_78 : decode cX10_month 78 = .ok (.iload_n 1, 1) := by decide +kernel
theorem dX10_month_79 : decode cX10_month 79 = .ok (.bipush 6, 2) := by decide +kernel
theorem dX10_month_81 : decode cX10_month 81 = .ok (.invokevirtual 42, 3) := by decide +kernel
theorem dX10_month_84 : decode cX10_month 84 = .ok (.aload_n 0, 1) := by decide +kernel
theorem dX10_month_85 : decode cX10_month 85 = .ok (.iload_n 1, 1) := by decide +kernel
theorem dX10_month_86 : decode cX10_month 86 = .ok (.iconst 4, 1) := by decide +kernel
theorem dX10_month_87 : decode cX10_month 87 = .ok (.invokevirtual 42, 3) := by decide +kernel
theorem dX10_month_90 : decode cX10_month 90 = .ok (.aload_n 0, 1) := by decide +kernel
theorem dX10_month_91 : decode cX10_month 91 = .ok (.iload_n 1, 1) := by decide +kernel
theorem dX10_month_92 : decode cX10_month 92 = .ok (.iconst 1, 1) := by decide +kernel
theorem dX10_month_93 : decode cX10_month 93 = .ok (.invokevirtual 42, 3) := by decide +kernel
theorem dX10_month_96 : decode cX10_month 96 = .ok (.imul, 1) := by decide +kernel
theorem dX10_month_97 : decode cX10_month 97 = .ok (.sipush 1000, 3) := by decide +kernel
theorem dX10_month_100 : decode cX10_month 100 = .ok (.idiv, 1) := by decide +kernel
theorem dX10_month_101 : decode cX10_month 101 = .ok (.iadd, 1) := by decide +kernel
theorem dX10_month_102 : decode cX10_month 102 = .ok (.invokevirtual 74, 3) := by decide +kernel
theorem dX10_month_105 : decode cX10_month 105 = .ok (.aload_n 0, 1) := by decide +kernel
theorem dX10_month_106 : decode cX10_month 106 = .ok (.iload_n 1, 1) := by decide +kernel
theorem dX10_month_107 : decode cX10_month 107 = .ok (.bipush 7, 2) := by decide +kernel
theorem dX10_month_109 : decode cX10_month 109 = .ok (.invokevirtual 42, 3) := by decide +kernel
theorem dX10_month_112 : decode cX10_month 112 = .ok (.aload_n 0, 1) := by decide +kernel
theorem dX10_month_113 : decode cX10_month 113 = .ok (.iload_n 1, 1) := by decide +kernel
theorem dX10_month_114 : decode cX10_month 114 = .ok (.iconst 5, 1) := by decide +kernel
theorem dX10_month_115 : decode cX10_month 115 = .ok (.invokevirtual 42, 3) := by decide +kernel
theorem dX10_month_118 : decode cX10_month 118 = .ok (.iadd, 1) := by decide +kernel
theorem dX10_month_119 : decode cX10_month 119 = .ok (.istore_n 2, 1) := by decide +kernel
theorem dX10_month_120 : decode cX10_month 120 = .ok (.aload_n 0, 1) := by decide +kernel
theorem dX10_month_121 : decode cX10_month 121 = .ok (.iload_n 1, 1) := by decide +kernel
theorem dX10_month_122 : decode cX10_month 122 = .ok (.bipush 7, 2) := by decide +kernel
theorem dX10_month_124 : decode cX10_month 124 = .ok (.iload_n 2, 1) := by decide +kernel
theorem dX10_month_125 : decode cX10_month 125 = .ok (.aload_n 0, 1) := by decide +kernel
theorem dX10_month_126 : decode cX10_month 126 = .ok (.iload_n 1, 1) := by decide +kernel
theorem dX10_month_127 : decode cX10_month 127 = .ok (.iconst 4, 1) := by decide +kernel
theorem dX10_month_128 : decode cX10_month 128 = .ok (.invokevirtual 42, 3) := by decide +kernel
theorem dX10_month_131 : decode cX10_month 131 = .ok (.if_icmp .ge 7, 3) := by decide +kernel
theorem dX10_month_134 : decode cX10_month 134 = .ok (.iload_n 2, 1) := by decide +kernel
theorem dX10_month_135 : decode cX10_month 135 = .ok (.goto 9, 3) := by decide +kernel
theorem dX10_month_138 : decode cX10_month 138 = .ok (.aload_n 0, 1) := by decide +kernel
theorem dX10_month_139 : decode cX10_month 139 = .ok (.iload_n 1, 1) := by decide +kernel
theorem dX10_month_140 : decode cX10_month 140 = .ok (.iconst 4, 1) := by decide +kernel
theorem dX10_month_141 : decode cX10_month 141 = .ok (.invokevirtual 42, 3) := by decide +kernel
theorem dX10_month_144 : decode cX10_month 144 = .ok (.invokevirtual 74, 3) := by decide +kernel
theorem dX10_month_147 : decode cX10_month 147 = .ok (.return_, 1) := by decide +kernel
theorem dX10_pass_0 : decode cX10_pass 0 = .ok (.aload_n 0, 1) := by decide +kernel
theorem dX10_pass_1 : decode cX10_pass 1 = .ok (.invokevirtual 58, 3) := by decide +kernel
theorem dX10_pass_4 : decode cX10_pass 4 = .ok (.iload_n 1, 1) := by decide +kernel
theorem dX10_pass_5 : decode cX10_pass 5 = .ok (.iconst 1, 1) := by decide +kernel
theorem dX10_pass_6 : decode cX10_pass 6 = .ok (.bipush 24, 2) := by decide +kernel
theorem dX10_pass_8 : decode cX10_pass 8 = .ok (.invokestatic 38, 3) := by decide +kernel
theorem dX10_pass_11 : decode cX10_pass 11 = .ok (.ifCond .ne 6, 3) := by decide +kernel
theorem dX10_pass_14 : decode cX10_pass 14 = .ok (.bipush (-2), 2) := by decide +kernel
theorem dX10_pass_16 : decode cX10_pass 16 = .ok (.ireturn, 1) := by decide +kernel
theorem dX10_pass_17 : decode cX10_pass 17 = .ok (.aload_n 0, 1) := by decide +kernel
theorem dX10_pass_18 : decode cX10_pass 18 = .ok (.getfield 13, 3) := by decide +kernel
theorem dX10_pass_21 : decode cX10_pass 21 = .ok (.iconst 0, 1) := by decide +kernel
theorem dX10_pass_22 : decode cX10_pass 22 = .ok (.iaload, 1) := by decide +kernel
theorem dX10_pass_23 : decode cX10_pass 23 = .ok (.iload_n 1, 1) := by decide +kernel
theorem dX10_pass_24 : decode cX10_pass 24 = .ok (.iadd, 1) := by decide +kernel
theorem dX10_pass_25 : decode cX10_pass 25 = .ok (.sipush 240, 3) := by decide +kernel
theorem dX10_pass_28 : decode cX10_pass 28 = .ok (.if_icmp .le 6, 3) := by decide +kernel
theorem dX10_pass_31 : decode cX10_pass 31 = .ok (.bipush (-4), 2) := by decide +kernel
theorem dX10_pass_33 : decode cX10_pass 33 = .ok (.ireturn, 1) := by decide +kernel
theorem dX10_pass_34 : decode cX10_pass 34 = .ok (.iconst 0, 1) := by decide +kernel
theorem dX10_pass_35 : decode cX10_pass 35 = .ok (.istore_n 2, 1) := by decide +kernel
theorem dX10_pass_36 : decode cX10_pass 36 = .ok (.iload_n 2, 1) := by decide +kernel
theorem dX10_pass_37 : decode cX10_pass 37 = .ok (.iload_n 1, 1) := by decide +kernel
theorem dX10_pass_38 : decode cX10_pass 38 = .ok (.if_icmp .ge 40, 3) := by decide +kernel
theorem dX10_pass_41 : decode cX10_pass 41 = .ok (.iconst 0, 1) := by decide +kernel
theorem dX10_pass_42 : decode cX10_pass 42 = .ok (.istore_n 3, 1) := by decide +kernel
theorem dX10_pass_43 : decode cX10_pass 43 = .ok (.iload_n 3, 1) := by decide +kernel
theorem dX10_pass_44 : decode cX10_pass 44 = .ok (.aload_n 0, 1) := by decide +kernel
theorem dX10_pass_45 : decode cX10_pass 45 = .ok (.getfield 13, 3) := by decide +kernel
theorem dX10_pass_48 : decode cX10_pass 48 = .ok (.iconst 2, 1) := by decide +kernel
theorem dX10_pass_49 : decode cX10_pass 49 = .ok (.iaload, 1) := by decide +kernel
theorem dX10_pass_50 : decode cX10_pass 50 = .ok (.if_icmp .ge 22, 3) := by decide +kernel
theorem dX10_pass_53 : decode cX10_pass 53 = .ok (.aload_n 0, 1) := by decide +kernel
theorem dX10_pass_54 : decode cX10_pass 54 = .ok (.iload_n 3, 1) := by decide +kernel
theorem dX10_pass_55 : decode cX10_pass 55 = .ok (.invokevirtual 114, 3) := by decide +kernel
theorem dX10_pass_58 : decode cX10_pass 58 = .ok (.ifCond .eq 8, 3) := by decide +kernel
theorem dX10_pass_61 : decode cX10_pass 61 = .ok (.aload_n 0, 1) := by decide +kernel
theorem dX10_pass_62 : decode cX10_pass 62 = .ok (.iload_n 3, 1) := by decide +kernel
theorem dX10_pass_63 : decode cX10_pass 63 = .ok (.invokevirtual 143, 3) := by decide +kernel
theorem dX10_pass_66 : decode cX10_pass 66 = .ok (.iinc 3 1, 3) := by decide +kernel
theorem dX10_pass_69 : decode cX10_pass 69 = .ok (.goto (-26), 3) := by decide +kernel
theorem dX10_pass_72 : decode cX10_pass 72 = .ok (.iinc 2 1, 3) := by decide +kernel
theorem dX10_pass_75 : decode cX10_pass 75 = .ok (.goto (-39), 3) := by decide +kernel
theorem dX10_pass_78 : decode cX10_pass 78 = .ok (.aload_n 0, 1) := by decide +kernel
theorem dX10_pass_79 : decode cX10_pass 79 = .ok (.getfield 13, 3) := by decide +kernel
theorem dX10_pass_82 : decode cX10_pass 82 = .ok (.iconst 0, 1) := by decide +kernel
theorem dX10_pass_83 : decode cX10_pass 83 = .ok (.dup2, 1) := by decide +kernel
theorem dX10_pass_84 : decode cX10_pass 84 = .ok (.iaload, 1) := by decide +kernel
theorem dX10_pass_85 : decode cX10_pass 85 = .ok (.iload_n 1, 1) := by decide +kernel
theorem dX10_pass_86 : decode cX10_pass 86 = .ok (.iadd, 1) := by decide +kernel
theorem dX10_pass_87 : decode cX10_pass 87 = .ok (.iastore, 1) := by decide +kernel
theorem dX10_pass_88 : decode cX10_pass 88 = .ok (.aload_n 0, 1) := by decide +kernel
theorem dX10_pass_89 : decode cX10_pass 89 = .ok (.aload_n 0, 1) := by decide +kernel
theorem dX10_pass_90 : decode cX10_pass 90 = .ok (.invokevirtual 147, 3) := by decide +kernel
theorem dX10_pass_93 : decode cX10_pass 93 = .ok (.invokevirtual 61, 3) := by decide +kernel
theorem dX10_pass_96 : decode cX10_pass 96 = .ok (.ireturn, 1) := by decide +kernel
theorem dX10_type_0 : decode cX10_type 0 = .ok (.aload_n 0, 1) := by decide +kernel
theorem dX10_type_1 : decode cX10_type 1 = .ok (.iconst 0, 1) := by decide +kernel
theorem dX10_type_2 : decode cX10_type 2 = .ok (.putfield 1, 3) := by decide +kernel
theorem dX10_type_5 : decode cX10_type 5 = .ok (.aload_n 0, 1) := by decide +kernel
theorem dX10_type_6 : decode cX10_type 6 = .ok (.getfield 151, 3) := by decide +kernel
theorem dX10_type_9 : decode cX10_type 9 = .ok (.bipush 60, 2) := by decide +kernel
theorem dX10_type_11 : decode cX10_type 11 = .ok (.if_icmp .ne 6, 3) := by decide +kernel
theorem dX10_type_14 : decode cX10_type 14 = .ok (.bipush (-3), 2) := by decide +kernel
theorem dX10_type_16 : decode cX10_type 16 = .ok (.ireturn, 1) := by decide +kernel
theorem dX10_type_17 : decode cX10_type 17 = .ok (.aload_n 0, 1) := by decide +kernel
theorem dX10_type_18 : decode cX10_type 18 = .ok (.getfield 26, 3) := by decide +kernel
theorem dX10_type_21 : decode cX10_type 21 = .ok (.aload_n 0, 1) := by decide +kernel
theorem dX10_type_22 : decode cX10_type 22 = .ok (.getfield 151, 3) := by decide +kernel
theorem dX10_type_25 : decode cX10_type 25 = .ok (.iload_n 1, 1) := by decide +kernel
theorem dX10_type_26 : decode cX10_type 26 = .ok (.iastore, 1) := by decide +kernel
theorem dX10_type_27 : decode cX10_type 27 = .ok (.aload_n 0, 1) := by decide +kernel
theorem dX10_type_28 : decode cX10_type 28 = .ok (.dup, 1) := by decide +kernel
theorem dX10_type_29 : decode cX10_type 29 = .ok (.getfield 151, 3) := by decide +kernel
theorem dX10_type_32 : decode cX10_type 32 = .ok (.iconst 1, 1) := by decide +kernel
theorem dX10_type_33 : decode cX10_type 33 = .ok (.iadd, 1) := by decide +kernel
theorem dX10_type_34 : decode cX10_type 34 = .ok (.putfield 151, 3) := by decide +kernel
theorem dX10_type_37 : decode cX10_type 37 = .ok (.aload_n 0, 1) := by decide +kernel
theorem dX10_type_38 : decode cX10_type 38 = .ok (.getfield 151, 3) := by decide +kernel
theorem dX10_type_41 : decode cX10_type 41 = .ok (.ireturn, 1) := by decide +kernel
theorem dX10_clearText_0 : decode cX10_clearText 0 = .ok (.aload_n 0, 1) := by decide +kernel
theorem dX10_clearText_1 : decode cX10_clearText 1 = .ok (.iconst 0, 1) := by decide +kernel
theorem dX10_clearText_2 : decode cX10_clearText 2 = .ok (.putfield 1, 3) := by decide +kernel
theorem dX10_clearText_5 : decode cX10_clearText 5 = .ok (.aload_n 0, 1) := by decide +kernel
theorem dX10_clearText_6 : decode cX10_clearText 6 = .ok (.getfield 151, 3) := by decide +kernel
theorem dX10_clearText_9 : decode cX10_clearText 9 = .ok (.istore_n 1, 1) := by decide +kernel
theorem dX10_clearText_10 : decode cX10_clearText 10 = .ok (.aload_n 0, 1) := by decide +kernel
theorem dX10_clearText_11 : decode cX10_clearText 11 = .ok (.iconst 0, 1) := by decide +kernel
theorem dX10_clearText_12 : decode cX10_clearText 12 = .ok (.putfield 151, 3) := by decide +kernel
theorem dX10_clearText_15 : decode cX10_clearText 15 = .ok (.iload_n 1, 1) := by decide +kernel
theorem dX10_clearText_16 : decode cX10_clearText 16 = .ok (.ireturn, 1) := by decide +kernel
theorem dX10_look_0 : decode cX10_look 0 = .ok (.aload_n 0, 1) := by decide +kernel
theorem dX10_look_1 : decode cX10_look 1 = .ok (.getfield 154, 3) := by decide +kernel
theorem dX10_look_4 : decode cX10_look 4 = .ok (.aload_n 0, 1) := by decide +kernel
theorem dX10_look_5 : decode cX10_look 5 = .ok (.getfield 151, 3) := by decide +kernel
theorem dX10_look_8 : decode cX10_look 8 = .ok (.if_icmp .ge 15, 3) := by decide +kernel
theorem dX10_look_11 : decode cX10_look 11 = .ok (.aload_n 0, 1) := by decide +kernel
theorem dX10_look_12 : decode cX10_look 12 = .ok (.getfield 26, 3) := by decide +kernel
theorem dX10_look_15 : decode cX10_look 15 = .ok (.aload_n 0, 1) := by decide +kernel
theorem dX10_look_16 : decode cX10_look 16 = .ok (.getfield 154, 3) := by decide +kernel
theorem dX10_look_19 : decode cX10_look 19 = .ok (.iaload, 1) := by decide +kernel
theorem dX10_look_20 : decode cX10_look 20 = .ok (.goto 4, 3) := by decide +kernel
theorem dX10_look_23 : decode cX10_look 23 = .ok (.iconst (-1), 1) := by decide +kernel
theorem dX10_look_24 : decode cX10_look 24 = .ok (.ireturn, 1) := by decide +kernel
theorem dX10_must_0 : decode cX10_must 0 = .ok (.aload_n 0, 1) := by decide +kernel
theorem dX10_must_1 : decode cX10_must 1 = .ok (.aload_n 0, 1) := by decide +kernel
theorem dX10_must_2 : decode cX10_must 2 = .ok (.getfield 157, 3) := by decide +kernel
theorem dX10_must_5 : decode cX10_must 5 = .ok (.ifCond .ne 7, 3) := by decide +kernel
theorem dX10_must_8 : decode cX10_must 8 = .ok (.iload_n 1, 1) := by decide +kernel
theorem dX10_must_9 : decode cX10_must 9 = .ok (.ifCond .ne 7, 3) := by decide +kernel
theorem dX10_must_12 : decode cX10_must 12 = .ok (.iconst 1, 1) := by decide +kernel
theorem dX10_must_13 : decode cX10_must 13 = .ok (.goto 4, 3) := by decide +kernel
theorem dX10_must_16 : decode cX10_must 16 = .ok (.iconst 0, 1) := by decide +kernel
theorem dX10_must_17 : decode cX10_must 17 = .ok (.putfield 157, 3) := by decide +kernel
theorem dX10_must_20 : decode cX10_must 20 = .ok (.aload_n 0, 1) := by decide +kernel
theorem dX10_must_21 : decode cX10_must 21 = .ok (.dup, 1) := by decide +kernel
theorem dX10_must_22 : decode cX10_must 22 = .ok (.getfield 154, 3) := by decide +kernel
theorem dX10_must_25 : decode cX10_must 25 = .ok (.aload_n 0, 1) := by decide +kernel
theorem dX10_must_26 : decode cX10_must 26 = .ok (.getfield 157, 3) := by decide +kernel
theorem dX10_must_29 : decode cX10_must 29 = .ok (.ifCond .eq 7, 3) := by decide +kernel
theorem dX10_must_32 : decode cX10_must 32 = .ok (.iconst 0, 1) := by decide +kernel
theorem dX10_must_33 : decode cX10_must 33 = .ok (.goto 4, 3) := by decide +kernel
theorem dX10_must_36 : decode cX10_must 36 = .ok (.iconst 1, 1) := by decide +kernel
theorem dX10_must_37 : decode cX10_must 37 = .ok (.iadd, 1) := by decide +kernel
theorem dX10_must_38 : decode cX10_must 38 = .ok (.putfield 154, 3) := by decide +kernel
theorem dX10_must_41 : decode cX10_must 41 = .ok (.return_, 1) := by decide +kernel
theorem dX10_digit_0 : decode cX10_digit 0 = .ok (.aload_n 0, 1) := by decide +kernel
theorem dX10_digit_1 : decode cX10_digit 1 = .ok (.invokevirtual 160, 3) := by decide +kernel
theorem dX10_digit_4 : decode cX10_digit 4 = .ok (.bipush 48, 2) := by decide +kernel
theorem dX10_digit_6 : decode cX10_digit 6 = .ok (.isub, 1) := by decide +kernel
theorem dX10_digit_7 : decode cX10_digit 7 = .ok (.istore_n 2, 1) := by decide +kernel
theorem dX10_digit_8 : decode cX10_digit 8 = .ok (.aload_n 0, 1) := by decide +kernel
theorem dX10_digit_9 : decode cX10_digit 9 = .ok (.iload_n 2, 1) := by decide +kernel
theorem dX10_digit_10 : decode cX10_digit 10 = .ok (.iload_n 1, 1) := by decide +kernel
theorem dX10_digit_11 : decode cX10_digit 11 = .ok (.bipush 9, 2) := by decide +kernel
theorem dX10_digit_13 : decode cX10_digit 13 = .ok (.invokestatic 38, 3) := by decide +kernel
theorem dX10_digit_16 : decode cX10_digit 16 = .ok (.invokevirtual 163, 3) := by decide +kernel
theorem dX10_digit_19 : decode cX10_digit 19 = .ok (.iload_n 2, 1) := by decide +kernel
theorem dX10_digit_20 : decode cX10_digit 20 = .ok (.ireturn, 1) := by decide +kernel
theorem dX10_tell_0 : decode cX10_tell 0 = .ok (.aload_n 0, 1) := by decide +kernel
theorem dX10_tell_1 : decode cX10_tell 1 = .ok (.getfield 35, 3) := by decide +kernel
theorem dX10_tell_4 : decode cX10_tell 4 = .ok (.iconst 4, 1) := by decide +kernel
theorem dX10_tell_5 : decode cX10_tell 5 = .ok (.iload_n 1, 1) := by decide +kernel
theorem dX10_tell_6 : decode cX10_tell 6 = .ok (.imul, 1) := by decide +kernel
theorem dX10_tell_7 : decode cX10_tell 7 = .ok (.aload_n 0, 1) := by decide +kernel
theorem dX10_tell_8 : decode cX10_tell 8 = .ok (.iconst 0, 1) := by decide +kernel
theorem dX10_tell_9 : decode cX10_tell 9 = .ok (.invokevirtual 167, 3) := by decide +kernel
theorem dX10_tell_12 : decode cX10_tell 12 = .ok (.iastore, 1) := by decide +kernel
theorem dX10_tell_13 : decode cX10_tell 13 = .ok (.aload_n 0, 1) := by decide +kernel
theorem dX10_tell_14 : decode cX10_tell 14 = .ok (.aload_n 0, 1) := by decide +kernel
theorem dX10_tell_15 : decode cX10_tell 15 = .ok (.invokevirtual 160, 3) := by decide +kernel
theorem dX10_tell_18 : decode cX10_tell 18 = .ok (.bipush 62, 2) := by decide +kernel
theorem dX10_tell_20 : decode cX10_tell 20 = .ok (.if_icmp .ne 7, 3) := by decide +kernel
theorem dX10_tell_23 : decode cX10_tell 23 = .ok (.iconst 1, 1) := by decide +kernel
theorem dX10_tell_24 : decode cX10_tell 24 = .ok (.goto 4, 3) := by decide +kernel
theorem dX10_tell_27 : decode cX10_tell 27 = .ok (.iconst 0, 1) := by decide +kernel
theorem dX10_tell_28 : decode cX10_tell 28 = .ok (.invokevirtual 163, 3) := by decide +kernel
theorem dX10_tell_31 : decode cX10_tell 31 = .ok (.aload_n 0, 1) := by decide +kernel
theorem dX10_tell_32 : decode cX10_tell 32 = .ok (.getfield 35, 3) := by decide +kernel
theorem dX10_tell_35 : decode cX10_tell 35 = .ok (.iconst 4, 1) := by decide +kernel
theorem dX10_tell_36 : decode cX10_tell 36 = .ok (.iload_n 1, 1) := by decide +kernel
theorem dX10_tell_37 : decode cX10_tell 37 = .ok (.imul, 1) := by decide +kernel
theorem dX10_tell_38 : decode cX10_tell 38 = .ok (.iconst 1, 1) := by decide +kernel
theorem dX10_tell_39 : decode cX10_tell 39 = .ok (.iadd, 1) := by decide +kernel
theorem dX10_tell_40 : decode cX10_tell 40 = .ok (.aload_n 0, 1) := by decide +kernel
theorem dX10_tell_41 : decode cX10_tell 41 = .ok (.iconst 0, 1) := by decide +kernel
theorem dX10_tell_42 : decode cX10_tell 42 = .ok (.invokevirtual 167, 3) := by decide +kernel
theorem dX10_tell_45 : decode cX10_tell 45 = .ok (.iastore, 1) := by decide +kernel
theorem dX10_tell_46 : decode cX10_tell 46 = .ok (.aload_n 0, 1) := by decide +kernel
theorem dX10_tell_47 : decode cX10_tell 47 = .ok (.getfield 35, 3) := by decide +kernel
theorem dX10_tell_50 : decode cX10_tell 50 = .ok (.iconst 4, 1) := by decide +kernel
theorem dX10_tell_51 : decode cX10_tell 51 = .ok (.iload_n 1, 1) := by decide +kernel
theorem dX10_tell_52 : decode cX10_tell 52 = .ok (.imul, 1) := by decide +kernel
theorem dX10_tell_53 : decode cX10_tell 53 = .ok (.iconst 2, 1) := by decide +kernel
theorem dX10_tell_54 : decode cX10_tell 54 = .ok (.iadd, 1) := by decide +kernel
theorem dX10_tell_55 : decode cX10_tell 55 = .ok (.aload_n 0, 1) := by decide +kernel
theorem dX10_tell_56 : decode cX10_tell 56 = .ok (.invokevirtual 160, 3) := by decide +kernel
theorem dX10_tell_59 : decode cX10_tell 59 = .ok (.bipush 106, 2) := by decide +kernel
theorem dX10_tell_61 : decode cX10_tell 61 = .ok (.if_icmp .ne 7, 3) := by decide +kernel
theorem dX10_tell_64 : decode cX10_tell 64 = .ok (.iconst 1, 1) := by decide +kernel
theorem dX10_tell_65 : decode cX10_tell 65 = .ok (.goto 4, 3) := by decide +kernel
theorem dX10_tell_68 : decode cX10_tell 68 = .ok (.iconst 0, 1) := by decide +kernel
theorem dX10_tell_69 : decode cX10_tell 69 = .ok (.iastore, 1) := by decide +kernel
theorem dX10_tell_70 : decode cX10_tell 70 = .ok (.aload_n 0, 1) := by decide +kernel
theorem dX10_tell_71 : decode cX10_tell 71 = .ok (.aload_n 0, 1) := by decide +kernel
theorem dX10_tell_72 : decode cX10_tell 72 = .ok (.invokevirtual 160, 3) := by decide +kernel
theorem dX10_tell_75 : decode cX10_tell 75 = .ok (.bipush 115, 2) := by decide +kernel
theorem dX10_tell_77 : decode cX10_tell 77 = .ok (.if_icmp .eq 12, 3) := by decide +kernel
theorem dX10_tell_80 : decode cX10_tell 80 = .ok (.aload_n 0, 1) := by decide +kernel
theorem dX10_tell_81 : decode cX10_tell 81 = .ok (.invokevirtual 160, 3) := by decide +kernel
theorem dX10_tell_84 : decode cX10_tell 84 = .ok (.bipush 106, 2) := by decide +kernel
theorem dX10_tell_86 : decode cX10_tell 86 = .ok (.if_icmp .ne 7, 3) := by decide +kernel
theorem dX10_tell_89 : decode cX10_tell 89 = .ok (.iconst 1, 1) := by decide +kernel
theorem dX10_tell_90 : decode cX10_tell 90 = .ok (.goto 4, 3) := by decide +kernel
theorem dX10_tell_93 : decode cX10_tell 93 = .ok (.iconst 0, 1) := by decide +kernel
theorem dX10_tell_94 : decode cX10_tell 94 = .ok (.invokevirtual 163, 3) := by decide +kernel
theorem dX10_tell_97 : decode cX10_tell 97 = .ok (.aload_n 0, 1) := by decide +kernel
theorem dX10_tell_98 : decode cX10_tell 98 = .ok (.iconst 1, 1) := by decide +kernel
theorem dX10_tell_99 : decode cX10_tell 99 = .ok (.invokevirtual 167, 3) := by decide +kernel
theorem dX10_tell_102 : decode cX10_tell 102 = .ok (.istore_n 2, 1) := by decide +kernel
theorem dX10_tell_103 : decode cX10_tell 103 = .ok (.iconst 1, 1) := by decide +kernel
theorem dX10_tell_104 : decode cX10_tell 104 = .ok (.istore_n 3, 1) := by decide +kernel
theorem dX10_tell_105 : decode cX10_tell 105 = .ok (.iload_n 3, 1) := by decide +kernel
theorem dX10_tell_106 : decode cX10_tell 106 = .ok (.iconst 5, 1) := by decide +kernel
theorem dX10_tell_107 : decode cX10_tell 107 = .ok (.if_icmp .ge 53, 3) := by decide +kernel
theorem dX10_tell_110 : decode cX10_tell 110 = .ok (.aload_n 0, 1) := by decide +kernel
theorem dX10_tell_111 : decode cX10_tell 111 = .ok (.getfield 157, 3) := by decide +kernel
theorem dX10_tell_114 : decode cX10_tell 114 = .ok (.ifCond .ne 46, 3) := by decide +kernel
theorem dX10_tell_117 : decode cX10_tell 117 = .ok (.aload_n 0, 1) := by decide +kernel
theorem dX10_tell_118 : decode cX10_tell 118 = .ok (.invokevirtual 160, 3) := by decide +kernel
theorem dX10_tell_121 : decode cX10_tell 121 = .ok (.bipush 48, 2) := by decide +kernel
theorem dX10_tell_123 : decode cX10_tell 123 = .ok (.bipush 57, 2) := by decide +kernel
theorem dX10_tell_125 : decode cX10_tell 125 = .ok (.invokestatic 38, 3) := by decide +kernel
theorem dX10_tell_128 : decode cX10_tell 128 = .ok (.ifCond .eq 32, 3) := by decide +kernel
theorem dX10_tell_131 : decode cX10_tell 131 = .ok (.bipush 10, 2) := by decide +kernel
theorem dX10_tell_133 : decode cX10_tell 133 = .ok (.iload_n 2, 1) := by decide +kernel
theorem dX10_tell_134 : decode cX10_tell 134 = .ok (.imul, 1) := by decide +kernel
theorem dX10_tell_135 : decode cX10_tell 135 = .ok (.aload_n 0, 1) := by decide +kernel
theorem dX10_tell_136 : decode cX10_tell 136 = .ok (.invokevirtual 160, 3) := by decide +kernel
theorem dX10_tell_139 : decode cX10_tell 139 = .ok (.iadd, 1) := by decide +kernel
theorem dX10_tell_140 : decode cX10_tell 140 = .ok (.bipush 48, 2) := by decide +kernel
theorem dX10_tell_142 : decode cX10_tell 142 = .ok (.isub, 1) := by decide +kernel
theorem dX10_tell_143 : decode cX10_tell 143 = .ok (.istore_n 2, 1) := by decide +kernel
theorem dX10_tell_144 : decode cX10_tell 144 = .ok (.aload_n 0, 1) := by decide +kernel
theorem dX10_tell_145 : decode cX10_tell 145 = .ok (.dup, 1) := by decide +kernel
theorem dX10_tell_146 : decode cX10_tell 146 = .ok (.getfield 154, 3) := by decide +kernel
theorem dX10_tell_149 : decode cX10_tell 149 = .ok (.iconst 1, 1) := by decide +kernel
theorem dX10_tell_150 : decode cX10_tell 150 = .ok (.iadd, 1) := by decide +kernel
theorem dX10_tell_151 : decode cX10_tell 151 = .ok (.putfield 154, 3) := by decide +kernel
theorem dX10_tell_154 : decode cX10_tell 154 = .ok (.iinc 3 1, 3) := by decide +kernel
theorem dX10_tell_157 : decode cX10_tell 157 = .ok (.goto (-52), 3) := by decide +kernel
theorem dX10_tell_160 : decode cX10_tell 160 = .ok (.aload_n 0, 1) := by decide +kernel
theorem dX10_tell_161 : decode cX10_tell 161 = .ok (.getfield 35, 3) := by decide +kernel
theorem dX10_tell_164 : decode cX10_tell 164 = .ok (.iconst 4, 1) := by decide +kernel
theorem dX10_tell_165 : decode cX10_tell 165 = .ok (.iload_n 1, 1) := by decide +kernel
theorem dX10_tell_166 : decode cX10_tell 166 = .ok (.imul, 1) := by decide +kernel
theorem dX10_tell_167 : decode cX10_tell 167 = .ok (.iconst 3, 1) := by decide +kernel
theorem dX10_tell_168 : decode cX10_tell 168 = .ok (.iadd, 1) := by decide +kernel
theorem dX10_tell_169 : decode cX10_tell 169 = .ok (.iload_n 2, 1) := by decide +kernel
theorem dX10_tell_170 : decode cX10_tell 170 = .ok (.iastore, 1) := by decide +kernel
theorem dX10_tell_171 : decode cX10_tell 171 = .ok (.return_, 1) := by decide +kernel
theorem dX10_readFundings_0 : decode cX10_readFundings 0 = .ok (.aload_n 0, 1) := by decide +kernel
theorem dX10_readFundings_1 : decode cX10_readFundings 1 = .ok (.invokevirtual 58, 3) := by decide +kernel
theorem dX10_readFundings_4 : decode cX10_readFundings 4 = .ok (.aload_n 0, 1) := by decide +kernel
theorem dX10_readFundings_5 : decode cX10_readFundings 5 = .ok (.iconst 0, 1) := by decide +kernel
theorem dX10_readFundings_6 : decode cX10_readFundings 6 = .ok (.putfield 154, 3) := by decide +kernel
theorem dX10_readFundings_9 : decode cX10_readFundings 9 = .ok (.aload_n 0, 1) := by decide +kernel
theorem dX10_readFundings_10 : decode cX10_readFundings 10 = .ok (.iconst 0, 1) := by decide +kernel
theorem dX10_readFundings_11 : decode cX10_readFundings 11 = .ok (.putfield 157, 3) := by decide +kernel
theorem dX10_readFundings_14 : decode cX10_readFundings 14 = .ok (.iconst 0, 1) := by decide +kernel
theorem dX10_readFundings_15 : decode cX10_readFundings 15 = .ok (.istore_n 1, 1) := by decide +kernel
theorem dX10_readFundings_16 : decode cX10_readFundings 16 = .ok (.iconst 1, 1) := by decide +kernel
theorem dX10_readFundings_17 : decode cX10_readFundings 17 = .ok (.istore_n 2, 1) := by decide +kernel
theorem dX10_readFundings_18 : decode cX10_readFundings 18 = .ok (.iload_n 2, 1) := by decide +kernel
theorem dX10_readFundings_19 : decode cX10_readFundings 19 = .ok (.ifCond .eq 73, 3) := by decide +kernel
theorem dX10_readFundings_22 : decode cX10_readFundings 22 = .ok (.aload_n 0, 1) := by decide +kernel
theorem dX10_readFundings_23 : decode cX10_readFundings 23 = .ok (.iload_n 1, 1) := by decide +kernel
theorem dX10_readFundings_24 : decode cX10_readFundings 24 = .ok (.invokevirtual 170, 3) := by decide +kernel
theorem dX10_readFundings_27 : decode cX10_readFundings 27 = .ok (.iinc 1 1, 3) := by decide +kernel
theorem dX10_readFundings_30 : decode cX10_readFundings 30 = .ok (.aload_n 0, 1) := by decide +kernel
theorem dX10_readFundings_31 : decode cX10_readFundings 31 = .ok (.getfield 157, 3) := by decide +kernel
theorem dX10_readFundings_34 : decode cX10_readFundings 34 = .ok (.ifCond .ne 18, 3) := by decide +kernel
theorem dX10_readFundings_37 : decode cX10_readFundings 37 = .ok (.aload_n 0, 1) := by decide +kernel
theorem dX10_readFundings_38 : decode cX10_readFundings 38 = .ok (.getfield 154, 3) := by decide +kernel
theorem dX10_readFundings_41 : decode cX10_readFundings 41 = .ok (.aload_n 0, 1) := by decide +kernel
theorem dX10_readFundings_42 : decode cX10_readFundings 42 = .ok (.getfield 151, 3) := by decide +kernel
theorem dX10_readFundings_45 : decode cX10_readFundings 45 = .ok (.if_icmp .ge 7, 3) := by decide +kernel
theorem dX10_readFundings_48 : decode cX10_readFundings 48 = .ok (.iconst 1, 1) := by decide +kernel
theorem dX10_readFundings_49 : decode cX10_readFundings 49 = .ok (.goto 4, 3) := by decide +kernel
theorem dX10_readFundings_52 : decode cX10_readFundings 52 = .ok (.iconst 0, 1) := by decide +kernel
theorem dX10_readFundings_53 : decode cX10_readFundings 53 = .ok (.istore_n 2, 1) := by decide +kernel
theorem dX10_readFundings_54 : decode cX10_readFundings 54 = .ok (.iload_n 2, 1) := by decide +kernel
theorem dX10_readFundings_55 : decode cX10_readFundings 55 = .ok (.ifCond .eq (-37), 3) := by decide +kernel
theorem dX10_readFundings_58 : decode cX10_readFundings 58 = .ok (.aload_n 0, 1) := by decide +kernel
theorem dX10_readFundings_59 : decode cX10_readFundings 59 = .ok (.aload_n 0, 1) := by decide +kernel
theorem dX10_readFundings_60 : decode cX10_readFundings 60 = .ok (.invokevirtual 160, 3) := by decide +kernel
theorem dX10_readFundings_63 : decode cX10_readFundings 63 = .ok (.bipush 59, 2) := by decide +kernel
theorem dX10_readFundings_65 : decode cX10_readFundings 65 = .ok (.if_icmp .ne 7, 3) := by decide +kernel
theorem dX10_readFundings_68 : decode cX10_readFundings 68 = .ok (.iconst 1, 1) := by decide +kernel
theorem dX10_readFundings_69 : decode cX10_readFundings 69 = .ok (.goto 4, 3) := by decide +kernel
theorem dX10_readFundings_72 : decode cX10_readFundings 72 = .ok (.iconst 0, 1) := by decide +kernel
theorem dX10_readFundings_73 : decode cX10_readFundings 73 = .ok (.invokevirtual 163, 3) := by decide +kernel
theorem dX10_readFundings_76 : decode cX10_readFundings 76 = .ok (.aload_n 0, 1) := by decide +kernel
theorem dX10_readFundings_77 : decode cX10_readFundings 77 = .ok (.getfield 157, 3) := by decide +kernel
theorem dX10_readFundings_80 : decode cX10_readFundings 80 = .ok (.ifCond .ne 7, 3) := by decide +kernel
theorem dX10_readFundings_83 : decode cX10_readFundings 83 = .ok (.iconst 1, 1) := by decide +kernel
theorem dX10_readFundings_84 : decode cX10_readFundings 84 = .ok (.goto 4, 3) := by decide +kernel
theorem dX10_readFundings_87 : decode cX10_readFundings 87 = .ok (.iconst 0, 1) := by decide +kernel
theorem dX10_readFundings_88 : decode cX10_readFundings 88 = .ok (.istore_n 2, 1) := by decide +kernel
theorem dX10_readFundings_89 : decode cX10_readFundings 89 = .ok (.goto (-71), 3) := by decide +kernel
theorem dX10_readFundings_92 : decode cX10_readFundings 92 = .ok (.aload_n 0, 1) := by decide +kernel
theorem dX10_readFundings_93 : decode cX10_readFundings 93 = .ok (.getfield 157, 3) := by decide +kernel
theorem dX10_readFundings_96 : decode cX10_readFundings 96 = .ok (.ifCond .eq 11, 3) := by decide +kernel
theorem dX10_readFundings_99 : decode cX10_readFundings 99 = .ok (.bipush (-100), 2) := by decide +kernel
theorem dX10_readFundings_101 : decode cX10_readFundings 101 = .ok (.aload_n 0, 1) := by decide +kernel
theorem dX10_readFundings_102 : decode cX10_readFundings 102 = .ok (.getfield 154, 3) := by decide +kernel
theorem dX10_readFundings_105 : decode cX10_readFundings 105 = .ok (.isub, 1) := by decide +kernel
theorem dX10_readFundings_106 : decode cX10_readFundings 106 = .ok (.ireturn, 1) := by decide +kernel
theorem dX10_readFundings_107 : decode cX10_readFundings 107 = .ok (.iconst 0, 1) := by decide +kernel
theorem dX10_readFundings_108 : decode cX10_readFundings 108 = .ok (.istore_n 3, 1) := by decide +kernel
theorem dX10_readFundings_109 : decode cX10_readFundings 109 = .ok (.iload_n 3, 1) := by decide +kernel
theorem dX10_readFundings_110 : decode cX10_readFundings 110 = .ok (.iload_n 1, 1) := by decide +kernel
theorem dX10_readFundings_111 : decode cX10_readFundings 111 = .ok (.if_icmp .ge 65, 3) := by decide +kernel
theorem dX10_readFundings_114 : decode cX10_readFundings 114 = .ok (.aload_n 0, 1) := by decide +kernel
theorem dX10_readFundings_115 : decode cX10_readFundings 115 = .ok (.aload_n 0, 1) := by decide +kernel
theorem dX10_readFundings_116 : decode cX10_readFundings 116 = .ok (.getfield 35, 3) := by decide +kernel
theorem dX10_readFundings_119 : decode cX10_readFundings 119 = .ok (.iconst 4, 1) := by decide +kernel
theorem dX10_readFundings_120 : decode cX10_readFundings 120 = .ok (.iload_n 3, 1) := by decide +kernel
theorem dX10_readFundings_121 : decode cX10_readFundings 121 = .ok (.imul, 1) := by decide +kernel
theorem dX10_readFundings_122 : decode cX10_readFundings 122 = .ok (.iaload, 1) := by decide +kernel
theorem dX10_readFundings_123 : decode cX10_readFundings 123 = .ok (.aload_n 0, 1) := by decide +kernel
theorem dX10_readFundings_124 : decode cX10_readFundings 124 = .ok (.getfield 35, 3) := by decide +kernel
theorem dX10_readFundings_127 : decode cX10_readFundings 127 = .ok (.iconst 4, 1) := by decide +kernel
theorem dX10_readFundings_128 : decode cX10_readFundings 128 = .ok (.iload_n 3, 1) := by decide +kernel
theorem dX10_readFundings_129 : decode cX10_readFundings 129 = .ok (.imul, 1) := by decide +kernel
theorem dX10_readFundings_130 : decode cX10_readFundings 130 = .ok (.iconst 1, 1) := by decide +kernel
theorem dX10_readFundings_131 : decode cX10_readFundings 131 = .ok (.iadd, 1) := by decide +kernel
theorem dX10_readFundings_132 : decode cX10_readFundings 132 = .ok (.iaload, 1) := by decide +kernel
theorem dX10_readFundings_133 : decode cX10_readFundings 133 = .ok (.aload_n 0, 1) := by decide +kernel
theorem dX10_readFundings_134 : decode cX10_readFundings 134 = .ok (.getfield 35, 3) := by decide +kernel
theorem dX10_readFundings_137 : decode cX10_readFundings 137 = .ok (.iconst 4, 1) := by decide +kernel
theorem dX10_readFundings_138 : decode cX10_readFundings 138 = .ok (.iload_n 3, 1) := by decide +kernel
theorem dX10_readFundings_139 : decode cX10_readFundings 139 = .ok (.imul, 1) := by decide +kernel
theorem dX10_readFundings_140 : decode cX10_readFundings 140 = .ok (.iconst 2, 1) := by decide +kernel
theorem dX10_readFundings_141 : decode cX10_readFundings 141 = .ok (.iadd, 1) := by decide +kernel
theorem dX10_readFundings_142 : decode cX10_readFundings 142 = .ok (.iaload, 1) := by decide +kernel
theorem dX10_readFundings_143 : decode cX10_readFundings 143 = .ok (.aload_n 0, 1) := by decide +kernel
theorem dX10_readFundings_144 : decode cX10_readFundings 144 = .ok (.getfield 35, 3) := by decide +kernel
theorem dX10_readFundings_147 : decode cX10_readFundings 147 = .ok (.iconst 4, 1) := by decide +kernel
theorem dX10_readFundings_148 : decode cX10_readFundings 148 = .ok (.iload_n 3, 1) := by decide +kernel
theorem dX10_readFundings_149 : decode cX10_readFundings 149 = .ok (.imul, 1) := by decide +kernel
theorem dX10_readFundings_150 : decode cX10_readFundings 150 = .ok (.iconst 3, 1) := by decide +kernel
theorem dX10_readFundings_151 : decode cX10_readFundings 151 = .ok (.iadd, 1) := by decide +kernel
theorem dX10_readFundings_152 : decode cX10_readFundings 152 = .ok (.iaload, 1) := by decide +kernel
theorem dX10_readFundings_153 : decode cX10_readFundings 153 = .ok (.invokevirtual 93, 3) := by decide +kernel
theorem dX10_readFundings_156 : decode cX10_readFundings 156 = .ok (.istore 4, 2) := by decide +kernel
theorem dX10_readFundings_158 : decode cX10_readFundings 158 = .ok (.iload 4, 2) := by decide +kernel
theorem dX10_readFundings_160 : decode cX10_readFundings 160 = .ok (.ifCond .ge 10, 3) := by decide +kernel
theorem dX10_readFundings_163 : decode cX10_readFundings 163 = .ok (.aload_n 0, 1) := by decide +kernel
theorem dX10_readFundings_164 : decode cX10_readFundings 164 = .ok (.invokevirtual 50, 3) := by decide +kernel
theorem dX10_readFundings_167 : decode cX10_readFundings 167 = .ok (.iload 4, 2) := by decide +kernel
theorem dX10_readFundings_169 : decode cX10_readFundings 169 = .ok (.ireturn, 1) := by decide +kernel
theorem dX10_readFundings_170 : decode cX10_readFundings 170 = .ok (.iinc 3 1, 3) := by decide +kernel
theorem dX10_readFundings_173 : decode cX10_readFundings 173 = .ok (.goto (-64), 3) := by decide +kernel
theorem dX10_readFundings_176 : decode cX10_readFundings 176 = .ok (.aload_n 0, 1) := by decide +kernel
theorem dX10_readFundings_177 : decode cX10_readFundings 177 = .ok (.iload_n 1, 1) := by decide +kernel
theorem dX10_readFundings_178 : decode cX10_readFundings 178 = .ok (.invokevirtual 61, 3) := by decide +kernel
theorem dX10_readFundings_181 : decode cX10_readFundings 181 = .ok (.ireturn, 1) := by decide +kernel
theorem dX10_undo_0 : decode cX10_undo 0 = .ok (.aload_n 0, 1) := by decide +kernel
theorem dX10_undo_1 : decode cX10_undo 1 = .ok (.iconst 0, 1) := by decide +kernel
theorem dX10_undo_2 : decode cX10_undo 2 = .ok (.putfield 1, 3) := by decide +kernel
theorem dX10_undo_5 : decode cX10_undo 5 = .ok (.aload_n 0, 1) := by decide +kernel
theorem dX10_undo_6 : decode cX10_undo 6 = .ok (.getfield 53, 3) := by decide +kernel
theorem dX10_undo_9 : decode cX10_undo 9 = .ok (.ifCond .ne 6, 3) := by decide +kernel
theorem dX10_undo_12 : decode cX10_undo 12 = .ok (.bipush (-5), 2) := by decide +kernel
theorem dX10_undo_14 : decode cX10_undo 14 = .ok (.ireturn, 1) := by decide +kernel
theorem dX10_undo_15 : decode cX10_undo 15 = .ok (.aload_n 0, 1) := by decide +kernel
theorem dX10_undo_16 : decode cX10_undo 16 = .ok (.dup, 1) := by decide +kernel
theorem dX10_undo_17 : decode cX10_undo 17 = .ok (.getfield 53, 3) := by decide +kernel
theorem dX10_undo_20 : decode cX10_undo 20 = .ok (.iconst 1, 1) := by decide +kernel
theorem dX10_undo_21 : decode cX10_undo 21 = .ok (.isub, 1) := by decide +kernel
theorem dX10_undo_22 : decode cX10_undo 22 = .ok (.putfield 53, 3) := by decide +kernel
theorem dX10_undo_25 : decode cX10_undo 25 = .ok (.iconst 0, 1) := by decide +kernel
theorem dX10_undo_26 : decode cX10_undo 26 = .ok (.istore_n 1, 1) := by decide +kernel
theorem dX10_undo_27 : decode cX10_undo 27 = .ok (.iload_n 1, 1) := by decide +kernel
theorem dX10_undo_28 : decode cX10_undo 28 = .ok (.sipush 564, 3) := by decide +kernel
theorem dX10_undo_31 : decode cX10_undo 31 = .ok (.if_icmp .ge 30, 3) := by decide +kernel
theorem dX10_undo_34 : decode cX10_undo 34 = .ok (.aload_n 0, 1) := by decide +kernel
theorem dX10_undo_35 : decode cX10_undo 35 = .ok (.getfield 13, 3) := by decide +kernel
theorem dX10_undo_38 : decode cX10_undo 38 = .ok (.iload_n 1, 1) := by decide +kernel
theorem dX10_undo_39 : decode cX10_undo 39 = .ok (.aload_n 0, 1) := by decide +kernel
theorem dX10_undo_40 : decode cX10_undo 40 = .ok (.getfield 23, 3) := by decide +kernel
theorem dX10_undo_43 : decode cX10_undo 43 = .ok (.sipush 564, 3) := by decide +kernel
theorem dX10_undo_46 : decode cX10_undo 46 = .ok (.aload_n 0, 1) := by decide +kernel
theorem dX10_undo_47 : decode cX10_undo 47 = .ok (.getfield 53, 3) := by decide +kernel
theorem dX10_undo_50 : decode cX10_undo 50 = .ok (.imul, 1) := by decide +kernel
theorem dX10_undo_51 : decode cX10_undo 51 = .ok (.iload_n 1, 1) := by decide +kernel
theorem dX10_undo_52 : decode cX10_undo 52 = .ok (.iadd, 1) := by decide +kernel
theorem dX10_undo_53 : decode cX10_undo 53 = .ok (.iaload, 1) := by decide +kernel
theorem dX10_undo_54 : decode cX10_undo 54 = .ok (.iastore, 1) := by decide +kernel
theorem dX10_undo_55 : decode cX10_undo 55 = .ok (.iinc 1 1, 3) := by decide +kernel
theorem dX10_undo_58 : decode cX10_undo 58 = .ok (.goto (-31), 3) := by decide +kernel
theorem dX10_undo_61 : decode cX10_undo 61 = .ok (.aload_n 0, 1) := by decide +kernel
theorem dX10_undo_62 : decode cX10_undo 62 = .ok (.getfield 53, 3) := by decide +kernel
theorem dX10_undo_65 : decode cX10_undo 65 = .ok (.ireturn, 1) := by decide +kernel
theorem dX10_keep_0 : decode cX10_keep 0 = .ok (.aload_n 0, 1) := by decide +kernel
theorem dX10_keep_1 : decode cX10_keep 1 = .ok (.iconst 0, 1) := by decide +kernel
theorem dX10_keep_2 : decode cX10_keep 2 = .ok (.putfield 1, 3) := by decide +kernel
theorem dX10_keep_5 : decode cX10_keep 5 = .ok (.iconst 0, 1) := by decide +kernel
theorem dX10_keep_6 : decode cX10_keep 6 = .ok (.istore_n 1, 1) := by decide +kernel
theorem dX10_keep_7 : decode cX10_keep 7 = .ok (.iload_n 1, 1) := by decide +kernel
theorem dX10_keep_8 : decode cX10_keep 8 = .ok (.sipush 564, 3) := by decide +kernel
theorem dX10_keep_11 : decode cX10_keep 11 = .ok (.if_icmp .ge 21, 3) := by decide +kernel
theorem dX10_keep_14 : decode cX10_keep 14 = .ok (.aload_n 0, 1) := by decide +kernel
theorem dX10_keep_15 : decode cX10_keep 15 = .ok (.getfield 20, 3) := by decide +kernel
theorem dX10_keep_18 : decode cX10_keep 18 = .ok (.iload_n 1, 1) := by decide +kernel
theorem dX10_keep_19 : decode cX10_keep 19 = .ok (.aload_n 0, 1) := by decide +kernel
theorem dX10_keep_20 : decode cX10_keep 20 = .ok (.getfield 13, 3) := by decide +kernel
theorem dX10_keep_23 : decode cX10_keep 23 = .ok (.iload_n 1, 1) := by decide +kernel
theorem dX10_keep_24 : decode cX10_keep 24 = .ok (.iaload, 1) := by decide +kernel
theorem dX10_keep_25 : decode cX10_keep 25 = .ok (.iastore, 1) := by decide +kernel
theorem dX10_keep_26 : decode cX10_keep 26 = .ok (.iinc 1 1, 3) := by decide +kernel
theorem dX10_keep_29 : decode cX10_keep 29 = .ok (.goto (-22), 3) := by decide +kernel
theorem dX10_keep_32 : decode cX10_keep 32 = .ok (.aload_n 0, 1) := by decide +kernel
theorem dX10_keep_33 : decode cX10_keep 33 = .ok (.iconst 1, 1) := by decide +kernel
theorem dX10_keep_34 : decode cX10_keep 34 = .ok (.putfield 173, 3) := by decide +kernel
theorem dX10_keep_37 : decode cX10_keep 37 = .ok (.aload_n 0, 1) := by decide +kernel
theorem dX10_keep_38 : decode cX10_keep 38 = .ok (.getfield 13, 3) := by decide +kernel
theorem dX10_keep_41 : decode cX10_keep 41 = .ok (.iconst 3, 1) := by decide +kernel
theorem dX10_keep_42 : decode cX10_keep 42 = .ok (.iaload, 1) := by decide +kernel
theorem dX10_keep_43 : decode cX10_keep 43 = .ok (.ireturn, 1) := by decide +kernel
theorem dX10_restore_0 : decode cX10_restore 0 = .ok (.aload_n 0, 1) := by decide +kernel
theorem dX10_restore_1 : decode cX10_restore 1 = .ok (.invokevirtual 58, 3) := by decide +kernel
theorem dX10_restore_4 : decode cX10_restore 4 = .ok (.aload_n 0, 1) := by decide +kernel
theorem dX10_restore_5 : decode cX10_restore 5 = .ok (.getfield 173, 3) := by decide +kernel
theorem dX10_restore_8 : decode cX10_restore 8 = .ok (.ifCond .ne 6, 3) := by decide +kernel
theorem dX10_restore_11 : decode cX10_restore 11 = .ok (.bipush (-5), 2) := by decide +kernel
theorem dX10_restore_13 : decode cX10_restore 13 = .ok (.ireturn, 1) := by decide +kernel
theorem dX10_restore_14 : decode cX10_restore 14 = .ok (.iconst 0, 1) := by decide +kernel
theorem dX10_restore_15 : decode cX10_restore 15 = .ok (.istore_n 1, 1) := by decide +kernel
theorem dX10_restore_16 : decode cX10_restore 16 = .ok (.iload_n 1, 1) := by decide +kernel
theorem dX10_restore_17 : decode cX10_restore 17 = .ok (.sipush 564, 3) := by decide +kernel
theorem dX10_restore_20 : decode cX10_restore 20 = .ok (.if_icmp .ge 21, 3) := by decide +kernel
theorem dX10_restore_23 : decode cX10_restore 23 = .ok (.aload_n 0, 1) := by decide +kernel
theorem dX10_restore_24 : decode cX10_restore 24 = .ok (.getfield 13, 3) := by decide +kernel
theorem dX10_restore_27 : decode cX10_restore 27 = .ok (.iload_n 1, 1) := by decide +kernel
theorem dX10_restore_28 : decode cX10_restore 28 = .ok (.aload_n 0, 1) := by decide +kernel
theorem dX10_restore_29 : decode cX10_restore 29 = .ok (.getfield 20, 3) := by decide +kernel
theorem dX10_restore_32 : decode cX10_restore 32 = .ok (.iload_n 1, 1) := by decide +kernel
theorem dX10_restore_33 : decode cX10_restore 33 = .ok (.iaload, 1) := by decide +kernel
theorem dX10_restore_34 : decode cX10_restore 34 = .ok (.iastore, 1) := by decide +kernel
theorem dX10_restore_35 : decode cX10_restore 35 = .ok (.iinc 1 1, 3) := by decide +kernel
theorem dX10_restore_38 : decode cX10_restore 38 = .ok (.goto (-22), 3) := by decide +kernel
theorem dX10_restore_41 : decode cX10_restore 41 = .ok (.aload_n 0, 1) := by decide +kernel
theorem dX10_restore_42 : decode cX10_restore 42 = .ok (.aload_n 0, 1) := by decide +kernel
theorem dX10_restore_43 : decode cX10_restore 43 = .ok (.getfield 13, 3) := by decide +kernel
theorem dX10_restore_46 : decode cX10_restore 46 = .ok (.iconst 3, 1) := by decide +kernel
theorem dX10_restore_47 : decode cX10_restore 47 = .ok (.iaload, 1) := by decide +kernel
theorem dX10_restore_48 : decode cX10_restore 48 = .ok (.invokevirtual 61, 3) := by decide +kernel
theorem dX10_restore_51 : decode cX10_restore 51 = .ok (.ireturn, 1) := by decide +kernel
theorem dX10_held_0 : decode cX10_held 0 = .ok (.iconst 0, 1) := by decide +kernel
theorem dX10_held_1 : decode cX10_held 1 = .ok (.istore_n 3, 1) := by decide +kernel
theorem dX10_held_2 : decode cX10_held 2 = .ok (.iconst 0, 1) := by decide +kernel
theorem dX10_held_3 : decode cX10_held 3 = .ok (.istore 4, 2) := by decide +kernel
theorem dX10_held_5 : decode cX10_held 5 = .ok (.iload 4, 2) := by decide +kernel
theorem dX10_held_7 : decode cX10_held 7 = .ok (.aload_n 0, 1) := by decide +kernel
theorem dX10_held_8 : decode cX10_held 8 = .ok (.getfield 13, 3) := by decide +kernel
theorem dX10_held_11 : decode cX10_held 11 = .ok (.iconst 3, 1) := by decide +kernel
theorem dX10_held_12 : decode cX10_held 12 = .ok (.iaload, 1) := by decide +kernel
theorem dX10_held_13 : decode cX10_held 13 = .ok (.if_icmp .ge 70, 3) := by decide +kernel
theorem dX10_held_16 : decode cX10_held 16 = .ok (.aload_n 0, 1) := by decide +kernel
theorem dX10_held_17 : decode cX10_held 17 = .ok (.iload 4, 2) := by decide +kernel
theorem dX10_held_19 : decode cX10_held 19 = .ok (.iconst 0, 1) := by decide +kernel
theorem dX10_held_20 : decode cX10_held 20 = .ok (.invokevirtual 78, 3) := by decide +kernel
theorem dX10_held_23 : decode cX10_held 23 = .ok (.iload_n 1, 1) := by decide +kernel
theorem dX10_held_24 : decode cX10_held 24 = .ok (.if_icmp .ne 53, 3) := by decide +kernel
theorem dX10_held_27 : decode cX10_held 27 = .ok (.aload_n 0, 1) := by decide +kernel
theorem dX10_held_28 : decode cX10_held 28 = .ok (.iload 4, 2) := by decide +kernel
theorem dX10_held_30 : decode cX10_held 30 = .ok (.iconst 3, 1) := by decide +kernel
theorem dX10_held_31 : decode cX10_held 31 = .ok (.invokevirtual 78, 3) := by decide +kernel
theorem dX10_held_34 : decode cX10_held 34 = .ok (.ifCond .le 43, 3) := by decide +kernel
theorem dX10_held_37 : decode cX10_held 37 = .ok (.iload_n 2, 1) := by decide +kernel
theorem dX10_held_38 : decode cX10_held 38 = .ok (.iconst 1, 1) := by decide +kernel
theorem dX10_held_39 : decode cX10_held 39 = .ok (.if_icmp .ne 15, 3) := by decide +kernel
theorem dX10_held_42 : decode cX10_held 42 = .ok (.iload_n 3, 1) := by decide +kernel
theorem dX10_held_43 : decode cX10_held 43 = .ok (.aload_n 0, 1) := by decide +kernel
theorem dX10_held_44 : decode cX10_held 44 = .ok (.iload 4, 2) := by decide +kernel
theorem dX10_held_46 : decode cX10_held 46 = .ok (.iconst 3, 1) := by decide +kernel
theorem dX10_held_47 : decode cX10_held 47 = .ok (.invokevirtual 78, 3) := by decide +kernel
theorem dX10_held_50 : decode cX10_held 50 = .ok (.iadd, 1) := by decide +kernel
theorem dX10_held_51 : decode cX10_held 51 = .ok (.goto 25, 3) := by decide +kernel
theorem dX10_held_54 : decode cX10_held 54 = .ok (.iload_n 2, 1) := by decide +kernel
theorem dX10_held_55 : decode cX10_held 55 = .ok (.iconst 2, 1) := by decide +kernel
theorem dX10_held_56 : decode cX10_held 56 = .ok (.if_icmp .ne 9, 3) := by decide +kernel
theorem dX10_held_59 : decode cX10_held 59 = .ok (.iload_n 3, 1) := by decide +kernel
theorem dX10_held_60 : decode cX10_held 60 = .ok (.iconst 1, 1) := by decide +kernel
theorem dX10_held_61 : decode cX10_held 61 = .ok (.iadd, 1) := by decide +kernel
theorem dX10_held_62 : decode cX10_held 62 = .ok (.goto 14, 3) := by decide +kernel
theorem dX10_held_65 : decode cX10_held 65 = .ok (.iload_n 3, 1) := by decide +kernel
theorem dX10_held_66 : decode cX10_held 66 = .ok (.iconst 1, 1) := by decide +kernel
theorem dX10_held_67 : decode cX10_held 67 = .ok (.aload_n 0, 1) := by decide +kernel
theorem dX10_held_68 : decode cX10_held 68 = .ok (.iload 4, 2) := by decide +kernel
theorem dX10_held_70 : decode cX10_held 70 = .ok (.iconst 1, 1) := by decide +kernel
theorem dX10_held_71 : decode cX10_held 71 = .ok (.invokevirtual 78, 3) := by decide +kernel
theorem dX10_held_74 : decode cX10_held 74 = .ok (.ishl, 1) := by decide +kernel
theorem dX10_held_75 : decode cX10_held 75 = .ok (.ior, 1) := by decide +kernel
theorem dX10_held_76 : decode cX10_held 76 = .ok (.istore_n 3, 1) := by decide +kernel
theorem dX10_held_77 : decode cX10_held 77 = .ok (.iinc 4 1, 3) := by decide +kernel
theorem dX10_held_80 : decode cX10_held 80 = .ok (.goto (-75), 3) := by decide +kernel
theorem dX10_held_83 : decode cX10_held 83 = .ok (.iload_n 3, 1) := by decide +kernel
theorem dX10_held_84 : decode cX10_held 84 = .ok (.ireturn, 1) := by decide +kernel
theorem dX10_investor_0 : decode cX10_investor 0 = .ok (.aload_n 0, 1) := by decide +kernel
theorem dX10_investor_1 : decode cX10_investor 1 = .ok (.iconst 0, 1) := by decide +kernel
theorem dX10_investor_2 : decode cX10_investor 2 = .ok (.putfield 1, 3) := by decide +kernel
theorem dX10_investor_5 : decode cX10_investor 5 = .ok (.aload_n 0, 1) := by decide +kernel
theorem dX10_investor_6 : decode cX10_investor 6 = .ok (.iload_n 1, 1) := by decide +kernel
theorem dX10_investor_7 : decode cX10_investor 7 = .ok (.invokevirtual 65, 3) := by decide +kernel
theorem dX10_investor_10 : decode cX10_investor 10 = .ok (.ifCond .ne 5, 3) := by decide +kernel
theorem dX10_investor_13 : decode cX10_investor 13 = .ok (.iconst (-1), 1) := by decide +kernel
theorem dX10_investor_14 : decode cX10_investor 14 = .ok (.ireturn, 1) := by decide +kernel
theorem dX10_investor_15 : decode cX10_investor 15 = .ok (.iload_n 2, 1) := by decide +kernel
theorem dX10_investor_16 : decode cX10_investor 16 = .ok (.iconst 0, 1) := by decide +kernel
theorem dX10_investor_17 : decode cX10_investor 17 = .ok (.iconst 5, 1) := by decide +kernel
theorem dX10_investor_18 : decode cX10_investor 18 = .ok (.invokestatic 38, 3) := by decide +kernel
theorem dX10_investor_21 : decode cX10_investor 21 = .ok (.ifCond .ne 6, 3) := by decide +kernel
theorem dX10_investor_24 : decode cX10_investor 24 = .ok (.bipush (-2), 2) := by decide +kernel
theorem dX10_investor_26 : decode cX10_investor 26 = .ok (.ireturn, 1) := by decide +kernel
theorem dX10_investor_27 : decode cX10_investor 27 = .ok (.iload_n 2, 1) := by decide +kernel
theorem dX10_investor_28 : decode cX10_investor 28 = .ok (.ifCond .ne 17, 3) := by decide +kernel
theorem dX10_investor_31 : decode cX10_investor 31 = .ok (.aload_n 0, 1) := by decide +kernel
theorem dX10_investor_32 : decode cX10_investor 32 = .ok (.getfield 13, 3) := by decide +kernel
theorem dX10_investor_35 : decode cX10_investor 35 = .ok (.bipush 10, 2) := by decide +kernel
theorem dX10_investor_37 : decode cX10_investor 37 = .ok (.iconst 3, 1) := by decide +kernel
theorem dX10_investor_38 : decode cX10_investor 38 = .ok (.iload_n 1, 1) := by decide +kernel
theorem dX10_investor_39 : decode cX10_investor 39 = .ok (.imul, 1) := by decide +kernel
theorem dX10_investor_40 : decode cX10_investor 40 = .ok (.iadd, 1) := by decide +kernel
theorem dX10_investor_41 : decode cX10_investor 41 = .ok (.iaload, 1) := by decide +kernel
theorem dX10_investor_42 : decode cX10_investor 42 = .ok (.goto 32, 3) := by decide +kernel
theorem dX10_investor_45 : decode cX10_investor 45 = .ok (.iload_n 2, 1) := by decide +kernel
theorem dX10_investor_46 : decode cX10_investor 46 = .ok (.iconst 4, 1) := by decide +kernel
theorem dX10_investor_47 : decode cX10_investor 47 = .ok (.if_icmp .ge 12, 3) := by decide +kernel
theorem dX10_investor_50 : decode cX10_investor 50 = .ok (.aload_n 0, 1) := by decide +kernel
theorem dX10_investor_51 : decode cX10_investor 51 = .ok (.iload_n 1, 1) := by decide +kernel
theorem dX10_investor_52 : decode cX10_investor 52 = .ok (.iload_n 2, 1) := by decide +kernel
theorem dX10_investor_53 : decode cX10_investor 53 = .ok (.invokevirtual 176, 3) := by decide +kernel
theorem dX10_investor_56 : decode cX10_investor 56 = .ok (.goto 18, 3) := by decide +kernel
theorem dX10_investor_59 : decode cX10_investor 59 = .ok (.aload_n 0, 1) := by decide +kernel
theorem dX10_investor_60 : decode cX10_investor 60 = .ok (.getfield 13, 3) := by decide +kernel
theorem dX10_investor_63 : decode cX10_investor 63 = .ok (.bipush 10, 2) := by decide +kernel
theorem dX10_investor_65 : decode cX10_investor 65 = .ok (.iconst 3, 1) := by decide +kernel
theorem dX10_investor_66 : decode cX10_investor 66 = .ok (.iload_n 1, 1) := by decide +kernel
theorem dX10_investor_67 : decode cX10_investor 67 = .ok (.imul, 1) := by decide +kernel
theorem dX10_investor_68 : decode cX10_investor 68 = .ok (.iadd, 1) := by decide +kernel
theorem dX10_investor_69 : decode cX10_investor 69 = .ok (.iload_n 2, 1) := by decide +kernel
theorem dX10_investor_70 : decode cX10_investor 70 = .ok (.iadd, 1) := by decide +kernel
theorem dX10_investor_71 : decode cX10_investor 71 = .ok (.iconst 3, 1) := by decide +kernel
theorem dX10_investor_72 : decode cX10_investor 72 = .ok (.isub, 1) := by decide +kernel
theorem dX10_investor_73 : decode cX10_investor 73 = .ok (.iaload, 1) := by decide +kernel
theorem dX10_investor_74 : decode cX10_investor 74 = .ok (.ireturn, 1) := by decide +kernel
theorem dX10_notesOf_0 : decode cX10_notesOf 0 = .ok (.iconst 0, 1) := by decide +kernel
theorem dX10_notesOf_1 : decode cX10_notesOf 1 = .ok (.istore_n 2, 1) := by decide +kernel
theorem dX10_notesOf_2 : decode cX10_notesOf 2 = .ok (.iconst 0, 1) := by decide +kernel
theorem dX10_notesOf_3 : decode cX10_notesOf 3 = .ok (.istore_n 3, 1) := by decide +kernel
theorem dX10_notesOf_4 : decode cX10_notesOf 4 = .ok (.iload_n 3, 1) := by decide +kernel
theorem dX10_notesOf_5 : decode cX10_notesOf 5 = .ok (.aload_n 0, 1) := by decide +kernel
theorem dX10_notesOf_6 : decode cX10_notesOf 6 = .ok (.getfield 13, 3) := by decide +kernel
theorem dX10_notesOf_9 : decode cX10_notesOf 9 = .ok (.iconst 3, 1) := by decide +kernel
theorem dX10_notesOf_10 : decode cX10_notesOf 10 = .ok (.iaload, 1) := by decide +kernel
theorem dX10_notesOf_11 : decode cX10_notesOf 11 = .ok (.if_icmp .ge 27, 3) := by decide +kernel
theorem dX10_notesOf_14 : decode cX10_notesOf 14 = .ok (.iload_n 2, 1) := by decide +kernel
theorem dX10_notesOf_15 : decode cX10_notesOf 15 = .ok (.aload_n 0, 1) := by decide +kernel
theorem dX10_notesOf_16 : decode cX10_notesOf 16 = .ok (.iload_n 3, 1) := by decide +kernel
theorem dX10_notesOf_17 : decode cX10_notesOf 17 = .ok (.iconst 1, 1) := by decide +kernel
theorem dX10_notesOf_18 : decode cX10_notesOf 18 = .ok (.invokevirtual 78, 3) := by decide +kernel
theorem dX10_notesOf_21 : decode cX10_notesOf 21 = .ok (.iload_n 1, 1) := by decide +kernel
theorem dX10_notesOf_22 : decode cX10_notesOf 22 = .ok (.if_icmp .ne 7, 3) := by decide +kernel
theorem dX10_notesOf_25 : decode cX10_notesOf 25 = .ok (.iconst 1, 1) := by decide +kernel
theorem dX10_notesOf_26 : decode cX10_notesOf 26 = .ok (.goto 4, 3) := by decide +kernel
theorem dX10_notesOf_29 : decode cX10_notesOf 29 = .ok (.iconst 0, 1) := by decide +kernel
theorem dX10_notesOf_30 : decode cX10_notesOf 30 = .ok (.iadd, 1) := by decide +kernel
theorem dX10_notesOf_31 : decode cX10_notesOf 31 = .ok (.istore_n 2, 1) := by decide +kernel
theorem dX10_notesOf_32 : decode cX10_notesOf 32 = .ok (.iinc 3 1, 3) := by decide +kernel
theorem dX10_notesOf_35 : decode cX10_notesOf 35 = .ok (.goto (-31), 3) := by decide +kernel
theorem dX10_notesOf_38 : decode cX10_notesOf 38 = .ok (.iload_n 2, 1) := by decide +kernel
theorem dX10_notesOf_39 : decode cX10_notesOf 39 = .ok (.ireturn, 1) := by decide +kernel
theorem dX10_loan_0 : decode cX10_loan 0 = .ok (.aload_n 0, 1) := by decide +kernel
theorem dX10_loan_1 : decode cX10_loan 1 = .ok (.iconst 0, 1) := by decide +kernel
theorem dX10_loan_2 : decode cX10_loan 2 = .ok (.putfield 1, 3) := by decide +kernel
theorem dX10_loan_5 : decode cX10_loan 5 = .ok (.aload_n 0, 1) := by decide +kernel
theorem dX10_loan_6 : decode cX10_loan 6 = .ok (.iload_n 1, 1) := by decide +kernel
theorem dX10_loan_7 : decode cX10_loan 7 = .ok (.invokevirtual 84, 3) := by decide +kernel
theorem dX10_loan_10 : decode cX10_loan 10 = .ok (.ifCond .ne 5, 3) := by decide +kernel
theorem dX10_loan_13 : decode cX10_loan 13 = .ok (.iconst (-1), 1) := by decide +kernel
theorem dX10_loan_14 : decode cX10_loan 14 = .ok (.ireturn, 1) := by decide +kernel
theorem dX10_loan_15 : decode cX10_loan 15 = .ok (.iload_n 2, 1) := by decide +kernel
theorem dX10_loan_16 : decode cX10_loan 16 = .ok (.tableswitch 132 0 12 #[68, 75, 82, 101, 101, 101, 101, 101, 101, 110, 116, 122, 122], 68) := by decide +kernel
theorem dX10_loan_84 : decode cX10_loan 84 = .ok (.aload_n 0, 1) := by decide +kernel
theorem dX10_loan_85 : decode cX10_loan 85 = .ok (.iload_n 1, 1) := by decide +kernel
theorem dX10_loan_86 : decode cX10_loan 86 = .ok (.iconst 3, 1) := by decide +kernel
theorem dX10_loan_87 : decode cX10_loan 87 = .ok (.invokevirtual 42, 3) := by decide +kernel
theorem dX10_loan_90 : decode cX10_loan 90 = .ok (.ireturn, 1) := by decide +kernel
theorem dX10_loan_91 : decode cX10_loan 91 = .ok (.aload_n 0, 1) := by decide +kernel
theorem dX10_loan_92 : decode cX10_loan 92 = .ok (.iload_n 1, 1) := by decide +kernel
theorem dX10_loan_93 : decode cX10_loan 93 = .ok (.iconst 0, 1) := by decide +kernel
theorem dX10_loan_94 : decode cX10_loan 94 = .ok (.invokevirtual 42, 3) := by decide +kernel
theorem dX10_loan_97 : decode cX10_loan 97 = .ok (.ireturn, 1) := by decide +kernel
theorem dX10_loan_98 : decode cX10_loan 98 = .ok (.aload_n 0, 1) := by decide +kernel
theorem dX10_loan_99 : decode cX10_loan 99 = .ok (.iload_n 1, 1) := by decide +kernel
theorem dX10_loan_100 : decode cX10_loan 100 = .ok (.invokevirtual 114, 3) := by decide +kernel
theorem dX10_loan_103 : decode cX10_loan 103 = .ok (.ifCond .eq 12, 3) := by decide +kernel
theorem dX10_loan_106 : decode cX10_loan 106 = .ok (.aload_n 0, 1) := by decide +kernel
theorem dX10_loan_107 : decode cX10_loan 107 = .ok (.iload_n 1, 1) := by decide +kernel
theorem dX10_loan_108 : decode cX10_loan 108 = .ok (.iconst 4, 1) := by decide +kernel
theorem dX10_loan_109 : decode cX10_loan 109 = .ok (.invokevirtual 42, 3) := by decide +kernel
theorem dX10_loan_112 : decode cX10_loan 112 = .ok (.goto 4, 3) := by decide +kernel
theorem dX10_loan_115 : decode cX10_loan 115 = .ok (.iconst 0, 1) := by decide +kernel
theorem dX10_loan_116 : decode cX10_loan 116 = .ok (.ireturn, 1) := by decide +kernel
theorem dX10_loan_117 : decode cX10_loan 117 = .ok (.aload_n 0, 1) := by decide +kernel
theorem dX10_loan_118 : decode cX10_loan 118 = .ok (.iload_n 1, 1) := by decide +kernel
theorem dX10_loan_119 : decode cX10_loan 119 = .ok (.iload_n 2, 1) := by decide +kernel
theorem dX10_loan_120 : decode cX10_loan 120 = .ok (.iconst 2, 1) := by decide +kernel
theorem dX10_loan_121 : decode cX10_loan 121 = .ok (.iadd, 1) := by decide +kernel
theorem dX10_loan_122 : decode cX10_loan 122 = .ok (.invokevirtual 42, 3) := by decide +kernel
theorem dX10_loan_125 : decode cX10_loan 125 = .ok (.ireturn, 1) := by decide +kernel
theorem dX10_loan_126 : decode cX10_loan 126 = .ok (.aload_n 0, 1) := by decide +kernel
theorem dX10_loan_127 : decode cX10_loan 127 = .ok (.iload_n 1, 1) := by decide +kernel
theorem dX10_loan_128 : decode cX10_loan 128 = .ok (.invokevirtual 87, 3) := by decide +kernel
theorem dX10_loan_131 : decode cX10_loan 131 = .ok (.ireturn, 1) := by decide +kernel
theorem dX10_loan_132 : decode cX10_loan 132 = .ok (.aload_n 0, 1) := by decide +kernel
theorem dX10_loan_133 : decode cX10_loan 133 = .ok (.iload_n 1, 1) := by decide +kernel
theorem dX10_loan_134 : decode cX10_loan 134 = .ok (.invokevirtual 179, 3) := by decide +kernel
theorem dX10_loan_137 : decode cX10_loan 137 = .ok (.ireturn, 1) := by decide +kernel
theorem dX10_loan_138 : decode cX10_loan 138 = .ok (.aload_n 0, 1) := by decide +kernel
theorem dX10_loan_139 : decode cX10_loan 139 = .ok (.iload_n 1, 1) := by decide +kernel
theorem dX10_loan_140 : decode cX10_loan 140 = .ok (.iload_n 2, 1) := by decide +kernel
theorem dX10_loan_141 : decode cX10_loan 141 = .ok (.bipush 11, 2) := by decide +kernel
theorem dX10_loan_143 : decode cX10_loan 143 = .ok (.isub, 1) := by decide +kernel
theorem dX10_loan_144 : decode cX10_loan 144 = .ok (.invokevirtual 81, 3) := by decide +kernel
theorem dX10_loan_147 : decode cX10_loan 147 = .ok (.ireturn, 1) := by decide +kernel
theorem dX10_loan_148 : decode cX10_loan 148 = .ok (.bipush (-2), 2) := by decide +kernel
theorem dX10_loan_150 : decode cX10_loan 150 = .ok (.ireturn, 1) := by decide +kernel
theorem dX10_note_0 : decode cX10_note 0 = .ok (.aload_n 0, 1) := by decide +kernel
theorem dX10_note_1 : decode cX10_note 1 = .ok (.iconst 0, 1) := by decide +kernel
theorem dX10_note_2 : decode cX10_note 2 = .ok (.putfield 1, 3) := by decide +kernel
theorem dX10_note_5 : decode cX10_note 5 = .ok (.aload_n 0, 1) := by decide +kernel
theorem dX10_note_6 : decode cX10_note 6 = .ok (.iload_n 1, 1) := by decide +kernel
theorem dX10_note_7 : decode cX10_note 7 = .ok (.invokevirtual 140, 3) := by decide +kernel
theorem dX10_note_10 : decode cX10_note 10 = .ok (.ifCond .ne 5, 3) := by decide +kernel
theorem dX10_note_13 : decode cX10_note 13 = .ok (.iconst (-1), 1) := by decide +kernel
theorem dX10_note_14 : decode cX10_note 14 = .ok (.ireturn, 1) := by decide +kernel
theorem dX10_note_15 : decode cX10_note 15 = .ok (.iload_n 2, 1) := by decide +kernel
theorem dX10_note_16 : decode cX10_note 16 = .ok (.iconst 0, 1) := by decide +kernel
theorem dX10_note_17 : decode cX10_note 17 = .ok (.bipush 6, 2) := by decide +kernel
theorem dX10_note_19 : decode cX10_note 19 = .ok (.invokestatic 38, 3) := by decide +kernel
theorem dX10_note_22 : decode cX10_note 22 = .ok (.ifCond .eq 12, 3) := by decide +kernel
theorem dX10_note_25 : decode cX10_note 25 = .ok (.aload_n 0, 1) := by decide +kernel
theorem dX10_note_26 : decode cX10_note 26 = .ok (.iload_n 1, 1) := by decide +kernel
theorem dX10_note_27 : decode cX10_note 27 = .ok (.iload_n 2, 1) := by decide +kernel
theorem dX10_note_28 : decode cX10_note 28 = .ok (.invokevirtual 78, 3) := by decide +kernel
theorem dX10_note_31 : decode cX10_note 31 = .ok (.goto 5, 3) := by decide +kernel
theorem dX10_note_34 : decode cX10_note 34 = .ok (.bipush (-2), 2) := by decide +kernel
theorem dX10_note_36 : decode cX10_note 36 = .ok (.ireturn, 1) := by decide +kernel
theorem dX10_split_0 : decode cX10_split 0 = .ok (.aload_n 0, 1) := by decide +kernel
theorem dX10_split_1 : decode cX10_split 1 = .ok (.iconst 0, 1) := by decide +kernel
theorem dX10_split_2 : decode cX10_split 2 = .ok (.putfield 1, 3) := by decide +kernel
theorem dX10_split_5 : decode cX10_split 5 = .ok (.aload_n 0, 1) := by decide +kernel
theorem dX10_split_6 : decode cX10_split 6 = .ok (.iload_n 1, 1) := by decide +kernel
theorem dX10_split_7 : decode cX10_split 7 = .ok (.invokevirtual 84, 3) := by decide +kernel
theorem dX10_split_10 : decode cX10_split 10 = .ok (.ifCond .ne 5, 3) := by decide +kernel
theorem dX10_split_13 : decode cX10_split 13 = .ok (.iconst (-1), 1) := by decide +kernel
theorem dX10_split_14 : decode cX10_split 14 = .ok (.ireturn, 1) := by decide +kernel
theorem dX10_split_15 : decode cX10_split 15 = .ok (.iload_n 2, 1) := by decide +kernel
theorem dX10_split_16 : decode cX10_split 16 = .ok (.iconst 1, 1) := by decide +kernel
theorem dX10_split_17 : decode cX10_split 17 = .ok (.ldc 122, 2) := by decide +kernel
theorem dX10_split_19 : decode cX10_split 19 = .ok (.invokestatic 38, 3) := by decide +kernel
theorem dX10_split_22 : decode cX10_split 22 = .ok (.ifCond .eq 12, 3) := by decide +kernel
theorem dX10_split_25 : decode cX10_split 25 = .ok (.iload_n 3, 1) := by decide +kernel
theorem dX10_split_26 : decode cX10_split 26 = .ok (.iconst 0, 1) := by decide +kernel
theorem dX10_split_27 : decode cX10_split 27 = .ok (.iconst 5, 1) := by decide +kernel
theorem dX10_split_28 : decode cX10_split 28 = .ok (.invokestatic 38, 3) := by decide +kernel
theorem dX10_split_31 : decode cX10_split 31 = .ok (.ifCond .ne 6, 3) := by decide +kernel
theorem dX10_split_34 : decode cX10_split 34 = .ok (.bipush (-2), 2) := by decide +kernel
theorem dX10_split_36 : decode cX10_split 36 = .ok (.ireturn, 1) := by decide +kernel
theorem dX10_split_37 : decode cX10_split 37 = .ok (.aload_n 0, 1) := by decide +kernel
theorem dX10_split_38 : decode cX10_split 38 = .ok (.iload_n 1, 1) := by decide +kernel
theorem dX10_split_39 : decode cX10_split 39 = .ok (.iload_n 2, 1) := by decide +kernel
theorem dX10_split_40 : decode cX10_split 40 = .ok (.invokevirtual 123, 3) := by decide +kernel
theorem dX10_split_43 : decode cX10_split 43 = .ok (.ifCond .eq 13, 3) := by decide +kernel
theorem dX10_split_46 : decode cX10_split 46 = .ok (.aload_n 0, 1) := by decide +kernel
theorem dX10_split_47 : decode cX10_split 47 = .ok (.iload_n 1, 1) := by decide +kernel
theorem dX10_split_48 : decode cX10_split 48 = .ok (.iload_n 2, 1) := by decide +kernel
theorem dX10_split_49 : decode cX10_split 49 = .ok (.iload_n 3, 1) := by decide +kernel
theorem dX10_split_50 : decode cX10_split 50 = .ok (.invokevirtual 127, 3) := by decide +kernel
theorem dX10_split_53 : decode cX10_split 53 = .ok (.goto 5, 3) := by decide +kernel
theorem dX10_split_56 : decode cX10_split 56 = .ok (.bipush (-4), 2) := by decide +kernel
theorem dX10_split_58 : decode cX10_split 58 = .ok (.ireturn, 1) := by decide +kernel
theorem dX10_toRepay_0 : decode cX10_toRepay 0 = .ok (.aload_n 0, 1) := by decide +kernel
theorem dX10_toRepay_1 : decode cX10_toRepay 1 = .ok (.iconst 0, 1) := by decide +kernel
theorem dX10_toRepay_2 : decode cX10_toRepay 2 = .ok (.putfield 1, 3) := by decide +kernel
theorem dX10_toRepay_5 : decode cX10_toRepay 5 = .ok (.aload_n 0, 1) := by decide +kernel
theorem dX10_toRepay_6 : decode cX10_toRepay 6 = .ok (.iload_n 1, 1) := by decide +kernel
theorem dX10_toRepay_7 : decode cX10_toRepay 7 = .ok (.invokevirtual 84, 3) := by decide +kernel
theorem dX10_toRepay_10 : decode cX10_toRepay 10 = .ok (.ifCond .ne 5, 3) := by decide +kernel
theorem dX10_toRepay_13 : decode cX10_toRepay 13 = .ok (.iconst (-1), 1) := by decide +kernel
theorem dX10_toRepay_14 : decode cX10_toRepay 14 = .ok (.ireturn, 1) := by decide +kernel
theorem dX10_toRepay_15 : decode cX10_toRepay 15 = .ok (.aload_n 0, 1) := by decide +kernel
theorem dX10_toRepay_16 : decode cX10_toRepay 16 = .ok (.iload_n 1, 1) := by decide +kernel
theorem dX10_toRepay_17 : decode cX10_toRepay 17 = .ok (.invokevirtual 114, 3) := by decide +kernel
theorem dX10_toRepay_20 : decode cX10_toRepay 20 = .ok (.ifCond .ne 6, 3) := by decide +kernel
theorem dX10_toRepay_23 : decode cX10_toRepay 23 = .ok (.bipush (-4), 2) := by decide +kernel
theorem dX10_toRepay_25 : decode cX10_toRepay 25 = .ok (.ireturn, 1) := by decide +kernel
theorem dX10_toRepay_26 : decode cX10_toRepay 26 = .ok (.aload_n 0, 1) := by decide +kernel
theorem dX10_toRepay_27 : decode cX10_toRepay 27 = .ok (.iload_n 1, 1) := by decide +kernel
theorem dX10_toRepay_28 : decode cX10_toRepay 28 = .ok (.bipush 6, 2) := by decide +kernel
theorem dX10_toRepay_30 : decode cX10_toRepay 30 = .ok (.invokevirtual 42, 3) := by decide +kernel
theorem dX10_toRepay_33 : decode cX10_toRepay 33 = .ok (.aload_n 0, 1) := by decide +kernel
theorem dX10_toRepay_34 : decode cX10_toRepay 34 = .ok (.iload_n 1, 1) := by decide +kernel
theorem dX10_toRepay_35 : decode cX10_toRepay 35 = .ok (.iconst 4, 1) := by decide +kernel
theorem dX10_toRepay_36 : decode cX10_toRepay 36 = .ok (.invokevirtual 42, 3) := by decide +kernel
theorem dX10_toRepay_39 : decode cX10_toRepay 39 = .ok (.iadd, 1) := by decide +kernel
theorem dX10_toRepay_40 : decode cX10_toRepay 40 = .ok (.istore_n 2, 1) := by decide +kernel
theorem dX10_toRepay_41 : decode cX10_toRepay 41 = .ok (.iload_n 2, 1) := by decide +kernel
theorem dX10_toRepay_42 : decode cX10_toRepay 42 = .ok (.istore_n 3, 1) := by decide +kernel
theorem dX10_toRepay_43 : decode cX10_toRepay 43 = .ok (.iload_n 3, 1) := by decide +kernel
theorem dX10_toRepay_44 : decode cX10_toRepay 44 = .ok (.aload_n 0, 1) := by decide +kernel
theorem dX10_toRepay_45 : decode cX10_toRepay 45 = .ok (.iload_n 1, 1) := by decide +kernel
theorem dX10_toRepay_46 : decode cX10_toRepay 46 = .ok (.iload_n 3, 1) := by decide +kernel
theorem dX10_toRepay_47 : decode cX10_toRepay 47 = .ok (.invokevirtual 117, 3) := by decide +kernel
theorem dX10_toRepay_50 : decode cX10_toRepay 50 = .ok (.isub, 1) := by decide +kernel
theorem dX10_toRepay_51 : decode cX10_toRepay 51 = .ok (.iload_n 2, 1) := by decide +kernel
theorem dX10_toRepay_52 : decode cX10_toRepay 52 = .ok (.if_icmp .ge 9, 3) := by decide +kernel
theorem dX10_toRepay_55 : decode cX10_toRepay 55 = .ok (.iinc 3 1, 3) := by decide +kernel
theorem dX10_toRepay_58 : decode cX10_toRepay 58 = .ok (.goto (-15), 3) := by decide +kernel
theorem dX10_toRepay_61 : decode cX10_toRepay 61 = .ok (.iload_n 3, 1) := by decide +kernel
theorem dX10_toRepay_62 : decode cX10_toRepay 62 = .ok (.ireturn, 1) := by decide +kernel
theorem dX10_runningWith_0 : decode cX10_runningWith 0 = .ok (.iconst 0, 1) := by decide +kernel
theorem dX10_runningWith_1 : decode cX10_runningWith 1 = .ok (.istore_n 2, 1) := by decide +kernel
theorem dX10_runningWith_2 : decode cX10_runningWith 2 = .ok (.iconst 0, 1) := by decide +kernel
theorem dX10_runningWith_3 : decode cX10_runningWith 3 = .ok (.istore_n 3, 1) := by decide +kernel
theorem dX10_runningWith_4 : decode cX10_runningWith 4 = .ok (.iload_n 3, 1) := by decide +kernel
theorem dX10_runningWith_5 : decode cX10_runningWith 5 = .ok (.aload_n 0, 1) := by decide +kernel
theorem dX10_runningWith_6 : decode cX10_runningWith 6 = .ok (.getfield 13, 3) := by decide +kernel
theorem dX10_runningWith_9 : decode cX10_runningWith 9 = .ok (.iconst 2, 1) := by decide +kernel
theorem dX10_runningWith_10 : decode cX10_runningWith 10 = .ok (.iaload, 1) := by decide +kernel
theorem dX10_runningWith_11 : decode cX10_runningWith 11 = .ok (.if_icmp .ge 36, 3) := by decide +kernel
theorem dX10_runningWith_14 : decode cX10_runningWith 14 = .ok (.iload_n 2, 1) := by decide +kernel
theorem dX10_runningWith_15 : decode cX10_runningWith 15 = .ok (.aload_n 0, 1) := by decide +kernel
theorem dX10_runningWith_16 : decode cX10_runningWith 16 = .ok (.iload_n 3, 1) := by decide +kernel
theorem dX10_runningWith_17 : decode cX10_runningWith 17 = .ok (.invokevirtual 114, 3) := by decide +kernel
theorem dX10_runningWith_20 : decode cX10_runningWith 20 = .ok (.ifCond .eq 18, 3) := by decide +kernel
theorem dX10_runningWith_23 : decode cX10_runningWith 23 = .ok (.aload_n 0, 1) := by decide +kernel
theorem dX10_runningWith_24 : decode cX10_runningWith 24 = .ok (.iload_n 3, 1) := by decide +kernel
theorem dX10_runningWith_25 : decode cX10_runningWith 25 = .ok (.bipush 9, 2) := by decide +kernel
theorem dX10_runningWith_27 : decode cX10_runningWith 27 = .ok (.invokevirtual 42, 3) := by decide +kernel
theorem dX10_runningWith_30 : decode cX10_runningWith 30 = .ok (.iload_n 1, 1) := by decide +kernel
theorem dX10_runningWith_31 : decode cX10_runningWith 31 = .ok (.if_icmp .ne 7, 3) := by decide +kernel
theorem dX10_runningWith_34 : decode cX10_runningWith 34 = .ok (.iconst 1, 1) := by decide +kernel
theorem dX10_runningWith_35 : decode cX10_runningWith 35 = .ok (.goto 4, 3) := by decide +kernel
theorem dX10_runningWith_38 : decode cX10_runningWith 38 = .ok (.iconst 0, 1) := by decide +kernel
theorem dX10_runningWith_39 : decode cX10_runningWith 39 = .ok (.iadd, 1) := by decide +kernel
theorem dX10_runningWith_40 : decode cX10_runningWith 40 = .ok (.istore_n 2, 1) := by decide +kernel
theorem dX10_runningWith_41 : decode cX10_runningWith 41 = .ok (.iinc 3 1, 3) := by decide +kernel
theorem dX10_runningWith_44 : decode cX10_runningWith 44 = .ok (.goto (-40), 3) := by decide +kernel
theorem dX10_runningWith_47 : decode cX10_runningWith 47 = .ok (.iload_n 2, 1) := by decide +kernel
theorem dX10_runningWith_48 : decode cX10_runningWith 48 = .ok (.ireturn, 1) := by decide +kernel
theorem dX10_servicer_0 : decode cX10_servicer 0 = .ok (.aload_n 0, 1) := by decide +kernel
theorem dX10_servicer_1 : decode cX10_servicer 1 = .ok (.iconst 0, 1) := by decide +kernel
theorem dX10_servicer_2 : decode cX10_servicer 2 = .ok (.putfield 1, 3) := by decide +kernel
theorem dX10_servicer_5 : decode cX10_servicer 5 = .ok (.iload_n 1, 1) := by decide +kernel
theorem dX10_servicer_6 : decode cX10_servicer 6 = .ok (.invokestatic 137, 3) := by decide +kernel
theorem dX10_servicer_9 : decode cX10_servicer 9 = .ok (.ifCond .ne 5, 3) := by decide +kernel
theorem dX10_servicer_12 : decode cX10_servicer 12 = .ok (.iconst (-1), 1) := by decide +kernel
theorem dX10_servicer_13 : decode cX10_servicer 13 = .ok (.ireturn, 1) := by decide +kernel
theorem dX10_servicer_14 : decode cX10_servicer 14 = .ok (.iload_n 2, 1) := by decide +kernel
theorem dX10_servicer_15 : decode cX10_servicer 15 = .ok (.iconst 0, 1) := by decide +kernel
theorem dX10_servicer_16 : decode cX10_servicer 16 = .ok (.iconst 2, 1) := by decide +kernel
theorem dX10_servicer_17 : decode cX10_servicer 17 = .ok (.invokestatic 38, 3) := by decide +kernel
theorem dX10_servicer_20 : decode cX10_servicer 20 = .ok (.ifCond .ne 8, 3) := by decide +kernel
theorem dX10_servicer_23 : decode cX10_servicer 23 = .ok (.bipush (-2), 2) := by decide +kernel
theorem dX10_servicer_25 : decode cX10_servicer 25 = .ok (.goto 36, 3) := by decide +kernel
theorem dX10_servicer_28 : decode cX10_servicer 28 = .ok (.iload_n 2, 1) := by decide +kernel
theorem dX10_servicer_29 : decode cX10_servicer 29 = .ok (.ifCond .ne 10, 3) := by decide +kernel
theorem dX10_servicer_32 : decode cX10_servicer 32 = .ok (.iload_n 1, 1) := by decide +kernel
theorem dX10_servicer_33 : decode cX10_servicer 33 = .ok (.invokestatic 109, 3) := by decide +kernel
theorem dX10_servicer_36 : decode cX10_servicer 36 = .ok (.goto 25, 3) := by decide +kernel
theorem dX10_servicer_39 : decode cX10_servicer 39 = .ok (.iload_n 2, 1) := by decide +kernel
theorem dX10_servicer_40 : decode cX10_servicer 40 = .ok (.iconst 1, 1) := by decide +kernel
theorem dX10_servicer_41 : decode cX10_servicer 41 = .ok (.if_icmp .ne 15, 3) := by decide +kernel
theorem dX10_servicer_44 : decode cX10_servicer 44 = .ok (.aload_n 0, 1) := by decide +kernel
theorem dX10_servicer_45 : decode cX10_servicer 45 = .ok (.getfield 13, 3) := by decide +kernel
theorem dX10_servicer_48 : decode cX10_servicer 48 = .ok (.bipush 6, 2) := by decide +kernel
theorem dX10_servicer_50 : decode cX10_servicer 50 = .ok (.iload_n 1, 1) := by decide +kernel
theorem dX10_servicer_51 : decode cX10_servicer 51 = .ok (.iadd, 1) := by decide +kernel
theorem dX10_servicer_52 : decode cX10_servicer 52 = .ok (.iaload, 1) := by decide +kernel
theorem dX10_servicer_53 : decode cX10_servicer 53 = .ok (.goto 8, 3) := by decide +kernel
theorem dX10_servicer_56 : decode cX10_servicer 56 = .ok (.aload_n 0, 1) := by decide +kernel
theorem dX10_servicer_57 : decode cX10_servicer 57 = .ok (.iload_n 1, 1) := by decide +kernel
theorem dX10_servicer_58 : decode cX10_servicer 58 = .ok (.invokevirtual 182, 3) := by decide +kernel
theorem dX10_servicer_61 : decode cX10_servicer 61 = .ok (.ireturn, 1) := by decide +kernel
theorem dX10_inState_0 : decode cX10_inState 0 = .ok (.iconst 0, 1) := by decide +kernel
theorem dX10_inState_1 : decode cX10_inState 1 = .ok (.istore_n 2, 1) := by decide +kernel
theorem dX10_inState_2 : decode cX10_inState 2 = .ok (.iconst 0, 1) := by decide +kernel
theorem dX10_inState_3 : decode cX10_inState 3 = .ok (.istore_n 3, 1) := by decide +kernel
theorem dX10_inState_4 : decode cX10_inState 4 = .ok (.iload_n 3, 1) := by decide +kernel
theorem dX10_inState_5 : decode cX10_inState 5 = .ok (.aload_n 0, 1) := by decide +kernel
theorem dX10_inState_6 : decode cX10_inState 6 = .ok (.getfield 13, 3) := by decide +kernel
theorem dX10_inState_9 : decode cX10_inState 9 = .ok (.iconst 2, 1) := by decide +kernel
theorem dX10_inState_10 : decode cX10_inState 10 = .ok (.iaload, 1) := by decide +kernel
theorem dX10_inState_11 : decode cX10_inState 11 = .ok (.if_icmp .ge 27, 3) := by decide +kernel
theorem dX10_inState_14 : decode cX10_inState 14 = .ok (.iload_n 2, 1) := by decide +kernel
theorem dX10_inState_15 : decode cX10_inState 15 = .ok (.aload_n 0, 1) := by decide +kernel
theorem dX10_inState_16 : decode cX10_inState 16 = .ok (.iload_n 3, 1) := by decide +kernel
theorem dX10_inState_17 : decode cX10_inState 17 = .ok (.iconst 3, 1) := by decide +kernel
theorem dX10_inState_18 : decode cX10_inState 18 = .ok (.invokevirtual 42, 3) := by decide +kernel
theorem dX10_inState_21 : decode cX10_inState 21 = .ok (.iload_n 1, 1) := by decide +kernel
theorem dX10_inState_22 : decode cX10_inState 22 = .ok (.if_icmp .ne 7, 3) := by decide +kernel
theorem dX10_inState_25 : decode cX10_inState 25 = .ok (.iconst 1, 1) := by decide +kernel
theorem dX10_inState_26 : decode cX10_inState 26 = .ok (.goto 4, 3) := by decide +kernel
theorem dX10_inState_29 : decode cX10_inState 29 = .ok (.iconst 0, 1) := by decide +kernel
theorem dX10_inState_30 : decode cX10_inState 30 = .ok (.iadd, 1) := by decide +kernel
theorem dX10_inState_31 : decode cX10_inState 31 = .ok (.istore_n 2, 1) := by decide +kernel
theorem dX10_inState_32 : decode cX10_inState 32 = .ok (.iinc 3 1, 3) := by decide +kernel
theorem dX10_inState_35 : decode cX10_inState 35 = .ok (.goto (-31), 3) := by decide +kernel
theorem dX10_inState_38 : decode cX10_inState 38 = .ok (.iload_n 2, 1) := by decide +kernel
theorem dX10_inState_39 : decode cX10_inState 39 = .ok (.ireturn, 1) := by decide +kernel
theorem dX10_sumOf_0 : decode cX10_sumOf 0 = .ok (.iconst 0, 1) := by decide +kernel
theorem dX10_sumOf_1 : decode cX10_sumOf 1 = .ok (.istore_n 2, 1) := by decide +kernel
theorem dX10_sumOf_2 : decode cX10_sumOf 2 = .ok (.iconst 0, 1) := by decide +kernel
theorem dX10_sumOf_3 : decode cX10_sumOf 3 = .ok (.istore_n 3, 1) := by decide +kernel
theorem dX10_sumOf_4 : decode cX10_sumOf 4 = .ok (.iload_n 3, 1) := by decide +kernel
theorem dX10_sumOf_5 : decode cX10_sumOf 5 = .ok (.aload_n 0, 1) := by decide +kernel
theorem dX10_sumOf_6 : decode cX10_sumOf 6 = .ok (.getfield 13, 3) := by decide +kernel
theorem dX10_sumOf_9 : decode cX10_sumOf 9 = .ok (.iconst 2, 1) := by decide +kernel
theorem dX10_sumOf_10 : decode cX10_sumOf 10 = .ok (.iaload, 1) := by decide +kernel
theorem dX10_sumOf_11 : decode cX10_sumOf 11 = .ok (.if_icmp .ge 72, 3) := by decide +kernel
theorem dX10_sumOf_14 : decode cX10_sumOf 14 = .ok (.iload_n 2, 1) := by decide +kernel
theorem dX10_sumOf_15 : decode cX10_sumOf 15 = .ok (.iload_n 1, 1) := by decide +kernel
theorem dX10_sumOf_16 : decode cX10_sumOf 16 = .ok (.bipush 12, 2) := by decide +kernel
theorem dX10_sumOf_18 : decode cX10_sumOf 18 = .ok (.if_icmp .ne 13, 3) := by decide +kernel
theorem dX10_sumOf_21 : decode cX10_sumOf 21 = .ok (.aload_n 0, 1) := by decide +kernel
theorem dX10_sumOf_22 : decode cX10_sumOf 22 = .ok (.iload_n 3, 1) := by decide +kernel
theorem dX10_sumOf_23 : decode cX10_sumOf 23 = .ok (.bipush 6, 2) := by decide +kernel
theorem dX10_sumOf_25 : decode cX10_sumOf 25 = .ok (.invokevirtual 42, 3) := by decide +kernel
theorem dX10_sumOf_28 : decode cX10_sumOf 28 = .ok (.goto 47, 3) := by decide +kernel
theorem dX10_sumOf_31 : decode cX10_sumOf 31 = .ok (.iload_n 1, 1) := by decide +kernel
theorem dX10_sumOf_32 : decode cX10_sumOf 32 = .ok (.bipush 15, 2) := by decide +kernel
theorem dX10_sumOf_34 : decode cX10_sumOf 34 = .ok (.if_icmp .ne 23, 3) := by decide +kernel
theorem dX10_sumOf_37 : decode cX10_sumOf 37 = .ok (.aload_n 0, 1) := by decide +kernel
theorem dX10_sumOf_38 : decode cX10_sumOf 38 = .ok (.iload_n 3, 1) := by decide +kernel
theorem dX10_sumOf_39 : decode cX10_sumOf 39 = .ok (.bipush 10, 2) := by decide +kernel
theorem dX10_sumOf_41 : decode cX10_sumOf 41 = .ok (.invokevirtual 42, 3) := by decide +kernel
theorem dX10_sumOf_44 : decode cX10_sumOf 44 = .ok (.bipush (-5), 2) := by decide +kernel
theorem dX10_sumOf_46 : decode cX10_sumOf 46 = .ok (.if_icmp .ne 7, 3) := by decide +kernel
theorem dX10_sumOf_49 : decode cX10_sumOf 49 = .ok (.iconst 0, 1) := by decide +kernel
theorem dX10_sumOf_50 : decode cX10_sumOf 50 = .ok (.goto 25, 3) := by decide +kernel
theorem dX10_sumOf_53 : decode cX10_sumOf 53 = .ok (.iconst 1, 1) := by decide +kernel
theorem dX10_sumOf_54 : decode cX10_sumOf 54 = .ok (.goto 21, 3) := by decide +kernel
theorem dX10_sumOf_57 : decode cX10_sumOf 57 = .ok (.aload_n 0, 1) := by decide +kernel
theorem dX10_sumOf_58 : decode cX10_sumOf 58 = .ok (.iload_n 3, 1) := by decide +kernel
theorem dX10_sumOf_59 : decode cX10_sumOf 59 = .ok (.invokevirtual 114, 3) := by decide +kernel
theorem dX10_sumOf_62 : decode cX10_sumOf 62 = .ok (.ifCond .eq 12, 3) := by decide +kernel
theorem dX10_sumOf_65 : decode cX10_sumOf 65 = .ok (.aload_n 0, 1) := by decide +kernel
theorem dX10_sumOf_66 : decode cX10_sumOf 66 = .ok (.iload_n 3, 1) := by decide +kernel
theorem dX10_sumOf_67 : decode cX10_sumOf 67 = .ok (.iconst 4, 1) := by decide +kernel
theorem dX10_sumOf_68 : decode cX10_sumOf 68 = .ok (.invokevirtual 42, 3) := by decide +kernel
theorem dX10_sumOf_71 : decode cX10_sumOf 71 = .ok (.goto 4, 3) := by decide +kernel
theorem dX10_sumOf_74 : decode cX10_sumOf 74 = .ok (.iconst 0, 1) := by decide +kernel
theorem dX10_sumOf_75 : decode cX10_sumOf 75 = .ok (.iadd, 1) := by decide +kernel
theorem dX10_sumOf_76 : decode cX10_sumOf 76 = .ok (.istore_n 2, 1) := by decide +kernel
theorem dX10_sumOf_77 : decode cX10_sumOf 77 = .ok (.iinc 3 1, 3) := by decide +kernel
theorem dX10_sumOf_80 : decode cX10_sumOf 80 = .ok (.goto (-76), 3) := by decide +kernel
theorem dX10_sumOf_83 : decode cX10_sumOf 83 = .ok (.iload_n 2, 1) := by decide +kernel
theorem dX10_sumOf_84 : decode cX10_sumOf 84 = .ok (.ireturn, 1) := by decide +kernel
theorem dX10_losses_0 : decode cX10_losses 0 = .ok (.iconst 0, 1) := by decide +kernel
theorem dX10_losses_1 : decode cX10_losses 1 = .ok (.istore_n 1, 1) := by decide +kernel
theorem dX10_losses_2 : decode cX10_losses 2 = .ok (.iconst 0, 1) := by decide +kernel
theorem dX10_losses_3 : decode cX10_losses 3 = .ok (.istore_n 2, 1) := by decide +kernel
theorem dX10_losses_4 : decode cX10_losses 4 = .ok (.iload_n 2, 1) := by decide +kernel
theorem dX10_losses_5 : decode cX10_losses 5 = .ok (.aload_n 0, 1) := by decide +kernel
theorem dX10_losses_6 : decode cX10_losses 6 = .ok (.getfield 13, 3) := by decide +kernel
theorem dX10_losses_9 : decode cX10_losses 9 = .ok (.iconst 3, 1) := by decide +kernel
theorem dX10_losses_10 : decode cX10_losses 10 = .ok (.iaload, 1) := by decide +kernel
theorem dX10_losses_11 : decode cX10_losses 11 = .ok (.if_icmp .ge 19, 3) := by decide +kernel
theorem dX10_losses_14 : decode cX10_losses 14 = .ok (.iload_n 1, 1) := by decide +kernel
theorem dX10_losses_15 : decode cX10_losses 15 = .ok (.aload_n 0, 1) := by decide +kernel
theorem dX10_losses_16 : decode cX10_losses 16 = .ok (.iload_n 2, 1) := by decide +kernel
theorem dX10_losses_17 : decode cX10_losses 17 = .ok (.bipush 6, 2) := by decide +kernel
theorem dX10_losses_19 : decode cX10_losses 19 = .ok (.invokevirtual 78, 3) := by decide +kernel
theorem dX10_losses_22 : decode cX10_losses 22 = .ok (.iadd, 1) := by decide +kernel
theorem dX10_losses_23 : decode cX10_losses 23 = .ok (.istore_n 1, 1) := by decide +kernel
theorem dX10_losses_24 : decode cX10_losses 24 = .ok (.iinc 2 1, 3) := by decide +kernel
theorem dX10_losses_27 : decode cX10_losses 27 = .ok (.goto (-23), 3) := by decide +kernel
theorem dX10_losses_30 : decode cX10_losses 30 = .ok (.iload_n 1, 1) := by decide +kernel
theorem dX10_losses_31 : decode cX10_losses 31 = .ok (.ireturn, 1) := by decide +kernel
theorem dX10_count_0 : decode cX10_count 0 = .ok (.aload_n 0, 1) := by decide +kernel
theorem dX10_count_1 : decode cX10_count 1 = .ok (.iconst 0, 1) := by decide +kernel
theorem dX10_count_2 : decode cX10_count 2 = .ok (.putfield 1, 3) := by decide +kernel
theorem dX10_count_5 : decode cX10_count 5 = .ok (.iload_n 1, 1) := by decide +kernel
theorem dX10_count_6 : decode cX10_count 6 = .ok (.tableswitch 162 0 17 #[86, 93, 100, 107, 107, 107, 107, 107, 115, 122, 129, 136, 136, 142, 147, 136, 152, 157], 86) := by decide +kernel
theorem dX10_count_92 : decode cX10_count 92 = .ok (.aload_n 0, 1) := by decide +kernel
theorem dX10_count_93 : decode cX10_count 93 = .ok (.getfield 13, 3) := by decide +kernel
theorem dX10_count_96 : decode cX10_count 96 = .ok (.iconst 0, 1) := by decide +kernel
theorem dX10_count_97 : decode cX10_count 97 = .ok (.iaload, 1) := by decide +kernel
theorem dX10_count_98 : decode cX10_count 98 = .ok (.ireturn, 1) := by decide +kernel
theorem dX10_count_99 : decode cX10_count 99 = .ok (.aload_n 0, 1) := by decide +kernel
theorem dX10_count_100 : decode cX10_count 100 = .ok (.getfield 13, 3) := by decide +kernel
theorem dX10_count_103 : decode cX10_count 103 = .ok (.iconst 1, 1) := by decide +kernel
theorem dX10_count_104 : decode cX10_count 104 = .ok (.iaload, 1) := by decide +kernel
theorem dX10_count_105 : decode cX10_count 105 = .ok (.ireturn, 1) := by decide +kernel
theorem dX10_count_106 : decode cX10_count 106 = .ok (.aload_n 0, 1) := by decide +kernel
theorem dX10_count_107 : decode cX10_count 107 = .ok (.getfield 13, 3) := by decide +kernel
theorem dX10_count_110 : decode cX10_count 110 = .ok (.iconst 2, 1) := by decide +kernel
theorem dX10_count_111 : decode cX10_count 111 = .ok (.iaload, 1) := by decide +kernel
theorem dX10_count_112 : decode cX10_count 112 = .ok (.ireturn, 1) := by decide +kernel
theorem dX10_count_113 : decode cX10_count 113 = .ok (.aload_n 0, 1) := by decide +kernel
theorem dX10_count_114 : decode cX10_count 114 = .ok (.iload_n 1, 1) := by decide +kernel
theorem dX10_count_115 : decode cX10_count 115 = .ok (.iconst 3, 1) := by decide +kernel
theorem dX10_count_116 : decode cX10_count 116 = .ok (.isub, 1) := by decide +kernel
theorem dX10_count_117 : decode cX10_count 117 = .ok (.invokevirtual 185, 3) := by decide +kernel
theorem dX10_count_120 : decode cX10_count 120 = .ok (.ireturn, 1) := by decide +kernel
theorem dX10_count_121 : decode cX10_count 121 = .ok (.aload_n 0, 1) := by decide +kernel
theorem dX10_count_122 : decode cX10_count 122 = .ok (.getfield 13, 3) := by decide +kernel
theorem dX10_count_125 : decode cX10_count 125 = .ok (.iconst 3, 1) := by decide +kernel
theorem dX10_count_126 : decode cX10_count 126 = .ok (.iaload, 1) := by decide +kernel
theorem dX10_count_127 : decode cX10_count 127 = .ok (.ireturn, 1) := by decide +kernel
theorem dX10_count_128 : decode cX10_count 128 = .ok (.aload_n 0, 1) := by decide +kernel
theorem dX10_count_129 : decode cX10_count 129 = .ok (.getfield 13, 3) := by decide +kernel
theorem dX10_count_132 : decode cX10_count 132 = .ok (.iconst 4, 1) := by decide +kernel
theorem dX10_count_133 : decode cX10_count 133 = .ok (.iaload, 1) := by decide +kernel
theorem dX10_count_134 : decode cX10_count 134 = .ok (.ireturn, 1) := by decide +kernel
theorem dX10_count_135 : decode cX10_count 135 = .ok (.aload_n 0, 1) := by decide +kernel
theorem dX10_count_136 : decode cX10_count 136 = .ok (.getfield 13, 3) := by decide +kernel
theorem dX10_count_139 : decode cX10_count 139 = .ok (.iconst 5, 1) := by decide +kernel
theorem dX10_count_140 : decode cX10_count 140 = .ok (.iaload, 1) := by decide +kernel
theorem dX10_count_141 : decode cX10_count 141 = .ok (.ireturn, 1) := by decide +kernel
theorem dX10_count_142 : decode cX10_count 142 = .ok (.aload_n 0, 1) := by decide +kernel
theorem dX10_count_143 : decode cX10_count 143 = .ok (.iload_n 1, 1) := by decide +kernel
theorem dX10_count_144 : decode cX10_count 144 = .ok (.invokevirtual 188, 3) := by decide +kernel
theorem dX10_count_147 : decode cX10_count 147 = .ok (.ireturn, 1) := by decide +kernel
theorem dX10_count_148 : decode cX10_count 148 = .ok (.aload_n 0, 1) := by decide +kernel
theorem dX10_count_149 : decode cX10_count 149 = .ok (.invokevirtual 191, 3) := by decide +kernel
theorem dX10_count_152 : decode cX10_count 152 = .ok (.ireturn, 1) := by decide +kernel
theorem dX10_count_153 : decode cX10_count 153 = .ok (.aload_n 0, 1) := by decide +kernel
theorem dX10_count_154 : decode cX10_count 154 = .ok (.invokevirtual 147, 3) := by decide +kernel
theorem dX10_count_157 : decode cX10_count 157 = .ok (.ireturn, 1) := by decide +kernel
theorem dX10_count_158 : decode cX10_count 158 = .ok (.aload_n 0, 1) := by decide +kernel
theorem dX10_count_159 : decode cX10_count 159 = .ok (.getfield 53, 3) := by decide +kernel
theorem dX10_count_162 : decode cX10_count 162 = .ok (.ireturn, 1) := by decide +kernel
theorem dX10_count_163 : decode cX10_count 163 = .ok (.aload_n 0, 1) := by decide +kernel
theorem dX10_count_164 : decode cX10_count 164 = .ok (.getfield 151, 3) := by decide +kernel
theorem dX10_count_167 : decode cX10_count 167 = .ok (.ireturn, 1) := by decide +kernel
theorem dX10_count_168 : decode cX10_count 168 = .ok (.bipush (-2), 2) := by decide +kernel
theorem dX10_count_170 : decode cX10_count 170 = .ok (.ireturn, 1) := by decide +kernel
