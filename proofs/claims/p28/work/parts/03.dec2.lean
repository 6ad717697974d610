theorem dX9_init_0 : decode cX9_init 0 = .ok (.aload_n 0, 1) := by decide +kernel
theorem dX9_init_1 : decode cX9_init 1 = .ok (.invokespecial 1, 3) := by decide +kernel
theorem dX9_init_4 : decode cX9_init 4 = .ok (.aload_n 0, 1) := by decide +kernel
theorem dX9_init_5 : decode cX9_init 5 = .ok (.new 7, 3) := by decide +kernel
theorem dX9_init_8 : decode cX9_init 8 = .ok (.dup, 1) := by decide +kernel
theorem dX9_init_9 : decode cX9_init 9 = .ok (.invokespecial 9, 3) := by decide +kernel
theorem dX9_init_12 : decode cX9_init 12 = .ok (.putfield 10, 3) := by decide +kernel
theorem dX9_init_15 : decode cX9_init 15 = .ok (.aload_n 0, 1) := by decide +kernel
theorem dX9_init_16 : decode cX9_init 16 = .ok (.new 7, 3) := by decide +kernel
theorem dX9_init_19 : decode cX9_init 19 = .ok (.dup, 1) := by decide +kernel
theorem dX9_init_20 : decode cX9_init 20 = .ok (.invokespecial 9, 3) := by decide +kernel
theorem dX9_init_23 : decode cX9_init 23 = .ok (.putfield 16, 3) := by decide +kernel
theorem dX9_init_26 : decode cX9_init 26 = .ok (.aload_n 0, 1) := by decide +kernel
theorem dX9_init_27 : decode cX9_init 27 = .ok (.new 7, 3) := by decide +kernel
theorem dX9_init_30 : decode cX9_init 30 = .ok (.dup, 1) := by decide +kernel
theorem dX9_init_31 : decode cX9_init 31 = .ok (.invokespecial 9, 3) := by decide +kernel
theorem dX9_init_34 : decode cX9_init 34 = .ok (.putfield 19, 3) := by decide +kernel
theorem dX9_init_37 : decode cX9_init 37 = .ok (.aload_n 0, 1) := by decide +kernel
theorem dX9_init_38 : decode cX9_init 38 = .ok (.iconst 0, 1) := by decide +kernel
theorem dX9_init_39 : decode cX9_init 39 = .ok (.putfield 22, 3) := by decide +kernel
theorem dX9_init_42 : decode cX9_init 42 = .ok (.aload_n 0, 1) := by decide +kernel
theorem dX9_init_43 : decode cX9_init 43 = .ok (.new 26, 3) := by decide +kernel
theorem dX9_init_46 : decode cX9_init 46 = .ok (.dup, 1) := by decide +kernel
theorem dX9_init_47 : decode cX9_init 47 = .ok (.invokespecial 28, 3) := by decide +kernel
theorem dX9_init_50 : decode cX9_init 50 = .ok (.putfield 29, 3) := by decide +kernel
theorem dX9_init_53 : decode cX9_init 53 = .ok (.aload_n 0, 1) := by decide +kernel
theorem dX9_init_54 : decode cX9_init 54 = .ok (.new 33, 3) := by decide +kernel
theorem dX9_init_57 : decode cX9_init 57 = .ok (.dup, 1) := by decide +kernel
theorem dX9_init_58 : decode cX9_init 58 = .ok (.invokespecial 35, 3) := by decide +kernel
theorem dX9_init_61 : decode cX9_init 61 = .ok (.putfield 36, 3) := by decide +kernel
theorem dX9_init_64 : decode cX9_init 64 = .ok (.aload_n 0, 1) := by decide +kernel
theorem dX9_init_65 : decode cX9_init 65 = .ok (.new 40, 3) := by decide +kernel
theorem dX9_init_68 : decode cX9_init 68 = .ok (.dup, 1) := by decide +kernel
theorem dX9_init_69 : decode cX9_init 69 = .ok (.invokespecial 42, 3) := by decide +kernel
theorem dX9_init_72 : decode cX9_init 72 = .ok (.putfield 43, 3) := by decide +kernel
theorem dX9_init_75 : decode cX9_init 75 = .ok (.aload_n 0, 1) := by decide +kernel
theorem dX9_init_76 : decode cX9_init 76 = .ok (.new 47, 3) := by decide +kernel
theorem dX9_init_79 : decode cX9_init 79 = .ok (.dup, 1) := by decide +kernel
theorem dX9_init_80 : decode cX9_init 80 = .ok (.invokespecial 49, 3) := by decide +kernel
theorem dX9_init_83 : decode cX9_init 83 = .ok (.putfield 50, 3) := by decide +kernel
theorem dX9_init_86 : decode cX9_init 86 = .ok (.return_, 1) := by decide +kernel
theorem dX9_addInvestor_0 : decode cX9_addInvestor 0 = .ok (.iload_n 1, 1) := by decide +kernel
theorem dX9_addInvestor_1 : decode cX9_addInvestor 1 = .ok (.ifCond .ge 6, 3) := by decide +kernel
theorem dX9_addInvestor_4 : decode cX9_addInvestor 4 = .ok (.bipush (-2), 2) := by decide +kernel
theorem dX9_addInvestor_6 : decode cX9_addInvestor 6 = .ok (.ireturn, 1) := by decide +kernel
theorem dX9_addInvestor_7 : decode cX9_addInvestor 7 = .ok (.aload_n 0, 1) := by decide +kernel
theorem dX9_addInvestor_8 : decode cX9_addInvestor 8 = .ok (.getfield 10, 3) := by decide +kernel
theorem dX9_addInvestor_11 : decode cX9_addInvestor 11 = .ok (.getfield 54, 3) := by decide +kernel
theorem dX9_addInvestor_14 : decode cX9_addInvestor 14 = .ok (.bipush 8, 2) := by decide +kernel
theorem dX9_addInvestor_16 : decode cX9_addInvestor 16 = .ok (.if_icmp .lt 6, 3) := by decide +kernel
theorem dX9_addInvestor_19 : decode cX9_addInvestor 19 = .ok (.bipush (-3), 2) := by decide +kernel
theorem dX9_addInvestor_21 : decode cX9_addInvestor 21 = .ok (.ireturn, 1) := by decide +kernel
theorem dX9_addInvestor_22 : decode cX9_addInvestor 22 = .ok (.aload_n 0, 1) := by decide +kernel
theorem dX9_addInvestor_23 : decode cX9_addInvestor 23 = .ok (.getfield 29, 3) := by decide +kernel
theorem dX9_addInvestor_26 : decode cX9_addInvestor 26 = .ok (.aload_n 0, 1) := by decide +kernel
theorem dX9_addInvestor_27 : decode cX9_addInvestor 27 = .ok (.getfield 10, 3) := by decide +kernel
theorem dX9_addInvestor_30 : decode cX9_addInvestor 30 = .ok (.invokevirtual 58, 3) := by decide +kernel
theorem dX9_addInvestor_33 : decode cX9_addInvestor 33 = .ok (.aload_n 0, 1) := by decide +kernel
theorem dX9_addInvestor_34 : decode cX9_addInvestor 34 = .ok (.getfield 10, 3) := by decide +kernel
theorem dX9_addInvestor_37 : decode cX9_addInvestor 37 = .ok (.getfield 54, 3) := by decide +kernel
theorem dX9_addInvestor_40 : decode cX9_addInvestor 40 = .ok (.istore_n 2, 1) := by decide +kernel
theorem dX9_addInvestor_41 : decode cX9_addInvestor 41 = .ok (.aload_n 0, 1) := by decide +kernel
theorem dX9_addInvestor_42 : decode cX9_addInvestor 42 = .ok (.getfield 10, 3) := by decide +kernel
theorem dX9_addInvestor_45 : decode cX9_addInvestor 45 = .ok (.getfield 62, 3) := by decide +kernel
theorem dX9_addInvestor_48 : decode cX9_addInvestor 48 = .ok (.iload_n 2, 1) := by decide +kernel
theorem dX9_addInvestor_49 : decode cX9_addInvestor 49 = .ok (.aaload, 1) := by decide +kernel
theorem dX9_addInvestor_50 : decode cX9_addInvestor 50 = .ok (.iload_n 1, 1) := by decide +kernel
theorem dX9_addInvestor_51 : decode cX9_addInvestor 51 = .ok (.invokevirtual 66, 3) := by decide +kernel
theorem dX9_addInvestor_54 : decode cX9_addInvestor 54 = .ok (.aload_n 0, 1) := by decide +kernel
theorem dX9_addInvestor_55 : decode cX9_addInvestor 55 = .ok (.getfield 10, 3) := by decide +kernel
theorem dX9_addInvestor_58 : decode cX9_addInvestor 58 = .ok (.dup, 1) := by decide +kernel
theorem dX9_addInvestor_59 : decode cX9_addInvestor 59 = .ok (.getfield 54, 3) := by decide +kernel
theorem dX9_addInvestor_62 : decode cX9_addInvestor 62 = .ok (.iconst 1, 1) := by decide +kernel
theorem dX9_addInvestor_63 : decode cX9_addInvestor 63 = .ok (.iadd, 1) := by decide +kernel
theorem dX9_addInvestor_64 : decode cX9_addInvestor 64 = .ok (.putfield 54, 3) := by decide +kernel
theorem dX9_addInvestor_67 : decode cX9_addInvestor 67 = .ok (.iload_n 2, 1) := by decide +kernel
theorem dX9_addInvestor_68 : decode cX9_addInvestor 68 = .ok (.ireturn, 1) := by decide +kernel
theorem dX9_deposit_0 : decode cX9_deposit 0 = .ok (.aload_n 0, 1) := by decide +kernel
theorem dX9_deposit_1 : decode cX9_deposit 1 = .ok (.getfield 10, 3) := by decide +kernel
theorem dX9_deposit_4 : decode cX9_deposit 4 = .ok (.iload_n 1, 1) := by decide +kernel
theorem dX9_deposit_5 : decode cX9_deposit 5 = .ok (.invokevirtual 72, 3) := by decide +kernel
theorem dX9_deposit_8 : decode cX9_deposit 8 = .ok (.ifCond .ne 5, 3) := by decide +kernel
theorem dX9_deposit_11 : decode cX9_deposit 11 = .ok (.iconst (-1), 1) := by decide +kernel
theorem dX9_deposit_12 : decode cX9_deposit 12 = .ok (.ireturn, 1) := by decide +kernel
theorem dX9_deposit_13 : decode cX9_deposit 13 = .ok (.iload_n 2, 1) := by decide +kernel
theorem dX9_deposit_14 : decode cX9_deposit 14 = .ok (.iconst 1, 1) := by decide +kernel
theorem dX9_deposit_15 : decode cX9_deposit 15 = .ok (.if_icmp .ge 6, 3) := by decide +kernel
theorem dX9_deposit_18 : decode cX9_deposit 18 = .ok (.bipush (-2), 2) := by decide +kernel
theorem dX9_deposit_20 : decode cX9_deposit 20 = .ok (.ireturn, 1) := by decide +kernel
theorem dX9_deposit_21 : decode cX9_deposit 21 = .ok (.iload_n 2, 1) := by decide +kernel
theorem dX9_deposit_22 : decode cX9_deposit 22 = .ok (.ldc 76, 2) := by decide +kernel
theorem dX9_deposit_24 : decode cX9_deposit 24 = .ok (.aload_n 0, 1) := by decide +kernel
theorem dX9_deposit_25 : decode cX9_deposit 25 = .ok (.getfield 10, 3) := by decide +kernel
theorem dX9_deposit_28 : decode cX9_deposit 28 = .ok (.getfield 62, 3) := by decide +kernel
theorem dX9_deposit_31 : decode cX9_deposit 31 = .ok (.iload_n 1, 1) := by decide +kernel
theorem dX9_deposit_32 : decode cX9_deposit 32 = .ok (.aaload, 1) := by decide +kernel
theorem dX9_deposit_33 : decode cX9_deposit 33 = .ok (.getfield 77, 3) := by decide +kernel
theorem dX9_deposit_36 : decode cX9_deposit 36 = .ok (.isub, 1) := by decide +kernel
theorem dX9_deposit_37 : decode cX9_deposit 37 = .ok (.if_icmp .le 6, 3) := by decide +kernel
theorem dX9_deposit_40 : decode cX9_deposit 40 = .ok (.bipush (-3), 2) := by decide +kernel
theorem dX9_deposit_42 : decode cX9_deposit 42 = .ok (.ireturn, 1) := by decide +kernel
theorem dX9_deposit_43 : decode cX9_deposit 43 = .ok (.aload_n 0, 1) := by decide +kernel
theorem dX9_deposit_44 : decode cX9_deposit 44 = .ok (.getfield 29, 3) := by decide +kernel
theorem dX9_deposit_47 : decode cX9_deposit 47 = .ok (.aload_n 0, 1) := by decide +kernel
theorem dX9_deposit_48 : decode cX9_deposit 48 = .ok (.getfield 10, 3) := by decide +kernel
theorem dX9_deposit_51 : decode cX9_deposit 51 = .ok (.invokevirtual 58, 3) := by decide +kernel
theorem dX9_deposit_54 : decode cX9_deposit 54 = .ok (.aload_n 0, 1) := by decide +kernel
theorem dX9_deposit_55 : decode cX9_deposit 55 = .ok (.getfield 10, 3) := by decide +kernel
theorem dX9_deposit_58 : decode cX9_deposit 58 = .ok (.getfield 62, 3) := by decide +kernel
theorem dX9_deposit_61 : decode cX9_deposit 61 = .ok (.iload_n 1, 1) := by decide +kernel
theorem dX9_deposit_62 : decode cX9_deposit 62 = .ok (.aaload, 1) := by decide +kernel
theorem dX9_deposit_63 : decode cX9_deposit 63 = .ok (.dup, 1) := by decide +kernel
theorem dX9_deposit_64 : decode cX9_deposit 64 = .ok (.getfield 77, 3) := by decide +kernel
theorem dX9_deposit_67 : decode cX9_deposit 67 = .ok (.iload_n 2, 1) := by decide +kernel
theorem dX9_deposit_68 : decode cX9_deposit 68 = .ok (.iadd, 1) := by decide +kernel
theorem dX9_deposit_69 : decode cX9_deposit 69 = .ok (.putfield 77, 3) := by decide +kernel
theorem dX9_deposit_72 : decode cX9_deposit 72 = .ok (.aload_n 0, 1) := by decide +kernel
theorem dX9_deposit_73 : decode cX9_deposit 73 = .ok (.getfield 10, 3) := by decide +kernel
theorem dX9_deposit_76 : decode cX9_deposit 76 = .ok (.getfield 62, 3) := by decide +kernel
theorem dX9_deposit_79 : decode cX9_deposit 79 = .ok (.iload_n 1, 1) := by decide +kernel
theorem dX9_deposit_80 : decode cX9_deposit 80 = .ok (.aaload, 1) := by decide +kernel
theorem dX9_deposit_81 : decode cX9_deposit 81 = .ok (.getfield 77, 3) := by decide +kernel
theorem dX9_deposit_84 : decode cX9_deposit 84 = .ok (.ireturn, 1) := by decide +kernel
theorem dX9_setPoolShare_0 : decode cX9_setPoolShare 0 = .ok (.iload_n 1, 1) := by decide +kernel
theorem dX9_setPoolShare_1 : decode cX9_setPoolShare 1 = .ok (.ifCond .lt 9, 3) := by decide +kernel
theorem dX9_setPoolShare_4 : decode cX9_setPoolShare 4 = .ok (.iload_n 1, 1) := by decide +kernel
theorem dX9_setPoolShare_5 : decode cX9_setPoolShare 5 = .ok (.bipush 50, 2) := by decide +kernel
theorem dX9_setPoolShare_7 : decode cX9_setPoolShare 7 = .ok (.if_icmp .le 6, 3) := by decide +kernel
theorem dX9_setPoolShare_10 : decode cX9_setPoolShare 10 = .ok (.bipush (-2), 2) := by decide +kernel
theorem dX9_setPoolShare_12 : decode cX9_setPoolShare 12 = .ok (.ireturn, 1) := by decide +kernel
theorem dX9_setPoolShare_13 : decode cX9_setPoolShare 13 = .ok (.iload_n 1, 1) := by decide +kernel
theorem dX9_setPoolShare_14 : decode cX9_setPoolShare 14 = .ok (.aload_n 0, 1) := by decide +kernel
theorem dX9_setPoolShare_15 : decode cX9_setPoolShare 15 = .ok (.getfield 10, 3) := by decide +kernel
theorem dX9_setPoolShare_18 : decode cX9_setPoolShare 18 = .ok (.getfield 80, 3) := by decide +kernel
theorem dX9_setPoolShare_21 : decode cX9_setPoolShare 21 = .ok (.if_icmp .ne 6, 3) := by decide +kernel
theorem dX9_setPoolShare_24 : decode cX9_setPoolShare 24 = .ok (.bipush (-5), 2) := by decide +kernel
theorem dX9_setPoolShare_26 : decode cX9_setPoolShare 26 = .ok (.ireturn, 1) := by decide +kernel
theorem dX9_setPoolShare_27 : decode cX9_setPoolShare 27 = .ok (.aload_n 0, 1) := by decide +kernel
theorem dX9_setPoolShare_28 : decode cX9_setPoolShare 28 = .ok (.getfield 29, 3) := by decide +kernel
theorem dX9_setPoolShare_31 : decode cX9_setPoolShare 31 = .ok (.aload_n 0, 1) := by decide +kernel
theorem dX9_setPoolShare_32 : decode cX9_setPoolShare 32 = .ok (.getfield 10, 3) := by decide +kernel
theorem dX9_setPoolShare_35 : decode cX9_setPoolShare 35 = .ok (.invokevirtual 58, 3) := by decide +kernel
theorem dX9_setPoolShare_38 : decode cX9_setPoolShare 38 = .ok (.aload_n 0, 1) := by decide +kernel
theorem dX9_setPoolShare_39 : decode cX9_setPoolShare 39 = .ok (.getfield 10, 3) := by decide +kernel
theorem dX9_setPoolShare_42 : decode cX9_setPoolShare 42 = .ok (.getfield 80, 3) := by decide +kernel
theorem dX9_setPoolShare_45 : decode cX9_setPoolShare 45 = .ok (.istore_n 2, 1) := by decide +kernel
theorem dX9_setPoolShare_46 : decode cX9_setPoolShare 46 = .ok (.aload_n 0, 1) := by decide +kernel
theorem dX9_setPoolShare_47 : decode cX9_setPoolShare 47 = .ok (.getfield 10, 3) := by decide +kernel
theorem dX9_setPoolShare_50 : decode cX9_setPoolShare 50 = .ok (.iload_n 1, 1) := by decide +kernel
theorem dX9_setPoolShare_51 : decode cX9_setPoolShare 51 = .ok (.putfield 80, 3) := by decide +kernel
theorem dX9_setPoolShare_54 : decode cX9_setPoolShare 54 = .ok (.iload_n 2, 1) := by decide +kernel
theorem dX9_setPoolShare_55 : decode cX9_setPoolShare 55 = .ok (.ireturn, 1) := by decide +kernel
theorem dX9_openLoan_0 : decode cX9_openLoan 0 = .ok (.iload_n 1, 1) := by decide +kernel
theorem dX9_openLoan_1 : decode cX9_openLoan 1 = .ok (.bipush 100, 2) := by decide +kernel
theorem dX9_openLoan_3 : decode cX9_openLoan 3 = .ok (.if_icmp .lt 26, 3) := by decide +kernel
theorem dX9_openLoan_6 : decode cX9_openLoan 6 = .ok (.iload_n 1, 1) := by decide +kernel
theorem dX9_openLoan_7 : decode cX9_openLoan 7 = .ok (.ldc 83, 2) := by decide +kernel
theorem dX9_openLoan_9 : decode cX9_openLoan 9 = .ok (.if_icmp .gt 20, 3) := by decide +kernel
theorem dX9_openLoan_12 : decode cX9_openLoan 12 = .ok (.iload_n 2, 1) := by decide +kernel
theorem dX9_openLoan_13 : decode cX9_openLoan 13 = .ok (.ifCond .lt 16, 3) := by decide +kernel
theorem dX9_openLoan_16 : decode cX9_openLoan 16 = .ok (.iload_n 2, 1) := by decide +kernel
theorem dX9_openLoan_17 : decode cX9_openLoan 17 = .ok (.bipush 50, 2) := by decide +kernel
theorem dX9_openLoan_19 : decode cX9_openLoan 19 = .ok (.if_icmp .gt 10, 3) := by decide +kernel
theorem dX9_openLoan_22 : decode cX9_openLoan 22 = .ok (.iload_n 3, 1) := by decide +kernel
theorem dX9_openLoan_23 : decode cX9_openLoan 23 = .ok (.invokestatic 84, 3) := by decide +kernel
theorem dX9_openLoan_26 : decode cX9_openLoan 26 = .ok (.ifCond .ne 6, 3) := by decide +kernel
theorem dX9_openLoan_29 : decode cX9_openLoan 29 = .ok (.bipush (-2), 2) := by decide +kernel
theorem dX9_openLoan_31 : decode cX9_openLoan 31 = .ok (.ireturn, 1) := by decide +kernel
theorem dX9_openLoan_32 : decode cX9_openLoan 32 = .ok (.aload_n 0, 1) := by decide +kernel
theorem dX9_openLoan_33 : decode cX9_openLoan 33 = .ok (.getfield 10, 3) := by decide +kernel
theorem dX9_openLoan_36 : decode cX9_openLoan 36 = .ok (.getfield 87, 3) := by decide +kernel
theorem dX9_openLoan_39 : decode cX9_openLoan 39 = .ok (.bipush 10, 2) := by decide +kernel
theorem dX9_openLoan_41 : decode cX9_openLoan 41 = .ok (.if_icmp .lt 6, 3) := by decide +kernel
theorem dX9_openLoan_44 : decode cX9_openLoan 44 = .ok (.bipush (-3), 2) := by decide +kernel
theorem dX9_openLoan_46 : decode cX9_openLoan 46 = .ok (.ireturn, 1) := by decide +kernel
theorem dX9_openLoan_47 : decode cX9_openLoan 47 = .ok (.aload_n 0, 1) := by decide +kernel
theorem dX9_openLoan_48 : decode cX9_openLoan 48 = .ok (.getfield 29, 3) := by decide +kernel
theorem dX9_openLoan_51 : decode cX9_openLoan 51 = .ok (.aload_n 0, 1) := by decide +kernel
theorem dX9_openLoan_52 : decode cX9_openLoan 52 = .ok (.getfield 10, 3) := by decide +kernel
theorem dX9_openLoan_55 : decode cX9_openLoan 55 = .ok (.invokevirtual 58, 3) := by decide +kernel
theorem dX9_openLoan_58 : decode cX9_openLoan 58 = .ok (.aload_n 0, 1) := by decide +kernel
theorem dX9_openLoan_59 : decode cX9_openLoan 59 = .ok (.getfield 10, 3) := by decide +kernel
theorem dX9_openLoan_62 : decode cX9_openLoan 62 = .ok (.getfield 87, 3) := by decide +kernel
theorem dX9_openLoan_65 : decode cX9_openLoan 65 = .ok (.istore 4, 2) := by decide +kernel
theorem dX9_openLoan_67 : decode cX9_openLoan 67 = .ok (.aload_n 0, 1) := by decide +kernel
theorem dX9_openLoan_68 : decode cX9_openLoan 68 = .ok (.getfield 10, 3) := by decide +kernel
theorem dX9_openLoan_71 : decode cX9_openLoan 71 = .ok (.getfield 90, 3) := by decide +kernel
theorem dX9_openLoan_74 : decode cX9_openLoan 74 = .ok (.iload 4, 2) := by decide +kernel
theorem dX9_openLoan_76 : decode cX9_openLoan 76 = .ok (.aaload, 1) := by decide +kernel
theorem dX9_openLoan_77 : decode cX9_openLoan 77 = .ok (.iload_n 1, 1) := by decide +kernel
theorem dX9_openLoan_78 : decode cX9_openLoan 78 = .ok (.iload_n 2, 1) := by decide +kernel
theorem dX9_openLoan_79 : decode cX9_openLoan 79 = .ok (.iload_n 3, 1) := by decide +kernel
theorem dX9_openLoan_80 : decode cX9_openLoan 80 = .ok (.invokevirtual 94, 3) := by decide +kernel
theorem dX9_openLoan_83 : decode cX9_openLoan 83 = .ok (.aload_n 0, 1) := by decide +kernel
theorem dX9_openLoan_84 : decode cX9_openLoan 84 = .ok (.getfield 10, 3) := by decide +kernel
theorem dX9_openLoan_87 : decode cX9_openLoan 87 = .ok (.dup, 1) := by decide +kernel
theorem dX9_openLoan_88 : decode cX9_openLoan 88 = .ok (.getfield 87, 3) := by decide +kernel
theorem dX9_openLoan_91 : decode cX9_openLoan 91 = .ok (.iconst 1, 1) := by decide +kernel
theorem dX9_openLoan_92 : decode cX9_openLoan 92 = .ok (.iadd, 1) := by decide +kernel
theorem dX9_openLoan_93 : decode cX9_openLoan 93 = .ok (.putfield 87, 3) := by decide +kernel
theorem dX9_openLoan_96 : decode cX9_openLoan 96 = .ok (.iload 4, 2) := by decide +kernel
theorem dX9_openLoan_98 : decode cX9_openLoan 98 = .ok (.ireturn, 1) := by decide +kernel
theorem dX9_fund_0 : decode cX9_fund 0 = .ok (.aload_n 0, 1) := by decide +kernel
theorem dX9_fund_1 : decode cX9_fund 1 = .ok (.getfield 10, 3) := by decide +kernel
theorem dX9_fund_4 : decode cX9_fund 4 = .ok (.iload_n 1, 1) := by decide +kernel
theorem dX9_fund_5 : decode cX9_fund 5 = .ok (.iload_n 2, 1) := by decide +kernel
theorem dX9_fund_6 : decode cX9_fund 6 = .ok (.iload 4, 2) := by decide +kernel
theorem dX9_fund_8 : decode cX9_fund 8 = .ok (.invokevirtual 99, 3) := by decide +kernel
theorem dX9_fund_11 : decode cX9_fund 11 = .ok (.istore 5, 2) := by decide +kernel
theorem dX9_fund_13 : decode cX9_fund 13 = .ok (.iload 5, 2) := by decide +kernel
theorem dX9_fund_15 : decode cX9_fund 15 = .ok (.ifCond .eq 6, 3) := by decide +kernel
theorem dX9_fund_18 : decode cX9_fund 18 = .ok (.iload 5, 2) := by decide +kernel
theorem dX9_fund_20 : decode cX9_fund 20 = .ok (.ireturn, 1) := by decide +kernel
theorem dX9_fund_21 : decode cX9_fund 21 = .ok (.aload_n 0, 1) := by decide +kernel
theorem dX9_fund_22 : decode cX9_fund 22 = .ok (.getfield 29, 3) := by decide +kernel
theorem dX9_fund_25 : decode cX9_fund 25 = .ok (.aload_n 0, 1) := by decide +kernel
theorem dX9_fund_26 : decode cX9_fund 26 = .ok (.getfield 10, 3) := by decide +kernel
theorem dX9_fund_29 : decode cX9_fund 29 = .ok (.invokevirtual 58, 3) := by decide +kernel
theorem dX9_fund_32 : decode cX9_fund 32 = .ok (.aload_n 0, 1) := by decide +kernel
theorem dX9_fund_33 : decode cX9_fund 33 = .ok (.getfield 10, 3) := by decide +kernel
theorem dX9_fund_36 : decode cX9_fund 36 = .ok (.iload_n 1, 1) := by decide +kernel
theorem dX9_fund_37 : decode cX9_fund 37 = .ok (.iload_n 2, 1) := by decide +kernel
theorem dX9_fund_38 : decode cX9_fund 38 = .ok (.iload_n 3, 1) := by decide +kernel
theorem dX9_fund_39 : decode cX9_fund 39 = .ok (.ifCond .eq 7, 3) := by decide +kernel
theorem dX9_fund_42 : decode cX9_fund 42 = .ok (.iconst 1, 1) := by decide +kernel
theorem dX9_fund_43 : decode cX9_fund 43 = .ok (.goto 4, 3) := by decide +kernel
theorem dX9_fund_46 : decode cX9_fund 46 = .ok (.iconst 0, 1) := by decide +kernel
theorem dX9_fund_47 : decode cX9_fund 47 = .ok (.iload 4, 2) := by decide +kernel
theorem dX9_fund_49 : decode cX9_fund 49 = .ok (.invokevirtual 103, 3) := by decide +kernel
theorem dX9_fund_52 : decode cX9_fund 52 = .ok (.aload_n 0, 1) := by decide +kernel
theorem dX9_fund_53 : decode cX9_fund 53 = .ok (.getfield 10, 3) := by decide +kernel
theorem dX9_fund_56 : decode cX9_fund 56 = .ok (.iload_n 2, 1) := by decide +kernel
theorem dX9_fund_57 : decode cX9_fund 57 = .ok (.invokevirtual 107, 3) := by decide +kernel
theorem dX9_fund_60 : decode cX9_fund 60 = .ok (.ireturn, 1) := by decide +kernel
theorem dX9_giveUp_0 : decode cX9_giveUp 0 = .ok (.aload_n 0, 1) := by decide +kernel
theorem dX9_giveUp_1 : decode cX9_giveUp 1 = .ok (.getfield 10, 3) := by decide +kernel
theorem dX9_giveUp_4 : decode cX9_giveUp 4 = .ok (.iload_n 1, 1) := by decide +kernel
theorem dX9_giveUp_5 : decode cX9_giveUp 5 = .ok (.invokevirtual 111, 3) := by decide +kernel
theorem dX9_giveUp_8 : decode cX9_giveUp 8 = .ok (.ifCond .ne 5, 3) := by decide +kernel
theorem dX9_giveUp_11 : decode cX9_giveUp 11 = .ok (.iconst (-1), 1) := by decide +kernel
theorem dX9_giveUp_12 : decode cX9_giveUp 12 = .ok (.ireturn, 1) := by decide +kernel
theorem dX9_giveUp_13 : decode cX9_giveUp 13 = .ok (.aload_n 0, 1) := by decide +kernel
theorem dX9_giveUp_14 : decode cX9_giveUp 14 = .ok (.getfield 10, 3) := by decide +kernel
theorem dX9_giveUp_17 : decode cX9_giveUp 17 = .ok (.getfield 90, 3) := by decide +kernel
theorem dX9_giveUp_20 : decode cX9_giveUp 20 = .ok (.iload_n 1, 1) := by decide +kernel
theorem dX9_giveUp_21 : decode cX9_giveUp 21 = .ok (.aaload, 1) := by decide +kernel
theorem dX9_giveUp_22 : decode cX9_giveUp 22 = .ok (.getfield 114, 3) := by decide +kernel
theorem dX9_giveUp_25 : decode cX9_giveUp 25 = .ok (.ifCond .eq 6, 3) := by decide +kernel
theorem dX9_giveUp_28 : decode cX9_giveUp 28 = .ok (.bipush (-4), 2) := by decide +kernel
theorem dX9_giveUp_30 : decode cX9_giveUp 30 = .ok (.ireturn, 1) := by decide +kernel
theorem dX9_giveUp_31 : decode cX9_giveUp 31 = .ok (.aload_n 0, 1) := by decide +kernel
theorem dX9_giveUp_32 : decode cX9_giveUp 32 = .ok (.getfield 10, 3) := by decide +kernel
theorem dX9_giveUp_35 : decode cX9_giveUp 35 = .ok (.iload_n 1, 1) := by decide +kernel
theorem dX9_giveUp_36 : decode cX9_giveUp 36 = .ok (.iconst 0, 1) := by decide +kernel
theorem dX9_giveUp_37 : decode cX9_giveUp 37 = .ok (.invokevirtual 117, 3) := by decide +kernel
theorem dX9_giveUp_40 : decode cX9_giveUp 40 = .ok (.aload_n 0, 1) := by decide +kernel
theorem dX9_giveUp_41 : decode cX9_giveUp 41 = .ok (.getfield 10, 3) := by decide +kernel
theorem dX9_giveUp_44 : decode cX9_giveUp 44 = .ok (.iload_n 1, 1) := by decide +kernel
theorem dX9_giveUp_45 : decode cX9_giveUp 45 = .ok (.iconst 1, 1) := by decide +kernel
theorem dX9_giveUp_46 : decode cX9_giveUp 46 = .ok (.invokevirtual 117, 3) := by decide +kernel
theorem dX9_giveUp_49 : decode cX9_giveUp 49 = .ok (.iadd, 1) := by decide +kernel
theorem dX9_giveUp_50 : decode cX9_giveUp 50 = .ok (.istore_n 2, 1) := by decide +kernel
theorem dX9_giveUp_51 : decode cX9_giveUp 51 = .ok (.aload_n 0, 1) := by decide +kernel
theorem dX9_giveUp_52 : decode cX9_giveUp 52 = .ok (.getfield 50, 3) := by decide +kernel
theorem dX9_giveUp_55 : decode cX9_giveUp 55 = .ok (.aload_n 0, 1) := by decide +kernel
theorem dX9_giveUp_56 : decode cX9_giveUp 56 = .ok (.getfield 10, 3) := by decide +kernel
theorem dX9_giveUp_59 : decode cX9_giveUp 59 = .ok (.iload_n 1, 1) := by decide +kernel
theorem dX9_giveUp_60 : decode cX9_giveUp 60 = .ok (.invokevirtual 121, 3) := by decide +kernel
theorem dX9_giveUp_63 : decode cX9_giveUp 63 = .ok (.aload_n 0, 1) := by decide +kernel
theorem dX9_giveUp_64 : decode cX9_giveUp 64 = .ok (.getfield 50, 3) := by decide +kernel
theorem dX9_giveUp_67 : decode cX9_giveUp 67 = .ok (.aload_n 0, 1) := by decide +kernel
theorem dX9_giveUp_68 : decode cX9_giveUp 68 = .ok (.getfield 10, 3) := by decide +kernel
theorem dX9_giveUp_71 : decode cX9_giveUp 71 = .ok (.invokevirtual 125, 3) := by decide +kernel
theorem dX9_giveUp_74 : decode cX9_giveUp 74 = .ok (.ifCond .ne 6, 3) := by decide +kernel
theorem dX9_giveUp_77 : decode cX9_giveUp 77 = .ok (.bipush (-3), 2) := by decide +kernel
theorem dX9_giveUp_79 : decode cX9_giveUp 79 = .ok (.ireturn, 1) := by decide +kernel
theorem dX9_giveUp_80 : decode cX9_giveUp 80 = .ok (.aload_n 0, 1) := by decide +kernel
theorem dX9_giveUp_81 : decode cX9_giveUp 81 = .ok (.getfield 29, 3) := by decide +kernel
theorem dX9_giveUp_84 : decode cX9_giveUp 84 = .ok (.aload_n 0, 1) := by decide +kernel
theorem dX9_giveUp_85 : decode cX9_giveUp 85 = .ok (.getfield 10, 3) := by decide +kernel
theorem dX9_giveUp_88 : decode cX9_giveUp 88 = .ok (.invokevirtual 58, 3) := by decide +kernel
theorem dX9_giveUp_91 : decode cX9_giveUp 91 = .ok (.aload_n 0, 1) := by decide +kernel
theorem dX9_giveUp_92 : decode cX9_giveUp 92 = .ok (.getfield 50, 3) := by decide +kernel
theorem dX9_giveUp_95 : decode cX9_giveUp 95 = .ok (.aload_n 0, 1) := by decide +kernel
theorem dX9_giveUp_96 : decode cX9_giveUp 96 = .ok (.getfield 10, 3) := by decide +kernel
theorem dX9_giveUp_99 : decode cX9_giveUp 99 = .ok (.invokevirtual 129, 3) := by decide +kernel
theorem dX9_giveUp_102 : decode cX9_giveUp 102 = .ok (.aload_n 0, 1) := by decide +kernel
theorem dX9_giveUp_103 : decode cX9_giveUp 103 = .ok (.getfield 10, 3) := by decide +kernel
theorem dX9_giveUp_106 : decode cX9_giveUp 106 = .ok (.getfield 90, 3) := by decide +kernel
theorem dX9_giveUp_109 : decode cX9_giveUp 109 = .ok (.iload_n 1, 1) := by decide +kernel
theorem dX9_giveUp_110 : decode cX9_giveUp 110 = .ok (.aaload, 1) := by decide +kernel
theorem dX9_giveUp_111 : decode cX9_giveUp 111 = .ok (.iconst 4, 1) := by decide +kernel
theorem dX9_giveUp_112 : decode cX9_giveUp 112 = .ok (.invokevirtual 132, 3) := by decide +kernel
theorem dX9_giveUp_115 : decode cX9_giveUp 115 = .ok (.iload_n 2, 1) := by decide +kernel
theorem dX9_giveUp_116 : decode cX9_giveUp 116 = .ok (.ireturn, 1) := by decide +kernel
theorem dX9_pay_0 : decode cX9_pay 0 = .ok (.aload_n 0, 1) := by decide +kernel
theorem dX9_pay_1 : decode cX9_pay 1 = .ok (.getfield 10, 3) := by decide +kernel
theorem dX9_pay_4 : decode cX9_pay 4 = .ok (.iload_n 1, 1) := by decide +kernel
theorem dX9_pay_5 : decode cX9_pay 5 = .ok (.invokevirtual 111, 3) := by decide +kernel
theorem dX9_pay_8 : decode cX9_pay 8 = .ok (.ifCond .ne 5, 3) := by decide +kernel
theorem dX9_pay_11 : decode cX9_pay 11 = .ok (.iconst (-1), 1) := by decide +kernel
theorem dX9_pay_12 : decode cX9_pay 12 = .ok (.ireturn, 1) := by decide +kernel
theorem dX9_pay_13 : decode cX9_pay 13 = .ok (.iload_n 2, 1) := by decide +kernel
theorem dX9_pay_14 : decode cX9_pay 14 = .ok (.invokestatic 135, 3) := by decide +kernel
theorem dX9_pay_17 : decode cX9_pay 17 = .ok (.ifCond .ne 6, 3) := by decide +kernel
theorem dX9_pay_20 : decode cX9_pay 20 = .ok (.bipush (-2), 2) := by decide +kernel
theorem dX9_pay_22 : decode cX9_pay 22 = .ok (.ireturn, 1) := by decide +kernel
theorem dX9_pay_23 : decode cX9_pay 23 = .ok (.aload_n 0, 1) := by decide +kernel
theorem dX9_pay_24 : decode cX9_pay 24 = .ok (.getfield 43, 3) := by decide +kernel
theorem dX9_pay_27 : decode cX9_pay 27 = .ok (.aload_n 0, 1) := by decide +kernel
theorem dX9_pay_28 : decode cX9_pay 28 = .ok (.getfield 10, 3) := by decide +kernel
theorem dX9_pay_31 : decode cX9_pay 31 = .ok (.iload_n 1, 1) := by decide +kernel
theorem dX9_pay_32 : decode cX9_pay 32 = .ok (.iload_n 2, 1) := by decide +kernel
theorem dX9_pay_33 : decode cX9_pay 33 = .ok (.invokevirtual 138, 3) := by decide +kernel
theorem dX9_pay_36 : decode cX9_pay 36 = .ok (.ifCond .ne 6, 3) := by decide +kernel
theorem dX9_pay_39 : decode cX9_pay 39 = .ok (.bipush (-4), 2) := by decide +kernel
theorem dX9_pay_41 : decode cX9_pay 41 = .ok (.ireturn, 1) := by decide +kernel
theorem dX9_pay_42 : decode cX9_pay 42 = .ok (.aload_n 0, 1) := by decide +kernel
theorem dX9_pay_43 : decode cX9_pay 43 = .ok (.getfield 50, 3) := by decide +kernel
theorem dX9_pay_46 : decode cX9_pay 46 = .ok (.aload_n 0, 1) := by decide +kernel
theorem dX9_pay_47 : decode cX9_pay 47 = .ok (.getfield 10, 3) := by decide +kernel
theorem dX9_pay_50 : decode cX9_pay 50 = .ok (.iload_n 1, 1) := by decide +kernel
theorem dX9_pay_51 : decode cX9_pay 51 = .ok (.aload_n 0, 1) := by decide +kernel
theorem dX9_pay_52 : decode cX9_pay 52 = .ok (.getfield 43, 3) := by decide +kernel
theorem dX9_pay_55 : decode cX9_pay 55 = .ok (.invokevirtual 142, 3) := by decide +kernel
theorem dX9_pay_58 : decode cX9_pay 58 = .ok (.aload_n 0, 1) := by decide +kernel
theorem dX9_pay_59 : decode cX9_pay 59 = .ok (.getfield 50, 3) := by decide +kernel
theorem dX9_pay_62 : decode cX9_pay 62 = .ok (.aload_n 0, 1) := by decide +kernel
theorem dX9_pay_63 : decode cX9_pay 63 = .ok (.getfield 10, 3) := by decide +kernel
theorem dX9_pay_66 : decode cX9_pay 66 = .ok (.invokevirtual 125, 3) := by decide +kernel
theorem dX9_pay_69 : decode cX9_pay 69 = .ok (.ifCond .ne 6, 3) := by decide +kernel
theorem dX9_pay_72 : decode cX9_pay 72 = .ok (.bipush (-3), 2) := by decide +kernel
theorem dX9_pay_74 : decode cX9_pay 74 = .ok (.ireturn, 1) := by decide +kernel
theorem dX9_pay_75 : decode cX9_pay 75 = .ok (.aload_n 0, 1) := by decide +kernel
theorem dX9_pay_76 : decode cX9_pay 76 = .ok (.getfield 29, 3) := by decide +kernel
theorem dX9_pay_79 : decode cX9_pay 79 = .ok (.aload_n 0, 1) := by decide +kernel
theorem dX9_pay_80 : decode cX9_pay 80 = .ok (.getfield 10, 3) := by decide +kernel
theorem dX9_pay_83 : decode cX9_pay 83 = .ok (.invokevirtual 58, 3) := by decide +kernel
theorem dX9_pay_86 : decode cX9_pay 86 = .ok (.aload_n 0, 1) := by decide +kernel
theorem dX9_pay_87 : decode cX9_pay 87 = .ok (.getfield 50, 3) := by decide +kernel
theorem dX9_pay_90 : decode cX9_pay 90 = .ok (.aload_n 0, 1) := by decide +kernel
theorem dX9_pay_91 : decode cX9_pay 91 = .ok (.getfield 10, 3) := by decide +kernel
theorem dX9_pay_94 : decode cX9_pay 94 = .ok (.invokevirtual 129, 3) := by decide +kernel
theorem dX9_pay_97 : decode cX9_pay 97 = .ok (.aload_n 0, 1) := by decide +kernel
theorem dX9_pay_98 : decode cX9_pay 98 = .ok (.getfield 10, 3) := by decide +kernel
theorem dX9_pay_101 : decode cX9_pay 101 = .ok (.iload_n 1, 1) := by decide +kernel
theorem dX9_pay_102 : decode cX9_pay 102 = .ok (.aload_n 0, 1) := by decide +kernel
theorem dX9_pay_103 : decode cX9_pay 103 = .ok (.getfield 43, 3) := by decide +kernel
theorem dX9_pay_106 : decode cX9_pay 106 = .ok (.invokevirtual 146, 3) := by decide +kernel
theorem dX9_pay_109 : decode cX9_pay 109 = .ok (.aload_n 0, 1) := by decide +kernel
theorem dX9_pay_110 : decode cX9_pay 110 = .ok (.getfield 10, 3) := by decide +kernel
theorem dX9_pay_113 : decode cX9_pay 113 = .ok (.getfield 90, 3) := by decide +kernel
theorem dX9_pay_116 : decode cX9_pay 116 = .ok (.iload_n 1, 1) := by decide +kernel
theorem dX9_pay_117 : decode cX9_pay 117 = .ok (.aaload, 1) := by decide +kernel
theorem dX9_pay_118 : decode cX9_pay 118 = .ok (.getfield 150, 3) := by decide +kernel
theorem dX9_pay_121 : decode cX9_pay 121 = .ok (.ireturn, 1) := by decide +kernel
theorem dX9_cure_0 : decode cX9_cure 0 = .ok (.aload_n 0, 1) := by decide +kernel
theorem dX9_cure_1 : decode cX9_cure 1 = .ok (.getfield 10, 3) := by decide +kernel
theorem dX9_cure_4 : decode cX9_cure 4 = .ok (.iload_n 1, 1) := by decide +kernel
theorem dX9_cure_5 : decode cX9_cure 5 = .ok (.invokevirtual 111, 3) := by decide +kernel
theorem dX9_cure_8 : decode cX9_cure 8 = .ok (.ifCond .ne 5, 3) := by decide +kernel
theorem dX9_cure_11 : decode cX9_cure 11 = .ok (.iconst (-1), 1) := by decide +kernel
theorem dX9_cure_12 : decode cX9_cure 12 = .ok (.ireturn, 1) := by decide +kernel
theorem dX9_cure_13 : decode cX9_cure 13 = .ok (.iload_n 2, 1) := by decide +kernel
theorem dX9_cure_14 : decode cX9_cure 14 = .ok (.invokestatic 84, 3) := by decide +kernel
theorem dX9_cure_17 : decode cX9_cure 17 = .ok (.ifCond .ne 6, 3) := by decide +kernel
theorem dX9_cure_20 : decode cX9_cure 20 = .ok (.bipush (-2), 2) := by decide +kernel
theorem dX9_cure_22 : decode cX9_cure 22 = .ok (.ireturn, 1) := by decide +kernel
theorem dX9_cure_23 : decode cX9_cure 23 = .ok (.aload_n 0, 1) := by decide +kernel
theorem dX9_cure_24 : decode cX9_cure 24 = .ok (.getfield 10, 3) := by decide +kernel
theorem dX9_cure_27 : decode cX9_cure 27 = .ok (.getfield 90, 3) := by decide +kernel
theorem dX9_cure_30 : decode cX9_cure 30 = .ok (.iload_n 1, 1) := by decide +kernel
theorem dX9_cure_31 : decode cX9_cure 31 = .ok (.aaload, 1) := by decide +kernel
theorem dX9_cure_32 : decode cX9_cure 32 = .ok (.astore_n 3, 1) := by decide +kernel
theorem dX9_cure_33 : decode cX9_cure 33 = .ok (.aload_n 3, 1) := by decide +kernel
theorem dX9_cure_34 : decode cX9_cure 34 = .ok (.getfield 114, 3) := by decide +kernel
theorem dX9_cure_37 : decode cX9_cure 37 = .ok (.iconst 1, 1) := by decide +kernel
theorem dX9_cure_38 : decode cX9_cure 38 = .ok (.if_icmp .ne 17, 3) := by decide +kernel
theorem dX9_cure_41 : decode cX9_cure 41 = .ok (.aload_n 3, 1) := by decide +kernel
theorem dX9_cure_42 : decode cX9_cure 42 = .ok (.getfield 153, 3) := by decide +kernel
theorem dX9_cure_45 : decode cX9_cure 45 = .ok (.ifCond .eq 10, 3) := by decide +kernel
theorem dX9_cure_48 : decode cX9_cure 48 = .ok (.aload_n 3, 1) := by decide +kernel
theorem dX9_cure_49 : decode cX9_cure 49 = .ok (.getfield 156, 3) := by decide +kernel
theorem dX9_cure_52 : decode cX9_cure 52 = .ok (.ifCond .le 6, 3) := by decide +kernel
theorem dX9_cure_55 : decode cX9_cure 55 = .ok (.bipush (-4), 2) := by decide +kernel
theorem dX9_cure_57 : decode cX9_cure 57 = .ok (.ireturn, 1) := by decide +kernel
theorem dX9_cure_58 : decode cX9_cure 58 = .ok (.aload_n 0, 1) := by decide +kernel
theorem dX9_cure_59 : decode cX9_cure 59 = .ok (.getfield 29, 3) := by decide +kernel
theorem dX9_cure_62 : decode cX9_cure 62 = .ok (.aload_n 0, 1) := by decide +kernel
theorem dX9_cure_63 : decode cX9_cure 63 = .ok (.getfield 10, 3) := by decide +kernel
theorem dX9_cure_66 : decode cX9_cure 66 = .ok (.invokevirtual 58, 3) := by decide +kernel
theorem dX9_cure_69 : decode cX9_cure 69 = .ok (.aload_n 3, 1) := by decide +kernel
theorem dX9_cure_70 : decode cX9_cure 70 = .ok (.iconst 0, 1) := by decide +kernel
theorem dX9_cure_71 : decode cX9_cure 71 = .ok (.putfield 159, 3) := by decide +kernel
theorem dX9_cure_74 : decode cX9_cure 74 = .ok (.aload_n 3, 1) := by decide +kernel
theorem dX9_cure_75 : decode cX9_cure 75 = .ok (.iconst 0, 1) := by decide +kernel
theorem dX9_cure_76 : decode cX9_cure 76 = .ok (.putfield 153, 3) := by decide +kernel
theorem dX9_cure_79 : decode cX9_cure 79 = .ok (.aload_n 3, 1) := by decide +kernel
theorem dX9_cure_80 : decode cX9_cure 80 = .ok (.aload_n 3, 1) := by decide +kernel
theorem dX9_cure_81 : decode cX9_cure 81 = .ok (.getfield 150, 3) := by decide +kernel
theorem dX9_cure_84 : decode cX9_cure 84 = .ok (.iload_n 2, 1) := by decide +kernel
theorem dX9_cure_85 : decode cX9_cure 85 = .ok (.invokestatic 162, 3) := by decide +kernel
theorem dX9_cure_88 : decode cX9_cure 88 = .ok (.putfield 165, 3) := by decide +kernel
theorem dX9_cure_91 : decode cX9_cure 91 = .ok (.aload_n 3, 1) := by decide +kernel
theorem dX9_cure_92 : decode cX9_cure 92 = .ok (.getfield 165, 3) := by decide +kernel
theorem dX9_cure_95 : decode cX9_cure 95 = .ok (.ireturn, 1) := by decide +kernel
theorem dX9_sell_0 : decode cX9_sell 0 = .ok (.aload_n 0, 1) := by decide +kernel
theorem dX9_sell_1 : decode cX9_sell 1 = .ok (.getfield 10, 3) := by decide +kernel
theorem dX9_sell_4 : decode cX9_sell 4 = .ok (.iload_n 1, 1) := by decide +kernel
theorem dX9_sell_5 : decode cX9_sell 5 = .ok (.invokevirtual 111, 3) := by decide +kernel
theorem dX9_sell_8 : decode cX9_sell 8 = .ok (.ifCond .ne 5, 3) := by decide +kernel
theorem dX9_sell_11 : decode cX9_sell 11 = .ok (.iconst (-1), 1) := by decide +kernel
theorem dX9_sell_12 : decode cX9_sell 12 = .ok (.ireturn, 1) := by decide +kernel
theorem dX9_sell_13 : decode cX9_sell 13 = .ok (.iload_n 2, 1) := by decide +kernel
theorem dX9_sell_14 : decode cX9_sell 14 = .ok (.invokestatic 168, 3) := by decide +kernel
theorem dX9_sell_17 : decode cX9_sell 17 = .ok (.ifCond .ne 6, 3) := by decide +kernel
theorem dX9_sell_20 : decode cX9_sell 20 = .ok (.bipush (-2), 2) := by decide +kernel
theorem dX9_sell_22 : decode cX9_sell 22 = .ok (.ireturn, 1) := by decide +kernel
theorem dX9_sell_23 : decode cX9_sell 23 = .ok (.aload_n 0, 1) := by decide +kernel
theorem dX9_sell_24 : decode cX9_sell 24 = .ok (.getfield 10, 3) := by decide +kernel
theorem dX9_sell_27 : decode cX9_sell 27 = .ok (.iload_n 1, 1) := by decide +kernel
theorem dX9_sell_28 : decode cX9_sell 28 = .ok (.invokevirtual 171, 3) := by decide +kernel
theorem dX9_sell_31 : decode cX9_sell 31 = .ok (.ifCond .eq 19, 3) := by decide +kernel
theorem dX9_sell_34 : decode cX9_sell 34 = .ok (.aload_n 0, 1) := by decide +kernel
theorem dX9_sell_35 : decode cX9_sell 35 = .ok (.getfield 10, 3) := by decide +kernel
theorem dX9_sell_38 : decode cX9_sell 38 = .ok (.getfield 90, 3) := by decide +kernel
theorem dX9_sell_41 : decode cX9_sell 41 = .ok (.iload_n 1, 1) := by decide +kernel
theorem dX9_sell_42 : decode cX9_sell 42 = .ok (.aaload, 1) := by decide +kernel
theorem dX9_sell_43 : decode cX9_sell 43 = .ok (.getfield 153, 3) := by decide +kernel
theorem dX9_sell_46 : decode cX9_sell 46 = .ok (.iconst 3, 1) := by decide +kernel
theorem dX9_sell_47 : decode cX9_sell 47 = .ok (.if_icmp .ge 6, 3) := by decide +kernel
theorem dX9_sell_50 : decode cX9_sell 50 = .ok (.bipush (-4), 2) := by decide +kernel
theorem dX9_sell_52 : decode cX9_sell 52 = .ok (.ireturn, 1) := by decide +kernel
theorem dX9_sell_53 : decode cX9_sell 53 = .ok (.aload_n 0, 1) := by decide +kernel
theorem dX9_sell_54 : decode cX9_sell 54 = .ok (.getfield 50, 3) := by decide +kernel
theorem dX9_sell_57 : decode cX9_sell 57 = .ok (.aload_n 0, 1) := by decide +kernel
theorem dX9_sell_58 : decode cX9_sell 58 = .ok (.getfield 10, 3) := by decide +kernel
theorem dX9_sell_61 : decode cX9_sell 61 = .ok (.iload_n 1, 1) := by decide +kernel
theorem dX9_sell_62 : decode cX9_sell 62 = .ok (.iload_n 2, 1) := by decide +kernel
theorem dX9_sell_63 : decode cX9_sell 63 = .ok (.invokevirtual 174, 3) := by decide +kernel
theorem dX9_sell_66 : decode cX9_sell 66 = .ok (.istore_n 3, 1) := by decide +kernel
theorem dX9_sell_67 : decode cX9_sell 67 = .ok (.aload_n 0, 1) := by decide +kernel
theorem dX9_sell_68 : decode cX9_sell 68 = .ok (.getfield 50, 3) := by decide +kernel
theorem dX9_sell_71 : decode cX9_sell 71 = .ok (.aload_n 0, 1) := by decide +kernel
theorem dX9_sell_72 : decode cX9_sell 72 = .ok (.getfield 10, 3) := by decide +kernel
theorem dX9_sell_75 : decode cX9_sell 75 = .ok (.invokevirtual 125, 3) := by decide +kernel
theorem dX9_sell_78 : decode cX9_sell 78 = .ok (.ifCond .ne 6, 3) := by decide +kernel
theorem dX9_sell_81 : decode cX9_sell 81 = .ok (.bipush (-3), 2) := by decide +kernel
theorem dX9_sell_83 : decode cX9_sell 83 = .ok (.ireturn, 1) := by decide +kernel
theorem dX9_sell_84 : decode cX9_sell 84 = .ok (.aload_n 0, 1) := by decide +kernel
theorem dX9_sell_85 : decode cX9_sell 85 = .ok (.getfield 29, 3) := by decide +kernel
theorem dX9_sell_88 : decode cX9_sell 88 = .ok (.aload_n 0, 1) := by decide +kernel
theorem dX9_sell_89 : decode cX9_sell 89 = .ok (.getfield 10, 3) := by decide +kernel
theorem dX9_sell_92 : decode cX9_sell 92 = .ok (.invokevirtual 58, 3) := by decide +kernel
theorem dX9_sell_95 : decode cX9_sell 95 = .ok (.aload_n 0, 1) := by decide +kernel
theorem dX9_sell_96 : decode cX9_sell 96 = .ok (.getfield 50, 3) := by decide +kernel
theorem dX9_sell_99 : decode cX9_sell 99 = .ok (.aload_n 0, 1) := by decide +kernel
theorem dX9_sell_100 : decode cX9_sell 100 = .ok (.getfield 10, 3) := by decide +kernel
theorem dX9_sell_103 : decode cX9_sell 103 = .ok (.invokevirtual 129, 3) := by decide +kernel
theorem dX9_sell_106 : decode cX9_sell 106 = .ok (.aload_n 0, 1) := by decide +kernel
theorem dX9_sell_107 : decode cX9_sell 107 = .ok (.getfield 10, 3) := by decide +kernel
theorem dX9_sell_110 : decode cX9_sell 110 = .ok (.iload_n 3, 1) := by decide +kernel
theorem dX9_sell_111 : decode cX9_sell 111 = .ok (.putfield 178, 3) := by decide +kernel
theorem dX9_sell_114 : decode cX9_sell 114 = .ok (.aload_n 0, 1) := by decide +kernel
theorem dX9_sell_115 : decode cX9_sell 115 = .ok (.getfield 10, 3) := by decide +kernel
theorem dX9_sell_118 : decode cX9_sell 118 = .ok (.getfield 90, 3) := by decide +kernel
theorem dX9_sell_121 : decode cX9_sell 121 = .ok (.iload_n 1, 1) := by decide +kernel
theorem dX9_sell_122 : decode cX9_sell 122 = .ok (.aaload, 1) := by decide +kernel
theorem dX9_sell_123 : decode cX9_sell 123 = .ok (.iconst 3, 1) := by decide +kernel
theorem dX9_sell_124 : decode cX9_sell 124 = .ok (.invokevirtual 132, 3) := by decide +kernel
theorem dX9_sell_127 : decode cX9_sell 127 = .ok (.aload_n 0, 1) := by decide +kernel
theorem dX9_sell_128 : decode cX9_sell 128 = .ok (.getfield 10, 3) := by decide +kernel
theorem dX9_sell_131 : decode cX9_sell 131 = .ok (.iload_n 1, 1) := by decide +kernel
theorem dX9_sell_132 : decode cX9_sell 132 = .ok (.invokevirtual 181, 3) := by decide +kernel
theorem dX9_sell_135 : decode cX9_sell 135 = .ok (.ireturn, 1) := by decide +kernel
theorem dX9_switchServicer_0 : decode cX9_switchServicer 0 = .ok (.aload_n 0, 1) := by decide +kernel
theorem dX9_switchServicer_1 : decode cX9_switchServicer 1 = .ok (.getfield 10, 3) := by decide +kernel
theorem dX9_switchServicer_4 : decode cX9_switchServicer 4 = .ok (.iload_n 1, 1) := by decide +kernel
theorem dX9_switchServicer_5 : decode cX9_switchServicer 5 = .ok (.invokevirtual 111, 3) := by decide +kernel
theorem dX9_switchServicer_8 : decode cX9_switchServicer 8 = .ok (.ifCond .eq 10, 3) := by decide +kernel
theorem dX9_switchServicer_11 : decode cX9_switchServicer 11 = .ok (.iload_n 2, 1) := by decide +kernel
theorem dX9_switchServicer_12 : decode cX9_switchServicer 12 = .ok (.invokestatic 184, 3) := by decide +kernel
theorem dX9_switchServicer_15 : decode cX9_switchServicer 15 = .ok (.ifCond .ne 5, 3) := by decide +kernel
theorem dX9_switchServicer_18 : decode cX9_switchServicer 18 = .ok (.iconst (-1), 1) := by decide +kernel
theorem dX9_switchServicer_19 : decode cX9_switchServicer 19 = .ok (.ireturn, 1) := by decide +kernel
theorem dX9_switchServicer_20 : decode cX9_switchServicer 20 = .ok (.aload_n 0, 1) := by decide +kernel
theorem dX9_switchServicer_21 : decode cX9_switchServicer 21 = .ok (.getfield 10, 3) := by decide +kernel
theorem dX9_switchServicer_24 : decode cX9_switchServicer 24 = .ok (.iload_n 1, 1) := by decide +kernel
theorem dX9_switchServicer_25 : decode cX9_switchServicer 25 = .ok (.invokevirtual 171, 3) := by decide +kernel
theorem dX9_switchServicer_28 : decode cX9_switchServicer 28 = .ok (.ifCond .ne 6, 3) := by decide +kernel
theorem dX9_switchServicer_31 : decode cX9_switchServicer 31 = .ok (.bipush (-4), 2) := by decide +kernel
theorem dX9_switchServicer_33 : decode cX9_switchServicer 33 = .ok (.ireturn, 1) := by decide +kernel
theorem dX9_switchServicer_34 : decode cX9_switchServicer 34 = .ok (.aload_n 0, 1) := by decide +kernel
theorem dX9_switchServicer_35 : decode cX9_switchServicer 35 = .ok (.getfield 10, 3) := by decide +kernel
theorem dX9_switchServicer_38 : decode cX9_switchServicer 38 = .ok (.getfield 90, 3) := by decide +kernel
theorem dX9_switchServicer_41 : decode cX9_switchServicer 41 = .ok (.iload_n 1, 1) := by decide +kernel
theorem dX9_switchServicer_42 : decode cX9_switchServicer 42 = .ok (.aaload, 1) := by decide +kernel
theorem dX9_switchServicer_43 : decode cX9_switchServicer 43 = .ok (.astore_n 3, 1) := by decide +kernel
theorem dX9_switchServicer_44 : decode cX9_switchServicer 44 = .ok (.aload_n 3, 1) := by decide +kernel
theorem dX9_switchServicer_45 : decode cX9_switchServicer 45 = .ok (.getfield 187, 3) := by decide +kernel
theorem dX9_switchServicer_48 : decode cX9_switchServicer 48 = .ok (.bipush (-5), 2) := by decide +kernel
theorem dX9_switchServicer_50 : decode cX9_switchServicer 50 = .ok (.if_icmp .ne 10, 3) := by decide +kernel
theorem dX9_switchServicer_53 : decode cX9_switchServicer 53 = .ok (.aload_n 3, 1) := by decide +kernel
theorem dX9_switchServicer_54 : decode cX9_switchServicer 54 = .ok (.getfield 190, 3) := by decide +kernel
theorem dX9_switchServicer_57 : decode cX9_switchServicer 57 = .ok (.goto 7, 3) := by decide +kernel
theorem dX9_switchServicer_60 : decode cX9_switchServicer 60 = .ok (.aload_n 3, 1) := by decide +kernel
theorem dX9_switchServicer_61 : decode cX9_switchServicer 61 = .ok (.getfield 187, 3) := by decide +kernel
theorem dX9_switchServicer_64 : decode cX9_switchServicer 64 = .ok (.istore 4, 2) := by decide +kernel
theorem dX9_switchServicer_66 : decode cX9_switchServicer 66 = .ok (.iload_n 2, 1) := by decide +kernel
theorem dX9_switchServicer_67 : decode cX9_switchServicer 67 = .ok (.iload 4, 2) := by decide +kernel
theorem dX9_switchServicer_69 : decode cX9_switchServicer 69 = .ok (.if_icmp .ne 6, 3) := by decide +kernel
theorem dX9_switchServicer_72 : decode cX9_switchServicer 72 = .ok (.bipush (-5), 2) := by decide +kernel
theorem dX9_switchServicer_74 : decode cX9_switchServicer 74 = .ok (.ireturn, 1) := by decide +kernel
theorem dX9_switchServicer_75 : decode cX9_switchServicer 75 = .ok (.aload_n 0, 1) := by decide +kernel
theorem dX9_switchServicer_76 : decode cX9_switchServicer 76 = .ok (.getfield 29, 3) := by decide +kernel
theorem dX9_switchServicer_79 : decode cX9_switchServicer 79 = .ok (.aload_n 0, 1) := by decide +kernel
theorem dX9_switchServicer_80 : decode cX9_switchServicer 80 = .ok (.getfield 10, 3) := by decide +kernel
theorem dX9_switchServicer_83 : decode cX9_switchServicer 83 = .ok (.invokevirtual 58, 3) := by decide +kernel
theorem dX9_switchServicer_86 : decode cX9_switchServicer 86 = .ok (.aload_n 3, 1) := by decide +kernel
theorem dX9_switchServicer_87 : decode cX9_switchServicer 87 = .ok (.iload_n 2, 1) := by decide +kernel
theorem dX9_switchServicer_88 : decode cX9_switchServicer 88 = .ok (.putfield 187, 3) := by decide +kernel
theorem dX9_switchServicer_91 : decode cX9_switchServicer 91 = .ok (.aload_n 3, 1) := by decide +kernel
theorem dX9_switchServicer_92 : decode cX9_switchServicer 92 = .ok (.getfield 190, 3) := by decide +kernel
theorem dX9_switchServicer_95 : decode cX9_switchServicer 95 = .ok (.ireturn, 1) := by decide +kernel
theorem dX9_sellNote_0 : decode cX9_sellNote 0 = .ok (.aload_n 0, 1) := by decide +kernel
theorem dX9_sellNote_1 : decode cX9_sellNote 1 = .ok (.getfield 10, 3) := by decide +kernel
theorem dX9_sellNote_4 : decode cX9_sellNote 4 = .ok (.iload_n 1, 1) := by decide +kernel
theorem dX9_sellNote_5 : decode cX9_sellNote 5 = .ok (.invokevirtual 193, 3) := by decide +kernel
theorem dX9_sellNote_8 : decode cX9_sellNote 8 = .ok (.ifCond .eq 14, 3) := by decide +kernel
theorem dX9_sellNote_11 : decode cX9_sellNote 11 = .ok (.aload_n 0, 1) := by decide +kernel
theorem dX9_sellNote_12 : decode cX9_sellNote 12 = .ok (.getfield 10, 3) := by decide +kernel
theorem dX9_sellNote_15 : decode cX9_sellNote 15 = .ok (.iload_n 2, 1) := by decide +kernel
theorem dX9_sellNote_16 : decode cX9_sellNote 16 = .ok (.invokevirtual 72, 3) := by decide +kernel
theorem dX9_sellNote_19 : decode cX9_sellNote 19 = .ok (.ifCond .ne 5, 3) := by decide +kernel
theorem dX9_sellNote_22 : decode cX9_sellNote 22 = .ok (.iconst (-1), 1) := by decide +kernel
theorem dX9_sellNote_23 : decode cX9_sellNote 23 = .ok (.ireturn, 1) := by decide +kernel
theorem dX9_sellNote_24 : decode cX9_sellNote 24 = .ok (.aload_n 0, 1) := by decide +kernel
theorem dX9_sellNote_25 : decode cX9_sellNote 25 = .ok (.getfield 10, 3) := by decide +kernel
theorem dX9_sellNote_28 : decode cX9_sellNote 28 = .ok (.getfield 196, 3) := by decide +kernel
theorem dX9_sellNote_31 : decode cX9_sellNote 31 = .ok (.iload_n 1, 1) := by decide +kernel
theorem dX9_sellNote_32 : decode cX9_sellNote 32 = .ok (.aaload, 1) := by decide +kernel
theorem dX9_sellNote_33 : decode cX9_sellNote 33 = .ok (.astore 4, 2) := by decide +kernel
theorem dX9_sellNote_35 : decode cX9_sellNote 35 = .ok (.aload 4, 2) := by decide +kernel
theorem dX9_sellNote_37 : decode cX9_sellNote 37 = .ok (.getfield 200, 3) := by decide +kernel
theorem dX9_sellNote_40 : decode cX9_sellNote 40 = .ok (.istore 5, 2) := by decide +kernel
theorem dX9_sellNote_42 : decode cX9_sellNote 42 = .ok (.iload_n 3, 1) := by decide +kernel
theorem dX9_sellNote_43 : decode cX9_sellNote 43 = .ok (.invokestatic 168, 3) := by decide +kernel
theorem dX9_sellNote_46 : decode cX9_sellNote 46 = .ok (.ifCond .eq 9, 3) := by decide +kernel
theorem dX9_sellNote_49 : decode cX9_sellNote 49 = .ok (.iload 5, 2) := by decide +kernel
theorem dX9_sellNote_51 : decode cX9_sellNote 51 = .ok (.iload_n 2, 1) := by decide +kernel
theorem dX9_sellNote_52 : decode cX9_sellNote 52 = .ok (.if_icmp .ne 6, 3) := by decide +kernel
theorem dX9_sellNote_55 : decode cX9_sellNote 55 = .ok (.bipush (-2), 2) := by decide +kernel
theorem dX9_sellNote_57 : decode cX9_sellNote 57 = .ok (.ireturn, 1) := by decide +kernel
theorem dX9_sellNote_58 : decode cX9_sellNote 58 = .ok (.aload_n 0, 1) := by decide +kernel
theorem dX9_sellNote_59 : decode cX9_sellNote 59 = .ok (.getfield 10, 3) := by decide +kernel
theorem dX9_sellNote_62 : decode cX9_sellNote 62 = .ok (.aload 4, 2) := by decide +kernel
theorem dX9_sellNote_64 : decode cX9_sellNote 64 = .ok (.getfield 205, 3) := by decide +kernel
theorem dX9_sellNote_67 : decode cX9_sellNote 67 = .ok (.invokevirtual 171, 3) := by decide +kernel
theorem dX9_sellNote_70 : decode cX9_sellNote 70 = .ok (.ifCond .eq 15, 3) := by decide +kernel
theorem dX9_sellNote_73 : decode cX9_sellNote 73 = .ok (.aload_n 0, 1) := by decide +kernel
theorem dX9_sellNote_74 : decode cX9_sellNote 74 = .ok (.getfield 10, 3) := by decide +kernel
theorem dX9_sellNote_77 : decode cX9_sellNote 77 = .ok (.iload_n 2, 1) := by decide +kernel
theorem dX9_sellNote_78 : decode cX9_sellNote 78 = .ok (.invokevirtual 208, 3) := by decide +kernel
theorem dX9_sellNote_81 : decode cX9_sellNote 81 = .ok (.iload_n 3, 1) := by decide +kernel
theorem dX9_sellNote_82 : decode cX9_sellNote 82 = .ok (.if_icmp .ge 6, 3) := by decide +kernel
theorem dX9_sellNote_85 : decode cX9_sellNote 85 = .ok (.bipush (-4), 2) := by decide +kernel
theorem dX9_sellNote_87 : decode cX9_sellNote 87 = .ok (.ireturn, 1) := by decide +kernel
theorem dX9_sellNote_88 : decode cX9_sellNote 88 = .ok (.iload_n 3, 1) := by decide +kernel
theorem dX9_sellNote_89 : decode cX9_sellNote 89 = .ok (.ldc 76, 2) := by decide +kernel
theorem dX9_sellNote_91 : decode cX9_sellNote 91 = .ok (.aload_n 0, 1) := by decide +kernel
theorem dX9_sellNote_92 : decode cX9_sellNote 92 = .ok (.getfield 10, 3) := by decide +kernel
theorem dX9_sellNote_95 : decode cX9_sellNote 95 = .ok (.iload 5, 2) := by decide +kernel
theorem dX9_sellNote_97 : decode cX9_sellNote 97 = .ok (.invokevirtual 208, 3) := by decide +kernel
theorem dX9_sellNote_100 : decode cX9_sellNote 100 = .ok (.isub, 1) := by decide +kernel
theorem dX9_sellNote_101 : decode cX9_sellNote 101 = .ok (.if_icmp .le 6, 3) := by decide +kernel
theorem dX9_sellNote_104 : decode cX9_sellNote 104 = .ok (.bipush (-3), 2) := by decide +kernel
theorem dX9_sellNote_106 : decode cX9_sellNote 106 = .ok (.ireturn, 1) := by decide +kernel
theorem dX9_sellNote_107 : decode cX9_sellNote 107 = .ok (.aload_n 0, 1) := by decide +kernel
theorem dX9_sellNote_108 : decode cX9_sellNote 108 = .ok (.getfield 29, 3) := by decide +kernel
theorem dX9_sellNote_111 : decode cX9_sellNote 111 = .ok (.aload_n 0, 1) := by decide +kernel
theorem dX9_sellNote_112 : decode cX9_sellNote 112 = .ok (.getfield 10, 3) := by decide +kernel
theorem dX9_sellNote_115 : decode cX9_sellNote 115 = .ok (.invokevirtual 58, 3) := by decide +kernel
theorem dX9_sellNote_118 : decode cX9_sellNote 118 = .ok (.aload_n 0, 1) := by decide +kernel
theorem dX9_sellNote_119 : decode cX9_sellNote 119 = .ok (.getfield 10, 3) := by decide +kernel
theorem dX9_sellNote_122 : decode cX9_sellNote 122 = .ok (.iload_n 2, 1) := by decide +kernel
theorem dX9_sellNote_123 : decode cX9_sellNote 123 = .ok (.iload_n 3, 1) := by decide +kernel
theorem dX9_sellNote_124 : decode cX9_sellNote 124 = .ok (.ineg, 1) := by decide +kernel
theorem dX9_sellNote_125 : decode cX9_sellNote 125 = .ok (.invokevirtual 211, 3) := by decide +kernel
theorem dX9_sellNote_128 : decode cX9_sellNote 128 = .ok (.aload_n 0, 1) := by decide +kernel
theorem dX9_sellNote_129 : decode cX9_sellNote 129 = .ok (.getfield 10, 3) := by decide +kernel
theorem dX9_sellNote_132 : decode cX9_sellNote 132 = .ok (.iload 5, 2) := by decide +kernel
theorem dX9_sellNote_134 : decode cX9_sellNote 134 = .ok (.iload_n 3, 1) := by decide +kernel
theorem dX9_sellNote_135 : decode cX9_sellNote 135 = .ok (.invokevirtual 211, 3) := by decide +kernel
theorem dX9_sellNote_138 : decode cX9_sellNote 138 = .ok (.aload 4, 2) := by decide +kernel
theorem dX9_sellNote_140 : decode cX9_sellNote 140 = .ok (.iload_n 2, 1) := by decide +kernel
theorem dX9_sellNote_141 : decode cX9_sellNote 141 = .ok (.putfield 200, 3) := by decide +kernel
theorem dX9_sellNote_144 : decode cX9_sellNote 144 = .ok (.aload 4, 2) := by decide +kernel
theorem dX9_sellNote_146 : decode cX9_sellNote 146 = .ok (.getfield 215, 3) := by decide +kernel
theorem dX9_sellNote_149 : decode cX9_sellNote 149 = .ok (.ireturn, 1) := by decide +kernel
theorem dX9_pass_0 : decode cX9_pass 0 = .ok (.iload_n 1, 1) := by decide +kernel
theorem dX9_pass_1 : decode cX9_pass 1 = .ok (.iconst 1, 1) := by decide +kernel
theorem dX9_pass_2 : decode cX9_pass 2 = .ok (.if_icmp .lt 9, 3) := by decide +kernel
theorem dX9_pass_5 : decode cX9_pass 5 = .ok (.iload_n 1, 1) := by decide +kernel
theorem dX9_pass_6 : decode cX9_pass 6 = .ok (.bipush 24, 2) := by decide +kernel
theorem dX9_pass_8 : decode cX9_pass 8 = .ok (.if_icmp .le 6, 3) := by decide +kernel
theorem dX9_pass_11 : decode cX9_pass 11 = .ok (.bipush (-2), 2) := by decide +kernel
theorem dX9_pass_13 : decode cX9_pass 13 = .ok (.ireturn, 1) := by decide +kernel
theorem dX9_pass_14 : decode cX9_pass 14 = .ok (.iload_n 1, 1) := by decide +kernel
theorem dX9_pass_15 : decode cX9_pass 15 = .ok (.sipush 240, 3) := by decide +kernel
theorem dX9_pass_18 : decode cX9_pass 18 = .ok (.aload_n 0, 1) := by decide +kernel
theorem dX9_pass_19 : decode cX9_pass 19 = .ok (.getfield 10, 3) := by decide +kernel
theorem dX9_pass_22 : decode cX9_pass 22 = .ok (.getfield 216, 3) := by decide +kernel
theorem dX9_pass_25 : decode cX9_pass 25 = .ok (.isub, 1) := by decide +kernel
theorem dX9_pass_26 : decode cX9_pass 26 = .ok (.if_icmp .le 6, 3) := by decide +kernel
theorem dX9_pass_29 : decode cX9_pass 29 = .ok (.bipush (-4), 2) := by decide +kernel
theorem dX9_pass_31 : decode cX9_pass 31 = .ok (.ireturn, 1) := by decide +kernel
theorem dX9_pass_32 : decode cX9_pass 32 = .ok (.aload_n 0, 1) := by decide +kernel
theorem dX9_pass_33 : decode cX9_pass 33 = .ok (.getfield 29, 3) := by decide +kernel
theorem dX9_pass_36 : decode cX9_pass 36 = .ok (.aload_n 0, 1) := by decide +kernel
theorem dX9_pass_37 : decode cX9_pass 37 = .ok (.getfield 10, 3) := by decide +kernel
theorem dX9_pass_40 : decode cX9_pass 40 = .ok (.invokevirtual 58, 3) := by decide +kernel
theorem dX9_pass_43 : decode cX9_pass 43 = .ok (.iconst 0, 1) := by decide +kernel
theorem dX9_pass_44 : decode cX9_pass 44 = .ok (.istore_n 2, 1) := by decide +kernel
theorem dX9_pass_45 : decode cX9_pass 45 = .ok (.iload_n 2, 1) := by decide +kernel
theorem dX9_pass_46 : decode cX9_pass 46 = .ok (.iload_n 1, 1) := by decide +kernel
theorem dX9_pass_47 : decode cX9_pass 47 = .ok (.if_icmp .ge 16, 3) := by decide +kernel
theorem dX9_pass_50 : decode cX9_pass 50 = .ok (.aload_n 0, 1) := by decide +kernel
theorem dX9_pass_51 : decode cX9_pass 51 = .ok (.getfield 10, 3) := by decide +kernel
theorem dX9_pass_54 : decode cX9_pass 54 = .ok (.invokevirtual 219, 3) := by decide +kernel
theorem dX9_pass_57 : decode cX9_pass 57 = .ok (.iinc 2 1, 3) := by decide +kernel
theorem dX9_pass_60 : decode cX9_pass 60 = .ok (.goto (-15), 3) := by decide +kernel
theorem dX9_pass_63 : decode cX9_pass 63 = .ok (.aload_n 0, 1) := by decide +kernel
theorem dX9_pass_64 : decode cX9_pass 64 = .ok (.getfield 10, 3) := by decide +kernel
theorem dX9_pass_67 : decode cX9_pass 67 = .ok (.invokevirtual 222, 3) := by decide +kernel
theorem dX9_pass_70 : decode cX9_pass 70 = .ok (.ireturn, 1) := by decide +kernel
theorem dX9_investor_0 : decode cX9_investor 0 = .ok (.aload_n 0, 1) := by decide +kernel
theorem dX9_investor_1 : decode cX9_investor 1 = .ok (.getfield 10, 3) := by decide +kernel
theorem dX9_investor_4 : decode cX9_investor 4 = .ok (.iload_n 1, 1) := by decide +kernel
theorem dX9_investor_5 : decode cX9_investor 5 = .ok (.invokevirtual 72, 3) := by decide +kernel
theorem dX9_investor_8 : decode cX9_investor 8 = .ok (.ifCond .ne 5, 3) := by decide +kernel
theorem dX9_investor_11 : decode cX9_investor 11 = .ok (.iconst (-1), 1) := by decide +kernel
theorem dX9_investor_12 : decode cX9_investor 12 = .ok (.ireturn, 1) := by decide +kernel
theorem dX9_investor_13 : decode cX9_investor 13 = .ok (.aload_n 0, 1) := by decide +kernel
theorem dX9_investor_14 : decode cX9_investor 14 = .ok (.getfield 10, 3) := by decide +kernel
theorem dX9_investor_17 : decode cX9_investor 17 = .ok (.getfield 62, 3) := by decide +kernel
theorem dX9_investor_20 : decode cX9_investor 20 = .ok (.iload_n 1, 1) := by decide +kernel
theorem dX9_investor_21 : decode cX9_investor 21 = .ok (.aaload, 1) := by decide +kernel
theorem dX9_investor_22 : decode cX9_investor 22 = .ok (.astore_n 3, 1) := by decide +kernel
theorem dX9_investor_23 : decode cX9_investor 23 = .ok (.iload_n 2, 1) := by decide +kernel
theorem dX9_investor_24 : decode cX9_investor 24 = .ok (.tableswitch 82 0 5 #[40, 45, 54, 63, 72, 77], 40) := by decide +kernel
theorem dX9_investor_64 : decode cX9_investor 64 = .ok (.aload_n 3, 1) := by decide +kernel
theorem dX9_investor_65 : decode cX9_investor 65 = .ok (.getfield 77, 3) := by decide +kernel
theorem dX9_investor_68 : decode cX9_investor 68 = .ok (.ireturn, 1) := by decide +kernel
theorem dX9_investor_69 : decode cX9_investor 69 = .ok (.aload_n 0, 1) := by decide +kernel
theorem dX9_investor_70 : decode cX9_investor 70 = .ok (.getfield 10, 3) := by decide +kernel
theorem dX9_investor_73 : decode cX9_investor 73 = .ok (.iload_n 1, 1) := by decide +kernel
theorem dX9_investor_74 : decode cX9_investor 74 = .ok (.invokevirtual 265, 3) := by decide +kernel
theorem dX9_investor_77 : decode cX9_investor 77 = .ok (.ireturn, 1) := by decide +kernel
theorem dX9_investor_78 : decode cX9_investor 78 = .ok (.aload_n 0, 1) := by decide +kernel
theorem dX9_investor_79 : decode cX9_investor 79 = .ok (.getfield 10, 3) := by decide +kernel
theorem dX9_investor_82 : decode cX9_investor 82 = .ok (.iload_n 1, 1) := by decide +kernel
theorem dX9_investor_83 : decode cX9_investor 83 = .ok (.invokevirtual 268, 3) := by decide +kernel
theorem dX9_investor_86 : decode cX9_investor 86 = .ok (.ireturn, 1) := by decide +kernel
theorem dX9_investor_87 : decode cX9_investor 87 = .ok (.aload_n 0, 1) := by decide +kernel
theorem dX9_investor_88 : decode cX9_investor 88 = .ok (.getfield 10, 3) := by decide +kernel
theorem dX9_investor_91 : decode cX9_investor 91 = .ok (.iload_n 1, 1) := by decide +kernel
theorem dX9_investor_92 : decode cX9_investor 92 = .ok (.invokevirtual 271, 3) := by decide +kernel
theorem dX9_investor_95 : decode cX9_investor 95 = .ok (.ireturn, 1) := by decide +kernel
theorem dX9_investor_96 : decode cX9_investor 96 = .ok (.aload_n 3, 1) := by decide +kernel
theorem dX9_investor_97 : decode cX9_investor 97 = .ok (.getfield 274, 3) := by decide +kernel
theorem dX9_investor_100 : decode cX9_investor 100 = .ok (.ireturn, 1) := by decide +kernel
theorem dX9_investor_101 : decode cX9_investor 101 = .ok (.aload_n 3, 1) := by decide +kernel
theorem dX9_investor_102 : decode cX9_investor 102 = .ok (.getfield 277, 3) := by decide +kernel
theorem dX9_investor_105 : decode cX9_investor 105 = .ok (.ireturn, 1) := by decide +kernel
theorem dX9_investor_106 : decode cX9_investor 106 = .ok (.bipush (-2), 2) := by decide +kernel
theorem dX9_investor_108 : decode cX9_investor 108 = .ok (.ireturn, 1) := by decide +kernel
theorem dX9_loan_0 : decode cX9_loan 0 = .ok (.aload_n 0, 1) := by decide +kernel
theorem dX9_loan_1 : decode cX9_loan 1 = .ok (.getfield 10, 3) := by decide +kernel
theorem dX9_loan_4 : decode cX9_loan 4 = .ok (.iload_n 1, 1) := by decide +kernel
theorem dX9_loan_5 : decode cX9_loan 5 = .ok (.invokevirtual 111, 3) := by decide +kernel
theorem dX9_loan_8 : decode cX9_loan 8 = .ok (.ifCond .ne 5, 3) := by decide +kernel
theorem dX9_loan_11 : decode cX9_loan 11 = .ok (.iconst (-1), 1) := by decide +kernel
theorem dX9_loan_12 : decode cX9_loan 12 = .ok (.ireturn, 1) := by decide +kernel
theorem dX9_loan_13 : decode cX9_loan 13 = .ok (.aload_n 0, 1) := by decide +kernel
theorem dX9_loan_14 : decode cX9_loan 14 = .ok (.getfield 10, 3) := by decide +kernel
theorem dX9_loan_17 : decode cX9_loan 17 = .ok (.getfield 90, 3) := by decide +kernel
theorem dX9_loan_20 : decode cX9_loan 20 = .ok (.iload_n 1, 1) := by decide +kernel
theorem dX9_loan_21 : decode cX9_loan 21 = .ok (.aaload, 1) := by decide +kernel
theorem dX9_loan_22 : decode cX9_loan 22 = .ok (.astore_n 3, 1) := by decide +kernel
theorem dX9_loan_23 : decode cX9_loan 23 = .ok (.iload_n 2, 1) := by decide +kernel
theorem dX9_loan_24 : decode cX9_loan 24 = .ok (.tableswitch 151 0 12 #[68, 73, 78, 83, 88, 93, 98, 103, 108, 113, 122, 131, 141], 68) := by decide +kernel
theorem dX9_loan_92 : decode cX9_loan 92 = .ok (.aload_n 3, 1) := by decide +kernel
theorem dX9_loan_93 : decode cX9_loan 93 = .ok (.getfield 114, 3) := by decide +kernel
theorem dX9_loan_96 : decode cX9_loan 96 = .ok (.ireturn, 1) := by decide +kernel
theorem dX9_loan_97 : decode cX9_loan 97 = .ok (.aload_n 3, 1) := by decide +kernel
theorem dX9_loan_98 : decode cX9_loan 98 = .ok (.getfield 280, 3) := by decide +kernel
theorem dX9_loan_101 : decode cX9_loan 101 = .ok (.ireturn, 1) := by decide +kernel
theorem dX9_loan_102 : decode cX9_loan 102 = .ok (.aload_n 3, 1) := by decide +kernel
theorem dX9_loan_103 : decode cX9_loan 103 = .ok (.getfield 150, 3) := by decide +kernel
theorem dX9_loan_106 : decode cX9_loan 106 = .ok (.ireturn, 1) := by decide +kernel
theorem dX9_loan_107 : decode cX9_loan 107 = .ok (.aload_n 3, 1) := by decide +kernel
theorem dX9_loan_108 : decode cX9_loan 108 = .ok (.getfield 165, 3) := by decide +kernel
theorem dX9_loan_111 : decode cX9_loan 111 = .ok (.ireturn, 1) := by decide +kernel
theorem dX9_loan_112 : decode cX9_loan 112 = .ok (.aload_n 3, 1) := by decide +kernel
theorem dX9_loan_113 : decode cX9_loan 113 = .ok (.getfield 156, 3) := by decide +kernel
theorem dX9_loan_116 : decode cX9_loan 116 = .ok (.ireturn, 1) := by decide +kernel
theorem dX9_loan_117 : decode cX9_loan 117 = .ok (.aload_n 3, 1) := by decide +kernel
theorem dX9_loan_118 : decode cX9_loan 118 = .ok (.getfield 159, 3) := by decide +kernel
theorem dX9_loan_121 : decode cX9_loan 121 = .ok (.ireturn, 1) := by decide +kernel
theorem dX9_loan_122 : decode cX9_loan 122 = .ok (.aload_n 3, 1) := by decide +kernel
theorem dX9_loan_123 : decode cX9_loan 123 = .ok (.getfield 153, 3) := by decide +kernel
theorem dX9_loan_126 : decode cX9_loan 126 = .ok (.ireturn, 1) := by decide +kernel
theorem dX9_loan_127 : decode cX9_loan 127 = .ok (.aload_n 3, 1) := by decide +kernel
theorem dX9_loan_128 : decode cX9_loan 128 = .ok (.getfield 190, 3) := by decide +kernel
theorem dX9_loan_131 : decode cX9_loan 131 = .ok (.ireturn, 1) := by decide +kernel
theorem dX9_loan_132 : decode cX9_loan 132 = .ok (.aload_n 3, 1) := by decide +kernel
theorem dX9_loan_133 : decode cX9_loan 133 = .ok (.getfield 187, 3) := by decide +kernel
theorem dX9_loan_136 : decode cX9_loan 136 = .ok (.ireturn, 1) := by decide +kernel
theorem dX9_loan_137 : decode cX9_loan 137 = .ok (.aload_n 0, 1) := by decide +kernel
theorem dX9_loan_138 : decode cX9_loan 138 = .ok (.getfield 10, 3) := by decide +kernel
theorem dX9_loan_141 : decode cX9_loan 141 = .ok (.iload_n 1, 1) := by decide +kernel
theorem dX9_loan_142 : decode cX9_loan 142 = .ok (.invokevirtual 107, 3) := by decide +kernel
theorem dX9_loan_145 : decode cX9_loan 145 = .ok (.ireturn, 1) := by decide +kernel
theorem dX9_loan_146 : decode cX9_loan 146 = .ok (.aload_n 0, 1) := by decide +kernel
theorem dX9_loan_147 : decode cX9_loan 147 = .ok (.getfield 10, 3) := by decide +kernel
theorem dX9_loan_150 : decode cX9_loan 150 = .ok (.iload_n 1, 1) := by decide +kernel
theorem dX9_loan_151 : decode cX9_loan 151 = .ok (.invokevirtual 283, 3) := by decide +kernel
theorem dX9_loan_154 : decode cX9_loan 154 = .ok (.ireturn, 1) := by decide +kernel
theorem dX9_loan_155 : decode cX9_loan 155 = .ok (.aload_n 0, 1) := by decide +kernel
theorem dX9_loan_156 : decode cX9_loan 156 = .ok (.getfield 10, 3) := by decide +kernel
theorem dX9_loan_159 : decode cX9_loan 159 = .ok (.iload_n 1, 1) := by decide +kernel
theorem dX9_loan_160 : decode cX9_loan 160 = .ok (.iconst 0, 1) := by decide +kernel
theorem dX9_loan_161 : decode cX9_loan 161 = .ok (.invokevirtual 117, 3) := by decide +kernel
theorem dX9_loan_164 : decode cX9_loan 164 = .ok (.ireturn, 1) := by decide +kernel
theorem dX9_loan_165 : decode cX9_loan 165 = .ok (.aload_n 0, 1) := by decide +kernel
theorem dX9_loan_166 : decode cX9_loan 166 = .ok (.getfield 10, 3) := by decide +kernel
theorem dX9_loan_169 : decode cX9_loan 169 = .ok (.iload_n 1, 1) := by decide +kernel
theorem dX9_loan_170 : decode cX9_loan 170 = .ok (.iconst 1, 1) := by decide +kernel
theorem dX9_loan_171 : decode cX9_loan 171 = .ok (.invokevirtual 117, 3) := by decide +kernel
theorem dX9_loan_174 : decode cX9_loan 174 = .ok (.ireturn, 1) := by decide +kernel
theorem dX9_loan_175 : decode cX9_loan 175 = .ok (.bipush (-2), 2) := by decide +kernel
theorem dX9_loan_177 : decode cX9_loan 177 = .ok (.ireturn, 1) := by decide +kernel
theorem dX9_note_0 : decode cX9_note 0 = .ok (.aload_n 0, 1) := by decide +kernel
theorem dX9_note_1 : decode cX9_note 1 = .ok (.getfield 10, 3) := by decide +kernel
theorem dX9_note_4 : decode cX9_note 4 = .ok (.iload_n 1, 1) := by decide +kernel
theorem dX9_note_5 : decode cX9_note 5 = .ok (.invokevirtual 193, 3) := by decide +kernel
theorem dX9_note_8 : decode cX9_note 8 = .ok (.ifCond .ne 5, 3) := by decide +kernel
theorem dX9_note_11 : decode cX9_note 11 = .ok (.iconst (-1), 1) := by decide +kernel
theorem dX9_note_12 : decode cX9_note 12 = .ok (.ireturn, 1) := by decide +kernel
theorem dX9_note_13 : decode cX9_note 13 = .ok (.aload_n 0, 1) := by decide +kernel
theorem dX9_note_14 : decode cX9_note 14 = .ok (.getfield 10, 3) := by decide +kernel
theorem dX9_note_17 : decode cX9_note 17 = .ok (.getfield 196, 3) := by decide +kernel
theorem dX9_note_20 : decode cX9_note 20 = .ok (.iload_n 1, 1) := by decide +kernel
theorem dX9_note_21 : decode cX9_note 21 = .ok (.aaload, 1) := by decide +kernel
theorem dX9_note_22 : decode cX9_note 22 = .ok (.astore_n 3, 1) := by decide +kernel
theorem dX9_note_23 : decode cX9_note 23 = .ok (.iload_n 2, 1) := by decide +kernel
theorem dX9_note_24 : decode cX9_note 24 = .ok (.tableswitch 79 0 6 #[44, 49, 54, 59, 64, 69, 74], 44) := by decide +kernel
theorem dX9_note_68 : decode cX9_note 68 = .ok (.aload_n 3, 1) := by decide +kernel
theorem dX9_note_69 : decode cX9_note 69 = .ok (.getfield 200, 3) := by decide +kernel
theorem dX9_note_72 : decode cX9_note 72 = .ok (.ireturn, 1) := by decide +kernel
theorem dX9_note_73 : decode cX9_note 73 = .ok (.aload_n 3, 1) := by decide +kernel
theorem dX9_note_74 : decode cX9_note 74 = .ok (.getfield 205, 3) := by decide +kernel
theorem dX9_note_77 : decode cX9_note 77 = .ok (.ireturn, 1) := by decide +kernel
theorem dX9_note_78 : decode cX9_note 78 = .ok (.aload_n 3, 1) := by decide +kernel
theorem dX9_note_79 : decode cX9_note 79 = .ok (.getfield 286, 3) := by decide +kernel
theorem dX9_note_82 : decode cX9_note 82 = .ok (.ireturn, 1) := by decide +kernel
theorem dX9_note_83 : decode cX9_note 83 = .ok (.aload_n 3, 1) := by decide +kernel
theorem dX9_note_84 : decode cX9_note 84 = .ok (.getfield 215, 3) := by decide +kernel
theorem dX9_note_87 : decode cX9_note 87 = .ok (.ireturn, 1) := by decide +kernel
theorem dX9_note_88 : decode cX9_note 88 = .ok (.aload_n 3, 1) := by decide +kernel
theorem dX9_note_89 : decode cX9_note 89 = .ok (.getfield 287, 3) := by decide +kernel
theorem dX9_note_92 : decode cX9_note 92 = .ok (.ireturn, 1) := by decide +kernel
theorem dX9_note_93 : decode cX9_note 93 = .ok (.aload_n 3, 1) := by decide +kernel
theorem dX9_note_94 : decode cX9_note 94 = .ok (.getfield 290, 3) := by decide +kernel
theorem dX9_note_97 : decode cX9_note 97 = .ok (.ireturn, 1) := by decide +kernel
theorem dX9_note_98 : decode cX9_note 98 = .ok (.aload_n 3, 1) := by decide +kernel
theorem dX9_note_99 : decode cX9_note 99 = .ok (.getfield 291, 3) := by decide +kernel
theorem dX9_note_102 : decode cX9_note 102 = .ok (.ireturn, 1) := by decide +kernel
theorem dX9_note_103 : decode cX9_note 103 = .ok (.bipush (-2), 2) := by decide +kernel
theorem dX9_note_105 : decode cX9_note 105 = .ok (.ireturn, 1) := by decide +kernel
theorem dX9_split_0 : decode cX9_split 0 = .ok (.aload_n 0, 1) := by decide +kernel
theorem dX9_split_1 : decode cX9_split 1 = .ok (.getfield 10, 3) := by decide +kernel
theorem dX9_split_4 : decode cX9_split 4 = .ok (.iload_n 1, 1) := by decide +kernel
theorem dX9_split_5 : decode cX9_split 5 = .ok (.invokevirtual 111, 3) := by decide +kernel
theorem dX9_split_8 : decode cX9_split 8 = .ok (.ifCond .ne 5, 3) := by decide +kernel
theorem dX9_split_11 : decode cX9_split 11 = .ok (.iconst (-1), 1) := by decide +kernel
theorem dX9_split_12 : decode cX9_split 12 = .ok (.ireturn, 1) := by decide +kernel
theorem dX9_split_13 : decode cX9_split 13 = .ok (.iload_n 2, 1) := by decide +kernel
theorem dX9_split_14 : decode cX9_split 14 = .ok (.invokestatic 135, 3) := by decide +kernel
theorem dX9_split_17 : decode cX9_split 17 = .ok (.ifCond .eq 12, 3) := by decide +kernel
theorem dX9_split_20 : decode cX9_split 20 = .ok (.iload_n 3, 1) := by decide +kernel
theorem dX9_split_21 : decode cX9_split 21 = .ok (.ifCond .lt 8, 3) := by decide +kernel
theorem dX9_split_24 : decode cX9_split 24 = .ok (.iload_n 3, 1) := by decide +kernel
theorem dX9_split_25 : decode cX9_split 25 = .ok (.iconst 5, 1) := by decide +kernel
theorem dX9_split_26 : decode cX9_split 26 = .ok (.if_icmp .le 6, 3) := by decide +kernel
theorem dX9_split_29 : decode cX9_split 29 = .ok (.bipush (-2), 2) := by decide +kernel
theorem dX9_split_31 : decode cX9_split 31 = .ok (.ireturn, 1) := by decide +kernel
theorem dX9_split_32 : decode cX9_split 32 = .ok (.aload_n 0, 1) := by decide +kernel
theorem dX9_split_33 : decode cX9_split 33 = .ok (.getfield 43, 3) := by decide +kernel
theorem dX9_split_36 : decode cX9_split 36 = .ok (.aload_n 0, 1) := by decide +kernel
theorem dX9_split_37 : decode cX9_split 37 = .ok (.getfield 10, 3) := by decide +kernel
theorem dX9_split_40 : decode cX9_split 40 = .ok (.iload_n 1, 1) := by decide +kernel
theorem dX9_split_41 : decode cX9_split 41 = .ok (.iload_n 2, 1) := by decide +kernel
theorem dX9_split_42 : decode cX9_split 42 = .ok (.invokevirtual 138, 3) := by decide +kernel
theorem dX9_split_45 : decode cX9_split 45 = .ok (.ifCond .ne 6, 3) := by decide +kernel
theorem dX9_split_48 : decode cX9_split 48 = .ok (.bipush (-4), 2) := by decide +kernel
theorem dX9_split_50 : decode cX9_split 50 = .ok (.ireturn, 1) := by decide +kernel
theorem dX9_split_51 : decode cX9_split 51 = .ok (.iload_n 3, 1) := by decide +kernel
theorem dX9_split_52 : decode cX9_split 52 = .ok (.tableswitch 76 0 4 #[36, 44, 52, 60, 68], 36) := by decide +kernel
theorem dX9_split_88 : decode cX9_split 88 = .ok (.aload_n 0, 1) := by decide +kernel
theorem dX9_split_89 : decode cX9_split 89 = .ok (.getfield 43, 3) := by decide +kernel
theorem dX9_split_92 : decode cX9_split 92 = .ok (.getfield 294, 3) := by decide +kernel
theorem dX9_split_95 : decode cX9_split 95 = .ok (.ireturn, 1) := by decide +kernel
theorem dX9_split_96 : decode cX9_split 96 = .ok (.aload_n 0, 1) := by decide +kernel
theorem dX9_split_97 : decode cX9_split 97 = .ok (.getfield 43, 3) := by decide +kernel
theorem dX9_split_100 : decode cX9_split 100 = .ok (.getfield 297, 3) := by decide +kernel
theorem dX9_split_103 : decode cX9_split 103 = .ok (.ireturn, 1) := by decide +kernel
theorem dX9_split_104 : decode cX9_split 104 = .ok (.aload_n 0, 1) := by decide +kernel
theorem dX9_split_105 : decode cX9_split 105 = .ok (.getfield 43, 3) := by decide +kernel
theorem dX9_split_108 : decode cX9_split 108 = .ok (.getfield 298, 3) := by decide +kernel
theorem dX9_split_111 : decode cX9_split 111 = .ok (.ireturn, 1) := by decide +kernel
theorem dX9_split_112 : decode cX9_split 112 = .ok (.aload_n 0, 1) := by decide +kernel
theorem dX9_split_113 : decode cX9_split 113 = .ok (.getfield 43, 3) := by decide +kernel
theorem dX9_split_116 : decode cX9_split 116 = .ok (.getfield 301, 3) := by decide +kernel
theorem dX9_split_119 : decode cX9_split 119 = .ok (.ireturn, 1) := by decide +kernel
theorem dX9_split_120 : decode cX9_split 120 = .ok (.aload_n 0, 1) := by decide +kernel
theorem dX9_split_121 : decode cX9_split 121 = .ok (.getfield 43, 3) := by decide +kernel
theorem dX9_split_124 : decode cX9_split 124 = .ok (.getfield 302, 3) := by decide +kernel
theorem dX9_split_127 : decode cX9_split 127 = .ok (.ireturn, 1) := by decide +kernel
theorem dX9_split_128 : decode cX9_split 128 = .ok (.aload_n 0, 1) := by decide +kernel
theorem dX9_split_129 : decode cX9_split 129 = .ok (.getfield 43, 3) := by decide +kernel
theorem dX9_split_132 : decode cX9_split 132 = .ok (.getfield 305, 3) := by decide +kernel
theorem dX9_split_135 : decode cX9_split 135 = .ok (.ireturn, 1) := by decide +kernel
theorem dX9_toRepay_0 : decode cX9_toRepay 0 = .ok (.aload_n 0, 1) := by decide +kernel
theorem dX9_toRepay_1 : decode cX9_toRepay 1 = .ok (.getfield 10, 3) := by decide +kernel
theorem dX9_toRepay_4 : decode cX9_toRepay 4 = .ok (.iload_n 1, 1) := by decide +kernel
theorem dX9_toRepay_5 : decode cX9_toRepay 5 = .ok (.invokevirtual 111, 3) := by decide +kernel
theorem dX9_toRepay_8 : decode cX9_toRepay 8 = .ok (.ifCond .ne 5, 3) := by decide +kernel
theorem dX9_toRepay_11 : decode cX9_toRepay 11 = .ok (.iconst (-1), 1) := by decide +kernel
theorem dX9_toRepay_12 : decode cX9_toRepay 12 = .ok (.ireturn, 1) := by decide +kernel
theorem dX9_toRepay_13 : decode cX9_toRepay 13 = .ok (.aload_n 0, 1) := by decide +kernel
theorem dX9_toRepay_14 : decode cX9_toRepay 14 = .ok (.getfield 10, 3) := by decide +kernel
theorem dX9_toRepay_17 : decode cX9_toRepay 17 = .ok (.iload_n 1, 1) := by decide +kernel
theorem dX9_toRepay_18 : decode cX9_toRepay 18 = .ok (.invokevirtual 171, 3) := by decide +kernel
theorem dX9_toRepay_21 : decode cX9_toRepay 21 = .ok (.ifCond .ne 6, 3) := by decide +kernel
theorem dX9_toRepay_24 : decode cX9_toRepay 24 = .ok (.bipush (-4), 2) := by decide +kernel
theorem dX9_toRepay_26 : decode cX9_toRepay 26 = .ok (.ireturn, 1) := by decide +kernel
theorem dX9_toRepay_27 : decode cX9_toRepay 27 = .ok (.aload_n 0, 1) := by decide +kernel
theorem dX9_toRepay_28 : decode cX9_toRepay 28 = .ok (.getfield 10, 3) := by decide +kernel
theorem dX9_toRepay_31 : decode cX9_toRepay 31 = .ok (.getfield 90, 3) := by decide +kernel
theorem dX9_toRepay_34 : decode cX9_toRepay 34 = .ok (.iload_n 1, 1) := by decide +kernel
theorem dX9_toRepay_35 : decode cX9_toRepay 35 = .ok (.aaload, 1) := by decide +kernel
theorem dX9_toRepay_36 : decode cX9_toRepay 36 = .ok (.astore_n 2, 1) := by decide +kernel
theorem dX9_toRepay_37 : decode cX9_toRepay 37 = .ok (.aload_n 2, 1) := by decide +kernel
theorem dX9_toRepay_38 : decode cX9_toRepay 38 = .ok (.getfield 150, 3) := by decide +kernel
theorem dX9_toRepay_41 : decode cX9_toRepay 41 = .ok (.i2l, 1) := by decide +kernel
theorem dX9_toRepay_42 : decode cX9_toRepay 42 = .ok (.aload_n 2, 1) := by decide +kernel
theorem dX9_toRepay_43 : decode cX9_toRepay 43 = .ok (.getfield 156, 3) := by decide +kernel
theorem dX9_toRepay_46 : decode cX9_toRepay 46 = .ok (.i2l, 1) := by decide +kernel
theorem dX9_toRepay_47 : decode cX9_toRepay 47 = .ok (.ladd, 1) := by decide +kernel
theorem dX9_toRepay_48 : decode cX9_toRepay 48 = .ok (.lstore_n 3, 1) := by decide +kernel
theorem dX9_toRepay_49 : decode cX9_toRepay 49 = .ok (.sipush 1000, 3) := by decide +kernel
theorem dX9_toRepay_52 : decode cX9_toRepay 52 = .ok (.aload_n 2, 1) := by decide +kernel
theorem dX9_toRepay_53 : decode cX9_toRepay 53 = .ok (.getfield 190, 3) := by decide +kernel
theorem dX9_toRepay_56 : decode cX9_toRepay 56 = .ok (.invokestatic 308, 3) := by decide +kernel
theorem dX9_toRepay_59 : decode cX9_toRepay 59 = .ok (.isub, 1) := by decide +kernel
theorem dX9_toRepay_60 : decode cX9_toRepay 60 = .ok (.istore 5, 2) := by decide +kernel
theorem dX9_toRepay_62 : decode cX9_toRepay 62 = .ok (.iload 5, 2) := by decide +kernel
theorem dX9_toRepay_64 : decode cX9_toRepay 64 = .ok (.ifCond .gt 6, 3) := by decide +kernel
theorem dX9_toRepay_67 : decode cX9_toRepay 67 = .ok (.bipush (-4), 2) := by decide +kernel
theorem dX9_toRepay_69 : decode cX9_toRepay 69 = .ok (.ireturn, 1) := by decide +kernel
theorem dX9_toRepay_70 : decode cX9_toRepay 70 = .ok (.lload_n 3, 1) := by decide +kernel
theorem dX9_toRepay_71 : decode cX9_toRepay 71 = .ok (.lconst 1, 1) := by decide +kernel
theorem dX9_toRepay_72 : decode cX9_toRepay 72 = .ok (.lsub, 1) := by decide +kernel
theorem dX9_toRepay_73 : decode cX9_toRepay 73 = .ok (.ldc2_w 311, 3) := by decide +kernel
theorem dX9_toRepay_76 : decode cX9_toRepay 76 = .ok (.lmul, 1) := by decide +kernel
theorem dX9_toRepay_77 : decode cX9_toRepay 77 = .ok (.iload 5, 2) := by decide +kernel
theorem dX9_toRepay_79 : decode cX9_toRepay 79 = .ok (.i2l, 1) := by decide +kernel
theorem dX9_toRepay_80 : decode cX9_toRepay 80 = .ok (.ldiv, 1) := by decide +kernel
theorem dX9_toRepay_81 : decode cX9_toRepay 81 = .ok (.l2i, 1) := by decide +kernel
theorem dX9_toRepay_82 : decode cX9_toRepay 82 = .ok (.iconst 1, 1) := by decide +kernel
theorem dX9_toRepay_83 : decode cX9_toRepay 83 = .ok (.iadd, 1) := by decide +kernel
theorem dX9_toRepay_84 : decode cX9_toRepay 84 = .ok (.ireturn, 1) := by decide +kernel
theorem dX9_servicer_0 : decode cX9_servicer 0 = .ok (.iload_n 1, 1) := by decide +kernel
theorem dX9_servicer_1 : decode cX9_servicer 1 = .ok (.invokestatic 184, 3) := by decide +kernel
theorem dX9_servicer_4 : decode cX9_servicer 4 = .ok (.ifCond .ne 5, 3) := by decide +kernel
theorem dX9_servicer_7 : decode cX9_servicer 7 = .ok (.iconst (-1), 1) := by decide +kernel
theorem dX9_servicer_8 : decode cX9_servicer 8 = .ok (.ireturn, 1) := by decide +kernel
theorem dX9_servicer_9 : decode cX9_servicer 9 = .ok (.iload_n 2, 1) := by decide +kernel
theorem dX9_servicer_10 : decode cX9_servicer 10 = .ok (.tableswitch 51 0 2 #[26, 32, 42], 26) := by decide +kernel
theorem dX9_servicer_36 : decode cX9_servicer 36 = .ok (.getstatic 313, 3) := by decide +kernel
theorem dX9_servicer_39 : decode cX9_servicer 39 = .ok (.iload_n 1, 1) := by decide +kernel
theorem dX9_servicer_40 : decode cX9_servicer 40 = .ok (.iaload, 1) := by decide +kernel
theorem dX9_servicer_41 : decode cX9_servicer 41 = .ok (.ireturn, 1) := by decide +kernel
theorem dX9_servicer_42 : decode cX9_servicer 42 = .ok (.aload_n 0, 1) := by decide +kernel
theorem dX9_servicer_43 : decode cX9_servicer 43 = .ok (.getfield 10, 3) := by decide +kernel
theorem dX9_servicer_46 : decode cX9_servicer 46 = .ok (.getfield 317, 3) := by decide +kernel
theorem dX9_servicer_49 : decode cX9_servicer 49 = .ok (.iload_n 1, 1) := by decide +kernel
theorem dX9_servicer_50 : decode cX9_servicer 50 = .ok (.iaload, 1) := by decide +kernel
theorem dX9_servicer_51 : decode cX9_servicer 51 = .ok (.ireturn, 1) := by decide +kernel
theorem dX9_servicer_52 : decode cX9_servicer 52 = .ok (.aload_n 0, 1) := by decide +kernel
theorem dX9_servicer_53 : decode cX9_servicer 53 = .ok (.getfield 10, 3) := by decide +kernel
theorem dX9_servicer_56 : decode cX9_servicer 56 = .ok (.iload_n 1, 1) := by decide +kernel
theorem dX9_servicer_57 : decode cX9_servicer 57 = .ok (.invokevirtual 320, 3) := by decide +kernel
theorem dX9_servicer_60 : decode cX9_servicer 60 = .ok (.ireturn, 1) := by decide +kernel
theorem dX9_servicer_61 : decode cX9_servicer 61 = .ok (.bipush (-2), 2) := by decide +kernel
theorem dX9_servicer_63 : decode cX9_servicer 63 = .ok (.ireturn, 1) := by decide +kernel
theorem dX9_count_0 : decode cX9_count 0 = .ok (.iload_n 1, 1) := by decide +kernel
theorem dX9_count_1 : decode cX9_count 1 = .ok (.iconst 3, 1) := by decide +kernel
theorem dX9_count_2 : decode cX9_count 2 = .ok (.if_icmp .lt 20, 3) := by decide +kernel
theorem dX9_count_5 : decode cX9_count 5 = .ok (.iload_n 1, 1) := by decide +kernel
theorem dX9_count_6 : decode cX9_count 6 = .ok (.bipush 7, 2) := by decide +kernel
theorem dX9_count_8 : decode cX9_count 8 = .ok (.if_icmp .gt 14, 3) := by decide +kernel
theorem dX9_count_11 : decode cX9_count 11 = .ok (.aload_n 0, 1) := by decide +kernel
theorem dX9_count_12 : decode cX9_count 12 = .ok (.getfield 10, 3) := by decide +kernel
theorem dX9_count_15 : decode cX9_count 15 = .ok (.iload_n 1, 1) := by decide +kernel
theorem dX9_count_16 : decode cX9_count 16 = .ok (.iconst 3, 1) := by decide +kernel
theorem dX9_count_17 : decode cX9_count 17 = .ok (.isub, 1) := by decide +kernel
theorem dX9_count_18 : decode cX9_count 18 = .ok (.invokevirtual 323, 3) := by decide +kernel
theorem dX9_count_21 : decode cX9_count 21 = .ok (.ireturn, 1) := by decide +kernel
theorem dX9_count_22 : decode cX9_count 22 = .ok (.iload_n 1, 1) := by decide +kernel
theorem dX9_count_23 : decode cX9_count 23 = .ok (.tableswitch 189 0 17 #[85, 93, 101, 189, 189, 189, 189, 189, 109, 117, 125, 133, 141, 149, 157, 165, 173, 181], 85) := by decide +kernel
theorem dX9_count_108 : decode cX9_count 108 = .ok (.aload_n 0, 1) := by decide +kernel
theorem dX9_count_109 : decode cX9_count 109 = .ok (.getfield 10, 3) := by decide +kernel
theorem dX9_count_112 : decode cX9_count 112 = .ok (.getfield 216, 3) := by decide +kernel
theorem dX9_count_115 : decode cX9_count 115 = .ok (.ireturn, 1) := by decide +kernel
theorem dX9_count_116 : decode cX9_count 116 = .ok (.aload_n 0, 1) := by decide +kernel
theorem dX9_count_117 : decode cX9_count 117 = .ok (.getfield 10, 3) := by decide +kernel
theorem dX9_count_120 : decode cX9_count 120 = .ok (.getfield 54, 3) := by decide +kernel
theorem dX9_count_123 : decode cX9_count 123 = .ok (.ireturn, 1) := by decide +kernel
theorem dX9_count_124 : decode cX9_count 124 = .ok (.aload_n 0, 1) := by decide +kernel
theorem dX9_count_125 : decode cX9_count 125 = .ok (.getfield 10, 3) := by decide +kernel
theorem dX9_count_128 : decode cX9_count 128 = .ok (.getfield 87, 3) := by decide +kernel
theorem dX9_count_131 : decode cX9_count 131 = .ok (.ireturn, 1) := by decide +kernel
theorem dX9_count_132 : decode cX9_count 132 = .ok (.aload_n 0, 1) := by decide +kernel
theorem dX9_count_133 : decode cX9_count 133 = .ok (.getfield 10, 3) := by decide +kernel
theorem dX9_count_136 : decode cX9_count 136 = .ok (.getfield 262, 3) := by decide +kernel
theorem dX9_count_139 : decode cX9_count 139 = .ok (.ireturn, 1) := by decide +kernel
theorem dX9_count_140 : decode cX9_count 140 = .ok (.aload_n 0, 1) := by decide +kernel
theorem dX9_count_141 : decode cX9_count 141 = .ok (.getfield 10, 3) := by decide +kernel
theorem dX9_count_144 : decode cX9_count 144 = .ok (.getfield 178, 3) := by decide +kernel
theorem dX9_count_147 : decode cX9_count 147 = .ok (.ireturn, 1) := by decide +kernel
theorem dX9_count_148 : decode cX9_count 148 = .ok (.aload_n 0, 1) := by decide +kernel
theorem dX9_count_149 : decode cX9_count 149 = .ok (.getfield 10, 3) := by decide +kernel
theorem dX9_count_152 : decode cX9_count 152 = .ok (.getfield 80, 3) := by decide +kernel
theorem dX9_count_155 : decode cX9_count 155 = .ok (.ireturn, 1) := by decide +kernel
theorem dX9_count_156 : decode cX9_count 156 = .ok (.aload_n 0, 1) := by decide +kernel
theorem dX9_count_157 : decode cX9_count 157 = .ok (.getfield 10, 3) := by decide +kernel
theorem dX9_count_160 : decode cX9_count 160 = .ok (.invokevirtual 326, 3) := by decide +kernel
theorem dX9_count_163 : decode cX9_count 163 = .ok (.ireturn, 1) := by decide +kernel
theorem dX9_count_164 : decode cX9_count 164 = .ok (.aload_n 0, 1) := by decide +kernel
theorem dX9_count_165 : decode cX9_count 165 = .ok (.getfield 10, 3) := by decide +kernel
theorem dX9_count_168 : decode cX9_count 168 = .ok (.invokevirtual 329, 3) := by decide +kernel
theorem dX9_count_171 : decode cX9_count 171 = .ok (.ireturn, 1) := by decide +kernel
theorem dX9_count_172 : decode cX9_count 172 = .ok (.aload_n 0, 1) := by decide +kernel
theorem dX9_count_173 : decode cX9_count 173 = .ok (.getfield 10, 3) := by decide +kernel
theorem dX9_count_176 : decode cX9_count 176 = .ok (.invokevirtual 332, 3) := by decide +kernel
theorem dX9_count_179 : decode cX9_count 179 = .ok (.ireturn, 1) := by decide +kernel
theorem dX9_count_180 : decode cX9_count 180 = .ok (.aload_n 0, 1) := by decide +kernel
theorem dX9_count_181 : decode cX9_count 181 = .ok (.getfield 10, 3) := by decide +kernel
theorem dX9_count_184 : decode cX9_count 184 = .ok (.invokevirtual 222, 3) := by decide +kernel
theorem dX9_count_187 : decode cX9_count 187 = .ok (.ireturn, 1) := by decide +kernel
theorem dX9_count_188 : decode cX9_count 188 = .ok (.aload_n 0, 1) := by decide +kernel
theorem dX9_count_189 : decode cX9_count 189 = .ok (.getfield 10, 3) := by decide +kernel
theorem dX9_count_192 : decode cX9_count 192 = .ok (.invokevirtual 335, 3) := by decide +kernel
theorem dX9_count_195 : decode cX9_count 195 = .ok (.ireturn, 1) := by decide +kernel
theorem dX9_count_196 : decode cX9_count 196 = .ok (.aload_n 0, 1) := by decide +kernel
theorem dX9_count_197 : decode cX9_count 197 = .ok (.getfield 29, 3) := by decide +kernel
theorem dX9_count_200 : decode cX9_count 200 = .ok (.getfield 256, 3) := by decide +kernel
theorem dX9_count_203 : decode cX9_count 203 = .ok (.ireturn, 1) := by decide +kernel
theorem dX9_count_204 : decode cX9_count 204 = .ok (.aload_n 0, 1) := by decide +kernel
theorem dX9_count_205 : decode cX9_count 205 = .ok (.getfield 36, 3) := by decide +kernel
theorem dX9_count_208 : decode cX9_count 208 = .ok (.getfield 226, 3) := by decide +kernel
theorem dX9_count_211 : decode cX9_count 211 = .ok (.ireturn, 1) := by decide +kernel
theorem dX9_count_212 : decode cX9_count 212 = .ok (.bipush (-2), 2) := by decide +kernel
theorem dX9_count_214 : decode cX9_count 214 = .ok (.ireturn, 1) := by decide +kernel
theorem dX9_isServicer_0 : decode cX9_isServicer 0 = .ok (.iload_n 0, 1) := by decide +kernel
theorem dX9_isServicer_1 : decode cX9_isServicer 1 = .ok (.ifCond .lt 15, 3) := by decide +kernel
theorem dX9_isServicer_4 : decode cX9_isServicer 4 = .ok (.iload_n 0, 1) := by decide +kernel
theorem dX9_isServicer_5 : decode cX9_isServicer 5 = .ok (.getstatic 313, 3) := by decide +kernel
theorem dX9_isServicer_8 : decode cX9_isServicer 8 = .ok (.arraylength, 1) := by decide +kernel
theorem dX9_isServicer_9 : decode cX9_isServicer 9 = .ok (.if_icmp .ge 7, 3) := by decide +kernel
theorem dX9_isServicer_12 : decode cX9_isServicer 12 = .ok (.iconst 1, 1) := by decide +kernel
theorem dX9_isServicer_13 : decode cX9_isServicer 13 = .ok (.goto 4, 3) := by decide +kernel
theorem dX9_isServicer_16 : decode cX9_isServicer 16 = .ok (.iconst 0, 1) := by decide +kernel
theorem dX9_isServicer_17 : decode cX9_isServicer 17 = .ok (.ireturn, 1) := by decide +kernel
theorem dX9_isLoanMonths_0 : decode cX9_isLoanMonths 0 = .ok (.iload_n 0, 1) := by decide +kernel
theorem dX9_isLoanMonths_1 : decode cX9_isLoanMonths 1 = .ok (.iconst 1, 1) := by decide +kernel
theorem dX9_isLoanMonths_2 : decode cX9_isLoanMonths 2 = .ok (.if_icmp .lt 13, 3) := by decide +kernel
theorem dX9_isLoanMonths_5 : decode cX9_isLoanMonths 5 = .ok (.iload_n 0, 1) := by decide +kernel
theorem dX9_isLoanMonths_6 : decode cX9_isLoanMonths 6 = .ok (.bipush 36, 2) := by decide +kernel
theorem dX9_isLoanMonths_8 : decode cX9_isLoanMonths 8 = .ok (.if_icmp .gt 7, 3) := by decide +kernel
theorem dX9_isLoanMonths_11 : decode cX9_isLoanMonths 11 = .ok (.iconst 1, 1) := by decide +kernel
theorem dX9_isLoanMonths_12 : decode cX9_isLoanMonths 12 = .ok (.goto 4, 3) := by decide +kernel
theorem dX9_isLoanMonths_15 : decode cX9_isLoanMonths 15 = .ok (.iconst 0, 1) := by decide +kernel
theorem dX9_isLoanMonths_16 : decode cX9_isLoanMonths 16 = .ok (.ireturn, 1) := by decide +kernel
theorem dX9_isPayment_0 : decode cX9_isPayment 0 = .ok (.iload_n 0, 1) := by decide +kernel
theorem dX9_isPayment_1 : decode cX9_isPayment 1 = .ok (.iconst 1, 1) := by decide +kernel
theorem dX9_isPayment_2 : decode cX9_isPayment 2 = .ok (.if_icmp .lt 14, 3) := by decide +kernel
theorem dX9_isPayment_5 : decode cX9_isPayment 5 = .ok (.iload_n 0, 1) := by decide +kernel
theorem dX9_isPayment_6 : decode cX9_isPayment 6 = .ok (.ldc_w 338, 3) := by decide +kernel
theorem dX9_isPayment_9 : decode cX9_isPayment 9 = .ok (.if_icmp .gt 7, 3) := by decide +kernel
theorem dX9_isPayment_12 : decode cX9_isPayment 12 = .ok (.iconst 1, 1) := by decide +kernel
theorem dX9_isPayment_13 : decode cX9_isPayment 13 = .ok (.goto 4, 3) := by decide +kernel
theorem dX9_isPayment_16 : decode cX9_isPayment 16 = .ok (.iconst 0, 1) := by decide +kernel
theorem dX9_isPayment_17 : decode cX9_isPayment 17 = .ok (.ireturn, 1) := by decide +kernel
theorem dX9_isPrice_0 : decode cX9_isPrice 0 = .ok (.iload_n 0, 1) := by decide +kernel
theorem dX9_isPrice_1 : decode cX9_isPrice 1 = .ok (.ifCond .lt 13, 3) := by decide +kernel
theorem dX9_isPrice_4 : decode cX9_isPrice 4 = .ok (.iload_n 0, 1) := by decide +kernel
theorem dX9_isPrice_5 : decode cX9_isPrice 5 = .ok (.ldc 83, 2) := by decide +kernel
theorem dX9_isPrice_7 : decode cX9_isPrice 7 = .ok (.if_icmp .gt 7, 3) := by decide +kernel
theorem dX9_isPrice_10 : decode cX9_isPrice 10 = .ok (.iconst 1, 1) := by decide +kernel
theorem dX9_isPrice_11 : decode cX9_isPrice 11 = .ok (.goto 4, 3) := by decide +kernel
theorem dX9_isPrice_14 : decode cX9_isPrice 14 = .ok (.iconst 0, 1) := by decide +kernel
theorem dX9_isPrice_15 : decode cX9_isPrice 15 = .ok (.ireturn, 1) := by decide +kernel
theorem dX9_feeOf_0 : decode cX9_feeOf 0 = .ok (.iload_n 0, 1) := by decide +kernel
theorem dX9_feeOf_1 : decode cX9_feeOf 1 = .ok (.invokestatic 184, 3) := by decide +kernel
theorem dX9_feeOf_4 : decode cX9_feeOf 4 = .ok (.ifCond .eq 11, 3) := by decide +kernel
theorem dX9_feeOf_7 : decode cX9_feeOf 7 = .ok (.getstatic 313, 3) := by decide +kernel
theorem dX9_feeOf_10 : decode cX9_feeOf 10 = .ok (.iload_n 0, 1) := by decide +kernel
theorem dX9_feeOf_11 : decode cX9_feeOf 11 = .ok (.iaload, 1) := by decide +kernel
theorem dX9_feeOf_12 : decode cX9_feeOf 12 = .ok (.goto 4, 3) := by decide +kernel
theorem dX9_feeOf_15 : decode cX9_feeOf 15 = .ok (.iconst 0, 1) := by decide +kernel
theorem dX9_feeOf_16 : decode cX9_feeOf 16 = .ok (.ireturn, 1) := by decide +kernel
theorem dX9_dividedUp_0 : decode cX9_dividedUp 0 = .ok (.iload_n 1, 1) := by decide +kernel
theorem dX9_dividedUp_1 : decode cX9_dividedUp 1 = .ok (.iconst 1, 1) := by decide +kernel
theorem dX9_dividedUp_2 : decode cX9_dividedUp 2 = .ok (.if_icmp .ge 7, 3) := by decide +kernel
theorem dX9_dividedUp_5 : decode cX9_dividedUp 5 = .ok (.iload_n 0, 1) := by decide +kernel
theorem dX9_dividedUp_6 : decode cX9_dividedUp 6 = .ok (.goto 10, 3) := by decide +kernel
theorem dX9_dividedUp_9 : decode cX9_dividedUp 9 = .ok (.iload_n 0, 1) := by decide +kernel
theorem dX9_dividedUp_10 : decode cX9_dividedUp 10 = .ok (.iload_n 1, 1) := by decide +kernel
theorem dX9_dividedUp_11 : decode cX9_dividedUp 11 = .ok (.iadd, 1) := by decide +kernel
theorem dX9_dividedUp_12 : decode cX9_dividedUp 12 = .ok (.iconst 1, 1) := by decide +kernel
theorem dX9_dividedUp_13 : decode cX9_dividedUp 13 = .ok (.isub, 1) := by decide +kernel
theorem dX9_dividedUp_14 : decode cX9_dividedUp 14 = .ok (.iload_n 1, 1) := by decide +kernel
theorem dX9_dividedUp_15 : decode cX9_dividedUp 15 = .ok (.idiv, 1) := by decide +kernel
theorem dX9_dividedUp_16 : decode cX9_dividedUp 16 = .ok (.ireturn, 1) := by decide +kernel
