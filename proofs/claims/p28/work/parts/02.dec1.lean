theorem dX0_init_0 : decode cX0_init 0 = .ok (.aload_n 0, 1) := by decide +kernel
theorem dX0_init_1 : decode cX0_init 1 = .ok (.invokespecial 1, 3) := by decide +kernel
theorem dX0_init_4 : decode cX0_init 4 = .ok (.return_, 1) := by decide +kernel
theorem dX1_init_0 : decode cX1_init 0 = .ok (.aload_n 0, 1) := by decide +kernel
theorem dX1_init_1 : decode cX1_init 1 = .ok (.invokespecial 3, 3) := by decide +kernel
theorem dX1_init_4 : decode cX1_init 4 = .ok (.aload_n 0, 1) := by decide +kernel
theorem dX1_init_5 : decode cX1_init 5 = .ok (.bipush 60, 2) := by decide +kernel
theorem dX1_init_7 : decode cX1_init 7 = .ok (.newarray .char, 2) := by decide +kernel
theorem dX1_init_9 : decode cX1_init 9 = .ok (.putfield 9, 3) := by decide +kernel
theorem dX1_init_12 : decode cX1_init 12 = .ok (.aload_n 0, 1) := by decide +kernel
theorem dX1_init_13 : decode cX1_init 13 = .ok (.iconst 0, 1) := by decide +kernel
theorem dX1_init_14 : decode cX1_init 14 = .ok (.putfield 15, 3) := by decide +kernel
theorem dX1_init_17 : decode cX1_init 17 = .ok (.aload_n 0, 1) := by decide +kernel
theorem dX1_init_18 : decode cX1_init 18 = .ok (.bipush 10, 2) := by decide +kernel
theorem dX1_init_20 : decode cX1_init 20 = .ok (.anewarray 19, 3) := by decide +kernel
theorem dX1_init_23 : decode cX1_init 23 = .ok (.putfield 21, 3) := by decide +kernel
theorem dX1_init_26 : decode cX1_init 26 = .ok (.aload_n 0, 1) := by decide +kernel
theorem dX1_init_27 : decode cX1_init 27 = .ok (.iconst 0, 1) := by decide +kernel
theorem dX1_init_28 : decode cX1_init 28 = .ok (.putfield 25, 3) := by decide +kernel
theorem dX1_init_31 : decode cX1_init 31 = .ok (.iconst 0, 1) := by decide +kernel
theorem dX1_init_32 : decode cX1_init 32 = .ok (.istore_n 1, 1) := by decide +kernel
theorem dX1_init_33 : decode cX1_init 33 = .ok (.iload_n 1, 1) := by decide +kernel
theorem dX1_init_34 : decode cX1_init 34 = .ok (.aload_n 0, 1) := by decide +kernel
theorem dX1_init_35 : decode cX1_init 35 = .ok (.getfield 21, 3) := by decide +kernel
theorem dX1_init_38 : decode cX1_init 38 = .ok (.arraylength, 1) := by decide +kernel
theorem dX1_init_39 : decode cX1_init 39 = .ok (.if_icmp .ge 22, 3) := by decide +kernel
theorem dX1_init_42 : decode cX1_init 42 = .ok (.aload_n 0, 1) := by decide +kernel
theorem dX1_init_43 : decode cX1_init 43 = .ok (.getfield 21, 3) := by decide +kernel
theorem dX1_init_46 : decode cX1_init 46 = .ok (.iload_n 1, 1) := by decide +kernel
theorem dX1_init_47 : decode cX1_init 47 = .ok (.new 19, 3) := by decide +kernel
theorem dX1_init_50 : decode cX1_init 50 = .ok (.dup, 1) := by decide +kernel
theorem dX1_init_51 : decode cX1_init 51 = .ok (.invokespecial 28, 3) := by decide +kernel
theorem dX1_init_54 : decode cX1_init 54 = .ok (.aastore, 1) := by decide +kernel
theorem dX1_init_55 : decode cX1_init 55 = .ok (.iinc 1 1, 3) := by decide +kernel
theorem dX1_init_58 : decode cX1_init 58 = .ok (.goto (-25), 3) := by decide +kernel
theorem dX1_init_61 : decode cX1_init 61 = .ok (.return_, 1) := by decide +kernel
theorem dX2_init_0 : decode cX2_init 0 = .ok (.aload_n 0, 1) := by decide +kernel
theorem dX2_init_1 : decode cX2_init 1 = .ok (.invokespecial 3, 3) := by decide +kernel
theorem dX2_init_4 : decode cX2_init 4 = .ok (.aload_n 0, 1) := by decide +kernel
theorem dX2_init_5 : decode cX2_init 5 = .ok (.iconst 4, 1) := by decide +kernel
theorem dX2_init_6 : decode cX2_init 6 = .ok (.anewarray 9, 3) := by decide +kernel
theorem dX2_init_9 : decode cX2_init 9 = .ok (.putfield 11, 3) := by decide +kernel
theorem dX2_init_12 : decode cX2_init 12 = .ok (.aload_n 0, 1) := by decide +kernel
theorem dX2_init_13 : decode cX2_init 13 = .ok (.iconst 0, 1) := by decide +kernel
theorem dX2_init_14 : decode cX2_init 14 = .ok (.putfield 17, 3) := by decide +kernel
theorem dX2_init_17 : decode cX2_init 17 = .ok (.iconst 0, 1) := by decide +kernel
theorem dX2_init_18 : decode cX2_init 18 = .ok (.istore_n 1, 1) := by decide +kernel
theorem dX2_init_19 : decode cX2_init 19 = .ok (.iload_n 1, 1) := by decide +kernel
theorem dX2_init_20 : decode cX2_init 20 = .ok (.aload_n 0, 1) := by decide +kernel
theorem dX2_init_21 : decode cX2_init 21 = .ok (.getfield 11, 3) := by decide +kernel
theorem dX2_init_24 : decode cX2_init 24 = .ok (.arraylength, 1) := by decide +kernel
theorem dX2_init_25 : decode cX2_init 25 = .ok (.if_icmp .ge 22, 3) := by decide +kernel
theorem dX2_init_28 : decode cX2_init 28 = .ok (.aload_n 0, 1) := by decide +kernel
theorem dX2_init_29 : decode cX2_init 29 = .ok (.getfield 11, 3) := by decide +kernel
theorem dX2_init_32 : decode cX2_init 32 = .ok (.iload_n 1, 1) := by decide +kernel
theorem dX2_init_33 : decode cX2_init 33 = .ok (.new 9, 3) := by decide +kernel
theorem dX2_init_36 : decode cX2_init 36 = .ok (.dup, 1) := by decide +kernel
theorem dX2_init_37 : decode cX2_init 37 = .ok (.invokespecial 21, 3) := by decide +kernel
theorem dX2_init_40 : decode cX2_init 40 = .ok (.aastore, 1) := by decide +kernel
theorem dX2_init_41 : decode cX2_init 41 = .ok (.iinc 1 1, 3) := by decide +kernel
theorem dX2_init_44 : decode cX2_init 44 = .ok (.goto (-25), 3) := by decide +kernel
theorem dX2_init_47 : decode cX2_init 47 = .ok (.return_, 1) := by decide +kernel
theorem dX2_record_0 : decode cX2_record 0 = .ok (.aload_n 0, 1) := by decide +kernel
theorem dX2_record_1 : decode cX2_record 1 = .ok (.getfield 17, 3) := by decide +kernel
theorem dX2_record_4 : decode cX2_record 4 = .ok (.aload_n 0, 1) := by decide +kernel
theorem dX2_record_5 : decode cX2_record 5 = .ok (.getfield 11, 3) := by decide +kernel
theorem dX2_record_8 : decode cX2_record 8 = .ok (.arraylength, 1) := by decide +kernel
theorem dX2_record_9 : decode cX2_record 9 = .ok (.if_icmp .lt 7, 3) := by decide +kernel
theorem dX2_record_12 : decode cX2_record 12 = .ok (.aload_n 0, 1) := by decide +kernel
theorem dX2_record_13 : decode cX2_record 13 = .ok (.invokevirtual 22, 3) := by decide +kernel
theorem dX2_record_16 : decode cX2_record 16 = .ok (.aload_n 0, 1) := by decide +kernel
theorem dX2_record_17 : decode cX2_record 17 = .ok (.getfield 11, 3) := by decide +kernel
theorem dX2_record_20 : decode cX2_record 20 = .ok (.aload_n 0, 1) := by decide +kernel
theorem dX2_record_21 : decode cX2_record 21 = .ok (.getfield 17, 3) := by decide +kernel
theorem dX2_record_24 : decode cX2_record 24 = .ok (.aaload, 1) := by decide +kernel
theorem dX2_record_25 : decode cX2_record 25 = .ok (.aload_n 1, 1) := by decide +kernel
theorem dX2_record_26 : decode cX2_record 26 = .ok (.invokevirtual 25, 3) := by decide +kernel
theorem dX2_record_29 : decode cX2_record 29 = .ok (.aload_n 0, 1) := by decide +kernel
theorem dX2_record_30 : decode cX2_record 30 = .ok (.dup, 1) := by decide +kernel
theorem dX2_record_31 : decode cX2_record 31 = .ok (.getfield 17, 3) := by decide +kernel
theorem dX2_record_34 : decode cX2_record 34 = .ok (.iconst 1, 1) := by decide +kernel
theorem dX2_record_35 : decode cX2_record 35 = .ok (.iadd, 1) := by decide +kernel
theorem dX2_record_36 : decode cX2_record 36 = .ok (.putfield 17, 3) := by decide +kernel
theorem dX2_record_39 : decode cX2_record 39 = .ok (.return_, 1) := by decide +kernel
theorem dX2_dropOldest_0 : decode cX2_dropOldest 0 = .ok (.aload_n 0, 1) := by decide +kernel
theorem dX2_dropOldest_1 : decode cX2_dropOldest 1 = .ok (.getfield 11, 3) := by decide +kernel
theorem dX2_dropOldest_4 : decode cX2_dropOldest 4 = .ok (.iconst 0, 1) := by decide +kernel
theorem dX2_dropOldest_5 : decode cX2_dropOldest 5 = .ok (.aaload, 1) := by decide +kernel
theorem dX2_dropOldest_6 : decode cX2_dropOldest 6 = .ok (.astore_n 1, 1) := by decide +kernel
theorem dX2_dropOldest_7 : decode cX2_dropOldest 7 = .ok (.iconst 1, 1) := by decide +kernel
theorem dX2_dropOldest_8 : decode cX2_dropOldest 8 = .ok (.istore_n 2, 1) := by decide +kernel
theorem dX2_dropOldest_9 : decode cX2_dropOldest 9 = .ok (.iload_n 2, 1) := by decide +kernel
theorem dX2_dropOldest_10 : decode cX2_dropOldest 10 = .ok (.aload_n 0, 1) := by decide +kernel
theorem dX2_dropOldest_11 : decode cX2_dropOldest 11 = .ok (.getfield 11, 3) := by decide +kernel
theorem dX2_dropOldest_14 : decode cX2_dropOldest 14 = .ok (.arraylength, 1) := by decide +kernel
theorem dX2_dropOldest_15 : decode cX2_dropOldest 15 = .ok (.if_icmp .ge 23, 3) := by decide +kernel
theorem dX2_dropOldest_18 : decode cX2_dropOldest 18 = .ok (.aload_n 0, 1) := by decide +kernel
theorem dX2_dropOldest_19 : decode cX2_dropOldest 19 = .ok (.getfield 11, 3) := by decide +kernel
theorem dX2_dropOldest_22 : decode cX2_dropOldest 22 = .ok (.iload_n 2, 1) := by decide +kernel
theorem dX2_dropOldest_23 : decode cX2_dropOldest 23 = .ok (.iconst 1, 1) := by decide +kernel
theorem dX2_dropOldest_24 : decode cX2_dropOldest 24 = .ok (.isub, 1) := by decide +kernel
theorem dX2_dropOldest_25 : decode cX2_dropOldest 25 = .ok (.aload_n 0, 1) := by decide +kernel
theorem dX2_dropOldest_26 : decode cX2_dropOldest 26 = .ok (.getfield 11, 3) := by decide +kernel
theorem dX2_dropOldest_29 : decode cX2_dropOldest 29 = .ok (.iload_n 2, 1) := by decide +kernel
theorem dX2_dropOldest_30 : decode cX2_dropOldest 30 = .ok (.aaload, 1) := by decide +kernel
theorem dX2_dropOldest_31 : decode cX2_dropOldest 31 = .ok (.aastore, 1) := by decide +kernel
theorem dX2_dropOldest_32 : decode cX2_dropOldest 32 = .ok (.iinc 2 1, 3) := by decide +kernel
theorem dX2_dropOldest_35 : decode cX2_dropOldest 35 = .ok (.goto (-26), 3) := by decide +kernel
theorem dX2_dropOldest_38 : decode cX2_dropOldest 38 = .ok (.aload_n 0, 1) := by decide +kernel
theorem dX2_dropOldest_39 : decode cX2_dropOldest 39 = .ok (.getfield 11, 3) := by decide +kernel
theorem dX2_dropOldest_42 : decode cX2_dropOldest 42 = .ok (.aload_n 0, 1) := by decide +kernel
theorem dX2_dropOldest_43 : decode cX2_dropOldest 43 = .ok (.getfield 11, 3) := by decide +kernel
theorem dX2_dropOldest_46 : decode cX2_dropOldest 46 = .ok (.arraylength, 1) := by decide +kernel
theorem dX2_dropOldest_47 : decode cX2_dropOldest 47 = .ok (.iconst 1, 1) := by decide +kernel
theorem dX2_dropOldest_48 : decode cX2_dropOldest 48 = .ok (.isub, 1) := by decide +kernel
theorem dX2_dropOldest_49 : decode cX2_dropOldest 49 = .ok (.aload_n 1, 1) := by decide +kernel
theorem dX2_dropOldest_50 : decode cX2_dropOldest 50 = .ok (.aastore, 1) := by decide +kernel
theorem dX2_dropOldest_51 : decode cX2_dropOldest 51 = .ok (.aload_n 0, 1) := by decide +kernel
theorem dX2_dropOldest_52 : decode cX2_dropOldest 52 = .ok (.aload_n 0, 1) := by decide +kernel
theorem dX2_dropOldest_53 : decode cX2_dropOldest 53 = .ok (.getfield 11, 3) := by decide +kernel
theorem dX2_dropOldest_56 : decode cX2_dropOldest 56 = .ok (.arraylength, 1) := by decide +kernel
theorem dX2_dropOldest_57 : decode cX2_dropOldest 57 = .ok (.iconst 1, 1) := by decide +kernel
theorem dX2_dropOldest_58 : decode cX2_dropOldest 58 = .ok (.isub, 1) := by decide +kernel
theorem dX2_dropOldest_59 : decode cX2_dropOldest 59 = .ok (.putfield 17, 3) := by decide +kernel
theorem dX2_dropOldest_62 : decode cX2_dropOldest 62 = .ok (.return_, 1) := by decide +kernel
theorem dX3_init_0 : decode cX3_init 0 = .ok (.aload_n 0, 1) := by decide +kernel
theorem dX3_init_1 : decode cX3_init 1 = .ok (.invokespecial 1, 3) := by decide +kernel
theorem dX3_init_4 : decode cX3_init 4 = .ok (.return_, 1) := by decide +kernel
theorem dX3_open_0 : decode cX3_open 0 = .ok (.aload_n 0, 1) := by decide +kernel
theorem dX3_open_1 : decode cX3_open 1 = .ok (.iload_n 1, 1) := by decide +kernel
theorem dX3_open_2 : decode cX3_open 2 = .ok (.putfield 7, 3) := by decide +kernel
theorem dX3_open_5 : decode cX3_open 5 = .ok (.aload_n 0, 1) := by decide +kernel
theorem dX3_open_6 : decode cX3_open 6 = .ok (.iconst 0, 1) := by decide +kernel
theorem dX3_open_7 : decode cX3_open 7 = .ok (.putfield 13, 3) := by decide +kernel
theorem dX3_open_10 : decode cX3_open 10 = .ok (.aload_n 0, 1) := by decide +kernel
theorem dX3_open_11 : decode cX3_open 11 = .ok (.iconst 0, 1) := by decide +kernel
theorem dX3_open_12 : decode cX3_open 12 = .ok (.putfield 16, 3) := by decide +kernel
theorem dX3_open_15 : decode cX3_open 15 = .ok (.return_, 1) := by decide +kernel
theorem dX3_copyFrom_0 : decode cX3_copyFrom 0 = .ok (.aload_n 0, 1) := by decide +kernel
theorem dX3_copyFrom_1 : decode cX3_copyFrom 1 = .ok (.aload_n 1, 1) := by decide +kernel
theorem dX3_copyFrom_2 : decode cX3_copyFrom 2 = .ok (.getfield 7, 3) := by decide +kernel
theorem dX3_copyFrom_5 : decode cX3_copyFrom 5 = .ok (.putfield 7, 3) := by decide +kernel
theorem dX3_copyFrom_8 : decode cX3_copyFrom 8 = .ok (.aload_n 0, 1) := by decide +kernel
theorem dX3_copyFrom_9 : decode cX3_copyFrom 9 = .ok (.aload_n 1, 1) := by decide +kernel
theorem dX3_copyFrom_10 : decode cX3_copyFrom 10 = .ok (.getfield 13, 3) := by decide +kernel
theorem dX3_copyFrom_13 : decode cX3_copyFrom 13 = .ok (.putfield 13, 3) := by decide +kernel
theorem dX3_copyFrom_16 : decode cX3_copyFrom 16 = .ok (.aload_n 0, 1) := by decide +kernel
theorem dX3_copyFrom_17 : decode cX3_copyFrom 17 = .ok (.aload_n 1, 1) := by decide +kernel
theorem dX3_copyFrom_18 : decode cX3_copyFrom 18 = .ok (.getfield 16, 3) := by decide +kernel
theorem dX3_copyFrom_21 : decode cX3_copyFrom 21 = .ok (.putfield 16, 3) := by decide +kernel
theorem dX3_copyFrom_24 : decode cX3_copyFrom 24 = .ok (.return_, 1) := by decide +kernel
theorem dX4_init_0 : decode cX4_init 0 = .ok (.aload_n 0, 1) := by decide +kernel
theorem dX4_init_1 : decode cX4_init 1 = .ok (.invokespecial 3, 3) := by decide +kernel
theorem dX4_init_4 : decode cX4_init 4 = .ok (.return_, 1) := by decide +kernel
theorem dX4_open_0 : decode cX4_open 0 = .ok (.aload_n 0, 1) := by decide +kernel
theorem dX4_open_1 : decode cX4_open 1 = .ok (.iconst 0, 1) := by decide +kernel
theorem dX4_open_2 : decode cX4_open 2 = .ok (.putfield 9, 3) := by decide +kernel
theorem dX4_open_5 : decode cX4_open 5 = .ok (.aload_n 0, 1) := by decide +kernel
theorem dX4_open_6 : decode cX4_open 6 = .ok (.iload_n 1, 1) := by decide +kernel
theorem dX4_open_7 : decode cX4_open 7 = .ok (.putfield 15, 3) := by decide +kernel
theorem dX4_open_10 : decode cX4_open 10 = .ok (.aload_n 0, 1) := by decide +kernel
theorem dX4_open_11 : decode cX4_open 11 = .ok (.iload_n 2, 1) := by decide +kernel
theorem dX4_open_12 : decode cX4_open 12 = .ok (.putfield 18, 3) := by decide +kernel
theorem dX4_open_15 : decode cX4_open 15 = .ok (.aload_n 0, 1) := by decide +kernel
theorem dX4_open_16 : decode cX4_open 16 = .ok (.iload_n 3, 1) := by decide +kernel
theorem dX4_open_17 : decode cX4_open 17 = .ok (.putfield 21, 3) := by decide +kernel
theorem dX4_open_20 : decode cX4_open 20 = .ok (.aload_n 0, 1) := by decide +kernel
theorem dX4_open_21 : decode cX4_open 21 = .ok (.iconst 0, 1) := by decide +kernel
theorem dX4_open_22 : decode cX4_open 22 = .ok (.putfield 24, 3) := by decide +kernel
theorem dX4_open_25 : decode cX4_open 25 = .ok (.aload_n 0, 1) := by decide +kernel
theorem dX4_open_26 : decode cX4_open 26 = .ok (.bipush (-5), 2) := by decide +kernel
theorem dX4_open_28 : decode cX4_open 28 = .ok (.putfield 27, 3) := by decide +kernel
theorem dX4_open_31 : decode cX4_open 31 = .ok (.aload_n 0, 1) := by decide +kernel
theorem dX4_open_32 : decode cX4_open 32 = .ok (.iconst 0, 1) := by decide +kernel
theorem dX4_open_33 : decode cX4_open 33 = .ok (.putfield 30, 3) := by decide +kernel
theorem dX4_open_36 : decode cX4_open 36 = .ok (.aload_n 0, 1) := by decide +kernel
theorem dX4_open_37 : decode cX4_open 37 = .ok (.iconst 0, 1) := by decide +kernel
theorem dX4_open_38 : decode cX4_open 38 = .ok (.putfield 33, 3) := by decide +kernel
theorem dX4_open_41 : decode cX4_open 41 = .ok (.aload_n 0, 1) := by decide +kernel
theorem dX4_open_42 : decode cX4_open 42 = .ok (.iconst 0, 1) := by decide +kernel
theorem dX4_open_43 : decode cX4_open 43 = .ok (.putfield 36, 3) := by decide +kernel
theorem dX4_open_46 : decode cX4_open 46 = .ok (.aload_n 0, 1) := by decide +kernel
theorem dX4_open_47 : decode cX4_open 47 = .ok (.iconst 0, 1) := by decide +kernel
theorem dX4_open_48 : decode cX4_open 48 = .ok (.putfield 39, 3) := by decide +kernel
theorem dX4_open_51 : decode cX4_open 51 = .ok (.aload_n 0, 1) := by decide +kernel
theorem dX4_open_52 : decode cX4_open 52 = .ok (.bipush (-5), 2) := by decide +kernel
theorem dX4_open_54 : decode cX4_open 54 = .ok (.putfield 42, 3) := by decide +kernel
theorem dX4_open_57 : decode cX4_open 57 = .ok (.return_, 1) := by decide +kernel
theorem dX4_start_0 : decode cX4_start 0 = .ok (.aload_n 0, 1) := by decide +kernel
theorem dX4_start_1 : decode cX4_start 1 = .ok (.iconst 1, 1) := by decide +kernel
theorem dX4_start_2 : decode cX4_start 2 = .ok (.putfield 9, 3) := by decide +kernel
theorem dX4_start_5 : decode cX4_start 5 = .ok (.aload_n 0, 1) := by decide +kernel
theorem dX4_start_6 : decode cX4_start 6 = .ok (.aload_n 0, 1) := by decide +kernel
theorem dX4_start_7 : decode cX4_start 7 = .ok (.getfield 15, 3) := by decide +kernel
theorem dX4_start_10 : decode cX4_start 10 = .ok (.putfield 24, 3) := by decide +kernel
theorem dX4_start_13 : decode cX4_start 13 = .ok (.aload_n 0, 1) := by decide +kernel
theorem dX4_start_14 : decode cX4_start 14 = .ok (.aload_n 0, 1) := by decide +kernel
theorem dX4_start_15 : decode cX4_start 15 = .ok (.getfield 15, 3) := by decide +kernel
theorem dX4_start_18 : decode cX4_start 18 = .ok (.aload_n 0, 1) := by decide +kernel
theorem dX4_start_19 : decode cX4_start 19 = .ok (.getfield 21, 3) := by decide +kernel
theorem dX4_start_22 : decode cX4_start 22 = .ok (.invokestatic 45, 3) := by decide +kernel
theorem dX4_start_25 : decode cX4_start 25 = .ok (.putfield 27, 3) := by decide +kernel
theorem dX4_start_28 : decode cX4_start 28 = .ok (.return_, 1) := by decide +kernel
theorem dX4_end_0 : decode cX4_end 0 = .ok (.aload_n 0, 1) := by decide +kernel
theorem dX4_end_1 : decode cX4_end 1 = .ok (.iload_n 1, 1) := by decide +kernel
theorem dX4_end_2 : decode cX4_end 2 = .ok (.putfield 9, 3) := by decide +kernel
theorem dX4_end_5 : decode cX4_end 5 = .ok (.aload_n 0, 1) := by decide +kernel
theorem dX4_end_6 : decode cX4_end 6 = .ok (.iconst 0, 1) := by decide +kernel
theorem dX4_end_7 : decode cX4_end 7 = .ok (.putfield 24, 3) := by decide +kernel
theorem dX4_end_10 : decode cX4_end 10 = .ok (.aload_n 0, 1) := by decide +kernel
theorem dX4_end_11 : decode cX4_end 11 = .ok (.iconst 0, 1) := by decide +kernel
theorem dX4_end_12 : decode cX4_end 12 = .ok (.putfield 30, 3) := by decide +kernel
theorem dX4_end_15 : decode cX4_end 15 = .ok (.aload_n 0, 1) := by decide +kernel
theorem dX4_end_16 : decode cX4_end 16 = .ok (.iconst 0, 1) := by decide +kernel
theorem dX4_end_17 : decode cX4_end 17 = .ok (.putfield 33, 3) := by decide +kernel
theorem dX4_end_20 : decode cX4_end 20 = .ok (.aload_n 0, 1) := by decide +kernel
theorem dX4_end_21 : decode cX4_end 21 = .ok (.iconst 0, 1) := by decide +kernel
theorem dX4_end_22 : decode cX4_end 22 = .ok (.putfield 36, 3) := by decide +kernel
theorem dX4_end_25 : decode cX4_end 25 = .ok (.aload_n 0, 1) := by decide +kernel
theorem dX4_end_26 : decode cX4_end 26 = .ok (.bipush (-5), 2) := by decide +kernel
theorem dX4_end_28 : decode cX4_end 28 = .ok (.putfield 42, 3) := by decide +kernel
theorem dX4_end_31 : decode cX4_end 31 = .ok (.return_, 1) := by decide +kernel
theorem dX4_passMonth_0 : decode cX4_passMonth 0 = .ok (.aload_n 0, 1) := by decide +kernel
theorem dX4_passMonth_1 : decode cX4_passMonth 1 = .ok (.getfield 42, 3) := by decide +kernel
theorem dX4_passMonth_4 : decode cX4_passMonth 4 = .ok (.bipush (-5), 2) := by decide +kernel
theorem dX4_passMonth_6 : decode cX4_passMonth 6 = .ok (.if_icmp .eq 17, 3) := by decide +kernel
theorem dX4_passMonth_9 : decode cX4_passMonth 9 = .ok (.aload_n 0, 1) := by decide +kernel
theorem dX4_passMonth_10 : decode cX4_passMonth 10 = .ok (.aload_n 0, 1) := by decide +kernel
theorem dX4_passMonth_11 : decode cX4_passMonth 11 = .ok (.getfield 42, 3) := by decide +kernel
theorem dX4_passMonth_14 : decode cX4_passMonth 14 = .ok (.putfield 39, 3) := by decide +kernel
theorem dX4_passMonth_17 : decode cX4_passMonth 17 = .ok (.aload_n 0, 1) := by decide +kernel
theorem dX4_passMonth_18 : decode cX4_passMonth 18 = .ok (.bipush (-5), 2) := by decide +kernel
theorem dX4_passMonth_20 : decode cX4_passMonth 20 = .ok (.putfield 42, 3) := by decide +kernel
theorem dX4_passMonth_23 : decode cX4_passMonth 23 = .ok (.aload_n 0, 1) := by decide +kernel
theorem dX4_passMonth_24 : decode cX4_passMonth 24 = .ok (.aload_n 0, 1) := by decide +kernel
theorem dX4_passMonth_25 : decode cX4_passMonth 25 = .ok (.getfield 30, 3) := by decide +kernel
theorem dX4_passMonth_28 : decode cX4_passMonth 28 = .ok (.ifCond .gt 10, 3) := by decide +kernel
theorem dX4_passMonth_31 : decode cX4_passMonth 31 = .ok (.aload_n 0, 1) := by decide +kernel
theorem dX4_passMonth_32 : decode cX4_passMonth 32 = .ok (.getfield 33, 3) := by decide +kernel
theorem dX4_passMonth_35 : decode cX4_passMonth 35 = .ok (.ifCond .le 12, 3) := by decide +kernel
theorem dX4_passMonth_38 : decode cX4_passMonth 38 = .ok (.aload_n 0, 1) := by decide +kernel
theorem dX4_passMonth_39 : decode cX4_passMonth 39 = .ok (.getfield 36, 3) := by decide +kernel
theorem dX4_passMonth_42 : decode cX4_passMonth 42 = .ok (.iconst 1, 1) := by decide +kernel
theorem dX4_passMonth_43 : decode cX4_passMonth 43 = .ok (.iadd, 1) := by decide +kernel
theorem dX4_passMonth_44 : decode cX4_passMonth 44 = .ok (.goto 4, 3) := by decide +kernel
theorem dX4_passMonth_47 : decode cX4_passMonth 47 = .ok (.iconst 0, 1) := by decide +kernel
theorem dX4_passMonth_48 : decode cX4_passMonth 48 = .ok (.putfield 36, 3) := by decide +kernel
theorem dX4_passMonth_51 : decode cX4_passMonth 51 = .ok (.aload_n 0, 1) := by decide +kernel
theorem dX4_passMonth_52 : decode cX4_passMonth 52 = .ok (.dup, 1) := by decide +kernel
theorem dX4_passMonth_53 : decode cX4_passMonth 53 = .ok (.getfield 30, 3) := by decide +kernel
theorem dX4_passMonth_56 : decode cX4_passMonth 56 = .ok (.aload_n 0, 1) := by decide +kernel
theorem dX4_passMonth_57 : decode cX4_passMonth 57 = .ok (.getfield 24, 3) := by decide +kernel
theorem dX4_passMonth_60 : decode cX4_passMonth 60 = .ok (.aload_n 0, 1) := by decide +kernel
theorem dX4_passMonth_61 : decode cX4_passMonth 61 = .ok (.getfield 18, 3) := by decide +kernel
theorem dX4_passMonth_64 : decode cX4_passMonth 64 = .ok (.imul, 1) := by decide +kernel
theorem dX4_passMonth_65 : decode cX4_passMonth 65 = .ok (.sipush 1000, 3) := by decide +kernel
theorem dX4_passMonth_68 : decode cX4_passMonth 68 = .ok (.idiv, 1) := by decide +kernel
theorem dX4_passMonth_69 : decode cX4_passMonth 69 = .ok (.iadd, 1) := by decide +kernel
theorem dX4_passMonth_70 : decode cX4_passMonth 70 = .ok (.putfield 30, 3) := by decide +kernel
theorem dX4_passMonth_73 : decode cX4_passMonth 73 = .ok (.aload_n 0, 1) := by decide +kernel
theorem dX4_passMonth_74 : decode cX4_passMonth 74 = .ok (.aload_n 0, 1) := by decide +kernel
theorem dX4_passMonth_75 : decode cX4_passMonth 75 = .ok (.getfield 24, 3) := by decide +kernel
theorem dX4_passMonth_78 : decode cX4_passMonth 78 = .ok (.aload_n 0, 1) := by decide +kernel
theorem dX4_passMonth_79 : decode cX4_passMonth 79 = .ok (.getfield 33, 3) := by decide +kernel
theorem dX4_passMonth_82 : decode cX4_passMonth 82 = .ok (.aload_n 0, 1) := by decide +kernel
theorem dX4_passMonth_83 : decode cX4_passMonth 83 = .ok (.getfield 27, 3) := by decide +kernel
theorem dX4_passMonth_86 : decode cX4_passMonth 86 = .ok (.iadd, 1) := by decide +kernel
theorem dX4_passMonth_87 : decode cX4_passMonth 87 = .ok (.invokestatic 49, 3) := by decide +kernel
theorem dX4_passMonth_90 : decode cX4_passMonth 90 = .ok (.putfield 33, 3) := by decide +kernel
theorem dX4_passMonth_93 : decode cX4_passMonth 93 = .ok (.return_, 1) := by decide +kernel
theorem dX4_takePayment_0 : decode cX4_takePayment 0 = .ok (.aload_n 0, 1) := by decide +kernel
theorem dX4_takePayment_1 : decode cX4_takePayment 1 = .ok (.dup, 1) := by decide +kernel
theorem dX4_takePayment_2 : decode cX4_takePayment 2 = .ok (.getfield 30, 3) := by decide +kernel
theorem dX4_takePayment_5 : decode cX4_takePayment 5 = .ok (.iload_n 1, 1) := by decide +kernel
theorem dX4_takePayment_6 : decode cX4_takePayment 6 = .ok (.isub, 1) := by decide +kernel
theorem dX4_takePayment_7 : decode cX4_takePayment 7 = .ok (.putfield 30, 3) := by decide +kernel
theorem dX4_takePayment_10 : decode cX4_takePayment 10 = .ok (.aload_n 0, 1) := by decide +kernel
theorem dX4_takePayment_11 : decode cX4_takePayment 11 = .ok (.dup, 1) := by decide +kernel
theorem dX4_takePayment_12 : decode cX4_takePayment 12 = .ok (.getfield 24, 3) := by decide +kernel
theorem dX4_takePayment_15 : decode cX4_takePayment 15 = .ok (.iload_n 2, 1) := by decide +kernel
theorem dX4_takePayment_16 : decode cX4_takePayment 16 = .ok (.isub, 1) := by decide +kernel
theorem dX4_takePayment_17 : decode cX4_takePayment 17 = .ok (.putfield 24, 3) := by decide +kernel
theorem dX4_takePayment_20 : decode cX4_takePayment 20 = .ok (.aload_n 0, 1) := by decide +kernel
theorem dX4_takePayment_21 : decode cX4_takePayment 21 = .ok (.iconst 0, 1) := by decide +kernel
theorem dX4_takePayment_22 : decode cX4_takePayment 22 = .ok (.aload_n 0, 1) := by decide +kernel
theorem dX4_takePayment_23 : decode cX4_takePayment 23 = .ok (.getfield 33, 3) := by decide +kernel
theorem dX4_takePayment_26 : decode cX4_takePayment 26 = .ok (.iload_n 2, 1) := by decide +kernel
theorem dX4_takePayment_27 : decode cX4_takePayment 27 = .ok (.isub, 1) := by decide +kernel
theorem dX4_takePayment_28 : decode cX4_takePayment 28 = .ok (.invokestatic 54, 3) := by decide +kernel
theorem dX4_takePayment_31 : decode cX4_takePayment 31 = .ok (.putfield 33, 3) := by decide +kernel
theorem dX4_takePayment_34 : decode cX4_takePayment 34 = .ok (.aload_n 0, 1) := by decide +kernel
theorem dX4_takePayment_35 : decode cX4_takePayment 35 = .ok (.getfield 30, 3) := by decide +kernel
theorem dX4_takePayment_38 : decode cX4_takePayment 38 = .ok (.ifCond .ne 15, 3) := by decide +kernel
theorem dX4_takePayment_41 : decode cX4_takePayment 41 = .ok (.aload_n 0, 1) := by decide +kernel
theorem dX4_takePayment_42 : decode cX4_takePayment 42 = .ok (.getfield 33, 3) := by decide +kernel
theorem dX4_takePayment_45 : decode cX4_takePayment 45 = .ok (.ifCond .ne 8, 3) := by decide +kernel
theorem dX4_takePayment_48 : decode cX4_takePayment 48 = .ok (.aload_n 0, 1) := by decide +kernel
theorem dX4_takePayment_49 : decode cX4_takePayment 49 = .ok (.iconst 0, 1) := by decide +kernel
theorem dX4_takePayment_50 : decode cX4_takePayment 50 = .ok (.putfield 36, 3) := by decide +kernel
theorem dX4_takePayment_53 : decode cX4_takePayment 53 = .ok (.aload_n 0, 1) := by decide +kernel
theorem dX4_takePayment_54 : decode cX4_takePayment 54 = .ok (.getfield 30, 3) := by decide +kernel
theorem dX4_takePayment_57 : decode cX4_takePayment 57 = .ok (.ifCond .ne 15, 3) := by decide +kernel
theorem dX4_takePayment_60 : decode cX4_takePayment 60 = .ok (.aload_n 0, 1) := by decide +kernel
theorem dX4_takePayment_61 : decode cX4_takePayment 61 = .ok (.getfield 24, 3) := by decide +kernel
theorem dX4_takePayment_64 : decode cX4_takePayment 64 = .ok (.ifCond .ne 8, 3) := by decide +kernel
theorem dX4_takePayment_67 : decode cX4_takePayment 67 = .ok (.aload_n 0, 1) := by decide +kernel
theorem dX4_takePayment_68 : decode cX4_takePayment 68 = .ok (.iconst 2, 1) := by decide +kernel
theorem dX4_takePayment_69 : decode cX4_takePayment 69 = .ok (.invokevirtual 57, 3) := by decide +kernel
theorem dX4_takePayment_72 : decode cX4_takePayment 72 = .ok (.return_, 1) := by decide +kernel
theorem dX4_copyFrom_0 : decode cX4_copyFrom 0 = .ok (.aload_n 0, 1) := by decide +kernel
theorem dX4_copyFrom_1 : decode cX4_copyFrom 1 = .ok (.aload_n 1, 1) := by decide +kernel
theorem dX4_copyFrom_2 : decode cX4_copyFrom 2 = .ok (.getfield 9, 3) := by decide +kernel
theorem dX4_copyFrom_5 : decode cX4_copyFrom 5 = .ok (.putfield 9, 3) := by decide +kernel
theorem dX4_copyFrom_8 : decode cX4_copyFrom 8 = .ok (.aload_n 0, 1) := by decide +kernel
theorem dX4_copyFrom_9 : decode cX4_copyFrom 9 = .ok (.aload_n 1, 1) := by decide +kernel
theorem dX4_copyFrom_10 : decode cX4_copyFrom 10 = .ok (.getfield 15, 3) := by decide +kernel
theorem dX4_copyFrom_13 : decode cX4_copyFrom 13 = .ok (.putfield 15, 3) := by decide +kernel
theorem dX4_copyFrom_16 : decode cX4_copyFrom 16 = .ok (.aload_n 0, 1) := by decide +kernel
theorem dX4_copyFrom_17 : decode cX4_copyFrom 17 = .ok (.aload_n 1, 1) := by decide +kernel
theorem dX4_copyFrom_18 : decode cX4_copyFrom 18 = .ok (.getfield 18, 3) := by decide +kernel
theorem dX4_copyFrom_21 : decode cX4_copyFrom 21 = .ok (.putfield 18, 3) := by decide +kernel
theorem dX4_copyFrom_24 : decode cX4_copyFrom 24 = .ok (.aload_n 0, 1) := by decide +kernel
theorem dX4_copyFrom_25 : decode cX4_copyFrom 25 = .ok (.aload_n 1, 1) := by decide +kernel
theorem dX4_copyFrom_26 : decode cX4_copyFrom 26 = .ok (.getfield 21, 3) := by decide +kernel
theorem dX4_copyFrom_29 : decode cX4_copyFrom 29 = .ok (.putfield 21, 3) := by decide +kernel
theorem dX4_copyFrom_32 : decode cX4_copyFrom 32 = .ok (.aload_n 0, 1) := by decide +kernel
theorem dX4_copyFrom_33 : decode cX4_copyFrom 33 = .ok (.aload_n 1, 1) := by decide +kernel
theorem dX4_copyFrom_34 : decode cX4_copyFrom 34 = .ok (.getfield 24, 3) := by decide +kernel
theorem dX4_copyFrom_37 : decode cX4_copyFrom 37 = .ok (.putfield 24, 3) := by decide +kernel
theorem dX4_copyFrom_40 : decode cX4_copyFrom 40 = .ok (.aload_n 0, 1) := by decide +kernel
theorem dX4_copyFrom_41 : decode cX4_copyFrom 41 = .ok (.aload_n 1, 1) := by decide +kernel
theorem dX4_copyFrom_42 : decode cX4_copyFrom 42 = .ok (.getfield 27, 3) := by decide +kernel
theorem dX4_copyFrom_45 : decode cX4_copyFrom 45 = .ok (.putfield 27, 3) := by decide +kernel
theorem dX4_copyFrom_48 : decode cX4_copyFrom 48 = .ok (.aload_n 0, 1) := by decide +kernel
theorem dX4_copyFrom_49 : decode cX4_copyFrom 49 = .ok (.aload_n 1, 1) := by decide +kernel
theorem dX4_copyFrom_50 : decode cX4_copyFrom 50 = .ok (.getfield 30, 3) := by decide +kernel
theorem dX4_copyFrom_53 : decode cX4_copyFrom 53 = .ok (.putfield 30, 3) := by decide +kernel
theorem dX4_copyFrom_56 : decode cX4_copyFrom 56 = .ok (.aload_n 0, 1) := by decide +kernel
theorem dX4_copyFrom_57 : decode cX4_copyFrom 57 = .ok (.aload_n 1, 1) := by decide +kernel
theorem dX4_copyFrom_58 : decode cX4_copyFrom 58 = .ok (.getfield 33, 3) := by decide +kernel
theorem dX4_copyFrom_61 : decode cX4_copyFrom 61 = .ok (.putfield 33, 3) := by decide +kernel
theorem dX4_copyFrom_64 : decode cX4_copyFrom 64 = .ok (.aload_n 0, 1) := by decide +kernel
theorem dX4_copyFrom_65 : decode cX4_copyFrom 65 = .ok (.aload_n 1, 1) := by decide +kernel
theorem dX4_copyFrom_66 : decode cX4_copyFrom 66 = .ok (.getfield 36, 3) := by decide +kernel
theorem dX4_copyFrom_69 : decode cX4_copyFrom 69 = .ok (.putfield 36, 3) := by decide +kernel
theorem dX4_copyFrom_72 : decode cX4_copyFrom 72 = .ok (.aload_n 0, 1) := by decide +kernel
theorem dX4_copyFrom_73 : decode cX4_copyFrom 73 = .ok (.aload_n 1, 1) := by decide +kernel
theorem dX4_copyFrom_74 : decode cX4_copyFrom 74 = .ok (.getfield 39, 3) := by decide +kernel
theorem dX4_copyFrom_77 : decode cX4_copyFrom 77 = .ok (.putfield 39, 3) := by decide +kernel
theorem dX4_copyFrom_80 : decode cX4_copyFrom 80 = .ok (.aload_n 0, 1) := by decide +kernel
theorem dX4_copyFrom_81 : decode cX4_copyFrom 81 = .ok (.aload_n 1, 1) := by decide +kernel
theorem dX4_copyFrom_82 : decode cX4_copyFrom 82 = .ok (.getfield 42, 3) := by decide +kernel
theorem dX4_copyFrom_85 : decode cX4_copyFrom 85 = .ok (.putfield 42, 3) := by decide +kernel
theorem dX4_copyFrom_88 : decode cX4_copyFrom 88 = .ok (.return_, 1) := by decide +kernel
theorem dX5_init_0 : decode cX5_init 0 = .ok (.aload_n 0, 1) := by decide +kernel
theorem dX5_init_1 : decode cX5_init 1 = .ok (.invokespecial 3, 3) := by decide +kernel
theorem dX5_init_4 : decode cX5_init 4 = .ok (.aload_n 0, 1) := by decide +kernel
theorem dX5_init_5 : decode cX5_init 5 = .ok (.bipush 8, 2) := by decide +kernel
theorem dX5_init_7 : decode cX5_init 7 = .ok (.anewarray 9, 3) := by decide +kernel
theorem dX5_init_10 : decode cX5_init 10 = .ok (.putfield 11, 3) := by decide +kernel
theorem dX5_init_13 : decode cX5_init 13 = .ok (.aload_n 0, 1) := by decide +kernel
theorem dX5_init_14 : decode cX5_init 14 = .ok (.bipush 10, 2) := by decide +kernel
theorem dX5_init_16 : decode cX5_init 16 = .ok (.anewarray 17, 3) := by decide +kernel
theorem dX5_init_19 : decode cX5_init 19 = .ok (.putfield 19, 3) := by decide +kernel
theorem dX5_init_22 : decode cX5_init 22 = .ok (.aload_n 0, 1) := by decide +kernel
theorem dX5_init_23 : decode cX5_init 23 = .ok (.bipush 60, 2) := by decide +kernel
theorem dX5_init_25 : decode cX5_init 25 = .ok (.anewarray 23, 3) := by decide +kernel
theorem dX5_init_28 : decode cX5_init 28 = .ok (.putfield 25, 3) := by decide +kernel
theorem dX5_init_31 : decode cX5_init 31 = .ok (.aload_n 0, 1) := by decide +kernel
theorem dX5_init_32 : decode cX5_init 32 = .ok (.getstatic 29, 3) := by decide +kernel
theorem dX5_init_35 : decode cX5_init 35 = .ok (.arraylength, 1) := by decide +kernel
theorem dX5_init_36 : decode cX5_init 36 = .ok (.newarray .int, 2) := by decide +kernel
theorem dX5_init_38 : decode cX5_init 38 = .ok (.putfield 33, 3) := by decide +kernel
theorem dX5_init_41 : decode cX5_init 41 = .ok (.aload_n 0, 1) := by decide +kernel
theorem dX5_init_42 : decode cX5_init 42 = .ok (.iconst 0, 1) := by decide +kernel
theorem dX5_init_43 : decode cX5_init 43 = .ok (.putfield 36, 3) := by decide +kernel
theorem dX5_init_46 : decode cX5_init 46 = .ok (.aload_n 0, 1) := by decide +kernel
theorem dX5_init_47 : decode cX5_init 47 = .ok (.iconst 0, 1) := by decide +kernel
theorem dX5_init_48 : decode cX5_init 48 = .ok (.putfield 40, 3) := by decide +kernel
theorem dX5_init_51 : decode cX5_init 51 = .ok (.aload_n 0, 1) := by decide +kernel
theorem dX5_init_52 : decode cX5_init 52 = .ok (.iconst 0, 1) := by decide +kernel
theorem dX5_init_53 : decode cX5_init 53 = .ok (.putfield 43, 3) := by decide +kernel
theorem dX5_init_56 : decode cX5_init 56 = .ok (.aload_n 0, 1) := by decide +kernel
theorem dX5_init_57 : decode cX5_init 57 = .ok (.iconst 0, 1) := by decide +kernel
theorem dX5_init_58 : decode cX5_init 58 = .ok (.putfield 46, 3) := by decide +kernel
theorem dX5_init_61 : decode cX5_init 61 = .ok (.aload_n 0, 1) := by decide +kernel
theorem dX5_init_62 : decode cX5_init 62 = .ok (.iconst 0, 1) := by decide +kernel
theorem dX5_init_63 : decode cX5_init 63 = .ok (.putfield 49, 3) := by decide +kernel
theorem dX5_init_66 : decode cX5_init 66 = .ok (.aload_n 0, 1) := by decide +kernel
theorem dX5_init_67 : decode cX5_init 67 = .ok (.iconst 5, 1) := by decide +kernel
theorem dX5_init_68 : decode cX5_init 68 = .ok (.putfield 52, 3) := by decide +kernel
theorem dX5_init_71 : decode cX5_init 71 = .ok (.iconst 0, 1) := by decide +kernel
theorem dX5_init_72 : decode cX5_init 72 = .ok (.istore_n 1, 1) := by decide +kernel
theorem dX5_init_73 : decode cX5_init 73 = .ok (.iload_n 1, 1) := by decide +kernel
theorem dX5_init_74 : decode cX5_init 74 = .ok (.aload_n 0, 1) := by decide +kernel
theorem dX5_init_75 : decode cX5_init 75 = .ok (.getfield 11, 3) := by decide +kernel
theorem dX5_init_78 : decode cX5_init 78 = .ok (.arraylength, 1) := by decide +kernel
theorem dX5_init_79 : decode cX5_init 79 = .ok (.if_icmp .ge 22, 3) := by decide +kernel
theorem dX5_init_82 : decode cX5_init 82 = .ok (.aload_n 0, 1) := by decide +kernel
theorem dX5_init_83 : decode cX5_init 83 = .ok (.getfield 11, 3) := by decide +kernel
theorem dX5_init_86 : decode cX5_init 86 = .ok (.iload_n 1, 1) := by decide +kernel
theorem dX5_init_87 : decode cX5_init 87 = .ok (.new 9, 3) := by decide +kernel
theorem dX5_init_90 : decode cX5_init 90 = .ok (.dup, 1) := by decide +kernel
theorem dX5_init_91 : decode cX5_init 91 = .ok (.invokespecial 55, 3) := by decide +kernel
theorem dX5_init_94 : decode cX5_init 94 = .ok (.aastore, 1) := by decide +kernel
theorem dX5_init_95 : decode cX5_init 95 = .ok (.iinc 1 1, 3) := by decide +kernel
theorem dX5_init_98 : decode cX5_init 98 = .ok (.goto (-25), 3) := by decide +kernel
theorem dX5_init_101 : decode cX5_init 101 = .ok (.iconst 0, 1) := by decide +kernel
theorem dX5_init_102 : decode cX5_init 102 = .ok (.istore_n 1, 1) := by decide +kernel
theorem dX5_init_103 : decode cX5_init 103 = .ok (.iload_n 1, 1) := by decide +kernel
theorem dX5_init_104 : decode cX5_init 104 = .ok (.aload_n 0, 1) := by decide +kernel
theorem dX5_init_105 : decode cX5_init 105 = .ok (.getfield 19, 3) := by decide +kernel
theorem dX5_init_108 : decode cX5_init 108 = .ok (.arraylength, 1) := by decide +kernel
theorem dX5_init_109 : decode cX5_init 109 = .ok (.if_icmp .ge 22, 3) := by decide +kernel
theorem dX5_init_112 : decode cX5_init 112 = .ok (.aload_n 0, 1) := by decide +kernel
theorem dX5_init_113 : decode cX5_init 113 = .ok (.getfield 19, 3) := by decide +kernel
theorem dX5_init_116 : decode cX5_init 116 = .ok (.iload_n 1, 1) := by decide +kernel
theorem dX5_init_117 : decode cX5_init 117 = .ok (.new 17, 3) := by decide +kernel
theorem dX5_init_120 : decode cX5_init 120 = .ok (.dup, 1) := by decide +kernel
theorem dX5_init_121 : decode cX5_init 121 = .ok (.invokespecial 56, 3) := by decide +kernel
theorem dX5_init_124 : decode cX5_init 124 = .ok (.aastore, 1) := by decide +kernel
theorem dX5_init_125 : decode cX5_init 125 = .ok (.iinc 1 1, 3) := by decide +kernel
theorem dX5_init_128 : decode cX5_init 128 = .ok (.goto (-25), 3) := by decide +kernel
theorem dX5_init_131 : decode cX5_init 131 = .ok (.iconst 0, 1) := by decide +kernel
theorem dX5_init_132 : decode cX5_init 132 = .ok (.istore_n 1, 1) := by decide +kernel
theorem dX5_init_133 : decode cX5_init 133 = .ok (.iload_n 1, 1) := by decide +kernel
theorem dX5_init_134 : decode cX5_init 134 = .ok (.aload_n 0, 1) := by decide +kernel
theorem dX5_init_135 : decode cX5_init 135 = .ok (.getfield 25, 3) := by decide +kernel
theorem dX5_init_138 : decode cX5_init 138 = .ok (.arraylength, 1) := by decide +kernel
theorem dX5_init_139 : decode cX5_init 139 = .ok (.if_icmp .ge 22, 3) := by decide +kernel
theorem dX5_init_142 : decode cX5_init 142 = .ok (.aload_n 0, 1) := by decide +kernel
theorem dX5_init_143 : decode cX5_init 143 = .ok (.getfield 25, 3) := by decide +kernel
theorem dX5_init_146 : decode cX5_init 146 = .ok (.iload_n 1, 1) := by decide +kernel
theorem dX5_init_147 : decode cX5_init 147 = .ok (.new 23, 3) := by decide +kernel
theorem dX5_init_150 : decode cX5_init 150 = .ok (.dup, 1) := by decide +kernel
theorem dX5_init_151 : decode cX5_init 151 = .ok (.invokespecial 57, 3) := by decide +kernel
theorem dX5_init_154 : decode cX5_init 154 = .ok (.aastore, 1) := by decide +kernel
theorem dX5_init_155 : decode cX5_init 155 = .ok (.iinc 1 1, 3) := by decide +kernel
theorem dX5_init_158 : decode cX5_init 158 = .ok (.goto (-25), 3) := by decide +kernel
theorem dX5_init_161 : decode cX5_init 161 = .ok (.return_, 1) := by decide +kernel
theorem dX5_copyFrom_0 : decode cX5_copyFrom 0 = .ok (.iconst 0, 1) := by decide +kernel
theorem dX5_copyFrom_1 : decode cX5_copyFrom 1 = .ok (.istore_n 2, 1) := by decide +kernel
theorem dX5_copyFrom_2 : decode cX5_copyFrom 2 = .ok (.iload_n 2, 1) := by decide +kernel
theorem dX5_copyFrom_3 : decode cX5_copyFrom 3 = .ok (.aload_n 0, 1) := by decide +kernel
theorem dX5_copyFrom_4 : decode cX5_copyFrom 4 = .ok (.getfield 11, 3) := by decide +kernel
theorem dX5_copyFrom_7 : decode cX5_copyFrom 7 = .ok (.arraylength, 1) := by decide +kernel
theorem dX5_copyFrom_8 : decode cX5_copyFrom 8 = .ok (.if_icmp .ge 24, 3) := by decide +kernel
theorem dX5_copyFrom_11 : decode cX5_copyFrom 11 = .ok (.aload_n 0, 1) := by decide +kernel
theorem dX5_copyFrom_12 : decode cX5_copyFrom 12 = .ok (.getfield 11, 3) := by decide +kernel
theorem dX5_copyFrom_15 : decode cX5_copyFrom 15 = .ok (.iload_n 2, 1) := by decide +kernel
theorem dX5_copyFrom_16 : decode cX5_copyFrom 16 = .ok (.aaload, 1) := by decide +kernel
theorem dX5_copyFrom_17 : decode cX5_copyFrom 17 = .ok (.aload_n 1, 1) := by decide +kernel
theorem dX5_copyFrom_18 : decode cX5_copyFrom 18 = .ok (.getfield 11, 3) := by decide +kernel
theorem dX5_copyFrom_21 : decode cX5_copyFrom 21 = .ok (.iload_n 2, 1) := by decide +kernel
theorem dX5_copyFrom_22 : decode cX5_copyFrom 22 = .ok (.aaload, 1) := by decide +kernel
theorem dX5_copyFrom_23 : decode cX5_copyFrom 23 = .ok (.invokevirtual 58, 3) := by decide +kernel
theorem dX5_copyFrom_26 : decode cX5_copyFrom 26 = .ok (.iinc 2 1, 3) := by decide +kernel
theorem dX5_copyFrom_29 : decode cX5_copyFrom 29 = .ok (.goto (-27), 3) := by decide +kernel
theorem dX5_copyFrom_32 : decode cX5_copyFrom 32 = .ok (.iconst 0, 1) := by decide +kernel
theorem dX5_copyFrom_33 : decode cX5_copyFrom 33 = .ok (.istore_n 2, 1) := by decide +kernel
theorem dX5_copyFrom_34 : decode cX5_copyFrom 34 = .ok (.iload_n 2, 1) := by decide +kernel
theorem dX5_copyFrom_35 : decode cX5_copyFrom 35 = .ok (.aload_n 0, 1) := by decide +kernel
theorem dX5_copyFrom_36 : decode cX5_copyFrom 36 = .ok (.getfield 19, 3) := by decide +kernel
theorem dX5_copyFrom_39 : decode cX5_copyFrom 39 = .ok (.arraylength, 1) := by decide +kernel
theorem dX5_copyFrom_40 : decode cX5_copyFrom 40 = .ok (.if_icmp .ge 24, 3) := by decide +kernel
theorem dX5_copyFrom_43 : decode cX5_copyFrom 43 = .ok (.aload_n 0, 1) := by decide +kernel
theorem dX5_copyFrom_44 : decode cX5_copyFrom 44 = .ok (.getfield 19, 3) := by decide +kernel
theorem dX5_copyFrom_47 : decode cX5_copyFrom 47 = .ok (.iload_n 2, 1) := by decide +kernel
theorem dX5_copyFrom_48 : decode cX5_copyFrom 48 = .ok (.aaload, 1) := by decide +kernel
theorem dX5_copyFrom_49 : decode cX5_copyFrom 49 = .ok (.aload_n 1, 1) := by decide +kernel
theorem dX5_copyFrom_50 : decode cX5_copyFrom 50 = .ok (.getfield 19, 3) := by decide +kernel
theorem dX5_copyFrom_53 : decode cX5_copyFrom 53 = .ok (.iload_n 2, 1) := by decide +kernel
theorem dX5_copyFrom_54 : decode cX5_copyFrom 54 = .ok (.aaload, 1) := by decide +kernel
theorem dX5_copyFrom_55 : decode cX5_copyFrom 55 = .ok (.invokevirtual 62, 3) := by decide +kernel
theorem dX5_copyFrom_58 : decode cX5_copyFrom 58 = .ok (.iinc 2 1, 3) := by decide +kernel
theorem dX5_copyFrom_61 : decode cX5_copyFrom 61 = .ok (.goto (-27), 3) := by decide +kernel
theorem dX5_copyFrom_64 : decode cX5_copyFrom 64 = .ok (.iconst 0, 1) := by decide +kernel
theorem dX5_copyFrom_65 : decode cX5_copyFrom 65 = .ok (.istore_n 2, 1) := by decide +kernel
theorem dX5_copyFrom_66 : decode cX5_copyFrom 66 = .ok (.iload_n 2, 1) := by decide +kernel
theorem dX5_copyFrom_67 : decode cX5_copyFrom 67 = .ok (.aload_n 0, 1) := by decide +kernel
theorem dX5_copyFrom_68 : decode cX5_copyFrom 68 = .ok (.getfield 25, 3) := by decide +kernel
theorem dX5_copyFrom_71 : decode cX5_copyFrom 71 = .ok (.arraylength, 1) := by decide +kernel
theorem dX5_copyFrom_72 : decode cX5_copyFrom 72 = .ok (.if_icmp .ge 24, 3) := by decide +kernel
theorem dX5_copyFrom_75 : decode cX5_copyFrom 75 = .ok (.aload_n 0, 1) := by decide +kernel
theorem dX5_copyFrom_76 : decode cX5_copyFrom 76 = .ok (.getfield 25, 3) := by decide +kernel
theorem dX5_copyFrom_79 : decode cX5_copyFrom 79 = .ok (.iload_n 2, 1) := by decide +kernel
theorem dX5_copyFrom_80 : decode cX5_copyFrom 80 = .ok (.aaload, 1) := by decide +kernel
theorem dX5_copyFrom_81 : decode cX5_copyFrom 81 = .ok (.aload_n 1, 1) := by decide +kernel
theorem dX5_copyFrom_82 : decode cX5_copyFrom 82 = .ok (.getfield 25, 3) := by decide +kernel
theorem dX5_copyFrom_85 : decode cX5_copyFrom 85 = .ok (.iload_n 2, 1) := by decide +kernel
theorem dX5_copyFrom_86 : decode cX5_copyFrom 86 = .ok (.aaload, 1) := by decide +kernel
theorem dX5_copyFrom_87 : decode cX5_copyFrom 87 = .ok (.invokevirtual 65, 3) := by decide +kernel
theorem dX5_copyFrom_90 : decode cX5_copyFrom 90 = .ok (.iinc 2 1, 3) := by decide +kernel
theorem dX5_copyFrom_93 : decode cX5_copyFrom 93 = .ok (.goto (-27), 3) := by decide +kernel
theorem dX5_copyFrom_96 : decode cX5_copyFrom 96 = .ok (.iconst 0, 1) := by decide +kernel
theorem dX5_copyFrom_97 : decode cX5_copyFrom 97 = .ok (.istore_n 2, 1) := by decide +kernel
theorem dX5_copyFrom_98 : decode cX5_copyFrom 98 = .ok (.iload_n 2, 1) := by decide +kernel
theorem dX5_copyFrom_99 : decode cX5_copyFrom 99 = .ok (.aload_n 0, 1) := by decide +kernel
theorem dX5_copyFrom_100 : decode cX5_copyFrom 100 = .ok (.getfield 33, 3) := by decide +kernel
theorem dX5_copyFrom_103 : decode cX5_copyFrom 103 = .ok (.arraylength, 1) := by decide +kernel
theorem dX5_copyFrom_104 : decode cX5_copyFrom 104 = .ok (.if_icmp .ge 21, 3) := by decide +kernel
theorem dX5_copyFrom_107 : decode cX5_copyFrom 107 = .ok (.aload_n 0, 1) := by decide +kernel
theorem dX5_copyFrom_108 : decode cX5_copyFrom 108 = .ok (.getfield 33, 3) := by decide +kernel
theorem dX5_copyFrom_111 : decode cX5_copyFrom 111 = .ok (.iload_n 2, 1) := by decide +kernel
theorem dX5_copyFrom_112 : decode cX5_copyFrom 112 = .ok (.aload_n 1, 1) := by decide +kernel
theorem dX5_copyFrom_113 : decode cX5_copyFrom 113 = .ok (.getfield 33, 3) := by decide +kernel
theorem dX5_copyFrom_116 : decode cX5_copyFrom 116 = .ok (.iload_n 2, 1) := by decide +kernel
theorem dX5_copyFrom_117 : decode cX5_copyFrom 117 = .ok (.iaload, 1) := by decide +kernel
theorem dX5_copyFrom_118 : decode cX5_copyFrom 118 = .ok (.iastore, 1) := by decide +kernel
theorem dX5_copyFrom_119 : decode cX5_copyFrom 119 = .ok (.iinc 2 1, 3) := by decide +kernel
theorem dX5_copyFrom_122 : decode cX5_copyFrom 122 = .ok (.goto (-24), 3) := by decide +kernel
theorem dX5_copyFrom_125 : decode cX5_copyFrom 125 = .ok (.aload_n 0, 1) := by decide +kernel
theorem dX5_copyFrom_126 : decode cX5_copyFrom 126 = .ok (.aload_n 1, 1) := by decide +kernel
theorem dX5_copyFrom_127 : decode cX5_copyFrom 127 = .ok (.getfield 36, 3) := by decide +kernel
theorem dX5_copyFrom_130 : decode cX5_copyFrom 130 = .ok (.putfield 36, 3) := by decide +kernel
theorem dX5_copyFrom_133 : decode cX5_copyFrom 133 = .ok (.aload_n 0, 1) := by decide +kernel
theorem dX5_copyFrom_134 : decode cX5_copyFrom 134 = .ok (.aload_n 1, 1) := by decide +kernel
theorem dX5_copyFrom_135 : decode cX5_copyFrom 135 = .ok (.getfield 40, 3) := by decide +kernel
theorem dX5_copyFrom_138 : decode cX5_copyFrom 138 = .ok (.putfield 40, 3) := by decide +kernel
theorem dX5_copyFrom_141 : decode cX5_copyFrom 141 = .ok (.aload_n 0, 1) := by decide +kernel
theorem dX5_copyFrom_142 : decode cX5_copyFrom 142 = .ok (.aload_n 1, 1) := by decide +kernel
theorem dX5_copyFrom_143 : decode cX5_copyFrom 143 = .ok (.getfield 43, 3) := by decide +kernel
theorem dX5_copyFrom_146 : decode cX5_copyFrom 146 = .ok (.putfield 43, 3) := by decide +kernel
theorem dX5_copyFrom_149 : decode cX5_copyFrom 149 = .ok (.aload_n 0, 1) := by decide +kernel
theorem dX5_copyFrom_150 : decode cX5_copyFrom 150 = .ok (.aload_n 1, 1) := by decide +kernel
theorem dX5_copyFrom_151 : decode cX5_copyFrom 151 = .ok (.getfield 46, 3) := by decide +kernel
theorem dX5_copyFrom_154 : decode cX5_copyFrom 154 = .ok (.putfield 46, 3) := by decide +kernel
theorem dX5_copyFrom_157 : decode cX5_copyFrom 157 = .ok (.aload_n 0, 1) := by decide +kernel
theorem dX5_copyFrom_158 : decode cX5_copyFrom 158 = .ok (.aload_n 1, 1) := by decide +kernel
theorem dX5_copyFrom_159 : decode cX5_copyFrom 159 = .ok (.getfield 49, 3) := by decide +kernel
theorem dX5_copyFrom_162 : decode cX5_copyFrom 162 = .ok (.putfield 49, 3) := by decide +kernel
theorem dX5_copyFrom_165 : decode cX5_copyFrom 165 = .ok (.aload_n 0, 1) := by decide +kernel
theorem dX5_copyFrom_166 : decode cX5_copyFrom 166 = .ok (.aload_n 1, 1) := by decide +kernel
theorem dX5_copyFrom_167 : decode cX5_copyFrom 167 = .ok (.getfield 52, 3) := by decide +kernel
theorem dX5_copyFrom_170 : decode cX5_copyFrom 170 = .ok (.putfield 52, 3) := by decide +kernel
theorem dX5_copyFrom_173 : decode cX5_copyFrom 173 = .ok (.return_, 1) := by decide +kernel
theorem dX5_hasInvestor_0 : decode cX5_hasInvestor 0 = .ok (.iload_n 1, 1) := by decide +kernel
theorem dX5_hasInvestor_1 : decode cX5_hasInvestor 1 = .ok (.ifCond .lt 15, 3) := by decide +kernel
theorem dX5_hasInvestor_4 : decode cX5_hasInvestor 4 = .ok (.iload_n 1, 1) := by decide +kernel
theorem dX5_hasInvestor_5 : decode cX5_hasInvestor 5 = .ok (.aload_n 0, 1) := by decide +kernel
theorem dX5_hasInvestor_6 : decode cX5_hasInvestor 6 = .ok (.getfield 36, 3) := by decide +kernel
theorem dX5_hasInvestor_9 : decode cX5_hasInvestor 9 = .ok (.if_icmp .ge 7, 3) := by decide +kernel
theorem dX5_hasInvestor_12 : decode cX5_hasInvestor 12 = .ok (.iconst 1, 1) := by decide +kernel
theorem dX5_hasInvestor_13 : decode cX5_hasInvestor 13 = .ok (.goto 4, 3) := by decide +kernel
theorem dX5_hasInvestor_16 : decode cX5_hasInvestor 16 = .ok (.iconst 0, 1) := by decide +kernel
theorem dX5_hasInvestor_17 : decode cX5_hasInvestor 17 = .ok (.ireturn, 1) := by decide +kernel
theorem dX5_hasLoan_0 : decode cX5_hasLoan 0 = .ok (.iload_n 1, 1) := by decide +kernel
theorem dX5_hasLoan_1 : decode cX5_hasLoan 1 = .ok (.ifCond .lt 15, 3) := by decide +kernel
theorem dX5_hasLoan_4 : decode cX5_hasLoan 4 = .ok (.iload_n 1, 1) := by decide +kernel
theorem dX5_hasLoan_5 : decode cX5_hasLoan 5 = .ok (.aload_n 0, 1) := by decide +kernel
theorem dX5_hasLoan_6 : decode cX5_hasLoan 6 = .ok (.getfield 40, 3) := by decide +kernel
theorem dX5_hasLoan_9 : decode cX5_hasLoan 9 = .ok (.if_icmp .ge 7, 3) := by decide +kernel
theorem dX5_hasLoan_12 : decode cX5_hasLoan 12 = .ok (.iconst 1, 1) := by decide +kernel
theorem dX5_hasLoan_13 : decode cX5_hasLoan 13 = .ok (.goto 4, 3) := by decide +kernel
theorem dX5_hasLoan_16 : decode cX5_hasLoan 16 = .ok (.iconst 0, 1) := by decide +kernel
theorem dX5_hasLoan_17 : decode cX5_hasLoan 17 = .ok (.ireturn, 1) := by decide +kernel
theorem dX5_hasNote_0 : decode cX5_hasNote 0 = .ok (.iload_n 1, 1) := by decide +kernel
theorem dX5_hasNote_1 : decode cX5_hasNote 1 = .ok (.ifCond .lt 15, 3) := by decide +kernel
theorem dX5_hasNote_4 : decode cX5_hasNote 4 = .ok (.iload_n 1, 1) := by decide +kernel
theorem dX5_hasNote_5 : decode cX5_hasNote 5 = .ok (.aload_n 0, 1) := by decide +kernel
theorem dX5_hasNote_6 : decode cX5_hasNote 6 = .ok (.getfield 43, 3) := by decide +kernel
theorem dX5_hasNote_9 : decode cX5_hasNote 9 = .ok (.if_icmp .ge 7, 3) := by decide +kernel
theorem dX5_hasNote_12 : decode cX5_hasNote 12 = .ok (.iconst 1, 1) := by decide +kernel
theorem dX5_hasNote_13 : decode cX5_hasNote 13 = .ok (.goto 4, 3) := by decide +kernel
theorem dX5_hasNote_16 : decode cX5_hasNote 16 = .ok (.iconst 0, 1) := by decide +kernel
theorem dX5_hasNote_17 : decode cX5_hasNote 17 = .ok (.ireturn, 1) := by decide +kernel
theorem dX5_runs_0 : decode cX5_runs 0 = .ok (.aload_n 0, 1) := by decide +kernel
theorem dX5_runs_1 : decode cX5_runs 1 = .ok (.iload_n 1, 1) := by decide +kernel
theorem dX5_runs_2 : decode cX5_runs 2 = .ok (.invokevirtual 68, 3) := by decide +kernel
theorem dX5_runs_5 : decode cX5_runs 5 = .ok (.ifCond .eq 20, 3) := by decide +kernel
theorem dX5_runs_8 : decode cX5_runs 8 = .ok (.aload_n 0, 1) := by decide +kernel
theorem dX5_runs_9 : decode cX5_runs 9 = .ok (.getfield 19, 3) := by decide +kernel
theorem dX5_runs_12 : decode cX5_runs 12 = .ok (.iload_n 1, 1) := by decide +kernel
theorem dX5_runs_13 : decode cX5_runs 13 = .ok (.aaload, 1) := by decide +kernel
theorem dX5_runs_14 : decode cX5_runs 14 = .ok (.getfield 72, 3) := by decide +kernel
theorem dX5_runs_17 : decode cX5_runs 17 = .ok (.iconst 1, 1) := by decide +kernel
theorem dX5_runs_18 : decode cX5_runs 18 = .ok (.if_icmp .ne 7, 3) := by decide +kernel
theorem dX5_runs_21 : decode cX5_runs 21 = .ok (.iconst 1, 1) := by decide +kernel
theorem dX5_runs_22 : decode cX5_runs 22 = .ok (.goto 4, 3) := by decide +kernel
theorem dX5_runs_25 : decode cX5_runs 25 = .ok (.iconst 0, 1) := by decide +kernel
theorem dX5_runs_26 : decode cX5_runs 26 = .ok (.ireturn, 1) := by decide +kernel
theorem dX5_cashOf_0 : decode cX5_cashOf 0 = .ok (.aload_n 0, 1) := by decide +kernel
theorem dX5_cashOf_1 : decode cX5_cashOf 1 = .ok (.iload_n 1, 1) := by decide +kernel
theorem dX5_cashOf_2 : decode cX5_cashOf 2 = .ok (.invokevirtual 75, 3) := by decide +kernel
theorem dX5_cashOf_5 : decode cX5_cashOf 5 = .ok (.ifCond .eq 15, 3) := by decide +kernel
theorem dX5_cashOf_8 : decode cX5_cashOf 8 = .ok (.aload_n 0, 1) := by decide +kernel
theorem dX5_cashOf_9 : decode cX5_cashOf 9 = .ok (.getfield 11, 3) := by decide +kernel
theorem dX5_cashOf_12 : decode cX5_cashOf 12 = .ok (.iload_n 1, 1) := by decide +kernel
theorem dX5_cashOf_13 : decode cX5_cashOf 13 = .ok (.aaload, 1) := by decide +kernel
theorem dX5_cashOf_14 : decode cX5_cashOf 14 = .ok (.getfield 78, 3) := by decide +kernel
theorem dX5_cashOf_17 : decode cX5_cashOf 17 = .ok (.goto 4, 3) := by decide +kernel
theorem dX5_cashOf_20 : decode cX5_cashOf 20 = .ok (.iconst 0, 1) := by decide +kernel
theorem dX5_cashOf_21 : decode cX5_cashOf 21 = .ok (.ireturn, 1) := by decide +kernel
theorem dX5_give_0 : decode cX5_give 0 = .ok (.aload_n 0, 1) := by decide +kernel
theorem dX5_give_1 : decode cX5_give 1 = .ok (.iload_n 1, 1) := by decide +kernel
theorem dX5_give_2 : decode cX5_give 2 = .ok (.invokevirtual 75, 3) := by decide +kernel
theorem dX5_give_5 : decode cX5_give 5 = .ok (.ifCond .eq 18, 3) := by decide +kernel
theorem dX5_give_8 : decode cX5_give 8 = .ok (.aload_n 0, 1) := by decide +kernel
theorem dX5_give_9 : decode cX5_give 9 = .ok (.getfield 11, 3) := by decide +kernel
theorem dX5_give_12 : decode cX5_give 12 = .ok (.iload_n 1, 1) := by decide +kernel
theorem dX5_give_13 : decode cX5_give 13 = .ok (.aaload, 1) := by decide +kernel
theorem dX5_give_14 : decode cX5_give 14 = .ok (.dup, 1) := by decide +kernel
theorem dX5_give_15 : decode cX5_give 15 = .ok (.getfield 78, 3) := by decide +kernel
theorem dX5_give_18 : decode cX5_give 18 = .ok (.iload_n 2, 1) := by decide +kernel
theorem dX5_give_19 : decode cX5_give 19 = .ok (.iadd, 1) := by decide +kernel
theorem dX5_give_20 : decode cX5_give 20 = .ok (.putfield 78, 3) := by decide +kernel
theorem dX5_give_23 : decode cX5_give 23 = .ok (.return_, 1) := by decide +kernel
theorem dX5_fundingError_0 : decode cX5_fundingError 0 = .ok (.aload_n 0, 1) := by decide +kernel
theorem dX5_fundingError_1 : decode cX5_fundingError 1 = .ok (.iload_n 1, 1) := by decide +kernel
theorem dX5_fundingError_2 : decode cX5_fundingError 2 = .ok (.invokevirtual 75, 3) := by decide +kernel
theorem dX5_fundingError_5 : decode cX5_fundingError 5 = .ok (.ifCond .eq 11, 3) := by decide +kernel
theorem dX5_fundingError_8 : decode cX5_fundingError 8 = .ok (.aload_n 0, 1) := by decide +kernel
theorem dX5_fundingError_9 : decode cX5_fundingError 9 = .ok (.iload_n 2, 1) := by decide +kernel
theorem dX5_fundingError_10 : decode cX5_fundingError 10 = .ok (.invokevirtual 68, 3) := by decide +kernel
theorem dX5_fundingError_13 : decode cX5_fundingError 13 = .ok (.ifCond .ne 5, 3) := by decide +kernel
theorem dX5_fundingError_16 : decode cX5_fundingError 16 = .ok (.iconst (-1), 1) := by decide +kernel
theorem dX5_fundingError_17 : decode cX5_fundingError 17 = .ok (.ireturn, 1) := by decide +kernel
theorem dX5_fundingError_18 : decode cX5_fundingError 18 = .ok (.iload_n 3, 1) := by decide +kernel
theorem dX5_fundingError_19 : decode cX5_fundingError 19 = .ok (.iconst 1, 1) := by decide +kernel
theorem dX5_fundingError_20 : decode cX5_fundingError 20 = .ok (.if_icmp .lt 9, 3) := by decide +kernel
theorem dX5_fundingError_23 : decode cX5_fundingError 23 = .ok (.iload_n 3, 1) := by decide +kernel
theorem dX5_fundingError_24 : decode cX5_fundingError 24 = .ok (.ldc 81, 2) := by decide +kernel
theorem dX5_fundingError_26 : decode cX5_fundingError 26 = .ok (.if_icmp .le 6, 3) := by decide +kernel
theorem dX5_fundingError_29 : decode cX5_fundingError 29 = .ok (.bipush (-2), 2) := by decide +kernel
theorem dX5_fundingError_31 : decode cX5_fundingError 31 = .ok (.ireturn, 1) := by decide +kernel
theorem dX5_fundingError_32 : decode cX5_fundingError 32 = .ok (.aload_n 0, 1) := by decide +kernel
theorem dX5_fundingError_33 : decode cX5_fundingError 33 = .ok (.getfield 19, 3) := by decide +kernel
theorem dX5_fundingError_36 : decode cX5_fundingError 36 = .ok (.iload_n 2, 1) := by decide +kernel
theorem dX5_fundingError_37 : decode cX5_fundingError 37 = .ok (.aaload, 1) := by decide +kernel
theorem dX5_fundingError_38 : decode cX5_fundingError 38 = .ok (.getfield 72, 3) := by decide +kernel
theorem dX5_fundingError_41 : decode cX5_fundingError 41 = .ok (.ifCond .ne 25, 3) := by decide +kernel
theorem dX5_fundingError_44 : decode cX5_fundingError 44 = .ok (.iload_n 3, 1) := by decide +kernel
theorem dX5_fundingError_45 : decode cX5_fundingError 45 = .ok (.aload_n 0, 1) := by decide +kernel
theorem dX5_fundingError_46 : decode cX5_fundingError 46 = .ok (.iload_n 2, 1) := by decide +kernel
theorem dX5_fundingError_47 : decode cX5_fundingError 47 = .ok (.invokevirtual 82, 3) := by decide +kernel
theorem dX5_fundingError_50 : decode cX5_fundingError 50 = .ok (.if_icmp .gt 16, 3) := by decide +kernel
theorem dX5_fundingError_53 : decode cX5_fundingError 53 = .ok (.iload_n 3, 1) := by decide +kernel
theorem dX5_fundingError_54 : decode cX5_fundingError 54 = .ok (.aload_n 0, 1) := by decide +kernel
theorem dX5_fundingError_55 : decode cX5_fundingError 55 = .ok (.getfield 11, 3) := by decide +kernel
theorem dX5_fundingError_58 : decode cX5_fundingError 58 = .ok (.iload_n 1, 1) := by decide +kernel
theorem dX5_fundingError_59 : decode cX5_fundingError 59 = .ok (.aaload, 1) := by decide +kernel
theorem dX5_fundingError_60 : decode cX5_fundingError 60 = .ok (.getfield 78, 3) := by decide +kernel
theorem dX5_fundingError_63 : decode cX5_fundingError 63 = .ok (.if_icmp .le 6, 3) := by decide +kernel
theorem dX5_fundingError_66 : decode cX5_fundingError 66 = .ok (.bipush (-4), 2) := by decide +kernel
theorem dX5_fundingError_68 : decode cX5_fundingError 68 = .ok (.ireturn, 1) := by decide +kernel
theorem dX5_fundingError_69 : decode cX5_fundingError 69 = .ok (.aload_n 0, 1) := by decide +kernel
theorem dX5_fundingError_70 : decode cX5_fundingError 70 = .ok (.getfield 43, 3) := by decide +kernel
theorem dX5_fundingError_73 : decode cX5_fundingError 73 = .ok (.bipush 60, 2) := by decide +kernel
theorem dX5_fundingError_75 : decode cX5_fundingError 75 = .ok (.if_icmp .lt 8, 3) := by decide +kernel
theorem dX5_fundingError_78 : decode cX5_fundingError 78 = .ok (.bipush (-3), 2) := by decide +kernel
theorem dX5_fundingError_80 : decode cX5_fundingError 80 = .ok (.goto 4, 3) := by decide +kernel
theorem dX5_fundingError_83 : decode cX5_fundingError 83 = .ok (.iconst 0, 1) := by decide +kernel
theorem dX5_fundingError_84 : decode cX5_fundingError 84 = .ok (.ireturn, 1) := by decide +kernel
theorem dX5_addNote_0 : decode cX5_addNote 0 = .ok (.aload_n 0, 1) := by decide +kernel
theorem dX5_addNote_1 : decode cX5_addNote 1 = .ok (.iload_n 1, 1) := by decide +kernel
theorem dX5_addNote_2 : decode cX5_addNote 2 = .ok (.iload_n 2, 1) := by decide +kernel
theorem dX5_addNote_3 : decode cX5_addNote 3 = .ok (.iload 4, 2) := by decide +kernel
theorem dX5_addNote_5 : decode cX5_addNote 5 = .ok (.invokevirtual 86, 3) := by decide +kernel
theorem dX5_addNote_8 : decode cX5_addNote 8 = .ok (.ifCond .eq 4, 3) := by decide +kernel
theorem dX5_addNote_11 : decode cX5_addNote 11 = .ok (.return_, 1) := by decide +kernel
theorem dX5_addNote_12 : decode cX5_addNote 12 = .ok (.aload_n 0, 1) := by decide +kernel
theorem dX5_addNote_13 : decode cX5_addNote 13 = .ok (.getfield 25, 3) := by decide +kernel
theorem dX5_addNote_16 : decode cX5_addNote 16 = .ok (.aload_n 0, 1) := by decide +kernel
theorem dX5_addNote_17 : decode cX5_addNote 17 = .ok (.getfield 43, 3) := by decide +kernel
theorem dX5_addNote_20 : decode cX5_addNote 20 = .ok (.aaload, 1) := by decide +kernel
theorem dX5_addNote_21 : decode cX5_addNote 21 = .ok (.iload_n 1, 1) := by decide +kernel
theorem dX5_addNote_22 : decode cX5_addNote 22 = .ok (.iload_n 2, 1) := by decide +kernel
theorem dX5_addNote_23 : decode cX5_addNote 23 = .ok (.iload_n 3, 1) := by decide +kernel
theorem dX5_addNote_24 : decode cX5_addNote 24 = .ok (.iload 4, 2) := by decide +kernel
theorem dX5_addNote_26 : decode cX5_addNote 26 = .ok (.invokevirtual 90, 3) := by decide +kernel
theorem dX5_addNote_29 : decode cX5_addNote 29 = .ok (.aload_n 0, 1) := by decide +kernel
theorem dX5_addNote_30 : decode cX5_addNote 30 = .ok (.dup, 1) := by decide +kernel
theorem dX5_addNote_31 : decode cX5_addNote 31 = .ok (.getfield 43, 3) := by decide +kernel
theorem dX5_addNote_34 : decode cX5_addNote 34 = .ok (.iconst 1, 1) := by decide +kernel
theorem dX5_addNote_35 : decode cX5_addNote 35 = .ok (.iadd, 1) := by decide +kernel
theorem dX5_addNote_36 : decode cX5_addNote 36 = .ok (.putfield 43, 3) := by decide +kernel
theorem dX5_addNote_39 : decode cX5_addNote 39 = .ok (.aload_n 0, 1) := by decide +kernel
theorem dX5_addNote_40 : decode cX5_addNote 40 = .ok (.iload_n 1, 1) := by decide +kernel
theorem dX5_addNote_41 : decode cX5_addNote 41 = .ok (.iload 4, 2) := by decide +kernel
theorem dX5_addNote_43 : decode cX5_addNote 43 = .ok (.ineg, 1) := by decide +kernel
theorem dX5_addNote_44 : decode cX5_addNote 44 = .ok (.invokevirtual 94, 3) := by decide +kernel
theorem dX5_addNote_47 : decode cX5_addNote 47 = .ok (.aload_n 0, 1) := by decide +kernel
theorem dX5_addNote_48 : decode cX5_addNote 48 = .ok (.iload_n 2, 1) := by decide +kernel
theorem dX5_addNote_49 : decode cX5_addNote 49 = .ok (.invokevirtual 82, 3) := by decide +kernel
theorem dX5_addNote_52 : decode cX5_addNote 52 = .ok (.ifCond .ne 12, 3) := by decide +kernel
theorem dX5_addNote_55 : decode cX5_addNote 55 = .ok (.aload_n 0, 1) := by decide +kernel
theorem dX5_addNote_56 : decode cX5_addNote 56 = .ok (.getfield 19, 3) := by decide +kernel
theorem dX5_addNote_59 : decode cX5_addNote 59 = .ok (.iload_n 2, 1) := by decide +kernel
theorem dX5_addNote_60 : decode cX5_addNote 60 = .ok (.aaload, 1) := by decide +kernel
theorem dX5_addNote_61 : decode cX5_addNote 61 = .ok (.invokevirtual 98, 3) := by decide +kernel
theorem dX5_addNote_64 : decode cX5_addNote 64 = .ok (.return_, 1) := by decide +kernel
theorem dX5_takePayment_0 : decode cX5_takePayment 0 = .ok (.aload_n 0, 1) := by decide +kernel
theorem dX5_takePayment_1 : decode cX5_takePayment 1 = .ok (.iload_n 1, 1) := by decide +kernel
theorem dX5_takePayment_2 : decode cX5_takePayment 2 = .ok (.invokevirtual 68, 3) := by decide +kernel
theorem dX5_takePayment_5 : decode cX5_takePayment 5 = .ok (.ifCond .ne 4, 3) := by decide +kernel
theorem dX5_takePayment_8 : decode cX5_takePayment 8 = .ok (.return_, 1) := by decide +kernel
theorem dX5_takePayment_9 : decode cX5_takePayment 9 = .ok (.aload_n 0, 1) := by decide +kernel
theorem dX5_takePayment_10 : decode cX5_takePayment 10 = .ok (.getfield 19, 3) := by decide +kernel
theorem dX5_takePayment_13 : decode cX5_takePayment 13 = .ok (.iload_n 1, 1) := by decide +kernel
theorem dX5_takePayment_14 : decode cX5_takePayment 14 = .ok (.aaload, 1) := by decide +kernel
theorem dX5_takePayment_15 : decode cX5_takePayment 15 = .ok (.getfield 101, 3) := by decide +kernel
theorem dX5_takePayment_18 : decode cX5_takePayment 18 = .ok (.istore_n 3, 1) := by decide +kernel
theorem dX5_takePayment_19 : decode cX5_takePayment 19 = .ok (.iload_n 3, 1) := by decide +kernel
theorem dX5_takePayment_20 : decode cX5_takePayment 20 = .ok (.invokestatic 104, 3) := by decide +kernel
theorem dX5_takePayment_23 : decode cX5_takePayment 23 = .ok (.ifCond .eq 16, 3) := by decide +kernel
theorem dX5_takePayment_26 : decode cX5_takePayment 26 = .ok (.aload_n 0, 1) := by decide +kernel
theorem dX5_takePayment_27 : decode cX5_takePayment 27 = .ok (.getfield 33, 3) := by decide +kernel
theorem dX5_takePayment_30 : decode cX5_takePayment 30 = .ok (.iload_n 3, 1) := by decide +kernel
theorem dX5_takePayment_31 : decode cX5_takePayment 31 = .ok (.dup2, 1) := by decide +kernel
theorem dX5_takePayment_32 : decode cX5_takePayment 32 = .ok (.iaload, 1) := by decide +kernel
theorem dX5_takePayment_33 : decode cX5_takePayment 33 = .ok (.aload_n 2, 1) := by decide +kernel
theorem dX5_takePayment_34 : decode cX5_takePayment 34 = .ok (.getfield 107, 3) := by decide +kernel
theorem dX5_takePayment_37 : decode cX5_takePayment 37 = .ok (.iadd, 1) := by decide +kernel
theorem dX5_takePayment_38 : decode cX5_takePayment 38 = .ok (.iastore, 1) := by decide +kernel
theorem dX5_takePayment_39 : decode cX5_takePayment 39 = .ok (.aload_n 0, 1) := by decide +kernel
theorem dX5_takePayment_40 : decode cX5_takePayment 40 = .ok (.dup, 1) := by decide +kernel
theorem dX5_takePayment_41 : decode cX5_takePayment 41 = .ok (.getfield 49, 3) := by decide +kernel
theorem dX5_takePayment_44 : decode cX5_takePayment 44 = .ok (.aload_n 2, 1) := by decide +kernel
theorem dX5_takePayment_45 : decode cX5_takePayment 45 = .ok (.getfield 112, 3) := by decide +kernel
theorem dX5_takePayment_48 : decode cX5_takePayment 48 = .ok (.iadd, 1) := by decide +kernel
theorem dX5_takePayment_49 : decode cX5_takePayment 49 = .ok (.putfield 49, 3) := by decide +kernel
theorem dX5_takePayment_52 : decode cX5_takePayment 52 = .ok (.aload_n 0, 1) := by decide +kernel
theorem dX5_takePayment_53 : decode cX5_takePayment 53 = .ok (.getfield 19, 3) := by decide +kernel
theorem dX5_takePayment_56 : decode cX5_takePayment 56 = .ok (.iload_n 1, 1) := by decide +kernel
theorem dX5_takePayment_57 : decode cX5_takePayment 57 = .ok (.aaload, 1) := by decide +kernel
theorem dX5_takePayment_58 : decode cX5_takePayment 58 = .ok (.aload_n 2, 1) := by decide +kernel
theorem dX5_takePayment_59 : decode cX5_takePayment 59 = .ok (.getfield 115, 3) := by decide +kernel
theorem dX5_takePayment_62 : decode cX5_takePayment 62 = .ok (.aload_n 2, 1) := by decide +kernel
theorem dX5_takePayment_63 : decode cX5_takePayment 63 = .ok (.getfield 118, 3) := by decide +kernel
theorem dX5_takePayment_66 : decode cX5_takePayment 66 = .ok (.invokevirtual 121, 3) := by decide +kernel
theorem dX5_takePayment_69 : decode cX5_takePayment 69 = .ok (.return_, 1) := by decide +kernel
theorem dX5_writeOff_0 : decode cX5_writeOff 0 = .ok (.iconst 0, 1) := by decide +kernel
theorem dX5_writeOff_1 : decode cX5_writeOff 1 = .ok (.istore_n 2, 1) := by decide +kernel
theorem dX5_writeOff_2 : decode cX5_writeOff 2 = .ok (.iconst 0, 1) := by decide +kernel
theorem dX5_writeOff_3 : decode cX5_writeOff 3 = .ok (.istore_n 3, 1) := by decide +kernel
theorem dX5_writeOff_4 : decode cX5_writeOff 4 = .ok (.iload_n 3, 1) := by decide +kernel
theorem dX5_writeOff_5 : decode cX5_writeOff 5 = .ok (.aload_n 0, 1) := by decide +kernel
theorem dX5_writeOff_6 : decode cX5_writeOff 6 = .ok (.getfield 43, 3) := by decide +kernel
theorem dX5_writeOff_9 : decode cX5_writeOff 9 = .ok (.if_icmp .ge 85, 3) := by decide +kernel
theorem dX5_writeOff_12 : decode cX5_writeOff 12 = .ok (.aload_n 0, 1) := by decide +kernel
theorem dX5_writeOff_13 : decode cX5_writeOff 13 = .ok (.getfield 25, 3) := by decide +kernel
theorem dX5_writeOff_16 : decode cX5_writeOff 16 = .ok (.iload_n 3, 1) := by decide +kernel
theorem dX5_writeOff_17 : decode cX5_writeOff 17 = .ok (.aaload, 1) := by decide +kernel
theorem dX5_writeOff_18 : decode cX5_writeOff 18 = .ok (.astore 4, 2) := by decide +kernel
theorem dX5_writeOff_20 : decode cX5_writeOff 20 = .ok (.aload 4, 2) := by decide +kernel
theorem dX5_writeOff_22 : decode cX5_writeOff 22 = .ok (.getfield 124, 3) := by decide +kernel
theorem dX5_writeOff_25 : decode cX5_writeOff 25 = .ok (.iload_n 1, 1) := by decide +kernel
theorem dX5_writeOff_26 : decode cX5_writeOff 26 = .ok (.if_icmp .ne 62, 3) := by decide +kernel
theorem dX5_writeOff_29 : decode cX5_writeOff 29 = .ok (.aload 4, 2) := by decide +kernel
theorem dX5_writeOff_31 : decode cX5_writeOff 31 = .ok (.aload 4, 2) := by decide +kernel
theorem dX5_writeOff_33 : decode cX5_writeOff 33 = .ok (.getfield 127, 3) := by decide +kernel
theorem dX5_writeOff_36 : decode cX5_writeOff 36 = .ok (.putfield 128, 3) := by decide +kernel
theorem dX5_writeOff_39 : decode cX5_writeOff 39 = .ok (.aload 4, 2) := by decide +kernel
theorem dX5_writeOff_41 : decode cX5_writeOff 41 = .ok (.iconst 0, 1) := by decide +kernel
theorem dX5_writeOff_42 : decode cX5_writeOff 42 = .ok (.putfield 127, 3) := by decide +kernel
theorem dX5_writeOff_45 : decode cX5_writeOff 45 = .ok (.iload_n 2, 1) := by decide +kernel
theorem dX5_writeOff_46 : decode cX5_writeOff 46 = .ok (.aload 4, 2) := by decide +kernel
theorem dX5_writeOff_48 : decode cX5_writeOff 48 = .ok (.getfield 128, 3) := by decide +kernel
theorem dX5_writeOff_51 : decode cX5_writeOff 51 = .ok (.iadd, 1) := by decide +kernel
theorem dX5_writeOff_52 : decode cX5_writeOff 52 = .ok (.istore_n 2, 1) := by decide +kernel
theorem dX5_writeOff_53 : decode cX5_writeOff 53 = .ok (.aload_n 0, 1) := by decide +kernel
theorem dX5_writeOff_54 : decode cX5_writeOff 54 = .ok (.aload 4, 2) := by decide +kernel
theorem dX5_writeOff_56 : decode cX5_writeOff 56 = .ok (.getfield 131, 3) := by decide +kernel
theorem dX5_writeOff_59 : decode cX5_writeOff 59 = .ok (.invokevirtual 75, 3) := by decide +kernel
theorem dX5_writeOff_62 : decode cX5_writeOff 62 = .ok (.ifCond .eq 26, 3) := by decide +kernel
theorem dX5_writeOff_65 : decode cX5_writeOff 65 = .ok (.aload_n 0, 1) := by decide +kernel
theorem dX5_writeOff_66 : decode cX5_writeOff 66 = .ok (.getfield 11, 3) := by decide +kernel
theorem dX5_writeOff_69 : decode cX5_writeOff 69 = .ok (.aload 4, 2) := by decide +kernel
theorem dX5_writeOff_71 : decode cX5_writeOff 71 = .ok (.getfield 131, 3) := by decide +kernel
theorem dX5_writeOff_74 : decode cX5_writeOff 74 = .ok (.aaload, 1) := by decide +kernel
theorem dX5_writeOff_75 : decode cX5_writeOff 75 = .ok (.dup, 1) := by decide +kernel
theorem dX5_writeOff_76 : decode cX5_writeOff 76 = .ok (.getfield 134, 3) := by decide +kernel
theorem dX5_writeOff_79 : decode cX5_writeOff 79 = .ok (.aload 4, 2) := by decide +kernel
theorem dX5_writeOff_81 : decode cX5_writeOff 81 = .ok (.getfield 128, 3) := by decide +kernel
theorem dX5_writeOff_84 : decode cX5_writeOff 84 = .ok (.iadd, 1) := by decide +kernel
theorem dX5_writeOff_85 : decode cX5_writeOff 85 = .ok (.putfield 134, 3) := by decide +kernel
theorem dX5_writeOff_88 : decode cX5_writeOff 88 = .ok (.iinc 3 1, 3) := by decide +kernel
theorem dX5_writeOff_91 : decode cX5_writeOff 91 = .ok (.goto (-87), 3) := by decide +kernel
theorem dX5_writeOff_94 : decode cX5_writeOff 94 = .ok (.iload_n 2, 1) := by decide +kernel
theorem dX5_writeOff_95 : decode cX5_writeOff 95 = .ok (.ireturn, 1) := by decide +kernel
theorem dX5_passMonth_0 : decode cX5_passMonth 0 = .ok (.aload_n 0, 1) := by decide +kernel
theorem dX5_passMonth_1 : decode cX5_passMonth 1 = .ok (.dup, 1) := by decide +kernel
theorem dX5_passMonth_2 : decode cX5_passMonth 2 = .ok (.getfield 46, 3) := by decide +kernel
theorem dX5_passMonth_5 : decode cX5_passMonth 5 = .ok (.iconst 1, 1) := by decide +kernel
theorem dX5_passMonth_6 : decode cX5_passMonth 6 = .ok (.iadd, 1) := by decide +kernel
theorem dX5_passMonth_7 : decode cX5_passMonth 7 = .ok (.putfield 46, 3) := by decide +kernel
theorem dX5_passMonth_10 : decode cX5_passMonth 10 = .ok (.iconst 0, 1) := by decide +kernel
theorem dX5_passMonth_11 : decode cX5_passMonth 11 = .ok (.istore_n 1, 1) := by decide +kernel
theorem dX5_passMonth_12 : decode cX5_passMonth 12 = .ok (.iload_n 1, 1) := by decide +kernel
theorem dX5_passMonth_13 : decode cX5_passMonth 13 = .ok (.aload_n 0, 1) := by decide +kernel
theorem dX5_passMonth_14 : decode cX5_passMonth 14 = .ok (.getfield 40, 3) := by decide +kernel
theorem dX5_passMonth_17 : decode cX5_passMonth 17 = .ok (.if_icmp .ge 26, 3) := by decide +kernel
theorem dX5_passMonth_20 : decode cX5_passMonth 20 = .ok (.aload_n 0, 1) := by decide +kernel
theorem dX5_passMonth_21 : decode cX5_passMonth 21 = .ok (.iload_n 1, 1) := by decide +kernel
theorem dX5_passMonth_22 : decode cX5_passMonth 22 = .ok (.invokevirtual 137, 3) := by decide +kernel
theorem dX5_passMonth_25 : decode cX5_passMonth 25 = .ok (.ifCond .eq 12, 3) := by decide +kernel
theorem dX5_passMonth_28 : decode cX5_passMonth 28 = .ok (.aload_n 0, 1) := by decide +kernel
theorem dX5_passMonth_29 : decode cX5_passMonth 29 = .ok (.getfield 19, 3) := by decide +kernel
theorem dX5_passMonth_32 : decode cX5_passMonth 32 = .ok (.iload_n 1, 1) := by decide +kernel
theorem dX5_passMonth_33 : decode cX5_passMonth 33 = .ok (.aaload, 1) := by decide +kernel
theorem dX5_passMonth_34 : decode cX5_passMonth 34 = .ok (.invokevirtual 140, 3) := by decide +kernel
theorem dX5_passMonth_37 : decode cX5_passMonth 37 = .ok (.iinc 1 1, 3) := by decide +kernel
theorem dX5_passMonth_40 : decode cX5_passMonth 40 = .ok (.goto (-28), 3) := by decide +kernel
theorem dX5_passMonth_43 : decode cX5_passMonth 43 = .ok (.return_, 1) := by decide +kernel
theorem dX5_missing_0 : decode cX5_missing 0 = .ok (.aload_n 0, 1) := by decide +kernel
theorem dX5_missing_1 : decode cX5_missing 1 = .ok (.iload_n 1, 1) := by decide +kernel
theorem dX5_missing_2 : decode cX5_missing 2 = .ok (.invokevirtual 68, 3) := by decide +kernel
theorem dX5_missing_5 : decode cX5_missing 5 = .ok (.ifCond .eq 15, 3) := by decide +kernel
theorem dX5_missing_8 : decode cX5_missing 8 = .ok (.aload_n 0, 1) := by decide +kernel
theorem dX5_missing_9 : decode cX5_missing 9 = .ok (.getfield 19, 3) := by decide +kernel
theorem dX5_missing_12 : decode cX5_missing 12 = .ok (.iload_n 1, 1) := by decide +kernel
theorem dX5_missing_13 : decode cX5_missing 13 = .ok (.aaload, 1) := by decide +kernel
theorem dX5_missing_14 : decode cX5_missing 14 = .ok (.getfield 72, 3) := by decide +kernel
theorem dX5_missing_17 : decode cX5_missing 17 = .ok (.ifCond .eq 5, 3) := by decide +kernel
theorem dX5_missing_20 : decode cX5_missing 20 = .ok (.iconst 0, 1) := by decide +kernel
theorem dX5_missing_21 : decode cX5_missing 21 = .ok (.ireturn, 1) := by decide +kernel
theorem dX5_missing_22 : decode cX5_missing 22 = .ok (.aload_n 0, 1) := by decide +kernel
theorem dX5_missing_23 : decode cX5_missing 23 = .ok (.getfield 19, 3) := by decide +kernel
theorem dX5_missing_26 : decode cX5_missing 26 = .ok (.iload_n 1, 1) := by decide +kernel
theorem dX5_missing_27 : decode cX5_missing 27 = .ok (.aaload, 1) := by decide +kernel
theorem dX5_missing_28 : decode cX5_missing 28 = .ok (.getfield 143, 3) := by decide +kernel
theorem dX5_missing_31 : decode cX5_missing 31 = .ok (.aload_n 0, 1) := by decide +kernel
theorem dX5_missing_32 : decode cX5_missing 32 = .ok (.iload_n 1, 1) := by decide +kernel
theorem dX5_missing_33 : decode cX5_missing 33 = .ok (.iconst 0, 1) := by decide +kernel
theorem dX5_missing_34 : decode cX5_missing 34 = .ok (.invokevirtual 146, 3) := by decide +kernel
theorem dX5_missing_37 : decode cX5_missing 37 = .ok (.isub, 1) := by decide +kernel
theorem dX5_missing_38 : decode cX5_missing 38 = .ok (.aload_n 0, 1) := by decide +kernel
theorem dX5_missing_39 : decode cX5_missing 39 = .ok (.iload_n 1, 1) := by decide +kernel
theorem dX5_missing_40 : decode cX5_missing 40 = .ok (.iconst 1, 1) := by decide +kernel
theorem dX5_missing_41 : decode cX5_missing 41 = .ok (.invokevirtual 146, 3) := by decide +kernel
theorem dX5_missing_44 : decode cX5_missing 44 = .ok (.isub, 1) := by decide +kernel
theorem dX5_missing_45 : decode cX5_missing 45 = .ok (.ireturn, 1) := by decide +kernel
theorem dX5_principals_0 : decode cX5_principals 0 = .ok (.iconst 0, 1) := by decide +kernel
theorem dX5_principals_1 : decode cX5_principals 1 = .ok (.istore_n 3, 1) := by decide +kernel
theorem dX5_principals_2 : decode cX5_principals 2 = .ok (.iconst 0, 1) := by decide +kernel
theorem dX5_principals_3 : decode cX5_principals 3 = .ok (.istore 4, 2) := by decide +kernel
theorem dX5_principals_5 : decode cX5_principals 5 = .ok (.iload 4, 2) := by decide +kernel
theorem dX5_principals_7 : decode cX5_principals 7 = .ok (.aload_n 0, 1) := by decide +kernel
theorem dX5_principals_8 : decode cX5_principals 8 = .ok (.getfield 43, 3) := by decide +kernel
theorem dX5_principals_11 : decode cX5_principals 11 = .ok (.if_icmp .ge 50, 3) := by decide +kernel
theorem dX5_principals_14 : decode cX5_principals 14 = .ok (.aload_n 0, 1) := by decide +kernel
theorem dX5_principals_15 : decode cX5_principals 15 = .ok (.getfield 25, 3) := by decide +kernel
theorem dX5_principals_18 : decode cX5_principals 18 = .ok (.iload 4, 2) := by decide +kernel
theorem dX5_principals_20 : decode cX5_principals 20 = .ok (.aaload, 1) := by decide +kernel
theorem dX5_principals_21 : decode cX5_principals 21 = .ok (.getfield 124, 3) := by decide +kernel
theorem dX5_principals_24 : decode cX5_principals 24 = .ok (.iload_n 1, 1) := by decide +kernel
theorem dX5_principals_25 : decode cX5_principals 25 = .ok (.if_icmp .ne 30, 3) := by decide +kernel
theorem dX5_principals_28 : decode cX5_principals 28 = .ok (.aload_n 0, 1) := by decide +kernel
theorem dX5_principals_29 : decode cX5_principals 29 = .ok (.getfield 25, 3) := by decide +kernel
theorem dX5_principals_32 : decode cX5_principals 32 = .ok (.iload 4, 2) := by decide +kernel
theorem dX5_principals_34 : decode cX5_principals 34 = .ok (.aaload, 1) := by decide +kernel
theorem dX5_principals_35 : decode cX5_principals 35 = .ok (.getfield 150, 3) := by decide +kernel
theorem dX5_principals_38 : decode cX5_principals 38 = .ok (.iload_n 2, 1) := by decide +kernel
theorem dX5_principals_39 : decode cX5_principals 39 = .ok (.if_icmp .ne 16, 3) := by decide +kernel
theorem dX5_principals_42 : decode cX5_principals 42 = .ok (.iload_n 3, 1) := by decide +kernel
theorem dX5_principals_43 : decode cX5_principals 43 = .ok (.aload_n 0, 1) := by decide +kernel
theorem dX5_principals_44 : decode cX5_principals 44 = .ok (.getfield 25, 3) := by decide +kernel
theorem dX5_principals_47 : decode cX5_principals 47 = .ok (.iload 4, 2) := by decide +kernel
theorem dX5_principals_49 : decode cX5_principals 49 = .ok (.aaload, 1) := by decide +kernel
theorem dX5_principals_50 : decode cX5_principals 50 = .ok (.getfield 127, 3) := by decide +kernel
theorem dX5_principals_53 : decode cX5_principals 53 = .ok (.iadd, 1) := by decide +kernel
theorem dX5_principals_54 : decode cX5_principals 54 = .ok (.istore_n 3, 1) := by decide +kernel
theorem dX5_principals_55 : decode cX5_principals 55 = .ok (.iinc 4 1, 3) := by decide +kernel
theorem dX5_principals_58 : decode cX5_principals 58 = .ok (.goto (-53), 3) := by decide +kernel
theorem dX5_principals_61 : decode cX5_principals 61 = .ok (.iload_n 3, 1) := by decide +kernel
theorem dX5_principals_62 : decode cX5_principals 62 = .ok (.ireturn, 1) := by decide +kernel
theorem dX5_notesFor_0 : decode cX5_notesFor 0 = .ok (.iconst 0, 1) := by decide +kernel
theorem dX5_notesFor_1 : decode cX5_notesFor 1 = .ok (.istore_n 2, 1) := by decide +kernel
theorem dX5_notesFor_2 : decode cX5_notesFor 2 = .ok (.iconst 0, 1) := by decide +kernel
theorem dX5_notesFor_3 : decode cX5_notesFor 3 = .ok (.istore_n 3, 1) := by decide +kernel
theorem dX5_notesFor_4 : decode cX5_notesFor 4 = .ok (.iload_n 3, 1) := by decide +kernel
theorem dX5_notesFor_5 : decode cX5_notesFor 5 = .ok (.aload_n 0, 1) := by decide +kernel
theorem dX5_notesFor_6 : decode cX5_notesFor 6 = .ok (.getfield 43, 3) := by decide +kernel
theorem dX5_notesFor_9 : decode cX5_notesFor 9 = .ok (.if_icmp .ge 25, 3) := by decide +kernel
theorem dX5_notesFor_12 : decode cX5_notesFor 12 = .ok (.aload_n 0, 1) := by decide +kernel
theorem dX5_notesFor_13 : decode cX5_notesFor 13 = .ok (.getfield 25, 3) := by decide +kernel
theorem dX5_notesFor_16 : decode cX5_notesFor 16 = .ok (.iload_n 3, 1) := by decide +kernel
theorem dX5_notesFor_17 : decode cX5_notesFor 17 = .ok (.aaload, 1) := by decide +kernel
theorem dX5_notesFor_18 : decode cX5_notesFor 18 = .ok (.getfield 124, 3) := by decide +kernel
theorem dX5_notesFor_21 : decode cX5_notesFor 21 = .ok (.iload_n 1, 1) := by decide +kernel
theorem dX5_notesFor_22 : decode cX5_notesFor 22 = .ok (.if_icmp .ne 6, 3) := by decide +kernel
theorem dX5_notesFor_25 : decode cX5_notesFor 25 = .ok (.iinc 2 1, 3) := by decide +kernel
theorem dX5_notesFor_28 : decode cX5_notesFor 28 = .ok (.iinc 3 1, 3) := by decide +kernel
theorem dX5_notesFor_31 : decode cX5_notesFor 31 = .ok (.goto (-27), 3) := by decide +kernel
theorem dX5_notesFor_34 : decode cX5_notesFor 34 = .ok (.iload_n 2, 1) := by decide +kernel
theorem dX5_notesFor_35 : decode cX5_notesFor 35 = .ok (.ireturn, 1) := by decide +kernel
theorem dX5_principalsOf_0 : decode cX5_principalsOf 0 = .ok (.iconst 0, 1) := by decide +kernel
theorem dX5_principalsOf_1 : decode cX5_principalsOf 1 = .ok (.istore_n 2, 1) := by decide +kernel
theorem dX5_principalsOf_2 : decode cX5_principalsOf 2 = .ok (.iconst 0, 1) := by decide +kernel
theorem dX5_principalsOf_3 : decode cX5_principalsOf 3 = .ok (.istore_n 3, 1) := by decide +kernel
theorem dX5_principalsOf_4 : decode cX5_principalsOf 4 = .ok (.iload_n 3, 1) := by decide +kernel
theorem dX5_principalsOf_5 : decode cX5_principalsOf 5 = .ok (.aload_n 0, 1) := by decide +kernel
theorem dX5_principalsOf_6 : decode cX5_principalsOf 6 = .ok (.getfield 43, 3) := by decide +kernel
theorem dX5_principalsOf_9 : decode cX5_principalsOf 9 = .ok (.if_icmp .ge 34, 3) := by decide +kernel
theorem dX5_principalsOf_12 : decode cX5_principalsOf 12 = .ok (.aload_n 0, 1) := by decide +kernel
theorem dX5_principalsOf_13 : decode cX5_principalsOf 13 = .ok (.getfield 25, 3) := by decide +kernel
theorem dX5_principalsOf_16 : decode cX5_principalsOf 16 = .ok (.iload_n 3, 1) := by decide +kernel
theorem dX5_principalsOf_17 : decode cX5_principalsOf 17 = .ok (.aaload, 1) := by decide +kernel
theorem dX5_principalsOf_18 : decode cX5_principalsOf 18 = .ok (.getfield 131, 3) := by decide +kernel
theorem dX5_principalsOf_21 : decode cX5_principalsOf 21 = .ok (.iload_n 1, 1) := by decide +kernel
theorem dX5_principalsOf_22 : decode cX5_principalsOf 22 = .ok (.if_icmp .ne 15, 3) := by decide +kernel
theorem dX5_principalsOf_25 : decode cX5_principalsOf 25 = .ok (.iload_n 2, 1) := by decide +kernel
theorem dX5_principalsOf_26 : decode cX5_principalsOf 26 = .ok (.aload_n 0, 1) := by decide +kernel
theorem dX5_principalsOf_27 : decode cX5_principalsOf 27 = .ok (.getfield 25, 3) := by decide +kernel
theorem dX5_principalsOf_30 : decode cX5_principalsOf 30 = .ok (.iload_n 3, 1) := by decide +kernel
theorem dX5_principalsOf_31 : decode cX5_principalsOf 31 = .ok (.aaload, 1) := by decide +kernel
theorem dX5_principalsOf_32 : decode cX5_principalsOf 32 = .ok (.getfield 127, 3) := by decide +kernel
theorem dX5_principalsOf_35 : decode cX5_principalsOf 35 = .ok (.iadd, 1) := by decide +kernel
theorem dX5_principalsOf_36 : decode cX5_principalsOf 36 = .ok (.istore_n 2, 1) := by decide +kernel
theorem dX5_principalsOf_37 : decode cX5_principalsOf 37 = .ok (.iinc 3 1, 3) := by decide +kernel
theorem dX5_principalsOf_40 : decode cX5_principalsOf 40 = .ok (.goto (-36), 3) := by decide +kernel
theorem dX5_principalsOf_43 : decode cX5_principalsOf 43 = .ok (.iload_n 2, 1) := by decide +kernel
theorem dX5_principalsOf_44 : decode cX5_principalsOf 44 = .ok (.ireturn, 1) := by decide +kernel
theorem dX5_liveNotesOf_0 : decode cX5_liveNotesOf 0 = .ok (.iconst 0, 1) := by decide +kernel
theorem dX5_liveNotesOf_1 : decode cX5_liveNotesOf 1 = .ok (.istore_n 2, 1) := by decide +kernel
theorem dX5_liveNotesOf_2 : decode cX5_liveNotesOf 2 = .ok (.iconst 0, 1) := by decide +kernel
theorem dX5_liveNotesOf_3 : decode cX5_liveNotesOf 3 = .ok (.istore_n 3, 1) := by decide +kernel
theorem dX5_liveNotesOf_4 : decode cX5_liveNotesOf 4 = .ok (.iload_n 3, 1) := by decide +kernel
theorem dX5_liveNotesOf_5 : decode cX5_liveNotesOf 5 = .ok (.aload_n 0, 1) := by decide +kernel
theorem dX5_liveNotesOf_6 : decode cX5_liveNotesOf 6 = .ok (.getfield 43, 3) := by decide +kernel
theorem dX5_liveNotesOf_9 : decode cX5_liveNotesOf 9 = .ok (.if_icmp .ge 37, 3) := by decide +kernel
theorem dX5_liveNotesOf_12 : decode cX5_liveNotesOf 12 = .ok (.aload_n 0, 1) := by decide +kernel
theorem dX5_liveNotesOf_13 : decode cX5_liveNotesOf 13 = .ok (.getfield 25, 3) := by decide +kernel
theorem dX5_liveNotesOf_16 : decode cX5_liveNotesOf 16 = .ok (.iload_n 3, 1) := by decide +kernel
theorem dX5_liveNotesOf_17 : decode cX5_liveNotesOf 17 = .ok (.aaload, 1) := by decide +kernel
theorem dX5_liveNotesOf_18 : decode cX5_liveNotesOf 18 = .ok (.getfield 131, 3) := by decide +kernel
theorem dX5_liveNotesOf_21 : decode cX5_liveNotesOf 21 = .ok (.iload_n 1, 1) := by decide +kernel
theorem dX5_liveNotesOf_22 : decode cX5_liveNotesOf 22 = .ok (.if_icmp .ne 18, 3) := by decide +kernel
theorem dX5_liveNotesOf_25 : decode cX5_liveNotesOf 25 = .ok (.aload_n 0, 1) := by decide +kernel
theorem dX5_liveNotesOf_26 : decode cX5_liveNotesOf 26 = .ok (.getfield 25, 3) := by decide +kernel
theorem dX5_liveNotesOf_29 : decode cX5_liveNotesOf 29 = .ok (.iload_n 3, 1) := by decide +kernel
theorem dX5_liveNotesOf_30 : decode cX5_liveNotesOf 30 = .ok (.aaload, 1) := by decide +kernel
theorem dX5_liveNotesOf_31 : decode cX5_liveNotesOf 31 = .ok (.getfield 127, 3) := by decide +kernel
theorem dX5_liveNotesOf_34 : decode cX5_liveNotesOf 34 = .ok (.ifCond .eq 6, 3) := by decide +kernel
theorem dX5_liveNotesOf_37 : decode cX5_liveNotesOf 37 = .ok (.iinc 2 1, 3) := by decide +kernel
theorem dX5_liveNotesOf_40 : decode cX5_liveNotesOf 40 = .ok (.iinc 3 1, 3) := by decide +kernel
theorem dX5_liveNotesOf_43 : decode cX5_liveNotesOf 43 = .ok (.goto (-39), 3) := by decide +kernel
theorem dX5_liveNotesOf_46 : decode cX5_liveNotesOf 46 = .ok (.iload_n 2, 1) := by decide +kernel
theorem dX5_liveNotesOf_47 : decode cX5_liveNotesOf 47 = .ok (.ireturn, 1) := by decide +kernel
theorem dX5_loansOf_0 : decode cX5_loansOf 0 = .ok (.iconst 0, 1) := by decide +kernel
theorem dX5_loansOf_1 : decode cX5_loansOf 1 = .ok (.istore_n 2, 1) := by decide +kernel
theorem dX5_loansOf_2 : decode cX5_loansOf 2 = .ok (.iconst 0, 1) := by decide +kernel
theorem dX5_loansOf_3 : decode cX5_loansOf 3 = .ok (.istore_n 3, 1) := by decide +kernel
theorem dX5_loansOf_4 : decode cX5_loansOf 4 = .ok (.iload_n 3, 1) := by decide +kernel
theorem dX5_loansOf_5 : decode cX5_loansOf 5 = .ok (.aload_n 0, 1) := by decide +kernel
theorem dX5_loansOf_6 : decode cX5_loansOf 6 = .ok (.getfield 43, 3) := by decide +kernel
theorem dX5_loansOf_9 : decode cX5_loansOf 9 = .ok (.if_icmp .ge 48, 3) := by decide +kernel
theorem dX5_loansOf_12 : decode cX5_loansOf 12 = .ok (.aload_n 0, 1) := by decide +kernel
theorem dX5_loansOf_13 : decode cX5_loansOf 13 = .ok (.getfield 25, 3) := by decide +kernel
theorem dX5_loansOf_16 : decode cX5_loansOf 16 = .ok (.iload_n 3, 1) := by decide +kernel
theorem dX5_loansOf_17 : decode cX5_loansOf 17 = .ok (.aaload, 1) := by decide +kernel
theorem dX5_loansOf_18 : decode cX5_loansOf 18 = .ok (.getfield 131, 3) := by decide +kernel
theorem dX5_loansOf_21 : decode cX5_loansOf 21 = .ok (.iload_n 1, 1) := by decide +kernel
theorem dX5_loansOf_22 : decode cX5_loansOf 22 = .ok (.if_icmp .ne 29, 3) := by decide +kernel
theorem dX5_loansOf_25 : decode cX5_loansOf 25 = .ok (.aload_n 0, 1) := by decide +kernel
theorem dX5_loansOf_26 : decode cX5_loansOf 26 = .ok (.getfield 25, 3) := by decide +kernel
theorem dX5_loansOf_29 : decode cX5_loansOf 29 = .ok (.iload_n 3, 1) := by decide +kernel
theorem dX5_loansOf_30 : decode cX5_loansOf 30 = .ok (.aaload, 1) := by decide +kernel
theorem dX5_loansOf_31 : decode cX5_loansOf 31 = .ok (.getfield 127, 3) := by decide +kernel
theorem dX5_loansOf_34 : decode cX5_loansOf 34 = .ok (.ifCond .eq 17, 3) := by decide +kernel
theorem dX5_loansOf_37 : decode cX5_loansOf 37 = .ok (.iload_n 2, 1) := by decide +kernel
theorem dX5_loansOf_38 : decode cX5_loansOf 38 = .ok (.iconst 1, 1) := by decide +kernel
theorem dX5_loansOf_39 : decode cX5_loansOf 39 = .ok (.aload_n 0, 1) := by decide +kernel
theorem dX5_loansOf_40 : decode cX5_loansOf 40 = .ok (.getfield 25, 3) := by decide +kernel
theorem dX5_loansOf_43 : decode cX5_loansOf 43 = .ok (.iload_n 3, 1) := by decide +kernel
theorem dX5_loansOf_44 : decode cX5_loansOf 44 = .ok (.aaload, 1) := by decide +kernel
theorem dX5_loansOf_45 : decode cX5_loansOf 45 = .ok (.getfield 124, 3) := by decide +kernel
theorem dX5_loansOf_48 : decode cX5_loansOf 48 = .ok (.ishl, 1) := by decide +kernel
theorem dX5_loansOf_49 : decode cX5_loansOf 49 = .ok (.ior, 1) := by decide +kernel
theorem dX5_loansOf_50 : decode cX5_loansOf 50 = .ok (.istore_n 2, 1) := by decide +kernel
theorem dX5_loansOf_51 : decode cX5_loansOf 51 = .ok (.iinc 3 1, 3) := by decide +kernel
theorem dX5_loansOf_54 : decode cX5_loansOf 54 = .ok (.goto (-50), 3) := by decide +kernel
theorem dX5_loansOf_57 : decode cX5_loansOf 57 = .ok (.iload_n 2, 1) := by decide +kernel
theorem dX5_loansOf_58 : decode cX5_loansOf 58 = .ok (.ireturn, 1) := by decide +kernel
theorem dX5_loansInState_0 : decode cX5_loansInState 0 = .ok (.iconst 0, 1) := by decide +kernel
theorem dX5_loansInState_1 : decode cX5_loansInState 1 = .ok (.istore_n 2, 1) := by decide +kernel
theorem dX5_loansInState_2 : decode cX5_loansInState 2 = .ok (.iconst 0, 1) := by decide +kernel
theorem dX5_loansInState_3 : decode cX5_loansInState 3 = .ok (.istore_n 3, 1) := by decide +kernel
theorem dX5_loansInState_4 : decode cX5_loansInState 4 = .ok (.iload_n 3, 1) := by decide +kernel
theorem dX5_loansInState_5 : decode cX5_loansInState 5 = .ok (.aload_n 0, 1) := by decide +kernel
theorem dX5_loansInState_6 : decode cX5_loansInState 6 = .ok (.getfield 40, 3) := by decide +kernel
theorem dX5_loansInState_9 : decode cX5_loansInState 9 = .ok (.if_icmp .ge 25, 3) := by decide +kernel
theorem dX5_loansInState_12 : decode cX5_loansInState 12 = .ok (.aload_n 0, 1) := by decide +kernel
theorem dX5_loansInState_13 : decode cX5_loansInState 13 = .ok (.getfield 19, 3) := by decide +kernel
theorem dX5_loansInState_16 : decode cX5_loansInState 16 = .ok (.iload_n 3, 1) := by decide +kernel
theorem dX5_loansInState_17 : decode cX5_loansInState 17 = .ok (.aaload, 1) := by decide +kernel
theorem dX5_loansInState_18 : decode cX5_loansInState 18 = .ok (.getfield 72, 3) := by decide +kernel
theorem dX5_loansInState_21 : decode cX5_loansInState 21 = .ok (.iload_n 1, 1) := by decide +kernel
theorem dX5_loansInState_22 : decode cX5_loansInState 22 = .ok (.if_icmp .ne 6, 3) := by decide +kernel
theorem dX5_loansInState_25 : decode cX5_loansInState 25 = .ok (.iinc 2 1, 3) := by decide +kernel
theorem dX5_loansInState_28 : decode cX5_loansInState 28 = .ok (.iinc 3 1, 3) := by decide +kernel
theorem dX5_loansInState_31 : decode cX5_loansInState 31 = .ok (.goto (-27), 3) := by decide +kernel
theorem dX5_loansInState_34 : decode cX5_loansInState 34 = .ok (.iload_n 2, 1) := by decide +kernel
theorem dX5_loansInState_35 : decode cX5_loansInState 35 = .ok (.ireturn, 1) := by decide +kernel
theorem dX5_loansServedBy_0 : decode cX5_loansServedBy 0 = .ok (.iconst 0, 1) := by decide +kernel
theorem dX5_loansServedBy_1 : decode cX5_loansServedBy 1 = .ok (.istore_n 2, 1) := by decide +kernel
theorem dX5_loansServedBy_2 : decode cX5_loansServedBy 2 = .ok (.iconst 0, 1) := by decide +kernel
theorem dX5_loansServedBy_3 : decode cX5_loansServedBy 3 = .ok (.istore_n 3, 1) := by decide +kernel
theorem dX5_loansServedBy_4 : decode cX5_loansServedBy 4 = .ok (.iload_n 3, 1) := by decide +kernel
theorem dX5_loansServedBy_5 : decode cX5_loansServedBy 5 = .ok (.aload_n 0, 1) := by decide +kernel
theorem dX5_loansServedBy_6 : decode cX5_loansServedBy 6 = .ok (.getfield 40, 3) := by decide +kernel
theorem dX5_loansServedBy_9 : decode cX5_loansServedBy 9 = .ok (.if_icmp .ge 33, 3) := by decide +kernel
theorem dX5_loansServedBy_12 : decode cX5_loansServedBy 12 = .ok (.aload_n 0, 1) := by decide +kernel
theorem dX5_loansServedBy_13 : decode cX5_loansServedBy 13 = .ok (.iload_n 3, 1) := by decide +kernel
theorem dX5_loansServedBy_14 : decode cX5_loansServedBy 14 = .ok (.invokevirtual 137, 3) := by decide +kernel
theorem dX5_loansServedBy_17 : decode cX5_loansServedBy 17 = .ok (.ifCond .eq 19, 3) := by decide +kernel
theorem dX5_loansServedBy_20 : decode cX5_loansServedBy 20 = .ok (.aload_n 0, 1) := by decide +kernel
theorem dX5_loansServedBy_21 : decode cX5_loansServedBy 21 = .ok (.getfield 19, 3) := by decide +kernel
theorem dX5_loansServedBy_24 : decode cX5_loansServedBy 24 = .ok (.iload_n 3, 1) := by decide +kernel
theorem dX5_loansServedBy_25 : decode cX5_loansServedBy 25 = .ok (.aaload, 1) := by decide +kernel
theorem dX5_loansServedBy_26 : decode cX5_loansServedBy 26 = .ok (.getfield 101, 3) := by decide +kernel
theorem dX5_loansServedBy_29 : decode cX5_loansServedBy 29 = .ok (.iload_n 1, 1) := by decide +kernel
theorem dX5_loansServedBy_30 : decode cX5_loansServedBy 30 = .ok (.if_icmp .ne 6, 3) := by decide +kernel
theorem dX5_loansServedBy_33 : decode cX5_loansServedBy 33 = .ok (.iinc 2 1, 3) := by decide +kernel
theorem dX5_loansServedBy_36 : decode cX5_loansServedBy 36 = .ok (.iinc 3 1, 3) := by decide +kernel
theorem dX5_loansServedBy_39 : decode cX5_loansServedBy 39 = .ok (.goto (-35), 3) := by decide +kernel
theorem dX5_loansServedBy_42 : decode cX5_loansServedBy 42 = .ok (.iload_n 2, 1) := by decide +kernel
theorem dX5_loansServedBy_43 : decode cX5_loansServedBy 43 = .ok (.ireturn, 1) := by decide +kernel
theorem dX5_loansInArrears_0 : decode cX5_loansInArrears 0 = .ok (.iconst 0, 1) := by decide +kernel
theorem dX5_loansInArrears_1 : decode cX5_loansInArrears 1 = .ok (.istore_n 1, 1) := by decide +kernel
theorem dX5_loansInArrears_2 : decode cX5_loansInArrears 2 = .ok (.iconst 0, 1) := by decide +kernel
theorem dX5_loansInArrears_3 : decode cX5_loansInArrears 3 = .ok (.istore_n 2, 1) := by decide +kernel
theorem dX5_loansInArrears_4 : decode cX5_loansInArrears 4 = .ok (.iload_n 2, 1) := by decide +kernel
theorem dX5_loansInArrears_5 : decode cX5_loansInArrears 5 = .ok (.aload_n 0, 1) := by decide +kernel
theorem dX5_loansInArrears_6 : decode cX5_loansInArrears 6 = .ok (.getfield 40, 3) := by decide +kernel
theorem dX5_loansInArrears_9 : decode cX5_loansInArrears 9 = .ok (.if_icmp .ge 24, 3) := by decide +kernel
theorem dX5_loansInArrears_12 : decode cX5_loansInArrears 12 = .ok (.aload_n 0, 1) := by decide +kernel
theorem dX5_loansInArrears_13 : decode cX5_loansInArrears 13 = .ok (.getfield 19, 3) := by decide +kernel
theorem dX5_loansInArrears_16 : decode cX5_loansInArrears 16 = .ok (.iload_n 2, 1) := by decide +kernel
theorem dX5_loansInArrears_17 : decode cX5_loansInArrears 17 = .ok (.aaload, 1) := by decide +kernel
theorem dX5_loansInArrears_18 : decode cX5_loansInArrears 18 = .ok (.getfield 153, 3) := by decide +kernel
theorem dX5_loansInArrears_21 : decode cX5_loansInArrears 21 = .ok (.ifCond .le 6, 3) := by decide +kernel
theorem dX5_loansInArrears_24 : decode cX5_loansInArrears 24 = .ok (.iinc 1 1, 3) := by decide +kernel
theorem dX5_loansInArrears_27 : decode cX5_loansInArrears 27 = .ok (.iinc 2 1, 3) := by decide +kernel
theorem dX5_loansInArrears_30 : decode cX5_loansInArrears 30 = .ok (.goto (-26), 3) := by decide +kernel
theorem dX5_loansInArrears_33 : decode cX5_loansInArrears 33 = .ok (.iload_n 1, 1) := by decide +kernel
theorem dX5_loansInArrears_34 : decode cX5_loansInArrears 34 = .ok (.ireturn, 1) := by decide +kernel
theorem dX5_ordersOfSwitches_0 : decode cX5_ordersOfSwitches 0 = .ok (.iconst 0, 1) := by decide +kernel
theorem dX5_ordersOfSwitches_1 : decode cX5_ordersOfSwitches 1 = .ok (.istore_n 1, 1) := by decide +kernel
theorem dX5_ordersOfSwitches_2 : decode cX5_ordersOfSwitches 2 = .ok (.iconst 0, 1) := by decide +kernel
theorem dX5_ordersOfSwitches_3 : decode cX5_ordersOfSwitches 3 = .ok (.istore_n 2, 1) := by decide +kernel
theorem dX5_ordersOfSwitches_4 : decode cX5_ordersOfSwitches 4 = .ok (.iload_n 2, 1) := by decide +kernel
theorem dX5_ordersOfSwitches_5 : decode cX5_ordersOfSwitches 5 = .ok (.aload_n 0, 1) := by decide +kernel
theorem dX5_ordersOfSwitches_6 : decode cX5_ordersOfSwitches 6 = .ok (.getfield 40, 3) := by decide +kernel
theorem dX5_ordersOfSwitches_9 : decode cX5_ordersOfSwitches 9 = .ok (.if_icmp .ge 26, 3) := by decide +kernel
theorem dX5_ordersOfSwitches_12 : decode cX5_ordersOfSwitches 12 = .ok (.aload_n 0, 1) := by decide +kernel
theorem dX5_ordersOfSwitches_13 : decode cX5_ordersOfSwitches 13 = .ok (.getfield 19, 3) := by decide +kernel
theorem dX5_ordersOfSwitches_16 : decode cX5_ordersOfSwitches 16 = .ok (.iload_n 2, 1) := by decide +kernel
theorem dX5_ordersOfSwitches_17 : decode cX5_ordersOfSwitches 17 = .ok (.aaload, 1) := by decide +kernel
theorem dX5_ordersOfSwitches_18 : decode cX5_ordersOfSwitches 18 = .ok (.getfield 156, 3) := by decide +kernel
theorem dX5_ordersOfSwitches_21 : decode cX5_ordersOfSwitches 21 = .ok (.bipush (-5), 2) := by decide +kernel
theorem dX5_ordersOfSwitches_23 : decode cX5_ordersOfSwitches 23 = .ok (.if_icmp .eq 6, 3) := by decide +kernel
theorem dX5_ordersOfSwitches_26 : decode cX5_ordersOfSwitches 26 = .ok (.iinc 1 1, 3) := by decide +kernel
theorem dX5_ordersOfSwitches_29 : decode cX5_ordersOfSwitches 29 = .ok (.iinc 2 1, 3) := by decide +kernel
theorem dX5_ordersOfSwitches_32 : decode cX5_ordersOfSwitches 32 = .ok (.goto (-28), 3) := by decide +kernel
theorem dX5_ordersOfSwitches_35 : decode cX5_ordersOfSwitches 35 = .ok (.iload_n 1, 1) := by decide +kernel
theorem dX5_ordersOfSwitches_36 : decode cX5_ordersOfSwitches 36 = .ok (.ireturn, 1) := by decide +kernel
theorem dX5_allPrincipals_0 : decode cX5_allPrincipals 0 = .ok (.iconst 0, 1) := by decide +kernel
theorem dX5_allPrincipals_1 : decode cX5_allPrincipals 1 = .ok (.istore_n 1, 1) := by decide +kernel
theorem dX5_allPrincipals_2 : decode cX5_allPrincipals 2 = .ok (.iconst 0, 1) := by decide +kernel
theorem dX5_allPrincipals_3 : decode cX5_allPrincipals 3 = .ok (.istore_n 2, 1) := by decide +kernel
theorem dX5_allPrincipals_4 : decode cX5_allPrincipals 4 = .ok (.iload_n 2, 1) := by decide +kernel
theorem dX5_allPrincipals_5 : decode cX5_allPrincipals 5 = .ok (.aload_n 0, 1) := by decide +kernel
theorem dX5_allPrincipals_6 : decode cX5_allPrincipals 6 = .ok (.getfield 40, 3) := by decide +kernel
theorem dX5_allPrincipals_9 : decode cX5_allPrincipals 9 = .ok (.if_icmp .ge 21, 3) := by decide +kernel
theorem dX5_allPrincipals_12 : decode cX5_allPrincipals 12 = .ok (.iload_n 1, 1) := by decide +kernel
theorem dX5_allPrincipals_13 : decode cX5_allPrincipals 13 = .ok (.aload_n 0, 1) := by decide +kernel
theorem dX5_allPrincipals_14 : decode cX5_allPrincipals 14 = .ok (.getfield 19, 3) := by decide +kernel
theorem dX5_allPrincipals_17 : decode cX5_allPrincipals 17 = .ok (.iload_n 2, 1) := by decide +kernel
theorem dX5_allPrincipals_18 : decode cX5_allPrincipals 18 = .ok (.aaload, 1) := by decide +kernel
theorem dX5_allPrincipals_19 : decode cX5_allPrincipals 19 = .ok (.getfield 159, 3) := by decide +kernel
theorem dX5_allPrincipals_22 : decode cX5_allPrincipals 22 = .ok (.iadd, 1) := by decide +kernel
theorem dX5_allPrincipals_23 : decode cX5_allPrincipals 23 = .ok (.istore_n 1, 1) := by decide +kernel
theorem dX5_allPrincipals_24 : decode cX5_allPrincipals 24 = .ok (.iinc 2 1, 3) := by decide +kernel
theorem dX5_allPrincipals_27 : decode cX5_allPrincipals 27 = .ok (.goto (-23), 3) := by decide +kernel
theorem dX5_allPrincipals_30 : decode cX5_allPrincipals 30 = .ok (.iload_n 1, 1) := by decide +kernel
theorem dX5_allPrincipals_31 : decode cX5_allPrincipals 31 = .ok (.ireturn, 1) := by decide +kernel
theorem dX5_allInterestDue_0 : decode cX5_allInterestDue 0 = .ok (.iconst 0, 1) := by decide +kernel
theorem dX5_allInterestDue_1 : decode cX5_allInterestDue 1 = .ok (.istore_n 1, 1) := by decide +kernel
theorem dX5_allInterestDue_2 : decode cX5_allInterestDue 2 = .ok (.iconst 0, 1) := by decide +kernel
theorem dX5_allInterestDue_3 : decode cX5_allInterestDue 3 = .ok (.istore_n 2, 1) := by decide +kernel
theorem dX5_allInterestDue_4 : decode cX5_allInterestDue 4 = .ok (.iload_n 2, 1) := by decide +kernel
theorem dX5_allInterestDue_5 : decode cX5_allInterestDue 5 = .ok (.aload_n 0, 1) := by decide +kernel
theorem dX5_allInterestDue_6 : decode cX5_allInterestDue 6 = .ok (.getfield 40, 3) := by decide +kernel
theorem dX5_allInterestDue_9 : decode cX5_allInterestDue 9 = .ok (.if_icmp .ge 21, 3) := by decide +kernel
theorem dX5_allInterestDue_12 : decode cX5_allInterestDue 12 = .ok (.iload_n 1, 1) := by decide +kernel
theorem dX5_allInterestDue_13 : decode cX5_allInterestDue 13 = .ok (.aload_n 0, 1) := by decide +kernel
theorem dX5_allInterestDue_14 : decode cX5_allInterestDue 14 = .ok (.getfield 19, 3) := by decide +kernel
theorem dX5_allInterestDue_17 : decode cX5_allInterestDue 17 = .ok (.iload_n 2, 1) := by decide +kernel
theorem dX5_allInterestDue_18 : decode cX5_allInterestDue 18 = .ok (.aaload, 1) := by decide +kernel
theorem dX5_allInterestDue_19 : decode cX5_allInterestDue 19 = .ok (.getfield 160, 3) := by decide +kernel
theorem dX5_allInterestDue_22 : decode cX5_allInterestDue 22 = .ok (.iadd, 1) := by decide +kernel
theorem dX5_allInterestDue_23 : decode cX5_allInterestDue 23 = .ok (.istore_n 1, 1) := by decide +kernel
theorem dX5_allInterestDue_24 : decode cX5_allInterestDue 24 = .ok (.iinc 2 1, 3) := by decide +kernel
theorem dX5_allInterestDue_27 : decode cX5_allInterestDue 27 = .ok (.goto (-23), 3) := by decide +kernel
theorem dX5_allInterestDue_30 : decode cX5_allInterestDue 30 = .ok (.iload_n 1, 1) := by decide +kernel
theorem dX5_allInterestDue_31 : decode cX5_allInterestDue 31 = .ok (.ireturn, 1) := by decide +kernel
theorem dX5_allLosses_0 : decode cX5_allLosses 0 = .ok (.iconst 0, 1) := by decide +kernel
theorem dX5_allLosses_1 : decode cX5_allLosses 1 = .ok (.istore_n 1, 1) := by decide +kernel
theorem dX5_allLosses_2 : decode cX5_allLosses 2 = .ok (.iconst 0, 1) := by decide +kernel
theorem dX5_allLosses_3 : decode cX5_allLosses 3 = .ok (.istore_n 2, 1) := by decide +kernel
theorem dX5_allLosses_4 : decode cX5_allLosses 4 = .ok (.iload_n 2, 1) := by decide +kernel
theorem dX5_allLosses_5 : decode cX5_allLosses 5 = .ok (.aload_n 0, 1) := by decide +kernel
theorem dX5_allLosses_6 : decode cX5_allLosses 6 = .ok (.getfield 43, 3) := by decide +kernel
theorem dX5_allLosses_9 : decode cX5_allLosses 9 = .ok (.if_icmp .ge 21, 3) := by decide +kernel
theorem dX5_allLosses_12 : decode cX5_allLosses 12 = .ok (.iload_n 1, 1) := by decide +kernel
theorem dX5_allLosses_13 : decode cX5_allLosses 13 = .ok (.aload_n 0, 1) := by decide +kernel
theorem dX5_allLosses_14 : decode cX5_allLosses 14 = .ok (.getfield 25, 3) := by decide +kernel
theorem dX5_allLosses_17 : decode cX5_allLosses 17 = .ok (.iload_n 2, 1) := by decide +kernel
theorem dX5_allLosses_18 : decode cX5_allLosses 18 = .ok (.aaload, 1) := by decide +kernel
theorem dX5_allLosses_19 : decode cX5_allLosses 19 = .ok (.getfield 128, 3) := by decide +kernel
theorem dX5_allLosses_22 : decode cX5_allLosses 22 = .ok (.iadd, 1) := by decide +kernel
theorem dX5_allLosses_23 : decode cX5_allLosses 23 = .ok (.istore_n 1, 1) := by decide +kernel
theorem dX5_allLosses_24 : decode cX5_allLosses 24 = .ok (.iinc 2 1, 3) := by decide +kernel
theorem dX5_allLosses_27 : decode cX5_allLosses 27 = .ok (.goto (-23), 3) := by decide +kernel
theorem dX5_allLosses_30 : decode cX5_allLosses 30 = .ok (.iload_n 1, 1) := by decide +kernel
theorem dX5_allLosses_31 : decode cX5_allLosses 31 = .ok (.ireturn, 1) := by decide +kernel
theorem dX6_init_0 : decode cX6_init 0 = .ok (.aload_n 0, 1) := by decide +kernel
theorem dX6_init_1 : decode cX6_init 1 = .ok (.invokespecial 1, 3) := by decide +kernel
theorem dX6_init_4 : decode cX6_init 4 = .ok (.return_, 1) := by decide +kernel
theorem dX6_open_0 : decode cX6_open 0 = .ok (.aload_n 0, 1) := by decide +kernel
theorem dX6_open_1 : decode cX6_open 1 = .ok (.iload_n 1, 1) := by decide +kernel
theorem dX6_open_2 : decode cX6_open 2 = .ok (.putfield 7, 3) := by decide +kernel
theorem dX6_open_5 : decode cX6_open 5 = .ok (.aload_n 0, 1) := by decide +kernel
theorem dX6_open_6 : decode cX6_open 6 = .ok (.iload_n 2, 1) := by decide +kernel
theorem dX6_open_7 : decode cX6_open 7 = .ok (.putfield 13, 3) := by decide +kernel
theorem dX6_open_10 : decode cX6_open 10 = .ok (.aload_n 0, 1) := by decide +kernel
theorem dX6_open_11 : decode cX6_open 11 = .ok (.iload_n 3, 1) := by decide +kernel
theorem dX6_open_12 : decode cX6_open 12 = .ok (.putfield 16, 3) := by decide +kernel
theorem dX6_open_15 : decode cX6_open 15 = .ok (.aload_n 0, 1) := by decide +kernel
theorem dX6_open_16 : decode cX6_open 16 = .ok (.iload 4, 2) := by decide +kernel
theorem dX6_open_18 : decode cX6_open 18 = .ok (.putfield 19, 3) := by decide +kernel
theorem dX6_open_21 : decode cX6_open 21 = .ok (.aload_n 0, 1) := by decide +kernel
theorem dX6_open_22 : decode cX6_open 22 = .ok (.iload 4, 2) := by decide +kernel
theorem dX6_open_24 : decode cX6_open 24 = .ok (.putfield 22, 3) := by decide +kernel
theorem dX6_open_27 : decode cX6_open 27 = .ok (.aload_n 0, 1) := by decide +kernel
theorem dX6_open_28 : decode cX6_open 28 = .ok (.iconst 0, 1) := by decide +kernel
theorem dX6_open_29 : decode cX6_open 29 = .ok (.putfield 25, 3) := by decide +kernel
theorem dX6_open_32 : decode cX6_open 32 = .ok (.aload_n 0, 1) := by decide +kernel
theorem dX6_open_33 : decode cX6_open 33 = .ok (.iconst 0, 1) := by decide +kernel
theorem dX6_open_34 : decode cX6_open 34 = .ok (.putfield 28, 3) := by decide +kernel
theorem dX6_open_37 : decode cX6_open 37 = .ok (.return_, 1) := by decide +kernel
theorem dX6_copyFrom_0 : decode cX6_copyFrom 0 = .ok (.aload_n 0, 1) := by decide +kernel
theorem dX6_copyFrom_1 : decode cX6_copyFrom 1 = .ok (.aload_n 1, 1) := by decide +kernel
theorem dX6_copyFrom_2 : decode cX6_copyFrom 2 = .ok (.getfield 7, 3) := by decide +kernel
theorem dX6_copyFrom_5 : decode cX6_copyFrom 5 = .ok (.putfield 7, 3) := by decide +kernel
theorem dX6_copyFrom_8 : decode cX6_copyFrom 8 = .ok (.aload_n 0, 1) := by decide +kernel
theorem dX6_copyFrom_9 : decode cX6_copyFrom 9 = .ok (.aload_n 1, 1) := by decide +kernel
theorem dX6_copyFrom_10 : decode cX6_copyFrom 10 = .ok (.getfield 13, 3) := by decide +kernel
theorem dX6_copyFrom_13 : decode cX6_copyFrom 13 = .ok (.putfield 13, 3) := by decide +kernel
theorem dX6_copyFrom_16 : decode cX6_copyFrom 16 = .ok (.aload_n 0, 1) := by decide +kernel
theorem dX6_copyFrom_17 : decode cX6_copyFrom 17 = .ok (.aload_n 1, 1) := by decide +kernel
theorem dX6_copyFrom_18 : decode cX6_copyFrom 18 = .ok (.getfield 16, 3) := by decide +kernel
theorem dX6_copyFrom_21 : decode cX6_copyFrom 21 = .ok (.putfield 16, 3) := by decide +kernel
theorem dX6_copyFrom_24 : decode cX6_copyFrom 24 = .ok (.aload_n 0, 1) := by decide +kernel
theorem dX6_copyFrom_25 : decode cX6_copyFrom 25 = .ok (.aload_n 1, 1) := by decide +kernel
theorem dX6_copyFrom_26 : decode cX6_copyFrom 26 = .ok (.getfield 19, 3) := by decide +kernel
theorem dX6_copyFrom_29 : decode cX6_copyFrom 29 = .ok (.putfield 19, 3) := by decide +kernel
theorem dX6_copyFrom_32 : decode cX6_copyFrom 32 = .ok (.aload_n 0, 1) := by decide +kernel
theorem dX6_copyFrom_33 : decode cX6_copyFrom 33 = .ok (.aload_n 1, 1) := by decide +kernel
theorem dX6_copyFrom_34 : decode cX6_copyFrom 34 = .ok (.getfield 22, 3) := by decide +kernel
theorem dX6_copyFrom_37 : decode cX6_copyFrom 37 = .ok (.putfield 22, 3) := by decide +kernel
theorem dX6_copyFrom_40 : decode cX6_copyFrom 40 = .ok (.aload_n 0, 1) := by decide +kernel
theorem dX6_copyFrom_41 : decode cX6_copyFrom 41 = .ok (.aload_n 1, 1) := by decide +kernel
theorem dX6_copyFrom_42 : decode cX6_copyFrom 42 = .ok (.getfield 25, 3) := by decide +kernel
theorem dX6_copyFrom_45 : decode cX6_copyFrom 45 = .ok (.putfield 25, 3) := by decide +kernel
theorem dX6_copyFrom_48 : decode cX6_copyFrom 48 = .ok (.aload_n 0, 1) := by decide +kernel
theorem dX6_copyFrom_49 : decode cX6_copyFrom 49 = .ok (.aload_n 1, 1) := by decide +kernel
theorem dX6_copyFrom_50 : decode cX6_copyFrom 50 = .ok (.getfield 28, 3) := by decide +kernel
theorem dX6_copyFrom_53 : decode cX6_copyFrom 53 = .ok (.putfield 28, 3) := by decide +kernel
theorem dX6_copyFrom_56 : decode cX6_copyFrom 56 = .ok (.return_, 1) := by decide +kernel
theorem dX7_init_0 : decode cX7_init 0 = .ok (.aload_n 0, 1) := by decide +kernel
theorem dX7_init_1 : decode cX7_init 1 = .ok (.invokespecial 3, 3) := by decide +kernel
theorem dX7_init_4 : decode cX7_init 4 = .ok (.return_, 1) := by decide +kernel
theorem dX7_areOf_0 : decode cX7_areOf 0 = .ok (.aload_n 1, 1) := by decide +kernel
theorem dX7_areOf_1 : decode cX7_areOf 1 = .ok (.iload_n 2, 1) := by decide +kernel
theorem dX7_areOf_2 : decode cX7_areOf 2 = .ok (.invokevirtual 9, 3) := by decide +kernel
theorem dX7_areOf_5 : decode cX7_areOf 5 = .ok (.ifCond .ne 5, 3) := by decide +kernel
theorem dX7_areOf_8 : decode cX7_areOf 8 = .ok (.iconst 0, 1) := by decide +kernel
theorem dX7_areOf_9 : decode cX7_areOf 9 = .ok (.ireturn, 1) := by decide +kernel
theorem dX7_areOf_10 : decode cX7_areOf 10 = .ok (.aload_n 1, 1) := by decide +kernel
theorem dX7_areOf_11 : decode cX7_areOf 11 = .ok (.getfield 15, 3) := by decide +kernel
theorem dX7_areOf_14 : decode cX7_areOf 14 = .ok (.iload_n 2, 1) := by decide +kernel
theorem dX7_areOf_15 : decode cX7_areOf 15 = .ok (.aaload, 1) := by decide +kernel
theorem dX7_areOf_16 : decode cX7_areOf 16 = .ok (.astore 4, 2) := by decide +kernel
theorem dX7_areOf_18 : decode cX7_areOf 18 = .ok (.aload_n 0, 1) := by decide +kernel
theorem dX7_areOf_19 : decode cX7_areOf 19 = .ok (.iload_n 3, 1) := by decide +kernel
theorem dX7_areOf_20 : decode cX7_areOf 20 = .ok (.aload 4, 2) := by decide +kernel
theorem dX7_areOf_22 : decode cX7_areOf 22 = .ok (.getfield 19, 3) := by decide +kernel
theorem dX7_areOf_25 : decode cX7_areOf 25 = .ok (.invokestatic 25, 3) := by decide +kernel
theorem dX7_areOf_28 : decode cX7_areOf 28 = .ok (.imul, 1) := by decide +kernel
theorem dX7_areOf_29 : decode cX7_areOf 29 = .ok (.sipush 1000, 3) := by decide +kernel
theorem dX7_areOf_32 : decode cX7_areOf 32 = .ok (.idiv, 1) := by decide +kernel
theorem dX7_areOf_33 : decode cX7_areOf 33 = .ok (.putfield 29, 3) := by decide +kernel
theorem dX7_areOf_36 : decode cX7_areOf 36 = .ok (.iload_n 3, 1) := by decide +kernel
theorem dX7_areOf_37 : decode cX7_areOf 37 = .ok (.aload_n 0, 1) := by decide +kernel
theorem dX7_areOf_38 : decode cX7_areOf 38 = .ok (.getfield 29, 3) := by decide +kernel
theorem dX7_areOf_41 : decode cX7_areOf 41 = .ok (.isub, 1) := by decide +kernel
theorem dX7_areOf_42 : decode cX7_areOf 42 = .ok (.istore 5, 2) := by decide +kernel
theorem dX7_areOf_44 : decode cX7_areOf 44 = .ok (.iload 5, 2) := by decide +kernel
theorem dX7_areOf_46 : decode cX7_areOf 46 = .ok (.aload 4, 2) := by decide +kernel
theorem dX7_areOf_48 : decode cX7_areOf 48 = .ok (.getfield 34, 3) := by decide +kernel
theorem dX7_areOf_51 : decode cX7_areOf 51 = .ok (.aload 4, 2) := by decide +kernel
theorem dX7_areOf_53 : decode cX7_areOf 53 = .ok (.getfield 37, 3) := by decide +kernel
theorem dX7_areOf_56 : decode cX7_areOf 56 = .ok (.iadd, 1) := by decide +kernel
theorem dX7_areOf_57 : decode cX7_areOf 57 = .ok (.if_icmp .le 5, 3) := by decide +kernel
theorem dX7_areOf_60 : decode cX7_areOf 60 = .ok (.iconst 0, 1) := by decide +kernel
theorem dX7_areOf_61 : decode cX7_areOf 61 = .ok (.ireturn, 1) := by decide +kernel
theorem dX7_areOf_62 : decode cX7_areOf 62 = .ok (.aload_n 0, 1) := by decide +kernel
theorem dX7_areOf_63 : decode cX7_areOf 63 = .ok (.iload 5, 2) := by decide +kernel
theorem dX7_areOf_65 : decode cX7_areOf 65 = .ok (.aload 4, 2) := by decide +kernel
theorem dX7_areOf_67 : decode cX7_areOf 67 = .ok (.getfield 34, 3) := by decide +kernel
theorem dX7_areOf_70 : decode cX7_areOf 70 = .ok (.invokestatic 40, 3) := by decide +kernel
theorem dX7_areOf_73 : decode cX7_areOf 73 = .ok (.putfield 46, 3) := by decide +kernel
theorem dX7_areOf_76 : decode cX7_areOf 76 = .ok (.aload_n 0, 1) := by decide +kernel
theorem dX7_areOf_77 : decode cX7_areOf 77 = .ok (.aload_n 0, 1) := by decide +kernel
theorem dX7_areOf_78 : decode cX7_areOf 78 = .ok (.getfield 46, 3) := by decide +kernel
theorem dX7_areOf_81 : decode cX7_areOf 81 = .ok (.aload_n 1, 1) := by decide +kernel
theorem dX7_areOf_82 : decode cX7_areOf 82 = .ok (.getfield 49, 3) := by decide +kernel
theorem dX7_areOf_85 : decode cX7_areOf 85 = .ok (.imul, 1) := by decide +kernel
theorem dX7_areOf_86 : decode cX7_areOf 86 = .ok (.bipush 100, 2) := by decide +kernel
theorem dX7_areOf_88 : decode cX7_areOf 88 = .ok (.idiv, 1) := by decide +kernel
theorem dX7_areOf_89 : decode cX7_areOf 89 = .ok (.putfield 52, 3) := by decide +kernel
theorem dX7_areOf_92 : decode cX7_areOf 92 = .ok (.aload_n 0, 1) := by decide +kernel
theorem dX7_areOf_93 : decode cX7_areOf 93 = .ok (.iload 5, 2) := by decide +kernel
theorem dX7_areOf_95 : decode cX7_areOf 95 = .ok (.aload_n 0, 1) := by decide +kernel
theorem dX7_areOf_96 : decode cX7_areOf 96 = .ok (.getfield 46, 3) := by decide +kernel
theorem dX7_areOf_99 : decode cX7_areOf 99 = .ok (.isub, 1) := by decide +kernel
theorem dX7_areOf_100 : decode cX7_areOf 100 = .ok (.putfield 55, 3) := by decide +kernel
theorem dX7_areOf_103 : decode cX7_areOf 103 = .ok (.aload_n 0, 1) := by decide +kernel
theorem dX7_areOf_104 : decode cX7_areOf 104 = .ok (.aload_n 0, 1) := by decide +kernel
theorem dX7_areOf_105 : decode cX7_areOf 105 = .ok (.getfield 55, 3) := by decide +kernel
theorem dX7_areOf_108 : decode cX7_areOf 108 = .ok (.aload_n 1, 1) := by decide +kernel
theorem dX7_areOf_109 : decode cX7_areOf 109 = .ok (.iload_n 2, 1) := by decide +kernel
theorem dX7_areOf_110 : decode cX7_areOf 110 = .ok (.iconst 0, 1) := by decide +kernel
theorem dX7_areOf_111 : decode cX7_areOf 111 = .ok (.invokevirtual 56, 3) := by decide +kernel
theorem dX7_areOf_114 : decode cX7_areOf 114 = .ok (.invokestatic 40, 3) := by decide +kernel
theorem dX7_areOf_117 : decode cX7_areOf 117 = .ok (.putfield 59, 3) := by decide +kernel
theorem dX7_areOf_120 : decode cX7_areOf 120 = .ok (.aload_n 0, 1) := by decide +kernel
theorem dX7_areOf_121 : decode cX7_areOf 121 = .ok (.aload_n 0, 1) := by decide +kernel
theorem dX7_areOf_122 : decode cX7_areOf 122 = .ok (.getfield 55, 3) := by decide +kernel
theorem dX7_areOf_125 : decode cX7_areOf 125 = .ok (.aload_n 0, 1) := by decide +kernel
theorem dX7_areOf_126 : decode cX7_areOf 126 = .ok (.getfield 59, 3) := by decide +kernel
theorem dX7_areOf_129 : decode cX7_areOf 129 = .ok (.isub, 1) := by decide +kernel
theorem dX7_areOf_130 : decode cX7_areOf 130 = .ok (.putfield 62, 3) := by decide +kernel
theorem dX7_areOf_133 : decode cX7_areOf 133 = .ok (.iconst 1, 1) := by decide +kernel
theorem dX7_areOf_134 : decode cX7_areOf 134 = .ok (.ireturn, 1) := by decide +kernel
theorem dX8_init_0 : decode cX8_init 0 = .ok (.aload_n 0, 1) := by decide +kernel
theorem dX8_init_1 : decode cX8_init 1 = .ok (.invokespecial 3, 3) := by decide +kernel
theorem dX8_init_4 : decode cX8_init 4 = .ok (.aload_n 0, 1) := by decide +kernel
theorem dX8_init_5 : decode cX8_init 5 = .ok (.bipush 60, 2) := by decide +kernel
theorem dX8_init_7 : decode cX8_init 7 = .ok (.newarray .int, 2) := by decide +kernel
theorem dX8_init_9 : decode cX8_init 9 = .ok (.putfield 9, 3) := by decide +kernel
theorem dX8_init_12 : decode cX8_init 12 = .ok (.aload_n 0, 1) := by decide +kernel
theorem dX8_init_13 : decode cX8_init 13 = .ok (.bipush 60, 2) := by decide +kernel
theorem dX8_init_15 : decode cX8_init 15 = .ok (.newarray .int, 2) := by decide +kernel
theorem dX8_init_17 : decode cX8_init 17 = .ok (.putfield 15, 3) := by decide +kernel
theorem dX8_init_20 : decode cX8_init 20 = .ok (.aload_n 0, 1) := by decide +kernel
theorem dX8_init_21 : decode cX8_init 21 = .ok (.bipush 60, 2) := by decide +kernel
theorem dX8_init_23 : decode cX8_init 23 = .ok (.newarray .int, 2) := by decide +kernel
theorem dX8_init_25 : decode cX8_init 25 = .ok (.putfield 18, 3) := by decide +kernel
theorem dX8_init_28 : decode cX8_init 28 = .ok (.return_, 1) := by decide +kernel
theorem dX8_ofGivingUp_0 : decode cX8_ofGivingUp 0 = .ok (.aload_n 0, 1) := by decide +kernel
theorem dX8_ofGivingUp_1 : decode cX8_ofGivingUp 1 = .ok (.invokevirtual 21, 3) := by decide +kernel
theorem dX8_ofGivingUp_4 : decode cX8_ofGivingUp 4 = .ok (.aload_n 0, 1) := by decide +kernel
theorem dX8_ofGivingUp_5 : decode cX8_ofGivingUp 5 = .ok (.aload_n 1, 1) := by decide +kernel
theorem dX8_ofGivingUp_6 : decode cX8_ofGivingUp 6 = .ok (.iload_n 2, 1) := by decide +kernel
theorem dX8_ofGivingUp_7 : decode cX8_ofGivingUp 7 = .ok (.iconst 1, 1) := by decide +kernel
theorem dX8_ofGivingUp_8 : decode cX8_ofGivingUp 8 = .ok (.iconst 1, 1) := by decide +kernel
theorem dX8_ofGivingUp_9 : decode cX8_ofGivingUp 9 = .ok (.invokevirtual 24, 3) := by decide +kernel
theorem dX8_ofGivingUp_12 : decode cX8_ofGivingUp 12 = .ok (.iconst 0, 1) := by decide +kernel
theorem dX8_ofGivingUp_13 : decode cX8_ofGivingUp 13 = .ok (.istore_n 3, 1) := by decide +kernel
theorem dX8_ofGivingUp_14 : decode cX8_ofGivingUp 14 = .ok (.iload_n 3, 1) := by decide +kernel
theorem dX8_ofGivingUp_15 : decode cX8_ofGivingUp 15 = .ok (.aload_n 0, 1) := by decide +kernel
theorem dX8_ofGivingUp_16 : decode cX8_ofGivingUp 16 = .ok (.getfield 15, 3) := by decide +kernel
theorem dX8_ofGivingUp_19 : decode cX8_ofGivingUp 19 = .ok (.arraylength, 1) := by decide +kernel
theorem dX8_ofGivingUp_20 : decode cX8_ofGivingUp 20 = .ok (.if_icmp .ge 21, 3) := by decide +kernel
theorem dX8_ofGivingUp_23 : decode cX8_ofGivingUp 23 = .ok (.aload_n 0, 1) := by decide +kernel
theorem dX8_ofGivingUp_24 : decode cX8_ofGivingUp 24 = .ok (.getfield 15, 3) := by decide +kernel
theorem dX8_ofGivingUp_27 : decode cX8_ofGivingUp 27 = .ok (.iload_n 3, 1) := by decide +kernel
theorem dX8_ofGivingUp_28 : decode cX8_ofGivingUp 28 = .ok (.aload_n 0, 1) := by decide +kernel
theorem dX8_ofGivingUp_29 : decode cX8_ofGivingUp 29 = .ok (.getfield 18, 3) := by decide +kernel
theorem dX8_ofGivingUp_32 : decode cX8_ofGivingUp 32 = .ok (.iload_n 3, 1) := by decide +kernel
theorem dX8_ofGivingUp_33 : decode cX8_ofGivingUp 33 = .ok (.iaload, 1) := by decide +kernel
theorem dX8_ofGivingUp_34 : decode cX8_ofGivingUp 34 = .ok (.iastore, 1) := by decide +kernel
theorem dX8_ofGivingUp_35 : decode cX8_ofGivingUp 35 = .ok (.iinc 3 1, 3) := by decide +kernel
theorem dX8_ofGivingUp_38 : decode cX8_ofGivingUp 38 = .ok (.goto (-24), 3) := by decide +kernel
theorem dX8_ofGivingUp_41 : decode cX8_ofGivingUp 41 = .ok (.return_, 1) := by decide +kernel
theorem dX8_ofPayment_0 : decode cX8_ofPayment 0 = .ok (.aload_n 0, 1) := by decide +kernel
theorem dX8_ofPayment_1 : decode cX8_ofPayment 1 = .ok (.invokevirtual 21, 3) := by decide +kernel
theorem dX8_ofPayment_4 : decode cX8_ofPayment 4 = .ok (.aload_n 0, 1) := by decide +kernel
theorem dX8_ofPayment_5 : decode cX8_ofPayment 5 = .ok (.aload_n 1, 1) := by decide +kernel
theorem dX8_ofPayment_6 : decode cX8_ofPayment 6 = .ok (.iload_n 2, 1) := by decide +kernel
theorem dX8_ofPayment_7 : decode cX8_ofPayment 7 = .ok (.iconst 1, 1) := by decide +kernel
theorem dX8_ofPayment_8 : decode cX8_ofPayment 8 = .ok (.iconst 1, 1) := by decide +kernel
theorem dX8_ofPayment_9 : decode cX8_ofPayment 9 = .ok (.invokevirtual 24, 3) := by decide +kernel
theorem dX8_ofPayment_12 : decode cX8_ofPayment 12 = .ok (.aload_n 0, 1) := by decide +kernel
theorem dX8_ofPayment_13 : decode cX8_ofPayment 13 = .ok (.aload_n 3, 1) := by decide +kernel
theorem dX8_ofPayment_14 : decode cX8_ofPayment 14 = .ok (.getfield 28, 3) := by decide +kernel
theorem dX8_ofPayment_17 : decode cX8_ofPayment 17 = .ok (.aload_n 3, 1) := by decide +kernel
theorem dX8_ofPayment_18 : decode cX8_ofPayment 18 = .ok (.getfield 33, 3) := by decide +kernel
theorem dX8_ofPayment_21 : decode cX8_ofPayment 21 = .ok (.isub, 1) := by decide +kernel
theorem dX8_ofPayment_22 : decode cX8_ofPayment 22 = .ok (.aload_n 0, 1) := by decide +kernel
theorem dX8_ofPayment_23 : decode cX8_ofPayment 23 = .ok (.getfield 9, 3) := by decide +kernel
theorem dX8_ofPayment_26 : decode cX8_ofPayment 26 = .ok (.invokevirtual 36, 3) := by decide +kernel
theorem dX8_ofPayment_29 : decode cX8_ofPayment 29 = .ok (.aload_n 0, 1) := by decide +kernel
theorem dX8_ofPayment_30 : decode cX8_ofPayment 30 = .ok (.aload_n 1, 1) := by decide +kernel
theorem dX8_ofPayment_31 : decode cX8_ofPayment 31 = .ok (.iload_n 2, 1) := by decide +kernel
theorem dX8_ofPayment_32 : decode cX8_ofPayment 32 = .ok (.aload_n 3, 1) := by decide +kernel
theorem dX8_ofPayment_33 : decode cX8_ofPayment 33 = .ok (.getfield 40, 3) := by decide +kernel
theorem dX8_ofPayment_36 : decode cX8_ofPayment 36 = .ok (.aload_n 3, 1) := by decide +kernel
theorem dX8_ofPayment_37 : decode cX8_ofPayment 37 = .ok (.getfield 43, 3) := by decide +kernel
theorem dX8_ofPayment_40 : decode cX8_ofPayment 40 = .ok (.invokevirtual 46, 3) := by decide +kernel
theorem dX8_ofPayment_43 : decode cX8_ofPayment 43 = .ok (.return_, 1) := by decide +kernel
theorem dX8_ofSale_0 : decode cX8_ofSale 0 = .ok (.aload_n 0, 1) := by decide +kernel
theorem dX8_ofSale_1 : decode cX8_ofSale 1 = .ok (.invokevirtual 21, 3) := by decide +kernel
theorem dX8_ofSale_4 : decode cX8_ofSale 4 = .ok (.aload_n 1, 1) := by decide +kernel
theorem dX8_ofSale_5 : decode cX8_ofSale 5 = .ok (.iload_n 2, 1) := by decide +kernel
theorem dX8_ofSale_6 : decode cX8_ofSale 6 = .ok (.iconst 0, 1) := by decide +kernel
theorem dX8_ofSale_7 : decode cX8_ofSale 7 = .ok (.invokevirtual 50, 3) := by decide +kernel
theorem dX8_ofSale_10 : decode cX8_ofSale 10 = .ok (.istore 4, 2) := by decide +kernel
theorem dX8_ofSale_12 : decode cX8_ofSale 12 = .ok (.iload_n 3, 1) := by decide +kernel
theorem dX8_ofSale_13 : decode cX8_ofSale 13 = .ok (.iload 4, 2) := by decide +kernel
theorem dX8_ofSale_15 : decode cX8_ofSale 15 = .ok (.invokestatic 56, 3) := by decide +kernel
theorem dX8_ofSale_18 : decode cX8_ofSale 18 = .ok (.istore 5, 2) := by decide +kernel
theorem dX8_ofSale_20 : decode cX8_ofSale 20 = .ok (.iload_n 3, 1) := by decide +kernel
theorem dX8_ofSale_21 : decode cX8_ofSale 21 = .ok (.iload 5, 2) := by decide +kernel
theorem dX8_ofSale_23 : decode cX8_ofSale 23 = .ok (.isub, 1) := by decide +kernel
theorem dX8_ofSale_24 : decode cX8_ofSale 24 = .ok (.aload_n 1, 1) := by decide +kernel
theorem dX8_ofSale_25 : decode cX8_ofSale 25 = .ok (.iload_n 2, 1) := by decide +kernel
theorem dX8_ofSale_26 : decode cX8_ofSale 26 = .ok (.iconst 1, 1) := by decide +kernel
theorem dX8_ofSale_27 : decode cX8_ofSale 27 = .ok (.invokevirtual 50, 3) := by decide +kernel
theorem dX8_ofSale_30 : decode cX8_ofSale 30 = .ok (.invokestatic 56, 3) := by decide +kernel
theorem dX8_ofSale_33 : decode cX8_ofSale 33 = .ok (.istore 6, 2) := by decide +kernel
theorem dX8_ofSale_35 : decode cX8_ofSale 35 = .ok (.aload_n 0, 1) := by decide +kernel
theorem dX8_ofSale_36 : decode cX8_ofSale 36 = .ok (.aload_n 1, 1) := by decide +kernel
theorem dX8_ofSale_37 : decode cX8_ofSale 37 = .ok (.iload_n 2, 1) := by decide +kernel
theorem dX8_ofSale_38 : decode cX8_ofSale 38 = .ok (.iload 5, 2) := by decide +kernel
theorem dX8_ofSale_40 : decode cX8_ofSale 40 = .ok (.iload 6, 2) := by decide +kernel
theorem dX8_ofSale_42 : decode cX8_ofSale 42 = .ok (.invokevirtual 46, 3) := by decide +kernel
theorem dX8_ofSale_45 : decode cX8_ofSale 45 = .ok (.aload_n 1, 1) := by decide +kernel
theorem dX8_ofSale_46 : decode cX8_ofSale 46 = .ok (.getfield 61, 3) := by decide +kernel
theorem dX8_ofSale_49 : decode cX8_ofSale 49 = .ok (.iload_n 3, 1) := by decide +kernel
theorem dX8_ofSale_50 : decode cX8_ofSale 50 = .ok (.iload 5, 2) := by decide +kernel
theorem dX8_ofSale_52 : decode cX8_ofSale 52 = .ok (.isub, 1) := by decide +kernel
theorem dX8_ofSale_53 : decode cX8_ofSale 53 = .ok (.iload 6, 2) := by decide +kernel
theorem dX8_ofSale_55 : decode cX8_ofSale 55 = .ok (.isub, 1) := by decide +kernel
theorem dX8_ofSale_56 : decode cX8_ofSale 56 = .ok (.iadd, 1) := by decide +kernel
theorem dX8_ofSale_57 : decode cX8_ofSale 57 = .ok (.istore 7, 2) := by decide +kernel
theorem dX8_ofSale_59 : decode cX8_ofSale 59 = .ok (.iload 7, 2) := by decide +kernel
theorem dX8_ofSale_61 : decode cX8_ofSale 61 = .ok (.iload 4, 2) := by decide +kernel
theorem dX8_ofSale_63 : decode cX8_ofSale 63 = .ok (.iload 5, 2) := by decide +kernel
theorem dX8_ofSale_65 : decode cX8_ofSale 65 = .ok (.isub, 1) := by decide +kernel
theorem dX8_ofSale_66 : decode cX8_ofSale 66 = .ok (.invokestatic 56, 3) := by decide +kernel
theorem dX8_ofSale_69 : decode cX8_ofSale 69 = .ok (.istore 8, 2) := by decide +kernel
theorem dX8_ofSale_71 : decode cX8_ofSale 71 = .ok (.aload_n 0, 1) := by decide +kernel
theorem dX8_ofSale_72 : decode cX8_ofSale 72 = .ok (.aload_n 1, 1) := by decide +kernel
theorem dX8_ofSale_73 : decode cX8_ofSale 73 = .ok (.iload_n 2, 1) := by decide +kernel
theorem dX8_ofSale_74 : decode cX8_ofSale 74 = .ok (.iconst 1, 1) := by decide +kernel
theorem dX8_ofSale_75 : decode cX8_ofSale 75 = .ok (.iconst 0, 1) := by decide +kernel
theorem dX8_ofSale_76 : decode cX8_ofSale 76 = .ok (.invokevirtual 24, 3) := by decide +kernel
theorem dX8_ofSale_79 : decode cX8_ofSale 79 = .ok (.iconst 0, 1) := by decide +kernel
theorem dX8_ofSale_80 : decode cX8_ofSale 80 = .ok (.istore 9, 2) := by decide +kernel
theorem dX8_ofSale_82 : decode cX8_ofSale 82 = .ok (.iload 9, 2) := by decide +kernel
theorem dX8_ofSale_84 : decode cX8_ofSale 84 = .ok (.aload_n 0, 1) := by decide +kernel
theorem dX8_ofSale_85 : decode cX8_ofSale 85 = .ok (.getfield 18, 3) := by decide +kernel
theorem dX8_ofSale_88 : decode cX8_ofSale 88 = .ok (.arraylength, 1) := by decide +kernel
theorem dX8_ofSale_89 : decode cX8_ofSale 89 = .ok (.if_icmp .ge 35, 3) := by decide +kernel
theorem dX8_ofSale_92 : decode cX8_ofSale 92 = .ok (.aload_n 0, 1) := by decide +kernel
theorem dX8_ofSale_93 : decode cX8_ofSale 93 = .ok (.getfield 18, 3) := by decide +kernel
theorem dX8_ofSale_96 : decode cX8_ofSale 96 = .ok (.iload 9, 2) := by decide +kernel
theorem dX8_ofSale_98 : decode cX8_ofSale 98 = .ok (.iconst 0, 1) := by decide +kernel
theorem dX8_ofSale_99 : decode cX8_ofSale 99 = .ok (.aload_n 0, 1) := by decide +kernel
theorem dX8_ofSale_100 : decode cX8_ofSale 100 = .ok (.getfield 18, 3) := by decide +kernel
theorem dX8_ofSale_103 : decode cX8_ofSale 103 = .ok (.iload 9, 2) := by decide +kernel
theorem dX8_ofSale_105 : decode cX8_ofSale 105 = .ok (.iaload, 1) := by decide +kernel
theorem dX8_ofSale_106 : decode cX8_ofSale 106 = .ok (.aload_n 0, 1) := by decide +kernel
theorem dX8_ofSale_107 : decode cX8_ofSale 107 = .ok (.getfield 15, 3) := by decide +kernel
theorem dX8_ofSale_110 : decode cX8_ofSale 110 = .ok (.iload 9, 2) := by decide +kernel
theorem dX8_ofSale_112 : decode cX8_ofSale 112 = .ok (.iaload, 1) := by decide +kernel
theorem dX8_ofSale_113 : decode cX8_ofSale 113 = .ok (.isub, 1) := by decide +kernel
theorem dX8_ofSale_114 : decode cX8_ofSale 114 = .ok (.invokestatic 64, 3) := by decide +kernel
theorem dX8_ofSale_117 : decode cX8_ofSale 117 = .ok (.iastore, 1) := by decide +kernel
theorem dX8_ofSale_118 : decode cX8_ofSale 118 = .ok (.iinc 9 1, 3) := by decide +kernel
theorem dX8_ofSale_121 : decode cX8_ofSale 121 = .ok (.goto (-39), 3) := by decide +kernel
theorem dX8_ofSale_124 : decode cX8_ofSale 124 = .ok (.aload_n 0, 1) := by decide +kernel
theorem dX8_ofSale_125 : decode cX8_ofSale 125 = .ok (.iload 8, 2) := by decide +kernel
theorem dX8_ofSale_127 : decode cX8_ofSale 127 = .ok (.aload_n 0, 1) := by decide +kernel
theorem dX8_ofSale_128 : decode cX8_ofSale 128 = .ok (.getfield 15, 3) := by decide +kernel
theorem dX8_ofSale_131 : decode cX8_ofSale 131 = .ok (.invokevirtual 36, 3) := by decide +kernel
theorem dX8_ofSale_134 : decode cX8_ofSale 134 = .ok (.iload 7, 2) := by decide +kernel
theorem dX8_ofSale_136 : decode cX8_ofSale 136 = .ok (.iload 8, 2) := by decide +kernel
theorem dX8_ofSale_138 : decode cX8_ofSale 138 = .ok (.isub, 1) := by decide +kernel
theorem dX8_ofSale_139 : decode cX8_ofSale 139 = .ok (.ireturn, 1) := by decide +kernel
theorem dX8_fits_0 : decode cX8_fits 0 = .ok (.iconst 0, 1) := by decide +kernel
theorem dX8_fits_1 : decode cX8_fits 1 = .ok (.istore_n 2, 1) := by decide +kernel
theorem dX8_fits_2 : decode cX8_fits 2 = .ok (.iload_n 2, 1) := by decide +kernel
theorem dX8_fits_3 : decode cX8_fits 3 = .ok (.aload_n 1, 1) := by decide +kernel
theorem dX8_fits_4 : decode cX8_fits 4 = .ok (.getfield 67, 3) := by decide +kernel
theorem dX8_fits_7 : decode cX8_fits 7 = .ok (.if_icmp .ge 81, 3) := by decide +kernel
theorem dX8_fits_10 : decode cX8_fits 10 = .ok (.aload_n 1, 1) := by decide +kernel
theorem dX8_fits_11 : decode cX8_fits 11 = .ok (.getfield 70, 3) := by decide +kernel
theorem dX8_fits_14 : decode cX8_fits 14 = .ok (.iload_n 2, 1) := by decide +kernel
theorem dX8_fits_15 : decode cX8_fits 15 = .ok (.aaload, 1) := by decide +kernel
theorem dX8_fits_16 : decode cX8_fits 16 = .ok (.getfield 74, 3) := by decide +kernel
theorem dX8_fits_19 : decode cX8_fits 19 = .ok (.i2l, 1) := by decide +kernel
theorem dX8_fits_20 : decode cX8_fits 20 = .ok (.lstore_n 3, 1) := by decide +kernel
theorem dX8_fits_21 : decode cX8_fits 21 = .ok (.iconst 0, 1) := by decide +kernel
theorem dX8_fits_22 : decode cX8_fits 22 = .ok (.istore 5, 2) := by decide +kernel
theorem dX8_fits_24 : decode cX8_fits 24 = .ok (.iload 5, 2) := by decide +kernel
theorem dX8_fits_26 : decode cX8_fits 26 = .ok (.aload_n 1, 1) := by decide +kernel
theorem dX8_fits_27 : decode cX8_fits 27 = .ok (.getfield 79, 3) := by decide +kernel
theorem dX8_fits_30 : decode cX8_fits 30 = .ok (.if_icmp .ge 42, 3) := by decide +kernel
theorem dX8_fits_33 : decode cX8_fits 33 = .ok (.aload_n 1, 1) := by decide +kernel
theorem dX8_fits_34 : decode cX8_fits 34 = .ok (.getfield 82, 3) := by decide +kernel
theorem dX8_fits_37 : decode cX8_fits 37 = .ok (.iload 5, 2) := by decide +kernel
theorem dX8_fits_39 : decode cX8_fits 39 = .ok (.aaload, 1) := by decide +kernel
theorem dX8_fits_40 : decode cX8_fits 40 = .ok (.getfield 86, 3) := by decide +kernel
theorem dX8_fits_43 : decode cX8_fits 43 = .ok (.iload_n 2, 1) := by decide +kernel
theorem dX8_fits_44 : decode cX8_fits 44 = .ok (.if_icmp .ne 22, 3) := by decide +kernel
theorem dX8_fits_47 : decode cX8_fits 47 = .ok (.lload_n 3, 1) := by decide +kernel
theorem dX8_fits_48 : decode cX8_fits 48 = .ok (.aload_n 0, 1) := by decide +kernel
theorem dX8_fits_49 : decode cX8_fits 49 = .ok (.getfield 9, 3) := by decide +kernel
theorem dX8_fits_52 : decode cX8_fits 52 = .ok (.iload 5, 2) := by decide +kernel
theorem dX8_fits_54 : decode cX8_fits 54 = .ok (.iaload, 1) := by decide +kernel
theorem dX8_fits_55 : decode cX8_fits 55 = .ok (.aload_n 0, 1) := by decide +kernel
theorem dX8_fits_56 : decode cX8_fits 56 = .ok (.getfield 15, 3) := by decide +kernel
theorem dX8_fits_59 : decode cX8_fits 59 = .ok (.iload 5, 2) := by decide +kernel
theorem dX8_fits_61 : decode cX8_fits 61 = .ok (.iaload, 1) := by decide +kernel
theorem dX8_fits_62 : decode cX8_fits 62 = .ok (.iadd, 1) := by decide +kernel
theorem dX8_fits_63 : decode cX8_fits 63 = .ok (.i2l, 1) := by decide +kernel
theorem dX8_fits_64 : decode cX8_fits 64 = .ok (.ladd, 1) := by decide +kernel
theorem dX8_fits_65 : decode cX8_fits 65 = .ok (.lstore_n 3, 1) := by decide +kernel
theorem dX8_fits_66 : decode cX8_fits 66 = .ok (.iinc 5 1, 3) := by decide +kernel
theorem dX8_fits_69 : decode cX8_fits 69 = .ok (.goto (-45), 3) := by decide +kernel
theorem dX8_fits_72 : decode cX8_fits 72 = .ok (.lload_n 3, 1) := by decide +kernel
theorem dX8_fits_73 : decode cX8_fits 73 = .ok (.ldc2_w 91, 3) := by decide +kernel
theorem dX8_fits_76 : decode cX8_fits 76 = .ok (.lcmp, 1) := by decide +kernel
theorem dX8_fits_77 : decode cX8_fits 77 = .ok (.ifCond .le 5, 3) := by decide +kernel
theorem dX8_fits_80 : decode cX8_fits 80 = .ok (.iconst 0, 1) := by decide +kernel
theorem dX8_fits_81 : decode cX8_fits 81 = .ok (.ireturn, 1) := by decide +kernel
theorem dX8_fits_82 : decode cX8_fits 82 = .ok (.iinc 2 1, 3) := by decide +kernel
theorem dX8_fits_85 : decode cX8_fits 85 = .ok (.goto (-83), 3) := by decide +kernel
theorem dX8_fits_88 : decode cX8_fits 88 = .ok (.iconst 1, 1) := by decide +kernel
theorem dX8_fits_89 : decode cX8_fits 89 = .ok (.ireturn, 1) := by decide +kernel
theorem dX8_carryOut_0 : decode cX8_carryOut 0 = .ok (.iconst 0, 1) := by decide +kernel
theorem dX8_carryOut_1 : decode cX8_carryOut 1 = .ok (.istore_n 2, 1) := by decide +kernel
theorem dX8_carryOut_2 : decode cX8_carryOut 2 = .ok (.iload_n 2, 1) := by decide +kernel
theorem dX8_carryOut_3 : decode cX8_carryOut 3 = .ok (.aload_n 1, 1) := by decide +kernel
theorem dX8_carryOut_4 : decode cX8_carryOut 4 = .ok (.getfield 79, 3) := by decide +kernel
theorem dX8_carryOut_7 : decode cX8_carryOut 7 = .ok (.if_icmp .ge 101, 3) := by decide +kernel
theorem dX8_carryOut_10 : decode cX8_carryOut 10 = .ok (.aload_n 1, 1) := by decide +kernel
theorem dX8_carryOut_11 : decode cX8_carryOut 11 = .ok (.getfield 82, 3) := by decide +kernel
theorem dX8_carryOut_14 : decode cX8_carryOut 14 = .ok (.iload_n 2, 1) := by decide +kernel
theorem dX8_carryOut_15 : decode cX8_carryOut 15 = .ok (.aaload, 1) := by decide +kernel
theorem dX8_carryOut_16 : decode cX8_carryOut 16 = .ok (.astore_n 3, 1) := by decide +kernel
theorem dX8_carryOut_17 : decode cX8_carryOut 17 = .ok (.aload_n 3, 1) := by decide +kernel
theorem dX8_carryOut_18 : decode cX8_carryOut 18 = .ok (.dup, 1) := by decide +kernel
theorem dX8_carryOut_19 : decode cX8_carryOut 19 = .ok (.getfield 93, 3) := by decide +kernel
theorem dX8_carryOut_22 : decode cX8_carryOut 22 = .ok (.aload_n 0, 1) := by decide +kernel
theorem dX8_carryOut_23 : decode cX8_carryOut 23 = .ok (.getfield 9, 3) := by decide +kernel
theorem dX8_carryOut_26 : decode cX8_carryOut 26 = .ok (.iload_n 2, 1) := by decide +kernel
theorem dX8_carryOut_27 : decode cX8_carryOut 27 = .ok (.iaload, 1) := by decide +kernel
theorem dX8_carryOut_28 : decode cX8_carryOut 28 = .ok (.iadd, 1) := by decide +kernel
theorem dX8_carryOut_29 : decode cX8_carryOut 29 = .ok (.putfield 93, 3) := by decide +kernel
theorem dX8_carryOut_32 : decode cX8_carryOut 32 = .ok (.aload_n 3, 1) := by decide +kernel
theorem dX8_carryOut_33 : decode cX8_carryOut 33 = .ok (.dup, 1) := by decide +kernel
theorem dX8_carryOut_34 : decode cX8_carryOut 34 = .ok (.getfield 94, 3) := by decide +kernel
theorem dX8_carryOut_37 : decode cX8_carryOut 37 = .ok (.aload_n 0, 1) := by decide +kernel
theorem dX8_carryOut_38 : decode cX8_carryOut 38 = .ok (.getfield 15, 3) := by decide +kernel
theorem dX8_carryOut_41 : decode cX8_carryOut 41 = .ok (.iload_n 2, 1) := by decide +kernel
theorem dX8_carryOut_42 : decode cX8_carryOut 42 = .ok (.iaload, 1) := by decide +kernel
theorem dX8_carryOut_43 : decode cX8_carryOut 43 = .ok (.isub, 1) := by decide +kernel
theorem dX8_carryOut_44 : decode cX8_carryOut 44 = .ok (.putfield 94, 3) := by decide +kernel
theorem dX8_carryOut_47 : decode cX8_carryOut 47 = .ok (.aload_n 1, 1) := by decide +kernel
theorem dX8_carryOut_48 : decode cX8_carryOut 48 = .ok (.aload_n 3, 1) := by decide +kernel
theorem dX8_carryOut_49 : decode cX8_carryOut 49 = .ok (.getfield 86, 3) := by decide +kernel
theorem dX8_carryOut_52 : decode cX8_carryOut 52 = .ok (.invokevirtual 96, 3) := by decide +kernel
theorem dX8_carryOut_55 : decode cX8_carryOut 55 = .ok (.ifCond .eq 47, 3) := by decide +kernel
theorem dX8_carryOut_58 : decode cX8_carryOut 58 = .ok (.aload_n 1, 1) := by decide +kernel
theorem dX8_carryOut_59 : decode cX8_carryOut 59 = .ok (.getfield 70, 3) := by decide +kernel
theorem dX8_carryOut_62 : decode cX8_carryOut 62 = .ok (.aload_n 3, 1) := by decide +kernel
theorem dX8_carryOut_63 : decode cX8_carryOut 63 = .ok (.getfield 86, 3) := by decide +kernel
theorem dX8_carryOut_66 : decode cX8_carryOut 66 = .ok (.aaload, 1) := by decide +kernel
theorem dX8_carryOut_67 : decode cX8_carryOut 67 = .ok (.dup, 1) := by decide +kernel
theorem dX8_carryOut_68 : decode cX8_carryOut 68 = .ok (.getfield 100, 3) := by decide +kernel
theorem dX8_carryOut_71 : decode cX8_carryOut 71 = .ok (.aload_n 0, 1) := by decide +kernel
theorem dX8_carryOut_72 : decode cX8_carryOut 72 = .ok (.getfield 9, 3) := by decide +kernel
theorem dX8_carryOut_75 : decode cX8_carryOut 75 = .ok (.iload_n 2, 1) := by decide +kernel
theorem dX8_carryOut_76 : decode cX8_carryOut 76 = .ok (.iaload, 1) := by decide +kernel
theorem dX8_carryOut_77 : decode cX8_carryOut 77 = .ok (.iadd, 1) := by decide +kernel
theorem dX8_carryOut_78 : decode cX8_carryOut 78 = .ok (.putfield 100, 3) := by decide +kernel
theorem dX8_carryOut_81 : decode cX8_carryOut 81 = .ok (.aload_n 1, 1) := by decide +kernel
theorem dX8_carryOut_82 : decode cX8_carryOut 82 = .ok (.aload_n 3, 1) := by decide +kernel
theorem dX8_carryOut_83 : decode cX8_carryOut 83 = .ok (.getfield 86, 3) := by decide +kernel
theorem dX8_carryOut_86 : decode cX8_carryOut 86 = .ok (.aload_n 0, 1) := by decide +kernel
theorem dX8_carryOut_87 : decode cX8_carryOut 87 = .ok (.getfield 9, 3) := by decide +kernel
theorem dX8_carryOut_90 : decode cX8_carryOut 90 = .ok (.iload_n 2, 1) := by decide +kernel
theorem dX8_carryOut_91 : decode cX8_carryOut 91 = .ok (.iaload, 1) := by decide +kernel
theorem dX8_carryOut_92 : decode cX8_carryOut 92 = .ok (.aload_n 0, 1) := by decide +kernel
theorem dX8_carryOut_93 : decode cX8_carryOut 93 = .ok (.getfield 15, 3) := by decide +kernel
theorem dX8_carryOut_96 : decode cX8_carryOut 96 = .ok (.iload_n 2, 1) := by decide +kernel
theorem dX8_carryOut_97 : decode cX8_carryOut 97 = .ok (.iaload, 1) := by decide +kernel
theorem dX8_carryOut_98 : decode cX8_carryOut 98 = .ok (.iadd, 1) := by decide +kernel
theorem dX8_carryOut_99 : decode cX8_carryOut 99 = .ok (.invokevirtual 101, 3) := by decide +kernel
theorem dX8_carryOut_102 : decode cX8_carryOut 102 = .ok (.iinc 2 1, 3) := by decide +kernel
theorem dX8_carryOut_105 : decode cX8_carryOut 105 = .ok (.goto (-103), 3) := by decide +kernel
theorem dX8_carryOut_108 : decode cX8_carryOut 108 = .ok (.return_, 1) := by decide +kernel
theorem dX8_clear_0 : decode cX8_clear 0 = .ok (.iconst 0, 1) := by decide +kernel
theorem dX8_clear_1 : decode cX8_clear 1 = .ok (.istore_n 1, 1) := by decide +kernel
theorem dX8_clear_2 : decode cX8_clear 2 = .ok (.iload_n 1, 1) := by decide +kernel
theorem dX8_clear_3 : decode cX8_clear 3 = .ok (.aload_n 0, 1) := by decide +kernel
theorem dX8_clear_4 : decode cX8_clear 4 = .ok (.getfield 18, 3) := by decide +kernel
theorem dX8_clear_7 : decode cX8_clear 7 = .ok (.arraylength, 1) := by decide +kernel
theorem dX8_clear_8 : decode cX8_clear 8 = .ok (.if_icmp .ge 30, 3) := by decide +kernel
theorem dX8_clear_11 : decode cX8_clear 11 = .ok (.aload_n 0, 1) := by decide +kernel
theorem dX8_clear_12 : decode cX8_clear 12 = .ok (.getfield 9, 3) := by decide +kernel
theorem dX8_clear_15 : decode cX8_clear 15 = .ok (.iload_n 1, 1) := by decide +kernel
theorem dX8_clear_16 : decode cX8_clear 16 = .ok (.iconst 0, 1) := by decide +kernel
theorem dX8_clear_17 : decode cX8_clear 17 = .ok (.iastore, 1) := by decide +kernel
theorem dX8_clear_18 : decode cX8_clear 18 = .ok (.aload_n 0, 1) := by decide +kernel
theorem dX8_clear_19 : decode cX8_clear 19 = .ok (.getfield 15, 3) := by decide +kernel
theorem dX8_clear_22 : decode cX8_clear 22 = .ok (.iload_n 1, 1) := by decide +kernel
theorem dX8_clear_23 : decode cX8_clear 23 = .ok (.iconst 0, 1) := by decide +kernel
theorem dX8_clear_24 : decode cX8_clear 24 = .ok (.iastore, 1) := by decide +kernel
theorem dX8_clear_25 : decode cX8_clear 25 = .ok (.aload_n 0, 1) := by decide +kernel
theorem dX8_clear_26 : decode cX8_clear 26 = .ok (.getfield 18, 3) := by decide +kernel
theorem dX8_clear_29 : decode cX8_clear 29 = .ok (.iload_n 1, 1) := by decide +kernel
theorem dX8_clear_30 : decode cX8_clear 30 = .ok (.iconst 0, 1) := by decide +kernel
theorem dX8_clear_31 : decode cX8_clear 31 = .ok (.iastore, 1) := by decide +kernel
theorem dX8_clear_32 : decode cX8_clear 32 = .ok (.iinc 1 1, 3) := by decide +kernel
theorem dX8_clear_35 : decode cX8_clear 35 = .ok (.goto (-33), 3) := by decide +kernel
theorem dX8_clear_38 : decode cX8_clear 38 = .ok (.return_, 1) := by decide +kernel
theorem dX8_shareByClass_0 : decode cX8_shareByClass 0 = .ok (.aload_n 0, 1) := by decide +kernel
theorem dX8_shareByClass_1 : decode cX8_shareByClass 1 = .ok (.aload_n 1, 1) := by decide +kernel
theorem dX8_shareByClass_2 : decode cX8_shareByClass 2 = .ok (.iload_n 2, 1) := by decide +kernel
theorem dX8_shareByClass_3 : decode cX8_shareByClass 3 = .ok (.iconst 1, 1) := by decide +kernel
theorem dX8_shareByClass_4 : decode cX8_shareByClass 4 = .ok (.iconst 0, 1) := by decide +kernel
theorem dX8_shareByClass_5 : decode cX8_shareByClass 5 = .ok (.invokevirtual 24, 3) := by decide +kernel
theorem dX8_shareByClass_8 : decode cX8_shareByClass 8 = .ok (.aload_n 0, 1) := by decide +kernel
theorem dX8_shareByClass_9 : decode cX8_shareByClass 9 = .ok (.iload_n 3, 1) := by decide +kernel
theorem dX8_shareByClass_10 : decode cX8_shareByClass 10 = .ok (.aload_n 0, 1) := by decide +kernel
theorem dX8_shareByClass_11 : decode cX8_shareByClass 11 = .ok (.getfield 15, 3) := by decide +kernel
theorem dX8_shareByClass_14 : decode cX8_shareByClass 14 = .ok (.invokevirtual 36, 3) := by decide +kernel
theorem dX8_shareByClass_17 : decode cX8_shareByClass 17 = .ok (.aload_n 0, 1) := by decide +kernel
theorem dX8_shareByClass_18 : decode cX8_shareByClass 18 = .ok (.aload_n 1, 1) := by decide +kernel
theorem dX8_shareByClass_19 : decode cX8_shareByClass 19 = .ok (.iload_n 2, 1) := by decide +kernel
theorem dX8_shareByClass_20 : decode cX8_shareByClass 20 = .ok (.iconst 0, 1) := by decide +kernel
theorem dX8_shareByClass_21 : decode cX8_shareByClass 21 = .ok (.iconst 1, 1) := by decide +kernel
theorem dX8_shareByClass_22 : decode cX8_shareByClass 22 = .ok (.invokevirtual 24, 3) := by decide +kernel
theorem dX8_shareByClass_25 : decode cX8_shareByClass 25 = .ok (.aload_n 0, 1) := by decide +kernel
theorem dX8_shareByClass_26 : decode cX8_shareByClass 26 = .ok (.iload 4, 2) := by decide +kernel
theorem dX8_shareByClass_28 : decode cX8_shareByClass 28 = .ok (.aload_n 0, 1) := by decide +kernel
theorem dX8_shareByClass_29 : decode cX8_shareByClass 29 = .ok (.getfield 15, 3) := by decide +kernel
theorem dX8_shareByClass_32 : decode cX8_shareByClass 32 = .ok (.invokevirtual 36, 3) := by decide +kernel
theorem dX8_shareByClass_35 : decode cX8_shareByClass 35 = .ok (.return_, 1) := by decide +kernel
theorem dX8_weighPrincipals_0 : decode cX8_weighPrincipals 0 = .ok (.iconst 0, 1) := by decide +kernel
theorem dX8_weighPrincipals_1 : decode cX8_weighPrincipals 1 = .ok (.istore 5, 2) := by decide +kernel
theorem dX8_weighPrincipals_3 : decode cX8_weighPrincipals 3 = .ok (.iload 5, 2) := by decide +kernel
theorem dX8_weighPrincipals_5 : decode cX8_weighPrincipals 5 = .ok (.aload_n 1, 1) := by decide +kernel
theorem dX8_weighPrincipals_6 : decode cX8_weighPrincipals 6 = .ok (.getfield 79, 3) := by decide +kernel
theorem dX8_weighPrincipals_9 : decode cX8_weighPrincipals 9 = .ok (.if_icmp .ge 75, 3) := by decide +kernel
theorem dX8_weighPrincipals_12 : decode cX8_weighPrincipals 12 = .ok (.aload_n 1, 1) := by decide +kernel
theorem dX8_weighPrincipals_13 : decode cX8_weighPrincipals 13 = .ok (.getfield 82, 3) := by decide +kernel
theorem dX8_weighPrincipals_16 : decode cX8_weighPrincipals 16 = .ok (.iload 5, 2) := by decide +kernel
theorem dX8_weighPrincipals_18 : decode cX8_weighPrincipals 18 = .ok (.aaload, 1) := by decide +kernel
theorem dX8_weighPrincipals_19 : decode cX8_weighPrincipals 19 = .ok (.astore 6, 2) := by decide +kernel
theorem dX8_weighPrincipals_21 : decode cX8_weighPrincipals 21 = .ok (.aload 6, 2) := by decide +kernel
theorem dX8_weighPrincipals_23 : decode cX8_weighPrincipals 23 = .ok (.getfield 105, 3) := by decide +kernel
theorem dX8_weighPrincipals_26 : decode cX8_weighPrincipals 26 = .ok (.iload_n 2, 1) := by decide +kernel
theorem dX8_weighPrincipals_27 : decode cX8_weighPrincipals 27 = .ok (.if_icmp .ne 27, 3) := by decide +kernel
theorem dX8_weighPrincipals_30 : decode cX8_weighPrincipals 30 = .ok (.aload 6, 2) := by decide +kernel
theorem dX8_weighPrincipals_32 : decode cX8_weighPrincipals 32 = .ok (.getfield 108, 3) := by decide +kernel
theorem dX8_weighPrincipals_35 : decode cX8_weighPrincipals 35 = .ok (.ifCond .ne 10, 3) := by decide +kernel
theorem dX8_weighPrincipals_38 : decode cX8_weighPrincipals 38 = .ok (.iload_n 3, 1) := by decide +kernel
theorem dX8_weighPrincipals_39 : decode cX8_weighPrincipals 39 = .ok (.ifCond .eq 15, 3) := by decide +kernel
theorem dX8_weighPrincipals_42 : decode cX8_weighPrincipals 42 = .ok (.goto 8, 3) := by decide +kernel
theorem dX8_weighPrincipals_45 : decode cX8_weighPrincipals 45 = .ok (.iload 4, 2) := by decide +kernel
theorem dX8_weighPrincipals_47 : decode cX8_weighPrincipals 47 = .ok (.ifCond .eq 7, 3) := by decide +kernel
theorem dX8_weighPrincipals_50 : decode cX8_weighPrincipals 50 = .ok (.iconst 1, 1) := by decide +kernel
theorem dX8_weighPrincipals_51 : decode cX8_weighPrincipals 51 = .ok (.goto 4, 3) := by decide +kernel
theorem dX8_weighPrincipals_54 : decode cX8_weighPrincipals 54 = .ok (.iconst 0, 1) := by decide +kernel
theorem dX8_weighPrincipals_55 : decode cX8_weighPrincipals 55 = .ok (.istore 7, 2) := by decide +kernel
theorem dX8_weighPrincipals_57 : decode cX8_weighPrincipals 57 = .ok (.aload_n 0, 1) := by decide +kernel
theorem dX8_weighPrincipals_58 : decode cX8_weighPrincipals 58 = .ok (.getfield 18, 3) := by decide +kernel
theorem dX8_weighPrincipals_61 : decode cX8_weighPrincipals 61 = .ok (.iload 5, 2) := by decide +kernel
theorem dX8_weighPrincipals_63 : decode cX8_weighPrincipals 63 = .ok (.iload 7, 2) := by decide +kernel
theorem dX8_weighPrincipals_65 : decode cX8_weighPrincipals 65 = .ok (.ifCond .eq 11, 3) := by decide +kernel
theorem dX8_weighPrincipals_68 : decode cX8_weighPrincipals 68 = .ok (.aload 6, 2) := by decide +kernel
theorem dX8_weighPrincipals_70 : decode cX8_weighPrincipals 70 = .ok (.getfield 94, 3) := by decide +kernel
theorem dX8_weighPrincipals_73 : decode cX8_weighPrincipals 73 = .ok (.goto 4, 3) := by decide +kernel
theorem dX8_weighPrincipals_76 : decode cX8_weighPrincipals 76 = .ok (.iconst 0, 1) := by decide +kernel
theorem dX8_weighPrincipals_77 : decode cX8_weighPrincipals 77 = .ok (.iastore, 1) := by decide +kernel
theorem dX8_weighPrincipals_78 : decode cX8_weighPrincipals 78 = .ok (.iinc 5 1, 3) := by decide +kernel
theorem dX8_weighPrincipals_81 : decode cX8_weighPrincipals 81 = .ok (.goto (-78), 3) := by decide +kernel
theorem dX8_weighPrincipals_84 : decode cX8_weighPrincipals 84 = .ok (.return_, 1) := by decide +kernel
theorem dX8_shareOut_0 : decode cX8_shareOut 0 = .ok (.lconst 0, 1) := by decide +kernel
theorem dX8_shareOut_1 : decode cX8_shareOut 1 = .ok (.lstore_n 3, 1) := by decide +kernel
theorem dX8_shareOut_2 : decode cX8_shareOut 2 = .ok (.iconst 0, 1) := by decide +kernel
theorem dX8_shareOut_3 : decode cX8_shareOut 3 = .ok (.istore 5, 2) := by decide +kernel
theorem dX8_shareOut_5 : decode cX8_shareOut 5 = .ok (.iload 5, 2) := by decide +kernel
theorem dX8_shareOut_7 : decode cX8_shareOut 7 = .ok (.aload_n 0, 1) := by decide +kernel
theorem dX8_shareOut_8 : decode cX8_shareOut 8 = .ok (.getfield 18, 3) := by decide +kernel
theorem dX8_shareOut_11 : decode cX8_shareOut 11 = .ok (.arraylength, 1) := by decide +kernel
theorem dX8_shareOut_12 : decode cX8_shareOut 12 = .ok (.if_icmp .ge 20, 3) := by decide +kernel
theorem dX8_shareOut_15 : decode cX8_shareOut 15 = .ok (.lload_n 3, 1) := by decide +kernel
theorem dX8_shareOut_16 : decode cX8_shareOut 16 = .ok (.aload_n 0, 1) := by decide +kernel
theorem dX8_shareOut_17 : decode cX8_shareOut 17 = .ok (.getfield 18, 3) := by decide +kernel
theorem dX8_shareOut_20 : decode cX8_shareOut 20 = .ok (.iload 5, 2) := by decide +kernel
theorem dX8_shareOut_22 : decode cX8_shareOut 22 = .ok (.iaload, 1) := by decide +kernel
theorem dX8_shareOut_23 : decode cX8_shareOut 23 = .ok (.i2l, 1) := by decide +kernel
theorem dX8_shareOut_24 : decode cX8_shareOut 24 = .ok (.ladd, 1) := by decide +kernel
theorem dX8_shareOut_25 : decode cX8_shareOut 25 = .ok (.lstore_n 3, 1) := by decide +kernel
theorem dX8_shareOut_26 : decode cX8_shareOut 26 = .ok (.iinc 5 1, 3) := by decide +kernel
theorem dX8_shareOut_29 : decode cX8_shareOut 29 = .ok (.goto (-24), 3) := by decide +kernel
theorem dX8_shareOut_32 : decode cX8_shareOut 32 = .ok (.lload_n 3, 1) := by decide +kernel
theorem dX8_shareOut_33 : decode cX8_shareOut 33 = .ok (.lconst 0, 1) := by decide +kernel
theorem dX8_shareOut_34 : decode cX8_shareOut 34 = .ok (.lcmp, 1) := by decide +kernel
theorem dX8_shareOut_35 : decode cX8_shareOut 35 = .ok (.ifCond .gt 4, 3) := by decide +kernel
theorem dX8_shareOut_38 : decode cX8_shareOut 38 = .ok (.return_, 1) := by decide +kernel
theorem dX8_shareOut_39 : decode cX8_shareOut 39 = .ok (.iload_n 1, 1) := by decide +kernel
theorem dX8_shareOut_40 : decode cX8_shareOut 40 = .ok (.istore 5, 2) := by decide +kernel
theorem dX8_shareOut_42 : decode cX8_shareOut 42 = .ok (.iconst 0, 1) := by decide +kernel
theorem dX8_shareOut_43 : decode cX8_shareOut 43 = .ok (.istore 6, 2) := by decide +kernel
theorem dX8_shareOut_45 : decode cX8_shareOut 45 = .ok (.iload 6, 2) := by decide +kernel
theorem dX8_shareOut_47 : decode cX8_shareOut 47 = .ok (.aload_n 0, 1) := by decide +kernel
theorem dX8_shareOut_48 : decode cX8_shareOut 48 = .ok (.getfield 18, 3) := by decide +kernel
theorem dX8_shareOut_51 : decode cX8_shareOut 51 = .ok (.arraylength, 1) := by decide +kernel
theorem dX8_shareOut_52 : decode cX8_shareOut 52 = .ok (.if_icmp .ge 41, 3) := by decide +kernel
theorem dX8_shareOut_55 : decode cX8_shareOut 55 = .ok (.iload_n 1, 1) := by decide +kernel
theorem dX8_shareOut_56 : decode cX8_shareOut 56 = .ok (.i2l, 1) := by decide +kernel
theorem dX8_shareOut_57 : decode cX8_shareOut 57 = .ok (.aload_n 0, 1) := by decide +kernel
theorem dX8_shareOut_58 : decode cX8_shareOut 58 = .ok (.getfield 18, 3) := by decide +kernel
theorem dX8_shareOut_61 : decode cX8_shareOut 61 = .ok (.iload 6, 2) := by decide +kernel
theorem dX8_shareOut_63 : decode cX8_shareOut 63 = .ok (.iaload, 1) := by decide +kernel
theorem dX8_shareOut_64 : decode cX8_shareOut 64 = .ok (.i2l, 1) := by decide +kernel
theorem dX8_shareOut_65 : decode cX8_shareOut 65 = .ok (.lmul, 1) := by decide +kernel
theorem dX8_shareOut_66 : decode cX8_shareOut 66 = .ok (.lload_n 3, 1) := by decide +kernel
theorem dX8_shareOut_67 : decode cX8_shareOut 67 = .ok (.ldiv, 1) := by decide +kernel
theorem dX8_shareOut_68 : decode cX8_shareOut 68 = .ok (.l2i, 1) := by decide +kernel
theorem dX8_shareOut_69 : decode cX8_shareOut 69 = .ok (.istore 7, 2) := by decide +kernel
theorem dX8_shareOut_71 : decode cX8_shareOut 71 = .ok (.aload_n 2, 1) := by decide +kernel
theorem dX8_shareOut_72 : decode cX8_shareOut 72 = .ok (.iload 6, 2) := by decide +kernel
theorem dX8_shareOut_74 : decode cX8_shareOut 74 = .ok (.dup2, 1) := by decide +kernel
theorem dX8_shareOut_75 : decode cX8_shareOut 75 = .ok (.iaload, 1) := by decide +kernel
theorem dX8_shareOut_76 : decode cX8_shareOut 76 = .ok (.iload 7, 2) := by decide +kernel
theorem dX8_shareOut_78 : decode cX8_shareOut 78 = .ok (.iadd, 1) := by decide +kernel
theorem dX8_shareOut_79 : decode cX8_shareOut 79 = .ok (.iastore, 1) := by decide +kernel
theorem dX8_shareOut_80 : decode cX8_shareOut 80 = .ok (.iload 5, 2) := by decide +kernel
theorem dX8_shareOut_82 : decode cX8_shareOut 82 = .ok (.iload 7, 2) := by decide +kernel
theorem dX8_shareOut_84 : decode cX8_shareOut 84 = .ok (.isub, 1) := by decide +kernel
theorem dX8_shareOut_85 : decode cX8_shareOut 85 = .ok (.istore 5, 2) := by decide +kernel
theorem dX8_shareOut_87 : decode cX8_shareOut 87 = .ok (.iinc 6 1, 3) := by decide +kernel
theorem dX8_shareOut_90 : decode cX8_shareOut 90 = .ok (.goto (-45), 3) := by decide +kernel
theorem dX8_shareOut_93 : decode cX8_shareOut 93 = .ok (.iconst 0, 1) := by decide +kernel
theorem dX8_shareOut_94 : decode cX8_shareOut 94 = .ok (.istore 6, 2) := by decide +kernel
theorem dX8_shareOut_96 : decode cX8_shareOut 96 = .ok (.iload 6, 2) := by decide +kernel
theorem dX8_shareOut_98 : decode cX8_shareOut 98 = .ok (.aload_n 0, 1) := by decide +kernel
theorem dX8_shareOut_99 : decode cX8_shareOut 99 = .ok (.getfield 18, 3) := by decide +kernel
theorem dX8_shareOut_102 : decode cX8_shareOut 102 = .ok (.arraylength, 1) := by decide +kernel
theorem dX8_shareOut_103 : decode cX8_shareOut 103 = .ok (.if_icmp .ge 35, 3) := by decide +kernel
theorem dX8_shareOut_106 : decode cX8_shareOut 106 = .ok (.iload 5, 2) := by decide +kernel
theorem dX8_shareOut_108 : decode cX8_shareOut 108 = .ok (.ifCond .le 30, 3) := by decide +kernel
theorem dX8_shareOut_111 : decode cX8_shareOut 111 = .ok (.aload_n 0, 1) := by decide +kernel
theorem dX8_shareOut_112 : decode cX8_shareOut 112 = .ok (.getfield 18, 3) := by decide +kernel
theorem dX8_shareOut_115 : decode cX8_shareOut 115 = .ok (.iload 6, 2) := by decide +kernel
theorem dX8_shareOut_117 : decode cX8_shareOut 117 = .ok (.iaload, 1) := by decide +kernel
theorem dX8_shareOut_118 : decode cX8_shareOut 118 = .ok (.ifCond .eq 14, 3) := by decide +kernel
theorem dX8_shareOut_121 : decode cX8_shareOut 121 = .ok (.aload_n 2, 1) := by decide +kernel
theorem dX8_shareOut_122 : decode cX8_shareOut 122 = .ok (.iload 6, 2) := by decide +kernel
theorem dX8_shareOut_124 : decode cX8_shareOut 124 = .ok (.dup2, 1) := by decide +kernel
theorem dX8_shareOut_125 : decode cX8_shareOut 125 = .ok (.iaload, 1) := by decide +kernel
theorem dX8_shareOut_126 : decode cX8_shareOut 126 = .ok (.iconst 1, 1) := by decide +kernel
theorem dX8_shareOut_127 : decode cX8_shareOut 127 = .ok (.iadd, 1) := by decide +kernel
theorem dX8_shareOut_128 : decode cX8_shareOut 128 = .ok (.iastore, 1) := by decide +kernel
theorem dX8_shareOut_129 : decode cX8_shareOut 129 = .ok (.iinc 5 (-1), 3) := by decide +kernel
theorem dX8_shareOut_132 : decode cX8_shareOut 132 = .ok (.iinc 6 1, 3) := by decide +kernel
theorem dX8_shareOut_135 : decode cX8_shareOut 135 = .ok (.goto (-39), 3) := by decide +kernel
theorem dX8_shareOut_138 : decode cX8_shareOut 138 = .ok (.return_, 1) := by decide +kernel
