theorem dX0_init_0 : decode cX0_init 0 = .ok (.aload_n 0, 1) := by decide +kernel
theorem dX0_init_1 : decode cX0_init 1 = .ok (.invokespecial 3, 3) := by decide +kernel
theorem dX0_init_4 : decode cX0_init 4 = .ok (.aload_n 0, 1) := by decide +kernel
theorem dX0_init_5 : decode cX0_init 5 = .ok (.new 9, 3) := by decide +kernel
theorem dX0_init_8 : decode cX0_init 8 = .ok (.dup, 1) := by decide +kernel
theorem dX0_init_9 : decode cX0_init 9 = .ok (.bipush 6, 2) := by decide +kernel
theorem dX0_init_11 : decode cX0_init 11 = .ok (.invokespecial 11, 3) := by decide +kernel
theorem dX0_init_14 : decode cX0_init 14 = .ok (.putfield 14, 3) := by decide +kernel
theorem dX0_init_17 : decode cX0_init 17 = .ok (.aload_n 0, 1) := by decide +kernel
theorem dX0_init_18 : decode cX0_init 18 = .ok (.new 9, 3) := by decide +kernel
theorem dX0_init_21 : decode cX0_init 21 = .ok (.dup, 1) := by decide +kernel
theorem dX0_init_22 : decode cX0_init 22 = .ok (.bipush 6, 2) := by decide +kernel
theorem dX0_init_24 : decode cX0_init 24 = .ok (.invokespecial 11, 3) := by decide +kernel
theorem dX0_init_27 : decode cX0_init 27 = .ok (.putfield 20, 3) := by decide +kernel
theorem dX0_init_30 : decode cX0_init 30 = .ok (.return_, 1) := by decide +kernel
theorem dX0_size_0 : decode cX0_size 0 = .ok (.aload_n 0, 1) := by decide +kernel
theorem dX0_size_1 : decode cX0_size 1 = .ok (.getfield 14, 3) := by decide +kernel
theorem dX0_size_4 : decode cX0_size 4 = .ok (.invokevirtual 23, 3) := by decide +kernel
theorem dX0_size_7 : decode cX0_size 7 = .ok (.ireturn, 1) := by decide +kernel
theorem dX0_has_0 : decode cX0_has 0 = .ok (.aload_n 0, 1) := by decide +kernel
theorem dX0_has_1 : decode cX0_has 1 = .ok (.getfield 14, 3) := by decide +kernel
theorem dX0_has_4 : decode cX0_has 4 = .ok (.iload_n 1, 1) := by decide +kernel
theorem dX0_has_5 : decode cX0_has 5 = .ok (.invokevirtual 27, 3) := by decide +kernel
theorem dX0_has_8 : decode cX0_has 8 = .ok (.ireturn, 1) := by decide +kernel
theorem dX0_add_0 : decode cX0_add 0 = .ok (.aload_n 0, 1) := by decide +kernel
theorem dX0_add_1 : decode cX0_add 1 = .ok (.getfield 14, 3) := by decide +kernel
theorem dX0_add_4 : decode cX0_add 4 = .ok (.iload_n 1, 1) := by decide +kernel
theorem dX0_add_5 : decode cX0_add 5 = .ok (.invokevirtual 31, 3) := by decide +kernel
theorem dX0_add_8 : decode cX0_add 8 = .ok (.aload_n 0, 1) := by decide +kernel
theorem dX0_add_9 : decode cX0_add 9 = .ok (.getfield 20, 3) := by decide +kernel
theorem dX0_add_12 : decode cX0_add 12 = .ok (.iload_n 2, 1) := by decide +kernel
theorem dX0_add_13 : decode cX0_add 13 = .ok (.invokevirtual 31, 3) := by decide +kernel
theorem dX0_add_16 : decode cX0_add 16 = .ok (.return_, 1) := by decide +kernel
theorem dX0_drinkersAt_0 : decode cX0_drinkersAt 0 = .ok (.iconst 0, 1) := by decide +kernel
theorem dX0_drinkersAt_1 : decode cX0_drinkersAt 1 = .ok (.istore_n 2, 1) := by decide +kernel
theorem dX0_drinkersAt_2 : decode cX0_drinkersAt 2 = .ok (.iconst 0, 1) := by decide +kernel
theorem dX0_drinkersAt_3 : decode cX0_drinkersAt 3 = .ok (.istore_n 3, 1) := by decide +kernel
theorem dX0_drinkersAt_4 : decode cX0_drinkersAt 4 = .ok (.iload_n 3, 1) := by decide +kernel
theorem dX0_drinkersAt_5 : decode cX0_drinkersAt 5 = .ok (.aload_n 0, 1) := by decide +kernel
theorem dX0_drinkersAt_6 : decode cX0_drinkersAt 6 = .ok (.getfield 14, 3) := by decide +kernel
theorem dX0_drinkersAt_9 : decode cX0_drinkersAt 9 = .ok (.invokevirtual 23, 3) := by decide +kernel
theorem dX0_drinkersAt_12 : decode cX0_drinkersAt 12 = .ok (.if_icmp .ge 32, 3) := by decide +kernel
theorem dX0_drinkersAt_15 : decode cX0_drinkersAt 15 = .ok (.iload_n 2, 1) := by decide +kernel
theorem dX0_drinkersAt_16 : decode cX0_drinkersAt 16 = .ok (.iload_n 3, 1) := by decide +kernel
theorem dX0_drinkersAt_17 : decode cX0_drinkersAt 17 = .ok (.aload_n 0, 1) := by decide +kernel
theorem dX0_drinkersAt_18 : decode cX0_drinkersAt 18 = .ok (.getfield 14, 3) := by decide +kernel
theorem dX0_drinkersAt_21 : decode cX0_drinkersAt 21 = .ok (.iload_n 3, 1) := by decide +kernel
theorem dX0_drinkersAt_22 : decode cX0_drinkersAt 22 = .ok (.invokevirtual 34, 3) := by decide +kernel
theorem dX0_drinkersAt_25 : decode cX0_drinkersAt 25 = .ok (.iload_n 1, 1) := by decide +kernel
theorem dX0_drinkersAt_26 : decode cX0_drinkersAt 26 = .ok (.if_icmp .ne 7, 3) := by decide +kernel
theorem dX0_drinkersAt_29 : decode cX0_drinkersAt 29 = .ok (.iconst 1, 1) := by decide +kernel
theorem dX0_drinkersAt_30 : decode cX0_drinkersAt 30 = .ok (.goto 4, 3) := by decide +kernel
theorem dX0_drinkersAt_33 : decode cX0_drinkersAt 33 = .ok (.iconst 0, 1) := by decide +kernel
theorem dX0_drinkersAt_34 : decode cX0_drinkersAt 34 = .ok (.invokestatic 38, 3) := by decide +kernel
theorem dX0_drinkersAt_37 : decode cX0_drinkersAt 37 = .ok (.istore_n 2, 1) := by decide +kernel
theorem dX0_drinkersAt_38 : decode cX0_drinkersAt 38 = .ok (.iinc 3 1, 3) := by decide +kernel
theorem dX0_drinkersAt_41 : decode cX0_drinkersAt 41 = .ok (.goto (-37), 3) := by decide +kernel
theorem dX0_drinkersAt_44 : decode cX0_drinkersAt 44 = .ok (.iload_n 2, 1) := by decide +kernel
theorem dX0_drinkersAt_45 : decode cX0_drinkersAt 45 = .ok (.ireturn, 1) := by decide +kernel
theorem dX0_copyFrom_0 : decode cX0_copyFrom 0 = .ok (.aload_n 0, 1) := by decide +kernel
theorem dX0_copyFrom_1 : decode cX0_copyFrom 1 = .ok (.getfield 14, 3) := by decide +kernel
theorem dX0_copyFrom_4 : decode cX0_copyFrom 4 = .ok (.aload_n 1, 1) := by decide +kernel
theorem dX0_copyFrom_5 : decode cX0_copyFrom 5 = .ok (.getfield 14, 3) := by decide +kernel
theorem dX0_copyFrom_8 : decode cX0_copyFrom 8 = .ok (.invokevirtual 42, 3) := by decide +kernel
theorem dX0_copyFrom_11 : decode cX0_copyFrom 11 = .ok (.aload_n 0, 1) := by decide +kernel
theorem dX0_copyFrom_12 : decode cX0_copyFrom 12 = .ok (.getfield 20, 3) := by decide +kernel
theorem dX0_copyFrom_15 : decode cX0_copyFrom 15 = .ok (.aload_n 1, 1) := by decide +kernel
theorem dX0_copyFrom_16 : decode cX0_copyFrom 16 = .ok (.getfield 20, 3) := by decide +kernel
theorem dX0_copyFrom_19 : decode cX0_copyFrom 19 = .ok (.invokevirtual 42, 3) := by decide +kernel
theorem dX0_copyFrom_22 : decode cX0_copyFrom 22 = .ok (.return_, 1) := by decide +kernel
theorem dX1_init_0 : decode cX1_init 0 = .ok (.aload_n 0, 1) := by decide +kernel
theorem dX1_init_1 : decode cX1_init 1 = .ok (.invokespecial 3, 3) := by decide +kernel
theorem dX1_init_4 : decode cX1_init 4 = .ok (.aload_n 0, 1) := by decide +kernel
theorem dX1_init_5 : decode cX1_init 5 = .ok (.new 9, 3) := by decide +kernel
theorem dX1_init_8 : decode cX1_init 8 = .ok (.dup, 1) := by decide +kernel
theorem dX1_init_9 : decode cX1_init 9 = .ok (.bipush 50, 2) := by decide +kernel
theorem dX1_init_11 : decode cX1_init 11 = .ok (.invokespecial 11, 3) := by decide +kernel
theorem dX1_init_14 : decode cX1_init 14 = .ok (.putfield 14, 3) := by decide +kernel
theorem dX1_init_17 : decode cX1_init 17 = .ok (.aload_n 0, 1) := by decide +kernel
theorem dX1_init_18 : decode cX1_init 18 = .ok (.new 9, 3) := by decide +kernel
theorem dX1_init_21 : decode cX1_init 21 = .ok (.dup, 1) := by decide +kernel
theorem dX1_init_22 : decode cX1_init 22 = .ok (.bipush 50, 2) := by decide +kernel
theorem dX1_init_24 : decode cX1_init 24 = .ok (.invokespecial 11, 3) := by decide +kernel
theorem dX1_init_27 : decode cX1_init 27 = .ok (.putfield 20, 3) := by decide +kernel
theorem dX1_init_30 : decode cX1_init 30 = .ok (.aload_n 0, 1) := by decide +kernel
theorem dX1_init_31 : decode cX1_init 31 = .ok (.ldc 23, 2) := by decide +kernel
theorem dX1_init_33 : decode cX1_init 33 = .ok (.putfield 25, 3) := by decide +kernel
theorem dX1_init_36 : decode cX1_init 36 = .ok (.aload_n 0, 1) := by decide +kernel
theorem dX1_init_37 : decode cX1_init 37 = .ok (.iconst 0, 1) := by decide +kernel
theorem dX1_init_38 : decode cX1_init 38 = .ok (.putfield 29, 3) := by decide +kernel
theorem dX1_init_41 : decode cX1_init 41 = .ok (.return_, 1) := by decide +kernel
theorem dX1_faultOf_0 : decode cX1_faultOf 0 = .ok (.aload_n 0, 1) := by decide +kernel
theorem dX1_faultOf_1 : decode cX1_faultOf 1 = .ok (.getfield 20, 3) := by decide +kernel
theorem dX1_faultOf_4 : decode cX1_faultOf 4 = .ok (.aload_n 1, 1) := by decide +kernel
theorem dX1_faultOf_5 : decode cX1_faultOf 5 = .ok (.invokevirtual 33, 3) := by decide +kernel
theorem dX1_faultOf_8 : decode cX1_faultOf 8 = .ok (.aload_n 0, 1) := by decide +kernel
theorem dX1_faultOf_9 : decode cX1_faultOf 9 = .ok (.aload_n 2, 1) := by decide +kernel
theorem dX1_faultOf_10 : decode cX1_faultOf 10 = .ok (.putfield 25, 3) := by decide +kernel
theorem dX1_faultOf_13 : decode cX1_faultOf 13 = .ok (.aload_n 0, 1) := by decide +kernel
theorem dX1_faultOf_14 : decode cX1_faultOf 14 = .ok (.iconst 0, 1) := by decide +kernel
theorem dX1_faultOf_15 : decode cX1_faultOf 15 = .ok (.putfield 29, 3) := by decide +kernel
theorem dX1_faultOf_18 : decode cX1_faultOf 18 = .ok (.aload_n 0, 1) := by decide +kernel
theorem dX1_faultOf_19 : decode cX1_faultOf 19 = .ok (.getfield 14, 3) := by decide +kernel
theorem dX1_faultOf_22 : decode cX1_faultOf 22 = .ok (.invokevirtual 37, 3) := by decide +kernel
theorem dX1_faultOf_25 : decode cX1_faultOf 25 = .ok (.aload_n 0, 1) := by decide +kernel
theorem dX1_faultOf_26 : decode cX1_faultOf 26 = .ok (.iconst 0, 1) := by decide +kernel
theorem dX1_faultOf_27 : decode cX1_faultOf 27 = .ok (.iconst 0, 1) := by decide +kernel
theorem dX1_faultOf_28 : decode cX1_faultOf 28 = .ok (.invokevirtual 40, 3) := by decide +kernel
theorem dX1_faultOf_31 : decode cX1_faultOf 31 = .ok (.ifCond .eq 21, 3) := by decide +kernel
theorem dX1_faultOf_34 : decode cX1_faultOf 34 = .ok (.aload_n 0, 1) := by decide +kernel
theorem dX1_faultOf_35 : decode cX1_faultOf 35 = .ok (.getfield 29, 3) := by decide +kernel
theorem dX1_faultOf_38 : decode cX1_faultOf 38 = .ok (.aload_n 0, 1) := by decide +kernel
theorem dX1_faultOf_39 : decode cX1_faultOf 39 = .ok (.getfield 20, 3) := by decide +kernel
theorem dX1_faultOf_42 : decode cX1_faultOf 42 = .ok (.invokevirtual 44, 3) := by decide +kernel
theorem dX1_faultOf_45 : decode cX1_faultOf 45 = .ok (.if_icmp .ne 7, 3) := by decide +kernel
theorem dX1_faultOf_48 : decode cX1_faultOf 48 = .ok (.iconst (-1), 1) := by decide +kernel
theorem dX1_faultOf_49 : decode cX1_faultOf 49 = .ok (.goto 7, 3) := by decide +kernel
theorem dX1_faultOf_52 : decode cX1_faultOf 52 = .ok (.aload_n 0, 1) := by decide +kernel
theorem dX1_faultOf_53 : decode cX1_faultOf 53 = .ok (.getfield 29, 3) := by decide +kernel
theorem dX1_faultOf_56 : decode cX1_faultOf 56 = .ok (.ireturn, 1) := by decide +kernel
theorem dX1_next_0 : decode cX1_next 0 = .ok (.aload_n 0, 1) := by decide +kernel
theorem dX1_next_1 : decode cX1_next 1 = .ok (.getfield 20, 3) := by decide +kernel
theorem dX1_next_4 : decode cX1_next 4 = .ok (.aload_n 0, 1) := by decide +kernel
theorem dX1_next_5 : decode cX1_next 5 = .ok (.getfield 29, 3) := by decide +kernel
theorem dX1_next_8 : decode cX1_next 8 = .ok (.invokevirtual 48, 3) := by decide +kernel
theorem dX1_next_11 : decode cX1_next 11 = .ok (.ifCond .eq 17, 3) := by decide +kernel
theorem dX1_next_14 : decode cX1_next 14 = .ok (.aload_n 0, 1) := by decide +kernel
theorem dX1_next_15 : decode cX1_next 15 = .ok (.getfield 20, 3) := by decide +kernel
theorem dX1_next_18 : decode cX1_next 18 = .ok (.aload_n 0, 1) := by decide +kernel
theorem dX1_next_19 : decode cX1_next 19 = .ok (.getfield 29, 3) := by decide +kernel
theorem dX1_next_22 : decode cX1_next 22 = .ok (.invokevirtual 52, 3) := by decide +kernel
theorem dX1_next_25 : decode cX1_next 25 = .ok (.goto 4, 3) := by decide +kernel
theorem dX1_next_28 : decode cX1_next 28 = .ok (.iconst (-1), 1) := by decide +kernel
theorem dX1_next_29 : decode cX1_next 29 = .ok (.ireturn, 1) := by decide +kernel
theorem dX1_isIn_0 : decode cX1_isIn 0 = .ok (.iload_n 1, 1) := by decide +kernel
theorem dX1_isIn_1 : decode cX1_isIn 1 = .ok (.ifCond .lt 16, 3) := by decide +kernel
theorem dX1_isIn_4 : decode cX1_isIn 4 = .ok (.aload_n 0, 1) := by decide +kernel
theorem dX1_isIn_5 : decode cX1_isIn 5 = .ok (.iload_n 1, 1) := by decide +kernel
theorem dX1_isIn_6 : decode cX1_isIn 6 = .ok (.i2c, 1) := by decide +kernel
theorem dX1_isIn_7 : decode cX1_isIn 7 = .ok (.invokevirtual 56, 3) := by decide +kernel
theorem dX1_isIn_10 : decode cX1_isIn 10 = .ok (.ifCond .lt 7, 3) := by decide +kernel
theorem dX1_isIn_13 : decode cX1_isIn 13 = .ok (.iconst 1, 1) := by decide +kernel
theorem dX1_isIn_14 : decode cX1_isIn 14 = .ok (.goto 4, 3) := by decide +kernel
theorem dX1_isIn_17 : decode cX1_isIn 17 = .ok (.iconst 0, 1) := by decide +kernel
theorem dX1_isIn_18 : decode cX1_isIn 18 = .ok (.ireturn, 1) := by decide +kernel
theorem dX1_signsOf_0 : decode cX1_signsOf 0 = .ok (.iload_n 0, 1) := by decide +kernel
theorem dX1_signsOf_1 : decode cX1_signsOf 1 = .ok (.tableswitch 43 0 3 #[31, 34, 37, 40], 31) := by decide +kernel
theorem dX1_signsOf_32 : decode cX1_signsOf 32 = .ok (.ldc 61, 2) := by decide +kernel
theorem dX1_signsOf_34 : decode cX1_signsOf 34 = .ok (.areturn, 1) := by decide +kernel
theorem dX1_signsOf_35 : decode cX1_signsOf 35 = .ok (.ldc 63, 2) := by decide +kernel
theorem dX1_signsOf_37 : decode cX1_signsOf 37 = .ok (.areturn, 1) := by decide +kernel
theorem dX1_signsOf_38 : decode cX1_signsOf 38 = .ok (.ldc 65, 2) := by decide +kernel
theorem dX1_signsOf_40 : decode cX1_signsOf 40 = .ok (.areturn, 1) := by decide +kernel
theorem dX1_signsOf_41 : decode cX1_signsOf 41 = .ok (.ldc 67, 2) := by decide +kernel
theorem dX1_signsOf_43 : decode cX1_signsOf 43 = .ok (.areturn, 1) := by decide +kernel
theorem dX1_signsOf_44 : decode cX1_signsOf 44 = .ok (.ldc 69, 2) := by decide +kernel
theorem dX1_signsOf_46 : decode cX1_signsOf 46 = .ok (.areturn, 1) := by decide +kernel
theorem dX1_reads_0 : decode cX1_reads 0 = .ok (.aload_n 0, 1) := by decide +kernel
theorem dX1_reads_1 : decode cX1_reads 1 = .ok (.iload_n 1, 1) := by decide +kernel
theorem dX1_reads_2 : decode cX1_reads 2 = .ok (.iload_n 2, 1) := by decide +kernel
theorem dX1_reads_3 : decode cX1_reads 3 = .ok (.invokevirtual 71, 3) := by decide +kernel
theorem dX1_reads_6 : decode cX1_reads 6 = .ok (.ifCond .ne 5, 3) := by decide +kernel
theorem dX1_reads_9 : decode cX1_reads 9 = .ok (.iconst 0, 1) := by decide +kernel
theorem dX1_reads_10 : decode cX1_reads 10 = .ok (.ireturn, 1) := by decide +kernel
theorem dX1_reads_11 : decode cX1_reads 11 = .ok (.iload_n 1, 1) := by decide +kernel
theorem dX1_reads_12 : decode cX1_reads 12 = .ok (.invokestatic 74, 3) := by decide +kernel
theorem dX1_reads_15 : decode cX1_reads 15 = .ok (.astore_n 3, 1) := by decide +kernel
theorem dX1_reads_16 : decode cX1_reads 16 = .ok (.iconst 0, 1) := by decide +kernel
theorem dX1_reads_17 : decode cX1_reads 17 = .ok (.istore 4, 2) := by decide +kernel
theorem dX1_reads_19 : decode cX1_reads 19 = .ok (.iload 4, 2) := by decide +kernel
theorem dX1_reads_21 : decode cX1_reads 21 = .ok (.bipush 50, 2) := by decide +kernel
theorem dX1_reads_23 : decode cX1_reads 23 = .ok (.if_icmp .ge 64, 3) := by decide +kernel
theorem dX1_reads_26 : decode cX1_reads 26 = .ok (.aload_n 3, 1) := by decide +kernel
theorem dX1_reads_27 : decode cX1_reads 27 = .ok (.aload_n 0, 1) := by decide +kernel
theorem dX1_reads_28 : decode cX1_reads 28 = .ok (.invokevirtual 78, 3) := by decide +kernel
theorem dX1_reads_31 : decode cX1_reads 31 = .ok (.invokestatic 81, 3) := by decide +kernel
theorem dX1_reads_34 : decode cX1_reads 34 = .ok (.ifCond .eq 53, 3) := by decide +kernel
theorem dX1_reads_37 : decode cX1_reads 37 = .ok (.aload_n 0, 1) := by decide +kernel
theorem dX1_reads_38 : decode cX1_reads 38 = .ok (.invokevirtual 78, 3) := by decide +kernel
theorem dX1_reads_41 : decode cX1_reads 41 = .ok (.istore 5, 2) := by decide +kernel
theorem dX1_reads_43 : decode cX1_reads 43 = .ok (.aload_n 0, 1) := by decide +kernel
theorem dX1_reads_44 : decode cX1_reads 44 = .ok (.dup, 1) := by decide +kernel
theorem dX1_reads_45 : decode cX1_reads 45 = .ok (.getfield 29, 3) := by decide +kernel
theorem dX1_reads_48 : decode cX1_reads 48 = .ok (.iconst 1, 1) := by decide +kernel
theorem dX1_reads_49 : decode cX1_reads 49 = .ok (.iadd, 1) := by decide +kernel
theorem dX1_reads_50 : decode cX1_reads 50 = .ok (.putfield 29, 3) := by decide +kernel
theorem dX1_reads_53 : decode cX1_reads 53 = .ok (.aload_n 0, 1) := by decide +kernel
theorem dX1_reads_54 : decode cX1_reads 54 = .ok (.iload_n 1, 1) := by decide +kernel
theorem dX1_reads_55 : decode cX1_reads 55 = .ok (.iload_n 2, 1) := by decide +kernel
theorem dX1_reads_56 : decode cX1_reads 56 = .ok (.invokevirtual 71, 3) := by decide +kernel
theorem dX1_reads_59 : decode cX1_reads 59 = .ok (.ifCond .ne 5, 3) := by decide +kernel
theorem dX1_reads_62 : decode cX1_reads 62 = .ok (.iconst 0, 1) := by decide +kernel
theorem dX1_reads_63 : decode cX1_reads 63 = .ok (.ireturn, 1) := by decide +kernel
theorem dX1_reads_64 : decode cX1_reads 64 = .ok (.aload_n 0, 1) := by decide +kernel
theorem dX1_reads_65 : decode cX1_reads 65 = .ok (.getfield 14, 3) := by decide +kernel
theorem dX1_reads_68 : decode cX1_reads 68 = .ok (.iload 5, 2) := by decide +kernel
theorem dX1_reads_70 : decode cX1_reads 70 = .ok (.ineg, 1) := by decide +kernel
theorem dX1_reads_71 : decode cX1_reads 71 = .ok (.invokevirtual 85, 3) := by decide +kernel
theorem dX1_reads_74 : decode cX1_reads 74 = .ok (.iload_n 1, 1) := by decide +kernel
theorem dX1_reads_75 : decode cX1_reads 75 = .ok (.iconst 2, 1) := by decide +kernel
theorem dX1_reads_76 : decode cX1_reads 76 = .ok (.if_icmp .ne 5, 3) := by decide +kernel
theorem dX1_reads_79 : decode cX1_reads 79 = .ok (.iconst 1, 1) := by decide +kernel
theorem dX1_reads_80 : decode cX1_reads 80 = .ok (.ireturn, 1) := by decide +kernel
theorem dX1_reads_81 : decode cX1_reads 81 = .ok (.iinc 4 1, 3) := by decide +kernel
theorem dX1_reads_84 : decode cX1_reads 84 = .ok (.goto (-65), 3) := by decide +kernel
theorem dX1_reads_87 : decode cX1_reads 87 = .ok (.iconst 1, 1) := by decide +kernel
theorem dX1_reads_88 : decode cX1_reads 88 = .ok (.ireturn, 1) := by decide +kernel
theorem dX1_readsPart_0 : decode cX1_readsPart 0 = .ok (.iload_n 1, 1) := by decide +kernel
theorem dX1_readsPart_1 : decode cX1_readsPart 1 = .ok (.iconst 4, 1) := by decide +kernel
theorem dX1_readsPart_2 : decode cX1_readsPart 2 = .ok (.if_icmp .ge 14, 3) := by decide +kernel
theorem dX1_readsPart_5 : decode cX1_readsPart 5 = .ok (.aload_n 0, 1) := by decide +kernel
theorem dX1_readsPart_6 : decode cX1_readsPart 6 = .ok (.iload_n 1, 1) := by decide +kernel
theorem dX1_readsPart_7 : decode cX1_readsPart 7 = .ok (.iconst 1, 1) := by decide +kernel
theorem dX1_readsPart_8 : decode cX1_readsPart 8 = .ok (.iadd, 1) := by decide +kernel
theorem dX1_readsPart_9 : decode cX1_readsPart 9 = .ok (.iload_n 2, 1) := by decide +kernel
theorem dX1_readsPart_10 : decode cX1_readsPart 10 = .ok (.invokevirtual 40, 3) := by decide +kernel
theorem dX1_readsPart_13 : decode cX1_readsPart 13 = .ok (.goto 8, 3) := by decide +kernel
theorem dX1_readsPart_16 : decode cX1_readsPart 16 = .ok (.aload_n 0, 1) := by decide +kernel
theorem dX1_readsPart_17 : decode cX1_readsPart 17 = .ok (.iload_n 2, 1) := by decide +kernel
theorem dX1_readsPart_18 : decode cX1_readsPart 18 = .ok (.invokevirtual 88, 3) := by decide +kernel
theorem dX1_readsPart_21 : decode cX1_readsPart 21 = .ok (.ireturn, 1) := by decide +kernel
theorem dX1_readsOne_0 : decode cX1_readsOne 0 = .ok (.aload_n 0, 1) := by decide +kernel
theorem dX1_readsOne_1 : decode cX1_readsOne 1 = .ok (.invokevirtual 78, 3) := by decide +kernel
theorem dX1_readsOne_4 : decode cX1_readsOne 4 = .ok (.istore_n 2, 1) := by decide +kernel
theorem dX1_readsOne_5 : decode cX1_readsOne 5 = .ok (.ldc 91, 2) := by decide +kernel
theorem dX1_readsOne_7 : decode cX1_readsOne 7 = .ok (.iload_n 2, 1) := by decide +kernel
theorem dX1_readsOne_8 : decode cX1_readsOne 8 = .ok (.invokestatic 81, 3) := by decide +kernel
theorem dX1_readsOne_11 : decode cX1_readsOne 11 = .ok (.ifCond .eq 9, 3) := by decide +kernel
theorem dX1_readsOne_14 : decode cX1_readsOne 14 = .ok (.aload_n 0, 1) := by decide +kernel
theorem dX1_readsOne_15 : decode cX1_readsOne 15 = .ok (.invokevirtual 93, 3) := by decide +kernel
theorem dX1_readsOne_18 : decode cX1_readsOne 18 = .ok (.iconst 1, 1) := by decide +kernel
theorem dX1_readsOne_19 : decode cX1_readsOne 19 = .ok (.ireturn, 1) := by decide +kernel
theorem dX1_readsOne_20 : decode cX1_readsOne 20 = .ok (.aload_n 0, 1) := by decide +kernel
theorem dX1_readsOne_21 : decode cX1_readsOne 21 = .ok (.getfield 25, 3) := by decide +kernel
theorem dX1_readsOne_24 : decode cX1_readsOne 24 = .ok (.iload_n 2, 1) := by decide +kernel
theorem dX1_readsOne_25 : decode cX1_readsOne 25 = .ok (.invokestatic 81, 3) := by decide +kernel
theorem dX1_readsOne_28 : decode cX1_readsOne 28 = .ok (.ifCond .eq 33, 3) := by decide +kernel
theorem dX1_readsOne_31 : decode cX1_readsOne 31 = .ok (.aload_n 0, 1) := by decide +kernel
theorem dX1_readsOne_32 : decode cX1_readsOne 32 = .ok (.getfield 14, 3) := by decide +kernel
theorem dX1_readsOne_35 : decode cX1_readsOne 35 = .ok (.iconst (-1), 1) := by decide +kernel
theorem dX1_readsOne_36 : decode cX1_readsOne 36 = .ok (.aload_n 0, 1) := by decide +kernel
theorem dX1_readsOne_37 : decode cX1_readsOne 37 = .ok (.getfield 25, 3) := by decide +kernel
theorem dX1_readsOne_40 : decode cX1_readsOne 40 = .ok (.iload_n 2, 1) := by decide +kernel
theorem dX1_readsOne_41 : decode cX1_readsOne 41 = .ok (.i2c, 1) := by decide +kernel
theorem dX1_readsOne_42 : decode cX1_readsOne 42 = .ok (.invokevirtual 56, 3) := by decide +kernel
theorem dX1_readsOne_45 : decode cX1_readsOne 45 = .ok (.isub, 1) := by decide +kernel
theorem dX1_readsOne_46 : decode cX1_readsOne 46 = .ok (.invokevirtual 85, 3) := by decide +kernel
theorem dX1_readsOne_49 : decode cX1_readsOne 49 = .ok (.aload_n 0, 1) := by decide +kernel
theorem dX1_readsOne_50 : decode cX1_readsOne 50 = .ok (.dup, 1) := by decide +kernel
theorem dX1_readsOne_51 : decode cX1_readsOne 51 = .ok (.getfield 29, 3) := by decide +kernel
theorem dX1_readsOne_54 : decode cX1_readsOne 54 = .ok (.iconst 1, 1) := by decide +kernel
theorem dX1_readsOne_55 : decode cX1_readsOne 55 = .ok (.iadd, 1) := by decide +kernel
theorem dX1_readsOne_56 : decode cX1_readsOne 56 = .ok (.putfield 29, 3) := by decide +kernel
theorem dX1_readsOne_59 : decode cX1_readsOne 59 = .ok (.iconst 1, 1) := by decide +kernel
theorem dX1_readsOne_60 : decode cX1_readsOne 60 = .ok (.ireturn, 1) := by decide +kernel
theorem dX1_readsOne_61 : decode cX1_readsOne 61 = .ok (.iload_n 1, 1) := by decide +kernel
theorem dX1_readsOne_62 : decode cX1_readsOne 62 = .ok (.iconst 5, 1) := by decide +kernel
theorem dX1_readsOne_63 : decode cX1_readsOne 63 = .ok (.if_icmp .ge 15, 3) := by decide +kernel
theorem dX1_readsOne_66 : decode cX1_readsOne 66 = .ok (.iload_n 2, 1) := by decide +kernel
theorem dX1_readsOne_67 : decode cX1_readsOne 67 = .ok (.bipush 33, 2) := by decide +kernel
theorem dX1_readsOne_69 : decode cX1_readsOne 69 = .ok (.if_icmp .eq 11, 3) := by decide +kernel
theorem dX1_readsOne_72 : decode cX1_readsOne 72 = .ok (.iload_n 2, 1) := by decide +kernel
theorem dX1_readsOne_73 : decode cX1_readsOne 73 = .ok (.bipush 40, 2) := by decide +kernel
theorem dX1_readsOne_75 : decode cX1_readsOne 75 = .ok (.if_icmp .eq 5, 3) := by decide +kernel
theorem dX1_readsOne_78 : decode cX1_readsOne 78 = .ok (.iconst 0, 1) := by decide +kernel
theorem dX1_readsOne_79 : decode cX1_readsOne 79 = .ok (.ireturn, 1) := by decide +kernel
theorem dX1_readsOne_80 : decode cX1_readsOne 80 = .ok (.aload_n 0, 1) := by decide +kernel
theorem dX1_readsOne_81 : decode cX1_readsOne 81 = .ok (.dup, 1) := by decide +kernel
theorem dX1_readsOne_82 : decode cX1_readsOne 82 = .ok (.getfield 29, 3) := by decide +kernel
theorem dX1_readsOne_85 : decode cX1_readsOne 85 = .ok (.iconst 1, 1) := by decide +kernel
theorem dX1_readsOne_86 : decode cX1_readsOne 86 = .ok (.iadd, 1) := by decide +kernel
theorem dX1_readsOne_87 : decode cX1_readsOne 87 = .ok (.putfield 29, 3) := by decide +kernel
theorem dX1_readsOne_90 : decode cX1_readsOne 90 = .ok (.iload_n 2, 1) := by decide +kernel
theorem dX1_readsOne_91 : decode cX1_readsOne 91 = .ok (.bipush 33, 2) := by decide +kernel
theorem dX1_readsOne_93 : decode cX1_readsOne 93 = .ok (.if_icmp .ne 13, 3) := by decide +kernel
theorem dX1_readsOne_96 : decode cX1_readsOne 96 = .ok (.aload_n 0, 1) := by decide +kernel
theorem dX1_readsOne_97 : decode cX1_readsOne 97 = .ok (.iload_n 1, 1) := by decide +kernel
theorem dX1_readsOne_98 : decode cX1_readsOne 98 = .ok (.iconst 1, 1) := by decide +kernel
theorem dX1_readsOne_99 : decode cX1_readsOne 99 = .ok (.iadd, 1) := by decide +kernel
theorem dX1_readsOne_100 : decode cX1_readsOne 100 = .ok (.invokevirtual 96, 3) := by decide +kernel
theorem dX1_readsOne_103 : decode cX1_readsOne 103 = .ok (.goto 10, 3) := by decide +kernel
theorem dX1_readsOne_106 : decode cX1_readsOne 106 = .ok (.aload_n 0, 1) := by decide +kernel
theorem dX1_readsOne_107 : decode cX1_readsOne 107 = .ok (.iload_n 1, 1) := by decide +kernel
theorem dX1_readsOne_108 : decode cX1_readsOne 108 = .ok (.iconst 1, 1) := by decide +kernel
theorem dX1_readsOne_109 : decode cX1_readsOne 109 = .ok (.iadd, 1) := by decide +kernel
theorem dX1_readsOne_110 : decode cX1_readsOne 110 = .ok (.invokevirtual 99, 3) := by decide +kernel
theorem dX1_readsOne_113 : decode cX1_readsOne 113 = .ok (.ireturn, 1) := by decide +kernel
theorem dX1_readsNot_0 : decode cX1_readsNot 0 = .ok (.aload_n 0, 1) := by decide +kernel
theorem dX1_readsNot_1 : decode cX1_readsNot 1 = .ok (.iload_n 1, 1) := by decide +kernel
theorem dX1_readsNot_2 : decode cX1_readsNot 2 = .ok (.invokevirtual 88, 3) := by decide +kernel
theorem dX1_readsNot_5 : decode cX1_readsNot 5 = .ok (.ifCond .ne 5, 3) := by decide +kernel
theorem dX1_readsNot_8 : decode cX1_readsNot 8 = .ok (.iconst 0, 1) := by decide +kernel
theorem dX1_readsNot_9 : decode cX1_readsNot 9 = .ok (.ireturn, 1) := by decide +kernel
theorem dX1_readsNot_10 : decode cX1_readsNot 10 = .ok (.aload_n 0, 1) := by decide +kernel
theorem dX1_readsNot_11 : decode cX1_readsNot 11 = .ok (.getfield 14, 3) := by decide +kernel
theorem dX1_readsNot_14 : decode cX1_readsNot 14 = .ok (.bipush (-33), 2) := by decide +kernel
theorem dX1_readsNot_16 : decode cX1_readsNot 16 = .ok (.invokevirtual 85, 3) := by decide +kernel
theorem dX1_readsNot_19 : decode cX1_readsNot 19 = .ok (.iconst 1, 1) := by decide +kernel
theorem dX1_readsNot_20 : decode cX1_readsNot 20 = .ok (.ireturn, 1) := by decide +kernel
theorem dX1_readsBracket_0 : decode cX1_readsBracket 0 = .ok (.aload_n 0, 1) := by decide +kernel
theorem dX1_readsBracket_1 : decode cX1_readsBracket 1 = .ok (.iconst 0, 1) := by decide +kernel
theorem dX1_readsBracket_2 : decode cX1_readsBracket 2 = .ok (.iload_n 1, 1) := by decide +kernel
theorem dX1_readsBracket_3 : decode cX1_readsBracket 3 = .ok (.invokevirtual 40, 3) := by decide +kernel
theorem dX1_readsBracket_6 : decode cX1_readsBracket 6 = .ok (.ifCond .eq 12, 3) := by decide +kernel
theorem dX1_readsBracket_9 : decode cX1_readsBracket 9 = .ok (.aload_n 0, 1) := by decide +kernel
theorem dX1_readsBracket_10 : decode cX1_readsBracket 10 = .ok (.invokevirtual 78, 3) := by decide +kernel
theorem dX1_readsBracket_13 : decode cX1_readsBracket 13 = .ok (.bipush 41, 2) := by decide +kernel
theorem dX1_readsBracket_15 : decode cX1_readsBracket 15 = .ok (.if_icmp .eq 5, 3) := by decide +kernel
theorem dX1_readsBracket_18 : decode cX1_readsBracket 18 = .ok (.iconst 0, 1) := by decide +kernel
theorem dX1_readsBracket_19 : decode cX1_readsBracket 19 = .ok (.ireturn, 1) := by decide +kernel
theorem dX1_readsBracket_20 : decode cX1_readsBracket 20 = .ok (.aload_n 0, 1) := by decide +kernel
theorem dX1_readsBracket_21 : decode cX1_readsBracket 21 = .ok (.dup, 1) := by decide +kernel
theorem dX1_readsBracket_22 : decode cX1_readsBracket 22 = .ok (.getfield 29, 3) := by decide +kernel
theorem dX1_readsBracket_25 : decode cX1_readsBracket 25 = .ok (.iconst 1, 1) := by decide +kernel
theorem dX1_readsBracket_26 : decode cX1_readsBracket 26 = .ok (.iadd, 1) := by decide +kernel
theorem dX1_readsBracket_27 : decode cX1_readsBracket 27 = .ok (.putfield 29, 3) := by decide +kernel
theorem dX1_readsBracket_30 : decode cX1_readsBracket 30 = .ok (.iconst 1, 1) := by decide +kernel
theorem dX1_readsBracket_31 : decode cX1_readsBracket 31 = .ok (.ireturn, 1) := by decide +kernel
theorem dX1_readNumber_0 : decode cX1_readNumber 0 = .ok (.iconst 0, 1) := by decide +kernel
theorem dX1_readNumber_1 : decode cX1_readNumber 1 = .ok (.istore_n 1, 1) := by decide +kernel
theorem dX1_readNumber_2 : decode cX1_readNumber 2 = .ok (.iconst 0, 1) := by decide +kernel
theorem dX1_readNumber_3 : decode cX1_readNumber 3 = .ok (.istore_n 2, 1) := by decide +kernel
theorem dX1_readNumber_4 : decode cX1_readNumber 4 = .ok (.iload_n 2, 1) := by decide +kernel
theorem dX1_readNumber_5 : decode cX1_readNumber 5 = .ok (.iconst 4, 1) := by decide +kernel
theorem dX1_readNumber_6 : decode cX1_readNumber 6 = .ok (.if_icmp .ge 44, 3) := by decide +kernel
theorem dX1_readNumber_9 : decode cX1_readNumber 9 = .ok (.ldc 91, 2) := by decide +kernel
theorem dX1_readNumber_11 : decode cX1_readNumber 11 = .ok (.aload_n 0, 1) := by decide +kernel
theorem dX1_readNumber_12 : decode cX1_readNumber 12 = .ok (.invokevirtual 78, 3) := by decide +kernel
theorem dX1_readNumber_15 : decode cX1_readNumber 15 = .ok (.invokestatic 81, 3) := by decide +kernel
theorem dX1_readNumber_18 : decode cX1_readNumber 18 = .ok (.ifCond .eq 32, 3) := by decide +kernel
theorem dX1_readNumber_21 : decode cX1_readNumber 21 = .ok (.bipush 10, 2) := by decide +kernel
theorem dX1_readNumber_23 : decode cX1_readNumber 23 = .ok (.iload_n 1, 1) := by decide +kernel
theorem dX1_readNumber_24 : decode cX1_readNumber 24 = .ok (.imul, 1) := by decide +kernel
theorem dX1_readNumber_25 : decode cX1_readNumber 25 = .ok (.aload_n 0, 1) := by decide +kernel
theorem dX1_readNumber_26 : decode cX1_readNumber 26 = .ok (.invokevirtual 78, 3) := by decide +kernel
theorem dX1_readNumber_29 : decode cX1_readNumber 29 = .ok (.iadd, 1) := by decide +kernel
theorem dX1_readNumber_30 : decode cX1_readNumber 30 = .ok (.bipush 48, 2) := by decide +kernel
theorem dX1_readNumber_32 : decode cX1_readNumber 32 = .ok (.isub, 1) := by decide +kernel
theorem dX1_readNumber_33 : decode cX1_readNumber 33 = .ok (.istore_n 1, 1) := by decide +kernel
theorem dX1_readNumber_34 : decode cX1_readNumber 34 = .ok (.aload_n 0, 1) := by decide +kernel
theorem dX1_readNumber_35 : decode cX1_readNumber 35 = .ok (.dup, 1) := by decide +kernel
theorem dX1_readNumber_36 : decode cX1_readNumber 36 = .ok (.getfield 29, 3) := by decide +kernel
theorem dX1_readNumber_39 : decode cX1_readNumber 39 = .ok (.iconst 1, 1) := by decide +kernel
theorem dX1_readNumber_40 : decode cX1_readNumber 40 = .ok (.iadd, 1) := by decide +kernel
theorem dX1_readNumber_41 : decode cX1_readNumber 41 = .ok (.putfield 29, 3) := by decide +kernel
theorem dX1_readNumber_44 : decode cX1_readNumber 44 = .ok (.iinc 2 1, 3) := by decide +kernel
theorem dX1_readNumber_47 : decode cX1_readNumber 47 = .ok (.goto (-43), 3) := by decide +kernel
theorem dX1_readNumber_50 : decode cX1_readNumber 50 = .ok (.aload_n 0, 1) := by decide +kernel
theorem dX1_readNumber_51 : decode cX1_readNumber 51 = .ok (.getfield 14, 3) := by decide +kernel
theorem dX1_readNumber_54 : decode cX1_readNumber 54 = .ok (.iload_n 1, 1) := by decide +kernel
theorem dX1_readNumber_55 : decode cX1_readNumber 55 = .ok (.invokevirtual 85, 3) := by decide +kernel
theorem dX1_readNumber_58 : decode cX1_readNumber 58 = .ok (.return_, 1) := by decide +kernel
theorem dX2_init_0 : decode cX2_init 0 = .ok (.aload_n 0, 1) := by decide +kernel
theorem dX2_init_1 : decode cX2_init 1 = .ok (.invokespecial 1, 3) := by decide +kernel
theorem dX2_init_4 : decode cX2_init 4 = .ok (.aload_n 0, 1) := by decide +kernel
theorem dX2_init_5 : decode cX2_init 5 = .ok (.iconst 0, 1) := by decide +kernel
theorem dX2_init_6 : decode cX2_init 6 = .ok (.putfield 7, 3) := by decide +kernel
theorem dX2_init_9 : decode cX2_init 9 = .ok (.aload_n 0, 1) := by decide +kernel
theorem dX2_init_10 : decode cX2_init 10 = .ok (.iconst 0, 1) := by decide +kernel
theorem dX2_init_11 : decode cX2_init 11 = .ok (.iload_n 1, 1) := by decide +kernel
theorem dX2_init_12 : decode cX2_init 12 = .ok (.invokestatic 13, 3) := by decide +kernel
theorem dX2_init_15 : decode cX2_init 15 = .ok (.newarray .int, 2) := by decide +kernel
theorem dX2_init_17 : decode cX2_init 17 = .ok (.putfield 19, 3) := by decide +kernel
theorem dX2_init_20 : decode cX2_init 20 = .ok (.return_, 1) := by decide +kernel
theorem dX2_size_0 : decode cX2_size 0 = .ok (.aload_n 0, 1) := by decide +kernel
theorem dX2_size_1 : decode cX2_size 1 = .ok (.getfield 7, 3) := by decide +kernel
theorem dX2_size_4 : decode cX2_size 4 = .ok (.ireturn, 1) := by decide +kernel
theorem dX2_has_0 : decode cX2_has 0 = .ok (.iload_n 1, 1) := by decide +kernel
theorem dX2_has_1 : decode cX2_has 1 = .ok (.ifCond .lt 15, 3) := by decide +kernel
theorem dX2_has_4 : decode cX2_has 4 = .ok (.iload_n 1, 1) := by decide +kernel
theorem dX2_has_5 : decode cX2_has 5 = .ok (.aload_n 0, 1) := by decide +kernel
theorem dX2_has_6 : decode cX2_has 6 = .ok (.getfield 7, 3) := by decide +kernel
theorem dX2_has_9 : decode cX2_has 9 = .ok (.if_icmp .ge 7, 3) := by decide +kernel
theorem dX2_has_12 : decode cX2_has 12 = .ok (.iconst 1, 1) := by decide +kernel
theorem dX2_has_13 : decode cX2_has 13 = .ok (.goto 4, 3) := by decide +kernel
theorem dX2_has_16 : decode cX2_has 16 = .ok (.iconst 0, 1) := by decide +kernel
theorem dX2_has_17 : decode cX2_has 17 = .ok (.ireturn, 1) := by decide +kernel
theorem dX2_hasRun_0 : decode cX2_hasRun 0 = .ok (.iload_n 2, 1) := by decide +kernel
theorem dX2_hasRun_1 : decode cX2_hasRun 1 = .ok (.ifCond .lt 21, 3) := by decide +kernel
theorem dX2_hasRun_4 : decode cX2_hasRun 4 = .ok (.iload_n 1, 1) := by decide +kernel
theorem dX2_hasRun_5 : decode cX2_hasRun 5 = .ok (.ifCond .lt 17, 3) := by decide +kernel
theorem dX2_hasRun_8 : decode cX2_hasRun 8 = .ok (.iload_n 1, 1) := by decide +kernel
theorem dX2_hasRun_9 : decode cX2_hasRun 9 = .ok (.aload_n 0, 1) := by decide +kernel
theorem dX2_hasRun_10 : decode cX2_hasRun 10 = .ok (.getfield 7, 3) := by decide +kernel
theorem dX2_hasRun_13 : decode cX2_hasRun 13 = .ok (.iload_n 2, 1) := by decide +kernel
theorem dX2_hasRun_14 : decode cX2_hasRun 14 = .ok (.isub, 1) := by decide +kernel
theorem dX2_hasRun_15 : decode cX2_hasRun 15 = .ok (.if_icmp .gt 7, 3) := by decide +kernel
theorem dX2_hasRun_18 : decode cX2_hasRun 18 = .ok (.iconst 1, 1) := by decide +kernel
theorem dX2_hasRun_19 : decode cX2_hasRun 19 = .ok (.goto 4, 3) := by decide +kernel
theorem dX2_hasRun_22 : decode cX2_hasRun 22 = .ok (.iconst 0, 1) := by decide +kernel
theorem dX2_hasRun_23 : decode cX2_hasRun 23 = .ok (.ireturn, 1) := by decide +kernel
theorem dX2_get_0 : decode cX2_get 0 = .ok (.iload_n 1, 1) := by decide +kernel
theorem dX2_get_1 : decode cX2_get 1 = .ok (.ifCond .lt 21, 3) := by decide +kernel
theorem dX2_get_4 : decode cX2_get 4 = .ok (.iload_n 1, 1) := by decide +kernel
theorem dX2_get_5 : decode cX2_get 5 = .ok (.aload_n 0, 1) := by decide +kernel
theorem dX2_get_6 : decode cX2_get 6 = .ok (.getfield 19, 3) := by decide +kernel
theorem dX2_get_9 : decode cX2_get 9 = .ok (.arraylength, 1) := by decide +kernel
theorem dX2_get_10 : decode cX2_get 10 = .ok (.if_icmp .ge 12, 3) := by decide +kernel
theorem dX2_get_13 : decode cX2_get 13 = .ok (.aload_n 0, 1) := by decide +kernel
theorem dX2_get_14 : decode cX2_get 14 = .ok (.getfield 19, 3) := by decide +kernel
theorem dX2_get_17 : decode cX2_get 17 = .ok (.iload_n 1, 1) := by decide +kernel
theorem dX2_get_18 : decode cX2_get 18 = .ok (.iaload, 1) := by decide +kernel
theorem dX2_get_19 : decode cX2_get 19 = .ok (.goto 4, 3) := by decide +kernel
theorem dX2_get_22 : decode cX2_get 22 = .ok (.iconst 0, 1) := by decide +kernel
theorem dX2_get_23 : decode cX2_get 23 = .ok (.ireturn, 1) := by decide +kernel
theorem dX2_set_0 : decode cX2_set 0 = .ok (.iload_n 1, 1) := by decide +kernel
theorem dX2_set_1 : decode cX2_set 1 = .ok (.ifCond .lt 19, 3) := by decide +kernel
theorem dX2_set_4 : decode cX2_set 4 = .ok (.iload_n 1, 1) := by decide +kernel
theorem dX2_set_5 : decode cX2_set 5 = .ok (.aload_n 0, 1) := by decide +kernel
theorem dX2_set_6 : decode cX2_set 6 = .ok (.getfield 19, 3) := by decide +kernel
theorem dX2_set_9 : decode cX2_set 9 = .ok (.arraylength, 1) := by decide +kernel
theorem dX2_set_10 : decode cX2_set 10 = .ok (.if_icmp .ge 10, 3) := by decide +kernel
theorem dX2_set_13 : decode cX2_set 13 = .ok (.aload_n 0, 1) := by decide +kernel
theorem dX2_set_14 : decode cX2_set 14 = .ok (.getfield 19, 3) := by decide +kernel
theorem dX2_set_17 : decode cX2_set 17 = .ok (.iload_n 1, 1) := by decide +kernel
theorem dX2_set_18 : decode cX2_set 18 = .ok (.iload_n 2, 1) := by decide +kernel
theorem dX2_set_19 : decode cX2_set 19 = .ok (.iastore, 1) := by decide +kernel
theorem dX2_set_20 : decode cX2_set 20 = .ok (.return_, 1) := by decide +kernel
theorem dX2_add_0 : decode cX2_add 0 = .ok (.aload_n 0, 1) := by decide +kernel
theorem dX2_add_1 : decode cX2_add 1 = .ok (.getfield 7, 3) := by decide +kernel
theorem dX2_add_4 : decode cX2_add 4 = .ok (.ifCond .lt 35, 3) := by decide +kernel
theorem dX2_add_7 : decode cX2_add 7 = .ok (.aload_n 0, 1) := by decide +kernel
theorem dX2_add_8 : decode cX2_add 8 = .ok (.getfield 7, 3) := by decide +kernel
theorem dX2_add_11 : decode cX2_add 11 = .ok (.aload_n 0, 1) := by decide +kernel
theorem dX2_add_12 : decode cX2_add 12 = .ok (.getfield 19, 3) := by decide +kernel
theorem dX2_add_15 : decode cX2_add 15 = .ok (.arraylength, 1) := by decide +kernel
theorem dX2_add_16 : decode cX2_add 16 = .ok (.if_icmp .ge 23, 3) := by decide +kernel
theorem dX2_add_19 : decode cX2_add 19 = .ok (.aload_n 0, 1) := by decide +kernel
theorem dX2_add_20 : decode cX2_add 20 = .ok (.getfield 19, 3) := by decide +kernel
theorem dX2_add_23 : decode cX2_add 23 = .ok (.aload_n 0, 1) := by decide +kernel
theorem dX2_add_24 : decode cX2_add 24 = .ok (.getfield 7, 3) := by decide +kernel
theorem dX2_add_27 : decode cX2_add 27 = .ok (.iload_n 1, 1) := by decide +kernel
theorem dX2_add_28 : decode cX2_add 28 = .ok (.iastore, 1) := by decide +kernel
theorem dX2_add_29 : decode cX2_add 29 = .ok (.aload_n 0, 1) := by decide +kernel
theorem dX2_add_30 : decode cX2_add 30 = .ok (.dup, 1) := by decide +kernel
theorem dX2_add_31 : decode cX2_add 31 = .ok (.getfield 7, 3) := by decide +kernel
theorem dX2_add_34 : decode cX2_add 34 = .ok (.iconst 1, 1) := by decide +kernel
theorem dX2_add_35 : decode cX2_add 35 = .ok (.iadd, 1) := by decide +kernel
theorem dX2_add_36 : decode cX2_add 36 = .ok (.putfield 7, 3) := by decide +kernel
theorem dX2_add_39 : decode cX2_add 39 = .ok (.return_, 1) := by decide +kernel
theorem dX2_removeLast_0 : decode cX2_removeLast 0 = .ok (.aload_n 0, 1) := by decide +kernel
theorem dX2_removeLast_1 : decode cX2_removeLast 1 = .ok (.getfield 7, 3) := by decide +kernel
theorem dX2_removeLast_4 : decode cX2_removeLast 4 = .ok (.ifCond .le 15, 3) := by decide +kernel
theorem dX2_removeLast_7 : decode cX2_removeLast 7 = .ok (.aload_n 0, 1) := by decide +kernel
theorem dX2_removeLast_8 : decode cX2_removeLast 8 = .ok (.getfield 7, 3) := by decide +kernel
theorem dX2_removeLast_11 : decode cX2_removeLast 11 = .ok (.aload_n 0, 1) := by decide +kernel
theorem dX2_removeLast_12 : decode cX2_removeLast 12 = .ok (.getfield 19, 3) := by decide +kernel
theorem dX2_removeLast_15 : decode cX2_removeLast 15 = .ok (.arraylength, 1) := by decide +kernel
theorem dX2_removeLast_16 : decode cX2_removeLast 16 = .ok (.if_icmp .le 5, 3) := by decide +kernel
theorem dX2_removeLast_19 : decode cX2_removeLast 19 = .ok (.iconst 0, 1) := by decide +kernel
theorem dX2_removeLast_20 : decode cX2_removeLast 20 = .ok (.ireturn, 1) := by decide +kernel
theorem dX2_removeLast_21 : decode cX2_removeLast 21 = .ok (.aload_n 0, 1) := by decide +kernel
theorem dX2_removeLast_22 : decode cX2_removeLast 22 = .ok (.dup, 1) := by decide +kernel
theorem dX2_removeLast_23 : decode cX2_removeLast 23 = .ok (.getfield 7, 3) := by decide +kernel
theorem dX2_removeLast_26 : decode cX2_removeLast 26 = .ok (.iconst 1, 1) := by decide +kernel
theorem dX2_removeLast_27 : decode cX2_removeLast 27 = .ok (.isub, 1) := by decide +kernel
theorem dX2_removeLast_28 : decode cX2_removeLast 28 = .ok (.putfield 7, 3) := by decide +kernel
theorem dX2_removeLast_31 : decode cX2_removeLast 31 = .ok (.aload_n 0, 1) := by decide +kernel
theorem dX2_removeLast_32 : decode cX2_removeLast 32 = .ok (.getfield 19, 3) := by decide +kernel
theorem dX2_removeLast_35 : decode cX2_removeLast 35 = .ok (.aload_n 0, 1) := by decide +kernel
theorem dX2_removeLast_36 : decode cX2_removeLast 36 = .ok (.getfield 7, 3) := by decide +kernel
theorem dX2_removeLast_39 : decode cX2_removeLast 39 = .ok (.iaload, 1) := by decide +kernel
theorem dX2_removeLast_40 : decode cX2_removeLast 40 = .ok (.ireturn, 1) := by decide +kernel
theorem dX2_clear_0 : decode cX2_clear 0 = .ok (.aload_n 0, 1) := by decide +kernel
theorem dX2_clear_1 : decode cX2_clear 1 = .ok (.iconst 0, 1) := by decide +kernel
theorem dX2_clear_2 : decode cX2_clear 2 = .ok (.putfield 7, 3) := by decide +kernel
theorem dX2_clear_5 : decode cX2_clear 5 = .ok (.return_, 1) := by decide +kernel
theorem dX2_zeros_0 : decode cX2_zeros 0 = .ok (.aload_n 0, 1) := by decide +kernel
theorem dX2_zeros_1 : decode cX2_zeros 1 = .ok (.invokevirtual 23, 3) := by decide +kernel
theorem dX2_zeros_4 : decode cX2_zeros 4 = .ok (.iconst 0, 1) := by decide +kernel
theorem dX2_zeros_5 : decode cX2_zeros 5 = .ok (.istore_n 2, 1) := by decide +kernel
theorem dX2_zeros_6 : decode cX2_zeros 6 = .ok (.iload_n 2, 1) := by decide +kernel
theorem dX2_zeros_7 : decode cX2_zeros 7 = .ok (.iload_n 1, 1) := by decide +kernel
theorem dX2_zeros_8 : decode cX2_zeros 8 = .ok (.if_icmp .ge 23, 3) := by decide +kernel
theorem dX2_zeros_11 : decode cX2_zeros 11 = .ok (.iload_n 2, 1) := by decide +kernel
theorem dX2_zeros_12 : decode cX2_zeros 12 = .ok (.aload_n 0, 1) := by decide +kernel
theorem dX2_zeros_13 : decode cX2_zeros 13 = .ok (.getfield 19, 3) := by decide +kernel
theorem dX2_zeros_16 : decode cX2_zeros 16 = .ok (.arraylength, 1) := by decide +kernel
theorem dX2_zeros_17 : decode cX2_zeros 17 = .ok (.if_icmp .ge 14, 3) := by decide +kernel
theorem dX2_zeros_20 : decode cX2_zeros 20 = .ok (.aload_n 0, 1) := by decide +kernel
theorem dX2_zeros_21 : decode cX2_zeros 21 = .ok (.iconst 0, 1) := by decide +kernel
theorem dX2_zeros_22 : decode cX2_zeros 22 = .ok (.invokevirtual 26, 3) := by decide +kernel
theorem dX2_zeros_25 : decode cX2_zeros 25 = .ok (.iinc 2 1, 3) := by decide +kernel
theorem dX2_zeros_28 : decode cX2_zeros 28 = .ok (.goto (-22), 3) := by decide +kernel
theorem dX2_zeros_31 : decode cX2_zeros 31 = .ok (.return_, 1) := by decide +kernel
theorem dX2_copyFrom_0 : decode cX2_copyFrom 0 = .ok (.aload_n 0, 1) := by decide +kernel
theorem dX2_copyFrom_1 : decode cX2_copyFrom 1 = .ok (.invokevirtual 23, 3) := by decide +kernel
theorem dX2_copyFrom_4 : decode cX2_copyFrom 4 = .ok (.iconst 0, 1) := by decide +kernel
theorem dX2_copyFrom_5 : decode cX2_copyFrom 5 = .ok (.istore_n 2, 1) := by decide +kernel
theorem dX2_copyFrom_6 : decode cX2_copyFrom 6 = .ok (.iload_n 2, 1) := by decide +kernel
theorem dX2_copyFrom_7 : decode cX2_copyFrom 7 = .ok (.aload_n 1, 1) := by decide +kernel
theorem dX2_copyFrom_8 : decode cX2_copyFrom 8 = .ok (.getfield 7, 3) := by decide +kernel
theorem dX2_copyFrom_11 : decode cX2_copyFrom 11 = .ok (.if_icmp .ge 18, 3) := by decide +kernel
theorem dX2_copyFrom_14 : decode cX2_copyFrom 14 = .ok (.aload_n 0, 1) := by decide +kernel
theorem dX2_copyFrom_15 : decode cX2_copyFrom 15 = .ok (.aload_n 1, 1) := by decide +kernel
theorem dX2_copyFrom_16 : decode cX2_copyFrom 16 = .ok (.iload_n 2, 1) := by decide +kernel
theorem dX2_copyFrom_17 : decode cX2_copyFrom 17 = .ok (.invokevirtual 30, 3) := by decide +kernel
theorem dX2_copyFrom_20 : decode cX2_copyFrom 20 = .ok (.invokevirtual 26, 3) := by decide +kernel
theorem dX2_copyFrom_23 : decode cX2_copyFrom 23 = .ok (.iinc 2 1, 3) := by decide +kernel
theorem dX2_copyFrom_26 : decode cX2_copyFrom 26 = .ok (.goto (-20), 3) := by decide +kernel
theorem dX2_copyFrom_29 : decode cX2_copyFrom 29 = .ok (.return_, 1) := by decide +kernel
theorem dX3_init_0 : decode cX3_init 0 = .ok (.aload_n 0, 1) := by decide +kernel
theorem dX3_init_1 : decode cX3_init 1 = .ok (.invokespecial 3, 3) := by decide +kernel
theorem dX3_init_4 : decode cX3_init 4 = .ok (.aload_n 0, 1) := by decide +kernel
theorem dX3_init_5 : decode cX3_init 5 = .ok (.iconst 0, 1) := by decide +kernel
theorem dX3_init_6 : decode cX3_init 6 = .ok (.putfield 9, 3) := by decide +kernel
theorem dX3_init_9 : decode cX3_init 9 = .ok (.aload_n 0, 1) := by decide +kernel
theorem dX3_init_10 : decode cX3_init 10 = .ok (.iconst 0, 1) := by decide +kernel
theorem dX3_init_11 : decode cX3_init 11 = .ok (.putfield 15, 3) := by decide +kernel
theorem dX3_init_14 : decode cX3_init 14 = .ok (.aload_n 0, 1) := by decide +kernel
theorem dX3_init_15 : decode cX3_init 15 = .ok (.iconst 0, 1) := by decide +kernel
theorem dX3_init_16 : decode cX3_init 16 = .ok (.putfield 18, 3) := by decide +kernel
theorem dX3_init_19 : decode cX3_init 19 = .ok (.aload_n 0, 1) := by decide +kernel
theorem dX3_init_20 : decode cX3_init 20 = .ok (.iconst 0, 1) := by decide +kernel
theorem dX3_init_21 : decode cX3_init 21 = .ok (.putfield 21, 3) := by decide +kernel
theorem dX3_init_24 : decode cX3_init 24 = .ok (.aload_n 0, 1) := by decide +kernel
theorem dX3_init_25 : decode cX3_init 25 = .ok (.iconst 0, 1) := by decide +kernel
theorem dX3_init_26 : decode cX3_init 26 = .ok (.putfield 24, 3) := by decide +kernel
theorem dX3_init_29 : decode cX3_init 29 = .ok (.aload_n 0, 1) := by decide +kernel
theorem dX3_init_30 : decode cX3_init 30 = .ok (.iconst 0, 1) := by decide +kernel
theorem dX3_init_31 : decode cX3_init 31 = .ok (.putfield 27, 3) := by decide +kernel
theorem dX3_init_34 : decode cX3_init 34 = .ok (.return_, 1) := by decide +kernel
theorem dX4_init_0 : decode cX4_init 0 = .ok (.aload_n 0, 1) := by decide +kernel
theorem dX4_init_1 : decode cX4_init 1 = .ok (.invokespecial 3, 3) := by decide +kernel
theorem dX4_init_4 : decode cX4_init 4 = .ok (.aload_n 0, 1) := by decide +kernel
theorem dX4_init_5 : decode cX4_init 5 = .ok (.new 9, 3) := by decide +kernel
theorem dX4_init_8 : decode cX4_init 8 = .ok (.dup, 1) := by decide +kernel
theorem dX4_init_9 : decode cX4_init 9 = .ok (.bipush 8, 2) := by decide +kernel
theorem dX4_init_11 : decode cX4_init 11 = .ok (.invokespecial 11, 3) := by decide +kernel
theorem dX4_init_14 : decode cX4_init 14 = .ok (.putfield 14, 3) := by decide +kernel
theorem dX4_init_17 : decode cX4_init 17 = .ok (.aload_n 0, 1) := by decide +kernel
theorem dX4_init_18 : decode cX4_init 18 = .ok (.new 9, 3) := by decide +kernel
theorem dX4_init_21 : decode cX4_init 21 = .ok (.dup, 1) := by decide +kernel
theorem dX4_init_22 : decode cX4_init 22 = .ok (.bipush 8, 2) := by decide +kernel
theorem dX4_init_24 : decode cX4_init 24 = .ok (.invokespecial 11, 3) := by decide +kernel
theorem dX4_init_27 : decode cX4_init 27 = .ok (.putfield 20, 3) := by decide +kernel
theorem dX4_init_30 : decode cX4_init 30 = .ok (.aload_n 0, 1) := by decide +kernel
theorem dX4_init_31 : decode cX4_init 31 = .ok (.new 9, 3) := by decide +kernel
theorem dX4_init_34 : decode cX4_init 34 = .ok (.dup, 1) := by decide +kernel
theorem dX4_init_35 : decode cX4_init 35 = .ok (.bipush 8, 2) := by decide +kernel
theorem dX4_init_37 : decode cX4_init 37 = .ok (.invokespecial 11, 3) := by decide +kernel
theorem dX4_init_40 : decode cX4_init 40 = .ok (.putfield 23, 3) := by decide +kernel
theorem dX4_init_43 : decode cX4_init 43 = .ok (.aload_n 0, 1) := by decide +kernel
theorem dX4_init_44 : decode cX4_init 44 = .ok (.new 9, 3) := by decide +kernel
theorem dX4_init_47 : decode cX4_init 47 = .ok (.dup, 1) := by decide +kernel
theorem dX4_init_48 : decode cX4_init 48 = .ok (.bipush 8, 2) := by decide +kernel
theorem dX4_init_50 : decode cX4_init 50 = .ok (.invokespecial 11, 3) := by decide +kernel
theorem dX4_init_53 : decode cX4_init 53 = .ok (.putfield 26, 3) := by decide +kernel
theorem dX4_init_56 : decode cX4_init 56 = .ok (.aload_n 0, 1) := by decide +kernel
theorem dX4_init_57 : decode cX4_init 57 = .ok (.new 9, 3) := by decide +kernel
theorem dX4_init_60 : decode cX4_init 60 = .ok (.dup, 1) := by decide +kernel
theorem dX4_init_61 : decode cX4_init 61 = .ok (.bipush 8, 2) := by decide +kernel
theorem dX4_init_63 : decode cX4_init 63 = .ok (.invokespecial 11, 3) := by decide +kernel
theorem dX4_init_66 : decode cX4_init 66 = .ok (.putfield 29, 3) := by decide +kernel
theorem dX4_init_69 : decode cX4_init 69 = .ok (.aload_n 0, 1) := by decide +kernel
theorem dX4_init_70 : decode cX4_init 70 = .ok (.new 9, 3) := by decide +kernel
theorem dX4_init_73 : decode cX4_init 73 = .ok (.dup, 1) := by decide +kernel
theorem dX4_init_74 : decode cX4_init 74 = .ok (.bipush 8, 2) := by decide +kernel
theorem dX4_init_76 : decode cX4_init 76 = .ok (.invokespecial 11, 3) := by decide +kernel
theorem dX4_init_79 : decode cX4_init 79 = .ok (.putfield 32, 3) := by decide +kernel
theorem dX4_init_82 : decode cX4_init 82 = .ok (.return_, 1) := by decide +kernel
theorem dX4_size_0 : decode cX4_size 0 = .ok (.aload_n 0, 1) := by decide +kernel
theorem dX4_size_1 : decode cX4_size 1 = .ok (.getfield 14, 3) := by decide +kernel
theorem dX4_size_4 : decode cX4_size 4 = .ok (.invokevirtual 35, 3) := by decide +kernel
theorem dX4_size_7 : decode cX4_size 7 = .ok (.ireturn, 1) := by decide +kernel
theorem dX4_has_0 : decode cX4_has 0 = .ok (.aload_n 0, 1) := by decide +kernel
theorem dX4_has_1 : decode cX4_has 1 = .ok (.getfield 14, 3) := by decide +kernel
theorem dX4_has_4 : decode cX4_has 4 = .ok (.iload_n 1, 1) := by decide +kernel
theorem dX4_has_5 : decode cX4_has 5 = .ok (.invokevirtual 39, 3) := by decide +kernel
theorem dX4_has_8 : decode cX4_has 8 = .ok (.ireturn, 1) := by decide +kernel
theorem dX4_add_0 : decode cX4_add 0 = .ok (.aload_n 0, 1) := by decide +kernel
theorem dX4_add_1 : decode cX4_add 1 = .ok (.getfield 14, 3) := by decide +kernel
theorem dX4_add_4 : decode cX4_add 4 = .ok (.iload_n 1, 1) := by decide +kernel
theorem dX4_add_5 : decode cX4_add 5 = .ok (.invokevirtual 43, 3) := by decide +kernel
theorem dX4_add_8 : decode cX4_add 8 = .ok (.aload_n 0, 1) := by decide +kernel
theorem dX4_add_9 : decode cX4_add 9 = .ok (.getfield 20, 3) := by decide +kernel
theorem dX4_add_12 : decode cX4_add 12 = .ok (.iload_n 2, 1) := by decide +kernel
theorem dX4_add_13 : decode cX4_add 13 = .ok (.invokevirtual 43, 3) := by decide +kernel
theorem dX4_add_16 : decode cX4_add 16 = .ok (.aload_n 0, 1) := by decide +kernel
theorem dX4_add_17 : decode cX4_add 17 = .ok (.getfield 23, 3) := by decide +kernel
theorem dX4_add_20 : decode cX4_add 20 = .ok (.iload_n 3, 1) := by decide +kernel
theorem dX4_add_21 : decode cX4_add 21 = .ok (.invokevirtual 43, 3) := by decide +kernel
theorem dX4_add_24 : decode cX4_add 24 = .ok (.aload_n 0, 1) := by decide +kernel
theorem dX4_add_25 : decode cX4_add 25 = .ok (.getfield 26, 3) := by decide +kernel
theorem dX4_add_28 : decode cX4_add 28 = .ok (.iload 4, 2) := by decide +kernel
theorem dX4_add_30 : decode cX4_add 30 = .ok (.invokevirtual 43, 3) := by decide +kernel
theorem dX4_add_33 : decode cX4_add 33 = .ok (.aload_n 0, 1) := by decide +kernel
theorem dX4_add_34 : decode cX4_add 34 = .ok (.getfield 29, 3) := by decide +kernel
theorem dX4_add_37 : decode cX4_add 37 = .ok (.iconst 0, 1) := by decide +kernel
theorem dX4_add_38 : decode cX4_add 38 = .ok (.invokevirtual 43, 3) := by decide +kernel
theorem dX4_add_41 : decode cX4_add 41 = .ok (.aload_n 0, 1) := by decide +kernel
theorem dX4_add_42 : decode cX4_add 42 = .ok (.getfield 32, 3) := by decide +kernel
theorem dX4_add_45 : decode cX4_add 45 = .ok (.iconst 0, 1) := by decide +kernel
theorem dX4_add_46 : decode cX4_add 46 = .ok (.invokevirtual 43, 3) := by decide +kernel
theorem dX4_add_49 : decode cX4_add 49 = .ok (.return_, 1) := by decide +kernel
theorem dX4_load_0 : decode cX4_load 0 = .ok (.aload_n 2, 1) := by decide +kernel
theorem dX4_load_1 : decode cX4_load 1 = .ok (.aload_n 0, 1) := by decide +kernel
theorem dX4_load_2 : decode cX4_load 2 = .ok (.getfield 14, 3) := by decide +kernel
theorem dX4_load_5 : decode cX4_load 5 = .ok (.iload_n 1, 1) := by decide +kernel
theorem dX4_load_6 : decode cX4_load 6 = .ok (.invokevirtual 46, 3) := by decide +kernel
theorem dX4_load_9 : decode cX4_load 9 = .ok (.putfield 50, 3) := by decide +kernel
theorem dX4_load_12 : decode cX4_load 12 = .ok (.aload_n 2, 1) := by decide +kernel
theorem dX4_load_13 : decode cX4_load 13 = .ok (.aload_n 0, 1) := by decide +kernel
theorem dX4_load_14 : decode cX4_load 14 = .ok (.getfield 20, 3) := by decide +kernel
theorem dX4_load_17 : decode cX4_load 17 = .ok (.iload_n 1, 1) := by decide +kernel
theorem dX4_load_18 : decode cX4_load 18 = .ok (.invokevirtual 46, 3) := by decide +kernel
theorem dX4_load_21 : decode cX4_load 21 = .ok (.putfield 56, 3) := by decide +kernel
theorem dX4_load_24 : decode cX4_load 24 = .ok (.aload_n 2, 1) := by decide +kernel
theorem dX4_load_25 : decode cX4_load 25 = .ok (.aload_n 0, 1) := by decide +kernel
theorem dX4_load_26 : decode cX4_load 26 = .ok (.getfield 23, 3) := by decide +kernel
theorem dX4_load_29 : decode cX4_load 29 = .ok (.iload_n 1, 1) := by decide +kernel
theorem dX4_load_30 : decode cX4_load 30 = .ok (.invokevirtual 46, 3) := by decide +kernel
theorem dX4_load_33 : decode cX4_load 33 = .ok (.putfield 59, 3) := by decide +kernel
theorem dX4_load_36 : decode cX4_load 36 = .ok (.aload_n 2, 1) := by decide +kernel
theorem dX4_load_37 : decode cX4_load 37 = .ok (.aload_n 0, 1) := by decide +kernel
theorem dX4_load_38 : decode cX4_load 38 = .ok (.getfield 26, 3) := by decide +kernel
theorem dX4_load_41 : decode cX4_load 41 = .ok (.iload_n 1, 1) := by decide +kernel
theorem dX4_load_42 : decode cX4_load 42 = .ok (.invokevirtual 46, 3) := by decide +kernel
theorem dX4_load_45 : decode cX4_load 45 = .ok (.putfield 62, 3) := by decide +kernel
theorem dX4_load_48 : decode cX4_load 48 = .ok (.aload_n 2, 1) := by decide +kernel
theorem dX4_load_49 : decode cX4_load 49 = .ok (.aload_n 0, 1) := by decide +kernel
theorem dX4_load_50 : decode cX4_load 50 = .ok (.getfield 29, 3) := by decide +kernel
theorem dX4_load_53 : decode cX4_load 53 = .ok (.iload_n 1, 1) := by decide +kernel
theorem dX4_load_54 : decode cX4_load 54 = .ok (.invokevirtual 46, 3) := by decide +kernel
theorem dX4_load_57 : decode cX4_load 57 = .ok (.putfield 65, 3) := by decide +kernel
theorem dX4_load_60 : decode cX4_load 60 = .ok (.aload_n 2, 1) := by decide +kernel
theorem dX4_load_61 : decode cX4_load 61 = .ok (.aload_n 0, 1) := by decide +kernel
theorem dX4_load_62 : decode cX4_load 62 = .ok (.getfield 32, 3) := by decide +kernel
theorem dX4_load_65 : decode cX4_load 65 = .ok (.iload_n 1, 1) := by decide +kernel
theorem dX4_load_66 : decode cX4_load 66 = .ok (.invokevirtual 46, 3) := by decide +kernel
theorem dX4_load_69 : decode cX4_load 69 = .ok (.putfield 68, 3) := by decide +kernel
theorem dX4_load_72 : decode cX4_load 72 = .ok (.return_, 1) := by decide +kernel
theorem dX4_keep_0 : decode cX4_keep 0 = .ok (.aload_n 0, 1) := by decide +kernel
theorem dX4_keep_1 : decode cX4_keep 1 = .ok (.getfield 23, 3) := by decide +kernel
theorem dX4_keep_4 : decode cX4_keep 4 = .ok (.iload_n 1, 1) := by decide +kernel
theorem dX4_keep_5 : decode cX4_keep 5 = .ok (.aload_n 2, 1) := by decide +kernel
theorem dX4_keep_6 : decode cX4_keep 6 = .ok (.getfield 59, 3) := by decide +kernel
theorem dX4_keep_9 : decode cX4_keep 9 = .ok (.invokevirtual 70, 3) := by decide +kernel
theorem dX4_keep_12 : decode cX4_keep 12 = .ok (.aload_n 0, 1) := by decide +kernel
theorem dX4_keep_13 : decode cX4_keep 13 = .ok (.getfield 26, 3) := by decide +kernel
theorem dX4_keep_16 : decode cX4_keep 16 = .ok (.iload_n 1, 1) := by decide +kernel
theorem dX4_keep_17 : decode cX4_keep 17 = .ok (.aload_n 2, 1) := by decide +kernel
theorem dX4_keep_18 : decode cX4_keep 18 = .ok (.getfield 62, 3) := by decide +kernel
theorem dX4_keep_21 : decode cX4_keep 21 = .ok (.invokevirtual 70, 3) := by decide +kernel
theorem dX4_keep_24 : decode cX4_keep 24 = .ok (.aload_n 0, 1) := by decide +kernel
theorem dX4_keep_25 : decode cX4_keep 25 = .ok (.getfield 29, 3) := by decide +kernel
theorem dX4_keep_28 : decode cX4_keep 28 = .ok (.iload_n 1, 1) := by decide +kernel
theorem dX4_keep_29 : decode cX4_keep 29 = .ok (.aload_n 2, 1) := by decide +kernel
theorem dX4_keep_30 : decode cX4_keep 30 = .ok (.getfield 65, 3) := by decide +kernel
theorem dX4_keep_33 : decode cX4_keep 33 = .ok (.invokevirtual 70, 3) := by decide +kernel
theorem dX4_keep_36 : decode cX4_keep 36 = .ok (.aload_n 0, 1) := by decide +kernel
theorem dX4_keep_37 : decode cX4_keep 37 = .ok (.getfield 32, 3) := by decide +kernel
theorem dX4_keep_40 : decode cX4_keep 40 = .ok (.iload_n 1, 1) := by decide +kernel
theorem dX4_keep_41 : decode cX4_keep 41 = .ok (.aload_n 2, 1) := by decide +kernel
theorem dX4_keep_42 : decode cX4_keep 42 = .ok (.getfield 68, 3) := by decide +kernel
theorem dX4_keep_45 : decode cX4_keep 45 = .ok (.invokevirtual 70, 3) := by decide +kernel
theorem dX4_keep_48 : decode cX4_keep 48 = .ok (.return_, 1) := by decide +kernel
theorem dX4_knownBy_0 : decode cX4_knownBy 0 = .ok (.iconst 0, 1) := by decide +kernel
theorem dX4_knownBy_1 : decode cX4_knownBy 1 = .ok (.istore_n 3, 1) := by decide +kernel
theorem dX4_knownBy_2 : decode cX4_knownBy 2 = .ok (.iconst 0, 1) := by decide +kernel
theorem dX4_knownBy_3 : decode cX4_knownBy 3 = .ok (.istore 4, 2) := by decide +kernel
theorem dX4_knownBy_5 : decode cX4_knownBy 5 = .ok (.iload 4, 2) := by decide +kernel
theorem dX4_knownBy_7 : decode cX4_knownBy 7 = .ok (.aload_n 0, 1) := by decide +kernel
theorem dX4_knownBy_8 : decode cX4_knownBy 8 = .ok (.invokevirtual 74, 3) := by decide +kernel
theorem dX4_knownBy_11 : decode cX4_knownBy 11 = .ok (.if_icmp .ge 35, 3) := by decide +kernel
theorem dX4_knownBy_14 : decode cX4_knownBy 14 = .ok (.iload_n 3, 1) := by decide +kernel
theorem dX4_knownBy_15 : decode cX4_knownBy 15 = .ok (.iload 4, 2) := by decide +kernel
theorem dX4_knownBy_17 : decode cX4_knownBy 17 = .ok (.aload_n 2, 1) := by decide +kernel
theorem dX4_knownBy_18 : decode cX4_knownBy 18 = .ok (.iload 4, 2) := by decide +kernel
theorem dX4_knownBy_20 : decode cX4_knownBy 20 = .ok (.invokevirtual 46, 3) := by decide +kernel
theorem dX4_knownBy_23 : decode cX4_knownBy 23 = .ok (.iload_n 1, 1) := by decide +kernel
theorem dX4_knownBy_24 : decode cX4_knownBy 24 = .ok (.invokestatic 75, 3) := by decide +kernel
theorem dX4_knownBy_27 : decode cX4_knownBy 27 = .ok (.iconst 1, 1) := by decide +kernel
theorem dX4_knownBy_28 : decode cX4_knownBy 28 = .ok (.if_icmp .ne 7, 3) := by decide +kernel
theorem dX4_knownBy_31 : decode cX4_knownBy 31 = .ok (.iconst 1, 1) := by decide +kernel
theorem dX4_knownBy_32 : decode cX4_knownBy 32 = .ok (.goto 4, 3) := by decide +kernel
theorem dX4_knownBy_35 : decode cX4_knownBy 35 = .ok (.iconst 0, 1) := by decide +kernel
theorem dX4_knownBy_36 : decode cX4_knownBy 36 = .ok (.invokestatic 79, 3) := by decide +kernel
theorem dX4_knownBy_39 : decode cX4_knownBy 39 = .ok (.istore_n 3, 1) := by decide +kernel
theorem dX4_knownBy_40 : decode cX4_knownBy 40 = .ok (.iinc 4 1, 3) := by decide +kernel
theorem dX4_knownBy_43 : decode cX4_knownBy 43 = .ok (.goto (-38), 3) := by decide +kernel
theorem dX4_knownBy_46 : decode cX4_knownBy 46 = .ok (.iload_n 3, 1) := by decide +kernel
theorem dX4_knownBy_47 : decode cX4_knownBy 47 = .ok (.ireturn, 1) := by decide +kernel
theorem dX4_learnt_0 : decode cX4_learnt 0 = .ok (.iconst 0, 1) := by decide +kernel
theorem dX4_learnt_1 : decode cX4_learnt 1 = .ok (.istore_n 3, 1) := by decide +kernel
theorem dX4_learnt_2 : decode cX4_learnt 2 = .ok (.iload_n 3, 1) := by decide +kernel
theorem dX4_learnt_3 : decode cX4_learnt 3 = .ok (.aload_n 0, 1) := by decide +kernel
theorem dX4_learnt_4 : decode cX4_learnt 4 = .ok (.invokevirtual 74, 3) := by decide +kernel
theorem dX4_learnt_7 : decode cX4_learnt 7 = .ok (.if_icmp .ge 43, 3) := by decide +kernel
theorem dX4_learnt_10 : decode cX4_learnt 10 = .ok (.aload_n 0, 1) := by decide +kernel
theorem dX4_learnt_11 : decode cX4_learnt 11 = .ok (.getfield 32, 3) := by decide +kernel
theorem dX4_learnt_14 : decode cX4_learnt 14 = .ok (.iload_n 3, 1) := by decide +kernel
theorem dX4_learnt_15 : decode cX4_learnt 15 = .ok (.aload_n 0, 1) := by decide +kernel
theorem dX4_learnt_16 : decode cX4_learnt 16 = .ok (.getfield 32, 3) := by decide +kernel
theorem dX4_learnt_19 : decode cX4_learnt 19 = .ok (.iload_n 3, 1) := by decide +kernel
theorem dX4_learnt_20 : decode cX4_learnt 20 = .ok (.invokevirtual 46, 3) := by decide +kernel
theorem dX4_learnt_23 : decode cX4_learnt 23 = .ok (.iload_n 1, 1) := by decide +kernel
theorem dX4_learnt_24 : decode cX4_learnt 24 = .ok (.iload_n 2, 1) := by decide +kernel
theorem dX4_learnt_25 : decode cX4_learnt 25 = .ok (.iload_n 3, 1) := by decide +kernel
theorem dX4_learnt_26 : decode cX4_learnt 26 = .ok (.invokestatic 75, 3) := by decide +kernel
theorem dX4_learnt_29 : decode cX4_learnt 29 = .ok (.iconst 1, 1) := by decide +kernel
theorem dX4_learnt_30 : decode cX4_learnt 30 = .ok (.if_icmp .ne 7, 3) := by decide +kernel
theorem dX4_learnt_33 : decode cX4_learnt 33 = .ok (.iconst 1, 1) := by decide +kernel
theorem dX4_learnt_34 : decode cX4_learnt 34 = .ok (.goto 4, 3) := by decide +kernel
theorem dX4_learnt_37 : decode cX4_learnt 37 = .ok (.iconst 0, 1) := by decide +kernel
theorem dX4_learnt_38 : decode cX4_learnt 38 = .ok (.invokestatic 79, 3) := by decide +kernel
theorem dX4_learnt_41 : decode cX4_learnt 41 = .ok (.invokevirtual 70, 3) := by decide +kernel
theorem dX4_learnt_44 : decode cX4_learnt 44 = .ok (.iinc 3 1, 3) := by decide +kernel
theorem dX4_learnt_47 : decode cX4_learnt 47 = .ok (.goto (-45), 3) := by decide +kernel
theorem dX4_learnt_50 : decode cX4_learnt 50 = .ok (.return_, 1) := by decide +kernel
theorem dX4_allStrength_0 : decode cX4_allStrength 0 = .ok (.iconst 0, 1) := by decide +kernel
theorem dX4_allStrength_1 : decode cX4_allStrength 1 = .ok (.istore_n 1, 1) := by decide +kernel
theorem dX4_allStrength_2 : decode cX4_allStrength 2 = .ok (.iconst 0, 1) := by decide +kernel
theorem dX4_allStrength_3 : decode cX4_allStrength 3 = .ok (.istore_n 2, 1) := by decide +kernel
theorem dX4_allStrength_4 : decode cX4_allStrength 4 = .ok (.iload_n 2, 1) := by decide +kernel
theorem dX4_allStrength_5 : decode cX4_allStrength 5 = .ok (.aload_n 0, 1) := by decide +kernel
theorem dX4_allStrength_6 : decode cX4_allStrength 6 = .ok (.invokevirtual 74, 3) := by decide +kernel
theorem dX4_allStrength_9 : decode cX4_allStrength 9 = .ok (.if_icmp .ge 20, 3) := by decide +kernel
theorem dX4_allStrength_12 : decode cX4_allStrength 12 = .ok (.iload_n 1, 1) := by decide +kernel
theorem dX4_allStrength_13 : decode cX4_allStrength 13 = .ok (.aload_n 0, 1) := by decide +kernel
theorem dX4_allStrength_14 : decode cX4_allStrength 14 = .ok (.getfield 26, 3) := by decide +kernel
theorem dX4_allStrength_17 : decode cX4_allStrength 17 = .ok (.iload_n 2, 1) := by decide +kernel
theorem dX4_allStrength_18 : decode cX4_allStrength 18 = .ok (.invokevirtual 46, 3) := by decide +kernel
theorem dX4_allStrength_21 : decode cX4_allStrength 21 = .ok (.iadd, 1) := by decide +kernel
theorem dX4_allStrength_22 : decode cX4_allStrength 22 = .ok (.istore_n 1, 1) := by decide +kernel
theorem dX4_allStrength_23 : decode cX4_allStrength 23 = .ok (.iinc 2 1, 3) := by decide +kernel
theorem dX4_allStrength_26 : decode cX4_allStrength 26 = .ok (.goto (-22), 3) := by decide +kernel
theorem dX4_allStrength_29 : decode cX4_allStrength 29 = .ok (.iload_n 1, 1) := by decide +kernel
theorem dX4_allStrength_30 : decode cX4_allStrength 30 = .ok (.ireturn, 1) := by decide +kernel
theorem dX4_allKnowers_0 : decode cX4_allKnowers 0 = .ok (.iconst 0, 1) := by decide +kernel
theorem dX4_allKnowers_1 : decode cX4_allKnowers 1 = .ok (.istore_n 1, 1) := by decide +kernel
theorem dX4_allKnowers_2 : decode cX4_allKnowers 2 = .ok (.iconst 0, 1) := by decide +kernel
theorem dX4_allKnowers_3 : decode cX4_allKnowers 3 = .ok (.istore_n 2, 1) := by decide +kernel
theorem dX4_allKnowers_4 : decode cX4_allKnowers 4 = .ok (.iload_n 2, 1) := by decide +kernel
theorem dX4_allKnowers_5 : decode cX4_allKnowers 5 = .ok (.aload_n 0, 1) := by decide +kernel
theorem dX4_allKnowers_6 : decode cX4_allKnowers 6 = .ok (.invokevirtual 74, 3) := by decide +kernel
theorem dX4_allKnowers_9 : decode cX4_allKnowers 9 = .ok (.if_icmp .ge 20, 3) := by decide +kernel
theorem dX4_allKnowers_12 : decode cX4_allKnowers 12 = .ok (.iload_n 1, 1) := by decide +kernel
theorem dX4_allKnowers_13 : decode cX4_allKnowers 13 = .ok (.aload_n 0, 1) := by decide +kernel
theorem dX4_allKnowers_14 : decode cX4_allKnowers 14 = .ok (.getfield 32, 3) := by decide +kernel
theorem dX4_allKnowers_17 : decode cX4_allKnowers 17 = .ok (.iload_n 2, 1) := by decide +kernel
theorem dX4_allKnowers_18 : decode cX4_allKnowers 18 = .ok (.invokevirtual 46, 3) := by decide +kernel
theorem dX4_allKnowers_21 : decode cX4_allKnowers 21 = .ok (.ior, 1) := by decide +kernel
theorem dX4_allKnowers_22 : decode cX4_allKnowers 22 = .ok (.istore_n 1, 1) := by decide +kernel
theorem dX4_allKnowers_23 : decode cX4_allKnowers 23 = .ok (.iinc 2 1, 3) := by decide +kernel
theorem dX4_allKnowers_26 : decode cX4_allKnowers 26 = .ok (.goto (-22), 3) := by decide +kernel
theorem dX4_allKnowers_29 : decode cX4_allKnowers 29 = .ok (.iload_n 1, 1) := by decide +kernel
theorem dX4_allKnowers_30 : decode cX4_allKnowers 30 = .ok (.ireturn, 1) := by decide +kernel
theorem dX4_copyFrom_0 : decode cX4_copyFrom 0 = .ok (.aload_n 0, 1) := by decide +kernel
theorem dX4_copyFrom_1 : decode cX4_copyFrom 1 = .ok (.getfield 14, 3) := by decide +kernel
theorem dX4_copyFrom_4 : decode cX4_copyFrom 4 = .ok (.aload_n 1, 1) := by decide +kernel
theorem dX4_copyFrom_5 : decode cX4_copyFrom 5 = .ok (.getfield 14, 3) := by decide +kernel
theorem dX4_copyFrom_8 : decode cX4_copyFrom 8 = .ok (.invokevirtual 83, 3) := by decide +kernel
theorem dX4_copyFrom_11 : decode cX4_copyFrom 11 = .ok (.aload_n 0, 1) := by decide +kernel
theorem dX4_copyFrom_12 : decode cX4_copyFrom 12 = .ok (.getfield 20, 3) := by decide +kernel
theorem dX4_copyFrom_15 : decode cX4_copyFrom 15 = .ok (.aload_n 1, 1) := by decide +kernel
theorem dX4_copyFrom_16 : decode cX4_copyFrom 16 = .ok (.getfield 20, 3) := by decide +kernel
theorem dX4_copyFrom_19 : decode cX4_copyFrom 19 = .ok (.invokevirtual 83, 3) := by decide +kernel
theorem dX4_copyFrom_22 : decode cX4_copyFrom 22 = .ok (.aload_n 0, 1) := by decide +kernel
theorem dX4_copyFrom_23 : decode cX4_copyFrom 23 = .ok (.getfield 23, 3) := by decide +kernel
theorem dX4_copyFrom_26 : decode cX4_copyFrom 26 = .ok (.aload_n 1, 1) := by decide +kernel
theorem dX4_copyFrom_27 : decode cX4_copyFrom 27 = .ok (.getfield 23, 3) := by decide +kernel
theorem dX4_copyFrom_30 : decode cX4_copyFrom 30 = .ok (.invokevirtual 83, 3) := by decide +kernel
theorem dX4_copyFrom_33 : decode cX4_copyFrom 33 = .ok (.aload_n 0, 1) := by decide +kernel
theorem dX4_copyFrom_34 : decode cX4_copyFrom 34 = .ok (.getfield 26, 3) := by decide +kernel
theorem dX4_copyFrom_37 : decode cX4_copyFrom 37 = .ok (.aload_n 1, 1) := by decide +kernel
theorem dX4_copyFrom_38 : decode cX4_copyFrom 38 = .ok (.getfield 26, 3) := by decide +kernel
theorem dX4_copyFrom_41 : decode cX4_copyFrom 41 = .ok (.invokevirtual 83, 3) := by decide +kernel
theorem dX4_copyFrom_44 : decode cX4_copyFrom 44 = .ok (.aload_n 0, 1) := by decide +kernel
theorem dX4_copyFrom_45 : decode cX4_copyFrom 45 = .ok (.getfield 29, 3) := by decide +kernel
theorem dX4_copyFrom_48 : decode cX4_copyFrom 48 = .ok (.aload_n 1, 1) := by decide +kernel
theorem dX4_copyFrom_49 : decode cX4_copyFrom 49 = .ok (.getfield 29, 3) := by decide +kernel
theorem dX4_copyFrom_52 : decode cX4_copyFrom 52 = .ok (.invokevirtual 83, 3) := by decide +kernel
theorem dX4_copyFrom_55 : decode cX4_copyFrom 55 = .ok (.aload_n 0, 1) := by decide +kernel
theorem dX4_copyFrom_56 : decode cX4_copyFrom 56 = .ok (.getfield 32, 3) := by decide +kernel
theorem dX4_copyFrom_59 : decode cX4_copyFrom 59 = .ok (.aload_n 1, 1) := by decide +kernel
theorem dX4_copyFrom_60 : decode cX4_copyFrom 60 = .ok (.getfield 32, 3) := by decide +kernel
theorem dX4_copyFrom_63 : decode cX4_copyFrom 63 = .ok (.invokevirtual 83, 3) := by decide +kernel
theorem dX4_copyFrom_66 : decode cX4_copyFrom 66 = .ok (.return_, 1) := by decide +kernel
theorem dX5_init_0 : decode cX5_init 0 = .ok (.aload_n 0, 1) := by decide +kernel
theorem dX5_init_1 : decode cX5_init 1 = .ok (.invokespecial 3, 3) := by decide +kernel
theorem dX5_init_4 : decode cX5_init 4 = .ok (.aload_n 0, 1) := by decide +kernel
theorem dX5_init_5 : decode cX5_init 5 = .ok (.iconst 0, 1) := by decide +kernel
theorem dX5_init_6 : decode cX5_init 6 = .ok (.putfield 9, 3) := by decide +kernel
theorem dX5_init_9 : decode cX5_init 9 = .ok (.aload_n 0, 1) := by decide +kernel
theorem dX5_init_10 : decode cX5_init 10 = .ok (.new 15, 3) := by decide +kernel
theorem dX5_init_13 : decode cX5_init 13 = .ok (.dup, 1) := by decide +kernel
theorem dX5_init_14 : decode cX5_init 14 = .ok (.bipush 40, 2) := by decide +kernel
theorem dX5_init_16 : decode cX5_init 16 = .ok (.invokespecial 17, 3) := by decide +kernel
theorem dX5_init_19 : decode cX5_init 19 = .ok (.putfield 20, 3) := by decide +kernel
theorem dX5_init_22 : decode cX5_init 22 = .ok (.return_, 1) := by decide +kernel
theorem dX5_isMissing_0 : decode cX5_isMissing 0 = .ok (.aload_n 0, 1) := by decide +kernel
theorem dX5_isMissing_1 : decode cX5_isMissing 1 = .ok (.getfield 9, 3) := by decide +kernel
theorem dX5_isMissing_4 : decode cX5_isMissing 4 = .ok (.ifCond .ne 7, 3) := by decide +kernel
theorem dX5_isMissing_7 : decode cX5_isMissing 7 = .ok (.iconst 1, 1) := by decide +kernel
theorem dX5_isMissing_8 : decode cX5_isMissing 8 = .ok (.goto 4, 3) := by decide +kernel
theorem dX5_isMissing_11 : decode cX5_isMissing 11 = .ok (.iconst 0, 1) := by decide +kernel
theorem dX5_isMissing_12 : decode cX5_isMissing 12 = .ok (.ireturn, 1) := by decide +kernel
theorem dX5_lowest_0 : decode cX5_lowest 0 = .ok (.aload_n 0, 1) := by decide +kernel
theorem dX5_lowest_1 : decode cX5_lowest 1 = .ok (.getfield 9, 3) := by decide +kernel
theorem dX5_lowest_4 : decode cX5_lowest 4 = .ok (.bipush 8, 2) := by decide +kernel
theorem dX5_lowest_6 : decode cX5_lowest 6 = .ok (.if_icmp .ne 6, 3) := by decide +kernel
theorem dX5_lowest_9 : decode cX5_lowest 9 = .ok (.iload_n 1, 1) := by decide +kernel
theorem dX5_lowest_10 : decode cX5_lowest 10 = .ok (.i2b, 1) := by decide +kernel
theorem dX5_lowest_11 : decode cX5_lowest 11 = .ok (.ireturn, 1) := by decide +kernel
theorem dX5_lowest_12 : decode cX5_lowest 12 = .ok (.aload_n 0, 1) := by decide +kernel
theorem dX5_lowest_13 : decode cX5_lowest 13 = .ok (.getfield 9, 3) := by decide +kernel
theorem dX5_lowest_16 : decode cX5_lowest 16 = .ok (.bipush 16, 2) := by decide +kernel
theorem dX5_lowest_18 : decode cX5_lowest 18 = .ok (.if_icmp .ne 8, 3) := by decide +kernel
theorem dX5_lowest_21 : decode cX5_lowest 21 = .ok (.iload_n 1, 1) := by decide +kernel
theorem dX5_lowest_22 : decode cX5_lowest 22 = .ok (.i2s, 1) := by decide +kernel
theorem dX5_lowest_23 : decode cX5_lowest 23 = .ok (.goto 4, 3) := by decide +kernel
theorem dX5_lowest_26 : decode cX5_lowest 26 = .ok (.iload_n 1, 1) := by decide +kernel
theorem dX5_lowest_27 : decode cX5_lowest 27 = .ok (.ireturn, 1) := by decide +kernel
theorem dX5_tellsOf_0 : decode cX5_tellsOf 0 = .ok (.aload_n 0, 1) := by decide +kernel
theorem dX5_tellsOf_1 : decode cX5_tellsOf 1 = .ok (.invokevirtual 24, 3) := by decide +kernel
theorem dX5_tellsOf_4 : decode cX5_tellsOf 4 = .ok (.ifCond .ne 18, 3) := by decide +kernel
theorem dX5_tellsOf_7 : decode cX5_tellsOf 7 = .ok (.aload_n 0, 1) := by decide +kernel
theorem dX5_tellsOf_8 : decode cX5_tellsOf 8 = .ok (.getfield 20, 3) := by decide +kernel
theorem dX5_tellsOf_11 : decode cX5_tellsOf 11 = .ok (.invokevirtual 28, 3) := by decide +kernel
theorem dX5_tellsOf_14 : decode cX5_tellsOf 14 = .ok (.iload_n 1, 1) := by decide +kernel
theorem dX5_tellsOf_15 : decode cX5_tellsOf 15 = .ok (.if_icmp .ne 7, 3) := by decide +kernel
theorem dX5_tellsOf_18 : decode cX5_tellsOf 18 = .ok (.iconst 1, 1) := by decide +kernel
theorem dX5_tellsOf_19 : decode cX5_tellsOf 19 = .ok (.goto 4, 3) := by decide +kernel
theorem dX5_tellsOf_22 : decode cX5_tellsOf 22 = .ok (.iconst 0, 1) := by decide +kernel
theorem dX5_tellsOf_23 : decode cX5_tellsOf 23 = .ok (.ireturn, 1) := by decide +kernel
theorem dX5_fits_0 : decode cX5_fits 0 = .ok (.iconst 0, 1) := by decide +kernel
theorem dX5_fits_1 : decode cX5_fits 1 = .ok (.istore_n 2, 1) := by decide +kernel
theorem dX5_fits_2 : decode cX5_fits 2 = .ok (.iload_n 2, 1) := by decide +kernel
theorem dX5_fits_3 : decode cX5_fits 3 = .ok (.aload_n 0, 1) := by decide +kernel
theorem dX5_fits_4 : decode cX5_fits 4 = .ok (.getfield 20, 3) := by decide +kernel
theorem dX5_fits_7 : decode cX5_fits 7 = .ok (.invokevirtual 28, 3) := by decide +kernel
theorem dX5_fits_10 : decode cX5_fits 10 = .ok (.if_icmp .ge 33, 3) := by decide +kernel
theorem dX5_fits_13 : decode cX5_fits 13 = .ok (.aload_n 0, 1) := by decide +kernel
theorem dX5_fits_14 : decode cX5_fits 14 = .ok (.getfield 20, 3) := by decide +kernel
theorem dX5_fits_17 : decode cX5_fits 17 = .ok (.iload_n 2, 1) := by decide +kernel
theorem dX5_fits_18 : decode cX5_fits 18 = .ok (.invokevirtual 32, 3) := by decide +kernel
theorem dX5_fits_21 : decode cX5_fits 21 = .ok (.istore_n 3, 1) := by decide +kernel
theorem dX5_fits_22 : decode cX5_fits 22 = .ok (.iload_n 3, 1) := by decide +kernel
theorem dX5_fits_23 : decode cX5_fits 23 = .ok (.ifCond .lt 14, 3) := by decide +kernel
theorem dX5_fits_26 : decode cX5_fits 26 = .ok (.iload_n 3, 1) := by decide +kernel
theorem dX5_fits_27 : decode cX5_fits 27 = .ok (.iload_n 1, 1) := by decide +kernel
theorem dX5_fits_28 : decode cX5_fits 28 = .ok (.iload_n 2, 1) := by decide +kernel
theorem dX5_fits_29 : decode cX5_fits 29 = .ok (.invokestatic 36, 3) := by decide +kernel
theorem dX5_fits_32 : decode cX5_fits 32 = .ok (.if_icmp .eq 5, 3) := by decide +kernel
theorem dX5_fits_35 : decode cX5_fits 35 = .ok (.iconst 0, 1) := by decide +kernel
theorem dX5_fits_36 : decode cX5_fits 36 = .ok (.ireturn, 1) := by decide +kernel
theorem dX5_fits_37 : decode cX5_fits 37 = .ok (.iinc 2 1, 3) := by decide +kernel
theorem dX5_fits_40 : decode cX5_fits 40 = .ok (.goto (-38), 3) := by decide +kernel
theorem dX5_fits_43 : decode cX5_fits 43 = .ok (.iconst 1, 1) := by decide +kernel
theorem dX5_fits_44 : decode cX5_fits 44 = .ok (.ireturn, 1) := by decide +kernel
theorem dX6_init_0 : decode cX6_init 0 = .ok (.aload_n 0, 1) := by decide +kernel
theorem dX6_init_1 : decode cX6_init 1 = .ok (.invokespecial 3, 3) := by decide +kernel
theorem dX6_init_4 : decode cX6_init 4 = .ok (.aload_n 0, 1) := by decide +kernel
theorem dX6_init_5 : decode cX6_init 5 = .ok (.new 9, 3) := by decide +kernel
theorem dX6_init_8 : decode cX6_init 8 = .ok (.dup, 1) := by decide +kernel
theorem dX6_init_9 : decode cX6_init 9 = .ok (.bipush 50, 2) := by decide +kernel
theorem dX6_init_11 : decode cX6_init 11 = .ok (.invokespecial 11, 3) := by decide +kernel
theorem dX6_init_14 : decode cX6_init 14 = .ok (.putfield 14, 3) := by decide +kernel
theorem dX6_init_17 : decode cX6_init 17 = .ok (.aload_n 0, 1) := by decide +kernel
theorem dX6_init_18 : decode cX6_init 18 = .ok (.new 9, 3) := by decide +kernel
theorem dX6_init_21 : decode cX6_init 21 = .ok (.dup, 1) := by decide +kernel
theorem dX6_init_22 : decode cX6_init 22 = .ok (.bipush 50, 2) := by decide +kernel
theorem dX6_init_24 : decode cX6_init 24 = .ok (.invokespecial 11, 3) := by decide +kernel
theorem dX6_init_27 : decode cX6_init 27 = .ok (.putfield 20, 3) := by decide +kernel
theorem dX6_init_30 : decode cX6_init 30 = .ok (.aload_n 0, 1) := by decide +kernel
theorem dX6_init_31 : decode cX6_init 31 = .ok (.iload_n 1, 1) := by decide +kernel
theorem dX6_init_32 : decode cX6_init 32 = .ok (.putfield 23, 3) := by decide +kernel
theorem dX6_init_35 : decode cX6_init 35 = .ok (.return_, 1) := by decide +kernel
theorem dX6_gives_0 : decode cX6_gives 0 = .ok (.aload_n 0, 1) := by decide +kernel
theorem dX6_gives_1 : decode cX6_gives 1 = .ok (.getfield 14, 3) := by decide +kernel
theorem dX6_gives_4 : decode cX6_gives 4 = .ok (.invokevirtual 27, 3) := by decide +kernel
theorem dX6_gives_7 : decode cX6_gives 7 = .ok (.ifCond .ne 24, 3) := by decide +kernel
theorem dX6_gives_10 : decode cX6_gives 10 = .ok (.aload_n 0, 1) := by decide +kernel
theorem dX6_gives_11 : decode cX6_gives 11 = .ok (.aload_n 0, 1) := by decide +kernel
theorem dX6_gives_12 : decode cX6_gives 12 = .ok (.getfield 23, 3) := by decide +kernel
theorem dX6_gives_15 : decode cX6_gives 15 = .ok (.ifCond .ne 11, 3) := by decide +kernel
theorem dX6_gives_18 : decode cX6_gives 18 = .ok (.iconst 1, 1) := by decide +kernel
theorem dX6_gives_19 : decode cX6_gives 19 = .ok (.iload_n 3, 1) := by decide +kernel
theorem dX6_gives_20 : decode cX6_gives 20 = .ok (.iconst 2, 1) := by decide +kernel
theorem dX6_gives_21 : decode cX6_gives 21 = .ok (.idiv, 1) := by decide +kernel
theorem dX6_gives_22 : decode cX6_gives 22 = .ok (.iadd, 1) := by decide +kernel
theorem dX6_gives_23 : decode cX6_gives 23 = .ok (.goto 4, 3) := by decide +kernel
theorem dX6_gives_26 : decode cX6_gives 26 = .ok (.iconst 1, 1) := by decide +kernel
theorem dX6_gives_27 : decode cX6_gives 27 = .ok (.invokevirtual 31, 3) := by decide +kernel
theorem dX6_gives_30 : decode cX6_gives 30 = .ok (.ireturn, 1) := by decide +kernel
theorem dX6_gives_31 : decode cX6_gives 31 = .ok (.aload_n 0, 1) := by decide +kernel
theorem dX6_gives_32 : decode cX6_gives 32 = .ok (.getfield 20, 3) := by decide +kernel
theorem dX6_gives_35 : decode cX6_gives 35 = .ok (.invokevirtual 35, 3) := by decide +kernel
theorem dX6_gives_38 : decode cX6_gives 38 = .ok (.iconst 0, 1) := by decide +kernel
theorem dX6_gives_39 : decode cX6_gives 39 = .ok (.istore 4, 2) := by decide +kernel
theorem dX6_gives_41 : decode cX6_gives 41 = .ok (.iload 4, 2) := by decide +kernel
theorem dX6_gives_43 : decode cX6_gives 43 = .ok (.aload_n 0, 1) := by decide +kernel
theorem dX6_gives_44 : decode cX6_gives 44 = .ok (.getfield 14, 3) := by decide +kernel
theorem dX6_gives_47 : decode cX6_gives 47 = .ok (.invokevirtual 27, 3) := by decide +kernel
theorem dX6_gives_50 : decode cX6_gives 50 = .ok (.if_icmp .ge 143, 3) := by decide +kernel
theorem dX6_gives_53 : decode cX6_gives 53 = .ok (.aload_n 0, 1) := by decide +kernel
theorem dX6_gives_54 : decode cX6_gives 54 = .ok (.getfield 14, 3) := by decide +kernel
theorem dX6_gives_57 : decode cX6_gives 57 = .ok (.iload 4, 2) := by decide +kernel
theorem dX6_gives_59 : decode cX6_gives 59 = .ok (.invokevirtual 38, 3) := by decide +kernel
theorem dX6_gives_62 : decode cX6_gives 62 = .ok (.istore 5, 2) := by decide +kernel
theorem dX6_gives_64 : decode cX6_gives 64 = .ok (.iload 5, 2) := by decide +kernel
theorem dX6_gives_66 : decode cX6_gives 66 = .ok (.ifCond .lt 15, 3) := by decide +kernel
theorem dX6_gives_69 : decode cX6_gives 69 = .ok (.aload_n 0, 1) := by decide +kernel
theorem dX6_gives_70 : decode cX6_gives 70 = .ok (.getfield 20, 3) := by decide +kernel
theorem dX6_gives_73 : decode cX6_gives 73 = .ok (.iload 5, 2) := by decide +kernel
theorem dX6_gives_75 : decode cX6_gives 75 = .ok (.invokevirtual 41, 3) := by decide +kernel
theorem dX6_gives_78 : decode cX6_gives 78 = .ok (.goto 109, 3) := by decide +kernel
theorem dX6_gives_81 : decode cX6_gives 81 = .ok (.iload 5, 2) := by decide +kernel
theorem dX6_gives_83 : decode cX6_gives 83 = .ok (.bipush (-3), 2) := by decide +kernel
theorem dX6_gives_85 : decode cX6_gives 85 = .ok (.if_icmp .lt 35, 3) := by decide +kernel
theorem dX6_gives_88 : decode cX6_gives 88 = .ok (.aload_n 0, 1) := by decide +kernel
theorem dX6_gives_89 : decode cX6_gives 89 = .ok (.getfield 20, 3) := by decide +kernel
theorem dX6_gives_92 : decode cX6_gives 92 = .ok (.iload 5, 2) := by decide +kernel
theorem dX6_gives_94 : decode cX6_gives 94 = .ok (.iconst (-1), 1) := by decide +kernel
theorem dX6_gives_95 : decode cX6_gives 95 = .ok (.if_icmp .ne 7, 3) := by decide +kernel
theorem dX6_gives_98 : decode cX6_gives 98 = .ok (.iload_n 1, 1) := by decide +kernel
theorem dX6_gives_99 : decode cX6_gives 99 = .ok (.goto 15, 3) := by decide +kernel
theorem dX6_gives_102 : decode cX6_gives 102 = .ok (.iload 5, 2) := by decide +kernel
theorem dX6_gives_104 : decode cX6_gives 104 = .ok (.bipush (-2), 2) := by decide +kernel
theorem dX6_gives_106 : decode cX6_gives 106 = .ok (.if_icmp .ne 7, 3) := by decide +kernel
theorem dX6_gives_109 : decode cX6_gives 109 = .ok (.iload_n 2, 1) := by decide +kernel
theorem dX6_gives_110 : decode cX6_gives 110 = .ok (.goto 4, 3) := by decide +kernel
theorem dX6_gives_113 : decode cX6_gives 113 = .ok (.iload_n 3, 1) := by decide +kernel
theorem dX6_gives_114 : decode cX6_gives 114 = .ok (.invokevirtual 41, 3) := by decide +kernel
theorem dX6_gives_117 : decode cX6_gives 117 = .ok (.goto 70, 3) := by decide +kernel
theorem dX6_gives_120 : decode cX6_gives 120 = .ok (.iload 5, 2) := by decide +kernel
theorem dX6_gives_122 : decode cX6_gives 122 = .ok (.bipush (-33), 2) := by decide +kernel
theorem dX6_gives_124 : decode cX6_gives 124 = .ok (.if_icmp .ne 28, 3) := by decide +kernel
theorem dX6_gives_127 : decode cX6_gives 127 = .ok (.aload_n 0, 1) := by decide +kernel
theorem dX6_gives_128 : decode cX6_gives 128 = .ok (.getfield 20, 3) := by decide +kernel
theorem dX6_gives_131 : decode cX6_gives 131 = .ok (.aload_n 0, 1) := by decide +kernel
theorem dX6_gives_132 : decode cX6_gives 132 = .ok (.getfield 20, 3) := by decide +kernel
theorem dX6_gives_135 : decode cX6_gives 135 = .ok (.invokevirtual 44, 3) := by decide +kernel
theorem dX6_gives_138 : decode cX6_gives 138 = .ok (.ifCond .ne 7, 3) := by decide +kernel
theorem dX6_gives_141 : decode cX6_gives 141 = .ok (.iconst 1, 1) := by decide +kernel
theorem dX6_gives_142 : decode cX6_gives 142 = .ok (.goto 4, 3) := by decide +kernel
theorem dX6_gives_145 : decode cX6_gives 145 = .ok (.iconst 0, 1) := by decide +kernel
theorem dX6_gives_146 : decode cX6_gives 146 = .ok (.invokevirtual 41, 3) := by decide +kernel
theorem dX6_gives_149 : decode cX6_gives 149 = .ok (.goto 38, 3) := by decide +kernel
theorem dX6_gives_152 : decode cX6_gives 152 = .ok (.aload_n 0, 1) := by decide +kernel
theorem dX6_gives_153 : decode cX6_gives 153 = .ok (.getfield 20, 3) := by decide +kernel
theorem dX6_gives_156 : decode cX6_gives 156 = .ok (.invokevirtual 44, 3) := by decide +kernel
theorem dX6_gives_159 : decode cX6_gives 159 = .ok (.istore 6, 2) := by decide +kernel
theorem dX6_gives_161 : decode cX6_gives 161 = .ok (.aload_n 0, 1) := by decide +kernel
theorem dX6_gives_162 : decode cX6_gives 162 = .ok (.getfield 20, 3) := by decide +kernel
theorem dX6_gives_165 : decode cX6_gives 165 = .ok (.invokevirtual 44, 3) := by decide +kernel
theorem dX6_gives_168 : decode cX6_gives 168 = .ok (.istore 7, 2) := by decide +kernel
theorem dX6_gives_170 : decode cX6_gives 170 = .ok (.aload_n 0, 1) := by decide +kernel
theorem dX6_gives_171 : decode cX6_gives 171 = .ok (.getfield 20, 3) := by decide +kernel
theorem dX6_gives_174 : decode cX6_gives 174 = .ok (.iload 7, 2) := by decide +kernel
theorem dX6_gives_176 : decode cX6_gives 176 = .ok (.iload 5, 2) := by decide +kernel
theorem dX6_gives_178 : decode cX6_gives 178 = .ok (.ineg, 1) := by decide +kernel
theorem dX6_gives_179 : decode cX6_gives 179 = .ok (.iload 6, 2) := by decide +kernel
theorem dX6_gives_181 : decode cX6_gives 181 = .ok (.invokestatic 47, 3) := by decide +kernel
theorem dX6_gives_184 : decode cX6_gives 184 = .ok (.invokevirtual 41, 3) := by decide +kernel
theorem dX6_gives_187 : decode cX6_gives 187 = .ok (.iinc 4 1, 3) := by decide +kernel
theorem dX6_gives_190 : decode cX6_gives 190 = .ok (.goto (-149), 3) := by decide +kernel
theorem dX6_gives_193 : decode cX6_gives 193 = .ok (.aload_n 0, 1) := by decide +kernel
theorem dX6_gives_194 : decode cX6_gives 194 = .ok (.aload_n 0, 1) := by decide +kernel
theorem dX6_gives_195 : decode cX6_gives 195 = .ok (.getfield 20, 3) := by decide +kernel
theorem dX6_gives_198 : decode cX6_gives 198 = .ok (.invokevirtual 44, 3) := by decide +kernel
theorem dX6_gives_201 : decode cX6_gives 201 = .ok (.invokevirtual 31, 3) := by decide +kernel
theorem dX6_gives_204 : decode cX6_gives 204 = .ok (.ireturn, 1) := by decide +kernel
theorem dX6_held_0 : decode cX6_held 0 = .ok (.aload_n 0, 1) := by decide +kernel
theorem dX6_held_1 : decode cX6_held 1 = .ok (.getfield 23, 3) := by decide +kernel
theorem dX6_held_4 : decode cX6_held 4 = .ok (.ifCond .ne 8, 3) := by decide +kernel
theorem dX6_held_7 : decode cX6_held 7 = .ok (.bipush 99, 2) := by decide +kernel
theorem dX6_held_9 : decode cX6_held 9 = .ok (.goto 4, 3) := by decide +kernel
theorem dX6_held_12 : decode cX6_held 12 = .ok (.iconst 1, 1) := by decide +kernel
theorem dX6_held_13 : decode cX6_held 13 = .ok (.istore_n 2, 1) := by decide +kernel
theorem dX6_held_14 : decode cX6_held 14 = .ok (.iload_n 1, 1) := by decide +kernel
theorem dX6_held_15 : decode cX6_held 15 = .ok (.ifCond .ge 7, 3) := by decide +kernel
theorem dX6_held_18 : decode cX6_held 18 = .ok (.iconst 0, 1) := by decide +kernel
theorem dX6_held_19 : decode cX6_held 19 = .ok (.goto 13, 3) := by decide +kernel
theorem dX6_held_22 : decode cX6_held 22 = .ok (.iload_n 1, 1) := by decide +kernel
theorem dX6_held_23 : decode cX6_held 23 = .ok (.iload_n 2, 1) := by decide +kernel
theorem dX6_held_24 : decode cX6_held 24 = .ok (.if_icmp .le 7, 3) := by decide +kernel
theorem dX6_held_27 : decode cX6_held 27 = .ok (.iload_n 2, 1) := by decide +kernel
theorem dX6_held_28 : decode cX6_held 28 = .ok (.goto 4, 3) := by decide +kernel
theorem dX6_held_31 : decode cX6_held 31 = .ok (.iload_n 1, 1) := by decide +kernel
theorem dX6_held_32 : decode cX6_held 32 = .ok (.ireturn, 1) := by decide +kernel
theorem dX6_joined_0 : decode cX6_joined 0 = .ok (.iload_n 1, 1) := by decide +kernel
theorem dX6_joined_1 : decode cX6_joined 1 = .ok (.lookupswitch 188 #[(37, 176), (38, 105), (42, 160), (43, 152), (45, 156), (47, 164), (60, 119), (61, 130), (62, 141), (124, 91)], 91) := by decide +kernel
theorem dX6_joined_92 : decode cX6_joined 92 = .ok (.iload_n 0, 1) := by decide +kernel
theorem dX6_joined_93 : decode cX6_joined 93 = .ok (.ifCond .ne 7, 3) := by decide +kernel
theorem dX6_joined_96 : decode cX6_joined 96 = .ok (.iload_n 2, 1) := by decide +kernel
theorem dX6_joined_97 : decode cX6_joined 97 = .ok (.ifCond .eq 7, 3) := by decide +kernel
theorem dX6_joined_100 : decode cX6_joined 100 = .ok (.iconst 1, 1) := by decide +kernel
theorem dX6_joined_101 : decode cX6_joined 101 = .ok (.goto 4, 3) := by decide +kernel
theorem dX6_joined_104 : decode cX6_joined 104 = .ok (.iconst 0, 1) := by decide +kernel
theorem dX6_joined_105 : decode cX6_joined 105 = .ok (.ireturn, 1) := by decide +kernel
theorem dX6_joined_106 : decode cX6_joined 106 = .ok (.iload_n 0, 1) := by decide +kernel
theorem dX6_joined_107 : decode cX6_joined 107 = .ok (.ifCond .eq 11, 3) := by decide +kernel
theorem dX6_joined_110 : decode cX6_joined 110 = .ok (.iload_n 2, 1) := by decide +kernel
theorem dX6_joined_111 : decode cX6_joined 111 = .ok (.ifCond .eq 7, 3) := by decide +kernel
theorem dX6_joined_114 : decode cX6_joined 114 = .ok (.iconst 1, 1) := by decide +kernel
theorem dX6_joined_115 : decode cX6_joined 115 = .ok (.goto 4, 3) := by decide +kernel
theorem dX6_joined_118 : decode cX6_joined 118 = .ok (.iconst 0, 1) := by decide +kernel
theorem dX6_joined_119 : decode cX6_joined 119 = .ok (.ireturn, 1) := by decide +kernel
theorem dX6_joined_120 : decode cX6_joined 120 = .ok (.iload_n 0, 1) := by decide +kernel
theorem dX6_joined_121 : decode cX6_joined 121 = .ok (.iload_n 2, 1) := by decide +kernel
theorem dX6_joined_122 : decode cX6_joined 122 = .ok (.if_icmp .ge 7, 3) := by decide +kernel
theorem dX6_joined_125 : decode cX6_joined 125 = .ok (.iconst 1, 1) := by decide +kernel
theorem dX6_joined_126 : decode cX6_joined 126 = .ok (.goto 4, 3) := by decide +kernel
theorem dX6_joined_129 : decode cX6_joined 129 = .ok (.iconst 0, 1) := by decide +kernel
theorem dX6_joined_130 : decode cX6_joined 130 = .ok (.ireturn, 1) := by decide +kernel
theorem dX6_joined_131 : decode cX6_joined 131 = .ok (.iload_n 0, 1) := by decide +kernel
theorem dX6_joined_132 : decode cX6_joined 132 = .ok (.iload_n 2, 1) := by decide +kernel
theorem dX6_joined_133 : decode cX6_joined 133 = .ok (.if_icmp .ne 7, 3) := by decide +kernel
theorem dX6_joined_136 : decode cX6_joined 136 = .ok (.iconst 1, 1) := by decide +kernel
theorem dX6_joined_137 : decode cX6_joined 137 = .ok (.goto 4, 3) := by decide +kernel
theorem dX6_joined_140 : decode cX6_joined 140 = .ok (.iconst 0, 1) := by decide +kernel
theorem dX6_joined_141 : decode cX6_joined 141 = .ok (.ireturn, 1) := by decide +kernel
theorem dX6_joined_142 : decode cX6_joined 142 = .ok (.iload_n 0, 1) := by decide +kernel
theorem dX6_joined_143 : decode cX6_joined 143 = .ok (.iload_n 2, 1) := by decide +kernel
theorem dX6_joined_144 : decode cX6_joined 144 = .ok (.if_icmp .le 7, 3) := by decide +kernel
theorem dX6_joined_147 : decode cX6_joined 147 = .ok (.iconst 1, 1) := by decide +kernel
theorem dX6_joined_148 : decode cX6_joined 148 = .ok (.goto 4, 3) := by decide +kernel
theorem dX6_joined_151 : decode cX6_joined 151 = .ok (.iconst 0, 1) := by decide +kernel
theorem dX6_joined_152 : decode cX6_joined 152 = .ok (.ireturn, 1) := by decide +kernel
theorem dX6_joined_153 : decode cX6_joined 153 = .ok (.iload_n 0, 1) := by decide +kernel
theorem dX6_joined_154 : decode cX6_joined 154 = .ok (.iload_n 2, 1) := by decide +kernel
theorem dX6_joined_155 : decode cX6_joined 155 = .ok (.iadd, 1) := by decide +kernel
theorem dX6_joined_156 : decode cX6_joined 156 = .ok (.ireturn, 1) := by decide +kernel
theorem dX6_joined_157 : decode cX6_joined 157 = .ok (.iload_n 0, 1) := by decide +kernel
theorem dX6_joined_158 : decode cX6_joined 158 = .ok (.iload_n 2, 1) := by decide +kernel
theorem dX6_joined_159 : decode cX6_joined 159 = .ok (.isub, 1) := by decide +kernel
theorem dX6_joined_160 : decode cX6_joined 160 = .ok (.ireturn, 1) := by decide +kernel
theorem dX6_joined_161 : decode cX6_joined 161 = .ok (.iload_n 0, 1) := by decide +kernel
theorem dX6_joined_162 : decode cX6_joined 162 = .ok (.iload_n 2, 1) := by decide +kernel
theorem dX6_joined_163 : decode cX6_joined 163 = .ok (.imul, 1) := by decide +kernel
theorem dX6_joined_164 : decode cX6_joined 164 = .ok (.ireturn, 1) := by decide +kernel
theorem dX6_joined_165 : decode cX6_joined 165 = .ok (.iload_n 2, 1) := by decide +kernel
theorem dX6_joined_166 : decode cX6_joined 166 = .ok (.ifCond .ne 7, 3) := by decide +kernel
theorem dX6_joined_169 : decode cX6_joined 169 = .ok (.iconst 0, 1) := by decide +kernel
theorem dX6_joined_170 : decode cX6_joined 170 = .ok (.goto 6, 3) := by decide +kernel
theorem dX6_joined_173 : decode cX6_joined 173 = .ok (.iload_n 0, 1) := by decide +kernel
theorem dX6_joined_174 : decode cX6_joined 174 = .ok (.iload_n 2, 1) := by decide +kernel
theorem dX6_joined_175 : decode cX6_joined 175 = .ok (.idiv, 1) := by decide +kernel
theorem dX6_joined_176 : decode cX6_joined 176 = .ok (.ireturn, 1) := by decide +kernel
theorem dX6_joined_177 : decode cX6_joined 177 = .ok (.iload_n 2, 1) := by decide +kernel
theorem dX6_joined_178 : decode cX6_joined 178 = .ok (.ifCond .ne 7, 3) := by decide +kernel
theorem dX6_joined_181 : decode cX6_joined 181 = .ok (.iconst 0, 1) := by decide +kernel
theorem dX6_joined_182 : decode cX6_joined 182 = .ok (.goto 6, 3) := by decide +kernel
theorem dX6_joined_185 : decode cX6_joined 185 = .ok (.iload_n 0, 1) := by decide +kernel
theorem dX6_joined_186 : decode cX6_joined 186 = .ok (.iload_n 2, 1) := by decide +kernel
theorem dX6_joined_187 : decode cX6_joined 187 = .ok (.irem, 1) := by decide +kernel
theorem dX6_joined_188 : decode cX6_joined 188 = .ok (.ireturn, 1) := by decide +kernel
theorem dX6_joined_189 : decode cX6_joined 189 = .ok (.iconst 0, 1) := by decide +kernel
theorem dX6_joined_190 : decode cX6_joined 190 = .ok (.ireturn, 1) := by decide +kernel
theorem dX7_init_0 : decode cX7_init 0 = .ok (.aload_n 0, 1) := by decide +kernel
theorem dX7_init_1 : decode cX7_init 1 = .ok (.invokespecial 3, 3) := by decide +kernel
theorem dX7_init_4 : decode cX7_init 4 = .ok (.aload_n 0, 1) := by decide +kernel
theorem dX7_init_5 : decode cX7_init 5 = .ok (.iconst 4, 1) := by decide +kernel
theorem dX7_init_6 : decode cX7_init 6 = .ok (.putfield 9, 3) := by decide +kernel
theorem dX7_init_9 : decode cX7_init 9 = .ok (.aload_n 0, 1) := by decide +kernel
theorem dX7_init_10 : decode cX7_init 10 = .ok (.iconst 0, 1) := by decide +kernel
theorem dX7_init_11 : decode cX7_init 11 = .ok (.putfield 15, 3) := by decide +kernel
theorem dX7_init_14 : decode cX7_init 14 = .ok (.aload_n 0, 1) := by decide +kernel
theorem dX7_init_15 : decode cX7_init 15 = .ok (.iconst 0, 1) := by decide +kernel
theorem dX7_init_16 : decode cX7_init 16 = .ok (.putfield 18, 3) := by decide +kernel
theorem dX7_init_19 : decode cX7_init 19 = .ok (.aload_n 0, 1) := by decide +kernel
theorem dX7_init_20 : decode cX7_init 20 = .ok (.iconst 1, 1) := by decide +kernel
theorem dX7_init_21 : decode cX7_init 21 = .ok (.putfield 21, 3) := by decide +kernel
theorem dX7_init_24 : decode cX7_init 24 = .ok (.aload_n 0, 1) := by decide +kernel
theorem dX7_init_25 : decode cX7_init 25 = .ok (.new 24, 3) := by decide +kernel
theorem dX7_init_28 : decode cX7_init 28 = .ok (.dup, 1) := by decide +kernel
theorem dX7_init_29 : decode cX7_init 29 = .ok (.invokespecial 26, 3) := by decide +kernel
theorem dX7_init_32 : decode cX7_init 32 = .ok (.putfield 27, 3) := by decide +kernel
theorem dX7_init_35 : decode cX7_init 35 = .ok (.aload_n 0, 1) := by decide +kernel
theorem dX7_init_36 : decode cX7_init 36 = .ok (.new 31, 3) := by decide +kernel
theorem dX7_init_39 : decode cX7_init 39 = .ok (.dup, 1) := by decide +kernel
theorem dX7_init_40 : decode cX7_init 40 = .ok (.invokespecial 33, 3) := by decide +kernel
theorem dX7_init_43 : decode cX7_init 43 = .ok (.putfield 34, 3) := by decide +kernel
theorem dX7_init_46 : decode cX7_init 46 = .ok (.aload_n 0, 1) := by decide +kernel
theorem dX7_init_47 : decode cX7_init 47 = .ok (.new 38, 3) := by decide +kernel
theorem dX7_init_50 : decode cX7_init 50 = .ok (.dup, 1) := by decide +kernel
theorem dX7_init_51 : decode cX7_init 51 = .ok (.invokespecial 40, 3) := by decide +kernel
theorem dX7_init_54 : decode cX7_init 54 = .ok (.putfield 41, 3) := by decide +kernel
theorem dX7_init_57 : decode cX7_init 57 = .ok (.aload_n 0, 1) := by decide +kernel
theorem dX7_init_58 : decode cX7_init 58 = .ok (.new 45, 3) := by decide +kernel
theorem dX7_init_61 : decode cX7_init 61 = .ok (.dup, 1) := by decide +kernel
theorem dX7_init_62 : decode cX7_init 62 = .ok (.bipush 50, 2) := by decide +kernel
theorem dX7_init_64 : decode cX7_init 64 = .ok (.invokespecial 47, 3) := by decide +kernel
theorem dX7_init_67 : decode cX7_init 67 = .ok (.putfield 50, 3) := by decide +kernel
theorem dX7_init_70 : decode cX7_init 70 = .ok (.aload_n 0, 1) := by decide +kernel
theorem dX7_init_71 : decode cX7_init 71 = .ok (.new 45, 3) := by decide +kernel
theorem dX7_init_74 : decode cX7_init 74 = .ok (.dup, 1) := by decide +kernel
theorem dX7_init_75 : decode cX7_init 75 = .ok (.bipush 20, 2) := by decide +kernel
theorem dX7_init_77 : decode cX7_init 77 = .ok (.invokespecial 47, 3) := by decide +kernel
theorem dX7_init_80 : decode cX7_init 80 = .ok (.putfield 54, 3) := by decide +kernel
theorem dX7_init_83 : decode cX7_init 83 = .ok (.aload_n 0, 1) := by decide +kernel
theorem dX7_init_84 : decode cX7_init 84 = .ok (.new 57, 3) := by decide +kernel
theorem dX7_init_87 : decode cX7_init 87 = .ok (.dup, 1) := by decide +kernel
theorem dX7_init_88 : decode cX7_init 88 = .ok (.iconst 0, 1) := by decide +kernel
theorem dX7_init_89 : decode cX7_init 89 = .ok (.invokespecial 59, 3) := by decide +kernel
theorem dX7_init_92 : decode cX7_init 92 = .ok (.putfield 60, 3) := by decide +kernel
theorem dX7_init_95 : decode cX7_init 95 = .ok (.aload_n 0, 1) := by decide +kernel
theorem dX7_init_96 : decode cX7_init 96 = .ok (.new 57, 3) := by decide +kernel
theorem dX7_init_99 : decode cX7_init 99 = .ok (.dup, 1) := by decide +kernel
theorem dX7_init_100 : decode cX7_init 100 = .ok (.iconst 1, 1) := by decide +kernel
theorem dX7_init_101 : decode cX7_init 101 = .ok (.invokespecial 59, 3) := by decide +kernel
theorem dX7_init_104 : decode cX7_init 104 = .ok (.putfield 64, 3) := by decide +kernel
theorem dX7_init_107 : decode cX7_init 107 = .ok (.aload_n 0, 1) := by decide +kernel
theorem dX7_init_108 : decode cX7_init 108 = .ok (.new 67, 3) := by decide +kernel
theorem dX7_init_111 : decode cX7_init 111 = .ok (.dup, 1) := by decide +kernel
theorem dX7_init_112 : decode cX7_init 112 = .ok (.invokespecial 69, 3) := by decide +kernel
theorem dX7_init_115 : decode cX7_init 115 = .ok (.putfield 70, 3) := by decide +kernel
theorem dX7_init_118 : decode cX7_init 118 = .ok (.aload_n 0, 1) := by decide +kernel
theorem dX7_init_119 : decode cX7_init 119 = .ok (.new 45, 3) := by decide +kernel
theorem dX7_init_122 : decode cX7_init 122 = .ok (.dup, 1) := by decide +kernel
theorem dX7_init_123 : decode cX7_init 123 = .ok (.bipush 8, 2) := by decide +kernel
theorem dX7_init_125 : decode cX7_init 125 = .ok (.invokespecial 47, 3) := by decide +kernel
theorem dX7_init_128 : decode cX7_init 128 = .ok (.putfield 74, 3) := by decide +kernel
theorem dX7_init_131 : decode cX7_init 131 = .ok (.aload_n 0, 1) := by decide +kernel
theorem dX7_init_132 : decode cX7_init 132 = .ok (.iconst 0, 1) := by decide +kernel
theorem dX7_init_133 : decode cX7_init 133 = .ok (.putfield 77, 3) := by decide +kernel
theorem dX7_init_136 : decode cX7_init 136 = .ok (.return_, 1) := by decide +kernel
theorem dX7_copyFrom_0 : decode cX7_copyFrom 0 = .ok (.aload_n 0, 1) := by decide +kernel
theorem dX7_copyFrom_1 : decode cX7_copyFrom 1 = .ok (.aload_n 1, 1) := by decide +kernel
theorem dX7_copyFrom_2 : decode cX7_copyFrom 2 = .ok (.getfield 9, 3) := by decide +kernel
theorem dX7_copyFrom_5 : decode cX7_copyFrom 5 = .ok (.putfield 9, 3) := by decide +kernel
theorem dX7_copyFrom_8 : decode cX7_copyFrom 8 = .ok (.aload_n 0, 1) := by decide +kernel
theorem dX7_copyFrom_9 : decode cX7_copyFrom 9 = .ok (.aload_n 1, 1) := by decide +kernel
theorem dX7_copyFrom_10 : decode cX7_copyFrom 10 = .ok (.getfield 15, 3) := by decide +kernel
theorem dX7_copyFrom_13 : decode cX7_copyFrom 13 = .ok (.putfield 15, 3) := by decide +kernel
theorem dX7_copyFrom_16 : decode cX7_copyFrom 16 = .ok (.aload_n 0, 1) := by decide +kernel
theorem dX7_copyFrom_17 : decode cX7_copyFrom 17 = .ok (.aload_n 1, 1) := by decide +kernel
theorem dX7_copyFrom_18 : decode cX7_copyFrom 18 = .ok (.getfield 18, 3) := by decide +kernel
theorem dX7_copyFrom_21 : decode cX7_copyFrom 21 = .ok (.putfield 18, 3) := by decide +kernel
theorem dX7_copyFrom_24 : decode cX7_copyFrom 24 = .ok (.aload_n 0, 1) := by decide +kernel
theorem dX7_copyFrom_25 : decode cX7_copyFrom 25 = .ok (.aload_n 1, 1) := by decide +kernel
theorem dX7_copyFrom_26 : decode cX7_copyFrom 26 = .ok (.getfield 21, 3) := by decide +kernel
theorem dX7_copyFrom_29 : decode cX7_copyFrom 29 = .ok (.putfield 21, 3) := by decide +kernel
theorem dX7_copyFrom_32 : decode cX7_copyFrom 32 = .ok (.aload_n 0, 1) := by decide +kernel
theorem dX7_copyFrom_33 : decode cX7_copyFrom 33 = .ok (.getfield 27, 3) := by decide +kernel
theorem dX7_copyFrom_36 : decode cX7_copyFrom 36 = .ok (.aload_n 1, 1) := by decide +kernel
theorem dX7_copyFrom_37 : decode cX7_copyFrom 37 = .ok (.getfield 27, 3) := by decide +kernel
theorem dX7_copyFrom_40 : decode cX7_copyFrom 40 = .ok (.invokevirtual 80, 3) := by decide +kernel
theorem dX7_copyFrom_43 : decode cX7_copyFrom 43 = .ok (.aload_n 0, 1) := by decide +kernel
theorem dX7_copyFrom_44 : decode cX7_copyFrom 44 = .ok (.getfield 34, 3) := by decide +kernel
theorem dX7_copyFrom_47 : decode cX7_copyFrom 47 = .ok (.aload_n 1, 1) := by decide +kernel
theorem dX7_copyFrom_48 : decode cX7_copyFrom 48 = .ok (.getfield 34, 3) := by decide +kernel
theorem dX7_copyFrom_51 : decode cX7_copyFrom 51 = .ok (.invokevirtual 84, 3) := by decide +kernel
theorem dX7_copyFrom_54 : decode cX7_copyFrom 54 = .ok (.aload_n 0, 1) := by decide +kernel
theorem dX7_copyFrom_55 : decode cX7_copyFrom 55 = .ok (.getfield 41, 3) := by decide +kernel
theorem dX7_copyFrom_58 : decode cX7_copyFrom 58 = .ok (.aload_n 1, 1) := by decide +kernel
theorem dX7_copyFrom_59 : decode cX7_copyFrom 59 = .ok (.getfield 41, 3) := by decide +kernel
theorem dX7_copyFrom_62 : decode cX7_copyFrom 62 = .ok (.invokevirtual 87, 3) := by decide +kernel
theorem dX7_copyFrom_65 : decode cX7_copyFrom 65 = .ok (.aload_n 0, 1) := by decide +kernel
theorem dX7_copyFrom_66 : decode cX7_copyFrom 66 = .ok (.getfield 50, 3) := by decide +kernel
theorem dX7_copyFrom_69 : decode cX7_copyFrom 69 = .ok (.aload_n 1, 1) := by decide +kernel
theorem dX7_copyFrom_70 : decode cX7_copyFrom 70 = .ok (.getfield 50, 3) := by decide +kernel
theorem dX7_copyFrom_73 : decode cX7_copyFrom 73 = .ok (.invokevirtual 90, 3) := by decide +kernel
theorem dX7_copyFrom_76 : decode cX7_copyFrom 76 = .ok (.aload_n 0, 1) := by decide +kernel
theorem dX7_copyFrom_77 : decode cX7_copyFrom 77 = .ok (.getfield 54, 3) := by decide +kernel
theorem dX7_copyFrom_80 : decode cX7_copyFrom 80 = .ok (.aload_n 1, 1) := by decide +kernel
theorem dX7_copyFrom_81 : decode cX7_copyFrom 81 = .ok (.getfield 54, 3) := by decide +kernel
theorem dX7_copyFrom_84 : decode cX7_copyFrom 84 = .ok (.invokevirtual 90, 3) := by decide +kernel
theorem dX7_copyFrom_87 : decode cX7_copyFrom 87 = .ok (.aload_n 0, 1) := by decide +kernel
theorem dX7_copyFrom_88 : decode cX7_copyFrom 88 = .ok (.getfield 60, 3) := by decide +kernel
theorem dX7_copyFrom_91 : decode cX7_copyFrom 91 = .ok (.getfield 93, 3) := by decide +kernel
theorem dX7_copyFrom_94 : decode cX7_copyFrom 94 = .ok (.aload_n 1, 1) := by decide +kernel
theorem dX7_copyFrom_95 : decode cX7_copyFrom 95 = .ok (.getfield 60, 3) := by decide +kernel
theorem dX7_copyFrom_98 : decode cX7_copyFrom 98 = .ok (.getfield 93, 3) := by decide +kernel
theorem dX7_copyFrom_101 : decode cX7_copyFrom 101 = .ok (.invokevirtual 90, 3) := by decide +kernel
theorem dX7_copyFrom_104 : decode cX7_copyFrom 104 = .ok (.aload_n 0, 1) := by decide +kernel
theorem dX7_copyFrom_105 : decode cX7_copyFrom 105 = .ok (.getfield 64, 3) := by decide +kernel
theorem dX7_copyFrom_108 : decode cX7_copyFrom 108 = .ok (.getfield 93, 3) := by decide +kernel
theorem dX7_copyFrom_111 : decode cX7_copyFrom 111 = .ok (.aload_n 1, 1) := by decide +kernel
theorem dX7_copyFrom_112 : decode cX7_copyFrom 112 = .ok (.getfield 64, 3) := by decide +kernel
theorem dX7_copyFrom_115 : decode cX7_copyFrom 115 = .ok (.getfield 93, 3) := by decide +kernel
theorem dX7_copyFrom_118 : decode cX7_copyFrom 118 = .ok (.invokevirtual 90, 3) := by decide +kernel
theorem dX7_copyFrom_121 : decode cX7_copyFrom 121 = .ok (.return_, 1) := by decide +kernel
theorem dX7_isWell_0 : decode cX7_isWell 0 = .ok (.iload_n 1, 1) := by decide +kernel
theorem dX7_isWell_1 : decode cX7_isWell 1 = .ok (.iconst 0, 1) := by decide +kernel
theorem dX7_isWell_2 : decode cX7_isWell 2 = .ok (.aload_n 0, 1) := by decide +kernel
theorem dX7_isWell_3 : decode cX7_isWell 3 = .ok (.getfield 9, 3) := by decide +kernel
theorem dX7_isWell_6 : decode cX7_isWell 6 = .ok (.iconst 1, 1) := by decide +kernel
theorem dX7_isWell_7 : decode cX7_isWell 7 = .ok (.isub, 1) := by decide +kernel
theorem dX7_isWell_8 : decode cX7_isWell 8 = .ok (.invokestatic 96, 3) := by decide +kernel
theorem dX7_isWell_11 : decode cX7_isWell 11 = .ok (.ireturn, 1) := by decide +kernel
theorem dX7_textOf_0 : decode cX7_textOf 0 = .ok (.iload_n 1, 1) := by decide +kernel
theorem dX7_textOf_1 : decode cX7_textOf 1 = .ok (.ifCond .ne 10, 3) := by decide +kernel
theorem dX7_textOf_4 : decode cX7_textOf 4 = .ok (.aload_n 0, 1) := by decide +kernel
theorem dX7_textOf_5 : decode cX7_textOf 5 = .ok (.getfield 60, 3) := by decide +kernel
theorem dX7_textOf_8 : decode cX7_textOf 8 = .ok (.goto 7, 3) := by decide +kernel
theorem dX7_textOf_11 : decode cX7_textOf 11 = .ok (.aload_n 0, 1) := by decide +kernel
theorem dX7_textOf_12 : decode cX7_textOf 12 = .ok (.getfield 64, 3) := by decide +kernel
theorem dX7_textOf_15 : decode cX7_textOf 15 = .ok (.areturn, 1) := by decide +kernel
theorem dX7_ofOne_0 : decode cX7_ofOne 0 = .ok (.iload_n 2, 1) := by decide +kernel
theorem dX7_ofOne_1 : decode cX7_ofOne 1 = .ok (.ifCond .ne 15, 3) := by decide +kernel
theorem dX7_ofOne_4 : decode cX7_ofOne 4 = .ok (.aload_n 0, 1) := by decide +kernel
theorem dX7_ofOne_5 : decode cX7_ofOne 5 = .ok (.getfield 41, 3) := by decide +kernel
theorem dX7_ofOne_8 : decode cX7_ofOne 8 = .ok (.getfield 100, 3) := by decide +kernel
theorem dX7_ofOne_11 : decode cX7_ofOne 11 = .ok (.iload_n 1, 1) := by decide +kernel
theorem dX7_ofOne_12 : decode cX7_ofOne 12 = .ok (.invokevirtual 103, 3) := by decide +kernel
theorem dX7_ofOne_15 : decode cX7_ofOne 15 = .ok (.ireturn, 1) := by decide +kernel
theorem dX7_ofOne_16 : decode cX7_ofOne 16 = .ok (.iload_n 2, 1) := by decide +kernel
theorem dX7_ofOne_17 : decode cX7_ofOne 17 = .ok (.iconst 1, 1) := by decide +kernel
theorem dX7_ofOne_18 : decode cX7_ofOne 18 = .ok (.if_icmp .ne 17, 3) := by decide +kernel
theorem dX7_ofOne_21 : decode cX7_ofOne 21 = .ok (.aload_n 0, 1) := by decide +kernel
theorem dX7_ofOne_22 : decode cX7_ofOne 22 = .ok (.getfield 41, 3) := by decide +kernel
theorem dX7_ofOne_25 : decode cX7_ofOne 25 = .ok (.getfield 107, 3) := by decide +kernel
theorem dX7_ofOne_28 : decode cX7_ofOne 28 = .ok (.iload_n 1, 1) := by decide +kernel
theorem dX7_ofOne_29 : decode cX7_ofOne 29 = .ok (.invokevirtual 103, 3) := by decide +kernel
theorem dX7_ofOne_32 : decode cX7_ofOne 32 = .ok (.goto 18, 3) := by decide +kernel
theorem dX7_ofOne_35 : decode cX7_ofOne 35 = .ok (.aload_n 0, 1) := by decide +kernel
theorem dX7_ofOne_36 : decode cX7_ofOne 36 = .ok (.getfield 34, 3) := by decide +kernel
theorem dX7_ofOne_39 : decode cX7_ofOne 39 = .ok (.iload_n 1, 1) := by decide +kernel
theorem dX7_ofOne_40 : decode cX7_ofOne 40 = .ok (.aload_n 0, 1) := by decide +kernel
theorem dX7_ofOne_41 : decode cX7_ofOne 41 = .ok (.getfield 34, 3) := by decide +kernel
theorem dX7_ofOne_44 : decode cX7_ofOne 44 = .ok (.getfield 110, 3) := by decide +kernel
theorem dX7_ofOne_47 : decode cX7_ofOne 47 = .ok (.invokevirtual 113, 3) := by decide +kernel
theorem dX7_ofOne_50 : decode cX7_ofOne 50 = .ok (.ireturn, 1) := by decide +kernel
theorem dX7_draw_0 : decode cX7_draw 0 = .ok (.aload_n 0, 1) := by decide +kernel
theorem dX7_draw_1 : decode cX7_draw 1 = .ok (.aload_n 0, 1) := by decide +kernel
theorem dX7_draw_2 : decode cX7_draw 2 = .ok (.getfield 21, 3) := by decide +kernel
theorem dX7_draw_5 : decode cX7_draw 5 = .ok (.ldc 117, 2) := by decide +kernel
theorem dX7_draw_7 : decode cX7_draw 7 = .ok (.imul, 1) := by decide +kernel
theorem dX7_draw_8 : decode cX7_draw 8 = .ok (.sipush 12345, 3) := by decide +kernel
theorem dX7_draw_11 : decode cX7_draw 11 = .ok (.iadd, 1) := by decide +kernel
theorem dX7_draw_12 : decode cX7_draw 12 = .ok (.putfield 21, 3) := by decide +kernel
theorem dX7_draw_15 : decode cX7_draw 15 = .ok (.aload_n 0, 1) := by decide +kernel
theorem dX7_draw_16 : decode cX7_draw 16 = .ok (.getfield 21, 3) := by decide +kernel
theorem dX7_draw_19 : decode cX7_draw 19 = .ok (.bipush 8, 2) := by decide +kernel
theorem dX7_draw_21 : decode cX7_draw 21 = .ok (.iushr, 1) := by decide +kernel
theorem dX7_draw_22 : decode cX7_draw 22 = .ok (.ireturn, 1) := by decide +kernel
theorem dX7_weakeningOf_0 : decode cX7_weakeningOf 0 = .ok (.aload_n 0, 1) := by decide +kernel
theorem dX7_weakeningOf_1 : decode cX7_weakeningOf 1 = .ok (.getfield 60, 3) := by decide +kernel
theorem dX7_weakeningOf_4 : decode cX7_weakeningOf 4 = .ok (.aload_n 1, 1) := by decide +kernel
theorem dX7_weakeningOf_5 : decode cX7_weakeningOf 5 = .ok (.getfield 118, 3) := by decide +kernel
theorem dX7_weakeningOf_8 : decode cX7_weakeningOf 8 = .ok (.aload_n 1, 1) := by decide +kernel
theorem dX7_weakeningOf_9 : decode cX7_weakeningOf 9 = .ok (.getfield 121, 3) := by decide +kernel
theorem dX7_weakeningOf_12 : decode cX7_weakeningOf 12 = .ok (.iload_n 2, 1) := by decide +kernel
theorem dX7_weakeningOf_13 : decode cX7_weakeningOf 13 = .ok (.invokevirtual 124, 3) := by decide +kernel
theorem dX7_weakeningOf_16 : decode cX7_weakeningOf 16 = .ok (.istore_n 3, 1) := by decide +kernel
theorem dX7_weakeningOf_17 : decode cX7_weakeningOf 17 = .ok (.aload_n 1, 1) := by decide +kernel
theorem dX7_weakeningOf_18 : decode cX7_weakeningOf 18 = .ok (.getfield 128, 3) := by decide +kernel
theorem dX7_weakeningOf_21 : decode cX7_weakeningOf 21 = .ok (.tableswitch 82 1 6 #[39, 47, 51, 53, 72, 78], 39) := by decide +kernel
theorem dX7_weakeningOf_60 : decode cX7_weakeningOf 60 = .ok (.iconst 0, 1) := by decide +kernel
theorem dX7_weakeningOf_61 : decode cX7_weakeningOf 61 = .ok (.iload_n 3, 1) := by decide +kernel
theorem dX7_weakeningOf_62 : decode cX7_weakeningOf 62 = .ok (.iconst 1, 1) := by decide +kernel
theorem dX7_weakeningOf_63 : decode cX7_weakeningOf 63 = .ok (.isub, 1) := by decide +kernel
theorem dX7_weakeningOf_64 : decode cX7_weakeningOf 64 = .ok (.invokestatic 131, 3) := by decide +kernel
theorem dX7_weakeningOf_67 : decode cX7_weakeningOf 67 = .ok (.ireturn, 1) := by decide +kernel
theorem dX7_weakeningOf_68 : decode cX7_weakeningOf 68 = .ok (.iconst 2, 1) := by decide +kernel
theorem dX7_weakeningOf_69 : decode cX7_weakeningOf 69 = .ok (.iload_n 3, 1) := by decide +kernel
theorem dX7_weakeningOf_70 : decode cX7_weakeningOf 70 = .ok (.imul, 1) := by decide +kernel
theorem dX7_weakeningOf_71 : decode cX7_weakeningOf 71 = .ok (.ireturn, 1) := by decide +kernel
theorem dX7_weakeningOf_72 : decode cX7_weakeningOf 72 = .ok (.iconst 0, 1) := by decide +kernel
theorem dX7_weakeningOf_73 : decode cX7_weakeningOf 73 = .ok (.ireturn, 1) := by decide +kernel
theorem dX7_weakeningOf_74 : decode cX7_weakeningOf 74 = .ok (.iconst 0, 1) := by decide +kernel
theorem dX7_weakeningOf_75 : decode cX7_weakeningOf 75 = .ok (.iconst 0, 1) := by decide +kernel
theorem dX7_weakeningOf_76 : decode cX7_weakeningOf 76 = .ok (.iload_n 3, 1) := by decide +kernel
theorem dX7_weakeningOf_77 : decode cX7_weakeningOf 77 = .ok (.iconst 1, 1) := by decide +kernel
theorem dX7_weakeningOf_78 : decode cX7_weakeningOf 78 = .ok (.isub, 1) := by decide +kernel
theorem dX7_weakeningOf_79 : decode cX7_weakeningOf 79 = .ok (.invokestatic 131, 3) := by decide +kernel
theorem dX7_weakeningOf_82 : decode cX7_weakeningOf 82 = .ok (.aload_n 1, 1) := by decide +kernel
theorem dX7_weakeningOf_83 : decode cX7_weakeningOf 83 = .ok (.getfield 121, 3) := by decide +kernel
theorem dX7_weakeningOf_86 : decode cX7_weakeningOf 86 = .ok (.iconst 3, 1) := by decide +kernel
theorem dX7_weakeningOf_87 : decode cX7_weakeningOf 87 = .ok (.irem, 1) := by decide +kernel
theorem dX7_weakeningOf_88 : decode cX7_weakeningOf 88 = .ok (.isub, 1) := by decide +kernel
theorem dX7_weakeningOf_89 : decode cX7_weakeningOf 89 = .ok (.invokestatic 131, 3) := by decide +kernel
theorem dX7_weakeningOf_92 : decode cX7_weakeningOf 92 = .ok (.ireturn, 1) := by decide +kernel
theorem dX7_weakeningOf_93 : decode cX7_weakeningOf 93 = .ok (.iconst 2, 1) := by decide +kernel
theorem dX7_weakeningOf_94 : decode cX7_weakeningOf 94 = .ok (.iload_n 3, 1) := by decide +kernel
theorem dX7_weakeningOf_95 : decode cX7_weakeningOf 95 = .ok (.imul, 1) := by decide +kernel
theorem dX7_weakeningOf_96 : decode cX7_weakeningOf 96 = .ok (.iconst 1, 1) := by decide +kernel
theorem dX7_weakeningOf_97 : decode cX7_weakeningOf 97 = .ok (.iadd, 1) := by decide +kernel
theorem dX7_weakeningOf_98 : decode cX7_weakeningOf 98 = .ok (.ireturn, 1) := by decide +kernel
theorem dX7_weakeningOf_99 : decode cX7_weakeningOf 99 = .ok (.iload_n 3, 1) := by decide +kernel
theorem dX7_weakeningOf_100 : decode cX7_weakeningOf 100 = .ok (.iconst 2, 1) := by decide +kernel
theorem dX7_weakeningOf_101 : decode cX7_weakeningOf 101 = .ok (.idiv, 1) := by decide +kernel
theorem dX7_weakeningOf_102 : decode cX7_weakeningOf 102 = .ok (.ireturn, 1) := by decide +kernel
theorem dX7_weakeningOf_103 : decode cX7_weakeningOf 103 = .ok (.iload_n 3, 1) := by decide +kernel
theorem dX7_weakeningOf_104 : decode cX7_weakeningOf 104 = .ok (.ireturn, 1) := by decide +kernel
theorem dX7_nextWayOf_0 : decode cX7_nextWayOf 0 = .ok (.aload_n 1, 1) := by decide +kernel
theorem dX7_nextWayOf_1 : decode cX7_nextWayOf 1 = .ok (.getfield 128, 3) := by decide +kernel
theorem dX7_nextWayOf_4 : decode cX7_nextWayOf 4 = .ok (.tableswitch 95 2 5 #[32, 45, 47, 32], 32) := by decide +kernel
theorem dX7_nextWayOf_36 : decode cX7_nextWayOf 36 = .ok (.aload_n 0, 1) := by decide +kernel
theorem dX7_nextWayOf_37 : decode cX7_nextWayOf 37 = .ok (.getfield 27, 3) := by decide +kernel
theorem dX7_nextWayOf_40 : decode cX7_nextWayOf 40 = .ok (.aload_n 1, 1) := by decide +kernel
theorem dX7_nextWayOf_41 : decode cX7_nextWayOf 41 = .ok (.getfield 137, 3) := by decide +kernel
theorem dX7_nextWayOf_44 : decode cX7_nextWayOf 44 = .ok (.iload_n 2, 1) := by decide +kernel
theorem dX7_nextWayOf_45 : decode cX7_nextWayOf 45 = .ok (.invokevirtual 140, 3) := by decide +kernel
theorem dX7_nextWayOf_48 : decode cX7_nextWayOf 48 = .ok (.ireturn, 1) := by decide +kernel
theorem dX7_nextWayOf_49 : decode cX7_nextWayOf 49 = .ok (.iconst (-1), 1) := by decide +kernel
theorem dX7_nextWayOf_50 : decode cX7_nextWayOf 50 = .ok (.ireturn, 1) := by decide +kernel
theorem dX7_nextWayOf_51 : decode cX7_nextWayOf 51 = .ok (.aload_n 0, 1) := by decide +kernel
theorem dX7_nextWayOf_52 : decode cX7_nextWayOf 52 = .ok (.getfield 41, 3) := by decide +kernel
theorem dX7_nextWayOf_55 : decode cX7_nextWayOf 55 = .ok (.aload_n 1, 1) := by decide +kernel
theorem dX7_nextWayOf_56 : decode cX7_nextWayOf 56 = .ok (.getfield 137, 3) := by decide +kernel
theorem dX7_nextWayOf_59 : decode cX7_nextWayOf 59 = .ok (.invokevirtual 143, 3) := by decide +kernel
theorem dX7_nextWayOf_62 : decode cX7_nextWayOf 62 = .ok (.aload_n 1, 1) := by decide +kernel
theorem dX7_nextWayOf_63 : decode cX7_nextWayOf 63 = .ok (.getfield 146, 3) := by decide +kernel
theorem dX7_nextWayOf_66 : decode cX7_nextWayOf 66 = .ok (.iconst (-1), 1) := by decide +kernel
theorem dX7_nextWayOf_67 : decode cX7_nextWayOf 67 = .ok (.ixor, 1) := by decide +kernel
theorem dX7_nextWayOf_68 : decode cX7_nextWayOf 68 = .ok (.iand, 1) := by decide +kernel
theorem dX7_nextWayOf_69 : decode cX7_nextWayOf 69 = .ok (.ifCond .eq 7, 3) := by decide +kernel
theorem dX7_nextWayOf_72 : decode cX7_nextWayOf 72 = .ok (.iconst 1, 1) := by decide +kernel
theorem dX7_nextWayOf_73 : decode cX7_nextWayOf 73 = .ok (.goto 4, 3) := by decide +kernel
theorem dX7_nextWayOf_76 : decode cX7_nextWayOf 76 = .ok (.iconst 0, 1) := by decide +kernel
theorem dX7_nextWayOf_77 : decode cX7_nextWayOf 77 = .ok (.istore_n 3, 1) := by decide +kernel
theorem dX7_nextWayOf_78 : decode cX7_nextWayOf 78 = .ok (.iload_n 3, 1) := by decide +kernel
theorem dX7_nextWayOf_79 : decode cX7_nextWayOf 79 = .ok (.ifCond .eq 7, 3) := by decide +kernel
theorem dX7_nextWayOf_82 : decode cX7_nextWayOf 82 = .ok (.iconst (-1), 1) := by decide +kernel
theorem dX7_nextWayOf_83 : decode cX7_nextWayOf 83 = .ok (.goto 15, 3) := by decide +kernel
theorem dX7_nextWayOf_86 : decode cX7_nextWayOf 86 = .ok (.aload_n 0, 1) := by decide +kernel
theorem dX7_nextWayOf_87 : decode cX7_nextWayOf 87 = .ok (.getfield 27, 3) := by decide +kernel
theorem dX7_nextWayOf_90 : decode cX7_nextWayOf 90 = .ok (.aload_n 1, 1) := by decide +kernel
theorem dX7_nextWayOf_91 : decode cX7_nextWayOf 91 = .ok (.getfield 137, 3) := by decide +kernel
theorem dX7_nextWayOf_94 : decode cX7_nextWayOf 94 = .ok (.iload_n 2, 1) := by decide +kernel
theorem dX7_nextWayOf_95 : decode cX7_nextWayOf 95 = .ok (.invokevirtual 148, 3) := by decide +kernel
theorem dX7_nextWayOf_98 : decode cX7_nextWayOf 98 = .ok (.ireturn, 1) := by decide +kernel
theorem dX7_nextWayOf_99 : decode cX7_nextWayOf 99 = .ok (.aload_n 0, 1) := by decide +kernel
theorem dX7_nextWayOf_100 : decode cX7_nextWayOf 100 = .ok (.getfield 27, 3) := by decide +kernel
theorem dX7_nextWayOf_103 : decode cX7_nextWayOf 103 = .ok (.aload_n 1, 1) := by decide +kernel
theorem dX7_nextWayOf_104 : decode cX7_nextWayOf 104 = .ok (.getfield 137, 3) := by decide +kernel
theorem dX7_nextWayOf_107 : decode cX7_nextWayOf 107 = .ok (.iload_n 2, 1) := by decide +kernel
theorem dX7_nextWayOf_108 : decode cX7_nextWayOf 108 = .ok (.invokevirtual 148, 3) := by decide +kernel
theorem dX7_nextWayOf_111 : decode cX7_nextWayOf 111 = .ok (.ireturn, 1) := by decide +kernel
theorem dX7_pass_0 : decode cX7_pass 0 = .ok (.aload_n 1, 1) := by decide +kernel
theorem dX7_pass_1 : decode cX7_pass 1 = .ok (.iconst 0, 1) := by decide +kernel
theorem dX7_pass_2 : decode cX7_pass 2 = .ok (.aload_n 1, 1) := by decide +kernel
theorem dX7_pass_3 : decode cX7_pass 3 = .ok (.getfield 118, 3) := by decide +kernel
theorem dX7_pass_6 : decode cX7_pass 6 = .ok (.aload_n 0, 1) := by decide +kernel
theorem dX7_pass_7 : decode cX7_pass 7 = .ok (.aload_n 1, 1) := by decide +kernel
theorem dX7_pass_8 : decode cX7_pass 8 = .ok (.iload_n 2, 1) := by decide +kernel
theorem dX7_pass_9 : decode cX7_pass 9 = .ok (.invokevirtual 151, 3) := by decide +kernel
theorem dX7_pass_12 : decode cX7_pass 12 = .ok (.isub, 1) := by decide +kernel
theorem dX7_pass_13 : decode cX7_pass 13 = .ok (.invokestatic 131, 3) := by decide +kernel
theorem dX7_pass_16 : decode cX7_pass 16 = .ok (.putfield 118, 3) := by decide +kernel
theorem dX7_pass_19 : decode cX7_pass 19 = .ok (.aload_n 1, 1) := by decide +kernel
theorem dX7_pass_20 : decode cX7_pass 20 = .ok (.getfield 155, 3) := by decide +kernel
theorem dX7_pass_23 : decode cX7_pass 23 = .ok (.ifCond .le 16, 3) := by decide +kernel
theorem dX7_pass_26 : decode cX7_pass 26 = .ok (.aload_n 1, 1) := by decide +kernel
theorem dX7_pass_27 : decode cX7_pass 27 = .ok (.dup, 1) := by decide +kernel
theorem dX7_pass_28 : decode cX7_pass 28 = .ok (.getfield 155, 3) := by decide +kernel
theorem dX7_pass_31 : decode cX7_pass 31 = .ok (.iconst 1, 1) := by decide +kernel
theorem dX7_pass_32 : decode cX7_pass 32 = .ok (.isub, 1) := by decide +kernel
theorem dX7_pass_33 : decode cX7_pass 33 = .ok (.putfield 155, 3) := by decide +kernel
theorem dX7_pass_36 : decode cX7_pass 36 = .ok (.goto 55, 3) := by decide +kernel
theorem dX7_pass_39 : decode cX7_pass 39 = .ok (.aload_n 0, 1) := by decide +kernel
theorem dX7_pass_40 : decode cX7_pass 40 = .ok (.aload_n 1, 1) := by decide +kernel
theorem dX7_pass_41 : decode cX7_pass 41 = .ok (.iload_n 3, 1) := by decide +kernel
theorem dX7_pass_42 : decode cX7_pass 42 = .ok (.invokevirtual 158, 3) := by decide +kernel
theorem dX7_pass_45 : decode cX7_pass 45 = .ok (.istore 5, 2) := by decide +kernel
theorem dX7_pass_47 : decode cX7_pass 47 = .ok (.aload_n 0, 1) := by decide +kernel
theorem dX7_pass_48 : decode cX7_pass 48 = .ok (.getfield 27, 3) := by decide +kernel
theorem dX7_pass_51 : decode cX7_pass 51 = .ok (.iload 5, 2) := by decide +kernel
theorem dX7_pass_53 : decode cX7_pass 53 = .ok (.invokevirtual 161, 3) := by decide +kernel
theorem dX7_pass_56 : decode cX7_pass 56 = .ok (.ifCond .eq 35, 3) := by decide +kernel
theorem dX7_pass_59 : decode cX7_pass 59 = .ok (.aload_n 1, 1) := by decide +kernel
theorem dX7_pass_60 : decode cX7_pass 60 = .ok (.aload_n 0, 1) := by decide +kernel
theorem dX7_pass_61 : decode cX7_pass 61 = .ok (.getfield 27, 3) := by decide +kernel
theorem dX7_pass_64 : decode cX7_pass 64 = .ok (.getfield 165, 3) := by decide +kernel
theorem dX7_pass_67 : decode cX7_pass 67 = .ok (.iload 5, 2) := by decide +kernel
theorem dX7_pass_69 : decode cX7_pass 69 = .ok (.invokevirtual 103, 3) := by decide +kernel
theorem dX7_pass_72 : decode cX7_pass 72 = .ok (.putfield 137, 3) := by decide +kernel
theorem dX7_pass_75 : decode cX7_pass 75 = .ok (.aload_n 1, 1) := by decide +kernel
theorem dX7_pass_76 : decode cX7_pass 76 = .ok (.aload_n 0, 1) := by decide +kernel
theorem dX7_pass_77 : decode cX7_pass 77 = .ok (.getfield 27, 3) := by decide +kernel
theorem dX7_pass_80 : decode cX7_pass 80 = .ok (.getfield 168, 3) := by decide +kernel
theorem dX7_pass_83 : decode cX7_pass 83 = .ok (.iload 5, 2) := by decide +kernel
theorem dX7_pass_85 : decode cX7_pass 85 = .ok (.invokevirtual 103, 3) := by decide +kernel
theorem dX7_pass_88 : decode cX7_pass 88 = .ok (.putfield 155, 3) := by decide +kernel
theorem dX7_pass_91 : decode cX7_pass 91 = .ok (.aload_n 1, 1) := by decide +kernel
theorem dX7_pass_92 : decode cX7_pass 92 = .ok (.getfield 155, 3) := by decide +kernel
theorem dX7_pass_95 : decode cX7_pass 95 = .ok (.ifCond .ne 10, 3) := by decide +kernel
theorem dX7_pass_98 : decode cX7_pass 98 = .ok (.aload_n 0, 1) := by decide +kernel
theorem dX7_pass_99 : decode cX7_pass 99 = .ok (.aload_n 1, 1) := by decide +kernel
theorem dX7_pass_100 : decode cX7_pass 100 = .ok (.iload 4, 2) := by decide +kernel
theorem dX7_pass_102 : decode cX7_pass 102 = .ok (.invokevirtual 171, 3) := by decide +kernel
theorem dX7_pass_105 : decode cX7_pass 105 = .ok (.return_, 1) := by decide +kernel
theorem dX7_beTasted_0 : decode cX7_beTasted 0 = .ok (.iconst 0, 1) := by decide +kernel
theorem dX7_beTasted_1 : decode cX7_beTasted 1 = .ok (.istore_n 3, 1) := by decide +kernel
theorem dX7_beTasted_2 : decode cX7_beTasted 2 = .ok (.iload_n 3, 1) := by decide +kernel
theorem dX7_beTasted_3 : decode cX7_beTasted 3 = .ok (.aload_n 0, 1) := by decide +kernel
theorem dX7_beTasted_4 : decode cX7_beTasted 4 = .ok (.getfield 41, 3) := by decide +kernel
theorem dX7_beTasted_7 : decode cX7_beTasted 7 = .ok (.invokevirtual 175, 3) := by decide +kernel
theorem dX7_beTasted_10 : decode cX7_beTasted 10 = .ok (.if_icmp .ge 95, 3) := by decide +kernel
theorem dX7_beTasted_13 : decode cX7_beTasted 13 = .ok (.aload_n 0, 1) := by decide +kernel
theorem dX7_beTasted_14 : decode cX7_beTasted 14 = .ok (.getfield 41, 3) := by decide +kernel
theorem dX7_beTasted_17 : decode cX7_beTasted 17 = .ok (.getfield 107, 3) := by decide +kernel
theorem dX7_beTasted_20 : decode cX7_beTasted 20 = .ok (.iload_n 3, 1) := by decide +kernel
theorem dX7_beTasted_21 : decode cX7_beTasted 21 = .ok (.invokevirtual 103, 3) := by decide +kernel
theorem dX7_beTasted_24 : decode cX7_beTasted 24 = .ok (.istore 4, 2) := by decide +kernel
theorem dX7_beTasted_26 : decode cX7_beTasted 26 = .ok (.aload_n 1, 1) := by decide +kernel
theorem dX7_beTasted_27 : decode cX7_beTasted 27 = .ok (.getfield 118, 3) := by decide +kernel
theorem dX7_beTasted_30 : decode cX7_beTasted 30 = .ok (.iconst 1, 1) := by decide +kernel
theorem dX7_beTasted_31 : decode cX7_beTasted 31 = .ok (.iload 4, 2) := by decide +kernel
theorem dX7_beTasted_33 : decode cX7_beTasted 33 = .ok (.invokestatic 131, 3) := by decide +kernel
theorem dX7_beTasted_36 : decode cX7_beTasted 36 = .ok (.if_icmp .lt 7, 3) := by decide +kernel
theorem dX7_beTasted_39 : decode cX7_beTasted 39 = .ok (.iconst 1, 1) := by decide +kernel
theorem dX7_beTasted_40 : decode cX7_beTasted 40 = .ok (.goto 4, 3) := by decide +kernel
theorem dX7_beTasted_43 : decode cX7_beTasted 43 = .ok (.iconst 0, 1) := by decide +kernel
theorem dX7_beTasted_44 : decode cX7_beTasted 44 = .ok (.istore 5, 2) := by decide +kernel
theorem dX7_beTasted_46 : decode cX7_beTasted 46 = .ok (.iload 5, 2) := by decide +kernel
theorem dX7_beTasted_48 : decode cX7_beTasted 48 = .ok (.ifCond .eq 51, 3) := by decide +kernel
theorem dX7_beTasted_51 : decode cX7_beTasted 51 = .ok (.aload_n 0, 1) := by decide +kernel
theorem dX7_beTasted_52 : decode cX7_beTasted 52 = .ok (.getfield 41, 3) := by decide +kernel
theorem dX7_beTasted_55 : decode cX7_beTasted 55 = .ok (.getfield 100, 3) := by decide +kernel
theorem dX7_beTasted_58 : decode cX7_beTasted 58 = .ok (.iload_n 3, 1) := by decide +kernel
theorem dX7_beTasted_59 : decode cX7_beTasted 59 = .ok (.invokevirtual 103, 3) := by decide +kernel
theorem dX7_beTasted_62 : decode cX7_beTasted 62 = .ok (.aload_n 1, 1) := by decide +kernel
theorem dX7_beTasted_63 : decode cX7_beTasted 63 = .ok (.getfield 137, 3) := by decide +kernel
theorem dX7_beTasted_66 : decode cX7_beTasted 66 = .ok (.if_icmp .ne 33, 3) := by decide +kernel
theorem dX7_beTasted_69 : decode cX7_beTasted 69 = .ok (.aload_n 0, 1) := by decide +kernel
theorem dX7_beTasted_70 : decode cX7_beTasted 70 = .ok (.getfield 64, 3) := by decide +kernel
theorem dX7_beTasted_73 : decode cX7_beTasted 73 = .ok (.aload_n 1, 1) := by decide +kernel
theorem dX7_beTasted_74 : decode cX7_beTasted 74 = .ok (.getfield 118, 3) := by decide +kernel
theorem dX7_beTasted_77 : decode cX7_beTasted 77 = .ok (.iload 4, 2) := by decide +kernel
theorem dX7_beTasted_79 : decode cX7_beTasted 79 = .ok (.iload_n 2, 1) := by decide +kernel
theorem dX7_beTasted_80 : decode cX7_beTasted 80 = .ok (.invokevirtual 124, 3) := by decide +kernel
theorem dX7_beTasted_83 : decode cX7_beTasted 83 = .ok (.ifCond .eq 16, 3) := by decide +kernel
theorem dX7_beTasted_86 : decode cX7_beTasted 86 = .ok (.aload_n 1, 1) := by decide +kernel
theorem dX7_beTasted_87 : decode cX7_beTasted 87 = .ok (.aload_n 1, 1) := by decide +kernel
theorem dX7_beTasted_88 : decode cX7_beTasted 88 = .ok (.getfield 146, 3) := by decide +kernel
theorem dX7_beTasted_91 : decode cX7_beTasted 91 = .ok (.iload_n 3, 1) := by decide +kernel
theorem dX7_beTasted_92 : decode cX7_beTasted 92 = .ok (.iconst 1, 1) := by decide +kernel
theorem dX7_beTasted_93 : decode cX7_beTasted 93 = .ok (.invokestatic 179, 3) := by decide +kernel
theorem dX7_beTasted_96 : decode cX7_beTasted 96 = .ok (.putfield 146, 3) := by decide +kernel
theorem dX7_beTasted_99 : decode cX7_beTasted 99 = .ok (.iinc 3 1, 3) := by decide +kernel
theorem dX7_beTasted_102 : decode cX7_beTasted 102 = .ok (.goto (-100), 3) := by decide +kernel
theorem dX7_beTasted_105 : decode cX7_beTasted 105 = .ok (.return_, 1) := by decide +kernel
theorem dX7_passAll_0 : decode cX7_passAll 0 = .ok (.iconst 0, 1) := by decide +kernel
theorem dX7_passAll_1 : decode cX7_passAll 1 = .ok (.istore 5, 2) := by decide +kernel
theorem dX7_passAll_3 : decode cX7_passAll 3 = .ok (.iload 5, 2) := by decide +kernel
theorem dX7_passAll_5 : decode cX7_passAll 5 = .ok (.iload 4, 2) := by decide +kernel
theorem dX7_passAll_7 : decode cX7_passAll 7 = .ok (.if_icmp .ge 30, 3) := by decide +kernel
theorem dX7_passAll_10 : decode cX7_passAll 10 = .ok (.aload_n 1, 1) := by decide +kernel
theorem dX7_passAll_11 : decode cX7_passAll 11 = .ok (.getfield 118, 3) := by decide +kernel
theorem dX7_passAll_14 : decode cX7_passAll 14 = .ok (.ifCond .le 23, 3) := by decide +kernel
theorem dX7_passAll_17 : decode cX7_passAll 17 = .ok (.aload_n 0, 1) := by decide +kernel
theorem dX7_passAll_18 : decode cX7_passAll 18 = .ok (.aload_n 1, 1) := by decide +kernel
theorem dX7_passAll_19 : decode cX7_passAll 19 = .ok (.iload_n 2, 1) := by decide +kernel
theorem dX7_passAll_20 : decode cX7_passAll 20 = .ok (.iload_n 3, 1) := by decide +kernel
theorem dX7_passAll_21 : decode cX7_passAll 21 = .ok (.aload_n 0, 1) := by decide +kernel
theorem dX7_passAll_22 : decode cX7_passAll 22 = .ok (.getfield 18, 3) := by decide +kernel
theorem dX7_passAll_25 : decode cX7_passAll 25 = .ok (.iload 5, 2) := by decide +kernel
theorem dX7_passAll_27 : decode cX7_passAll 27 = .ok (.iadd, 1) := by decide +kernel
theorem dX7_passAll_28 : decode cX7_passAll 28 = .ok (.invokevirtual 183, 3) := by decide +kernel
theorem dX7_passAll_31 : decode cX7_passAll 31 = .ok (.iinc 5 1, 3) := by decide +kernel
theorem dX7_passAll_34 : decode cX7_passAll 34 = .ok (.goto (-31), 3) := by decide +kernel
theorem dX7_passAll_37 : decode cX7_passAll 37 = .ok (.return_, 1) := by decide +kernel
theorem dX7_passHour_0 : decode cX7_passHour 0 = .ok (.iconst 0, 1) := by decide +kernel
theorem dX7_passHour_1 : decode cX7_passHour 1 = .ok (.istore_n 1, 1) := by decide +kernel
theorem dX7_passHour_2 : decode cX7_passHour 2 = .ok (.iload_n 1, 1) := by decide +kernel
theorem dX7_passHour_3 : decode cX7_passHour 3 = .ok (.aload_n 0, 1) := by decide +kernel
theorem dX7_passHour_4 : decode cX7_passHour 4 = .ok (.getfield 34, 3) := by decide +kernel
theorem dX7_passHour_7 : decode cX7_passHour 7 = .ok (.invokevirtual 187, 3) := by decide +kernel
theorem dX7_passHour_10 : decode cX7_passHour 10 = .ok (.if_icmp .ge 44, 3) := by decide +kernel
theorem dX7_passHour_13 : decode cX7_passHour 13 = .ok (.aload_n 0, 1) := by decide +kernel
theorem dX7_passHour_14 : decode cX7_passHour 14 = .ok (.iload_n 1, 1) := by decide +kernel
theorem dX7_passHour_15 : decode cX7_passHour 15 = .ok (.invokevirtual 188, 3) := by decide +kernel
theorem dX7_passHour_18 : decode cX7_passHour 18 = .ok (.astore_n 2, 1) := by decide +kernel
theorem dX7_passHour_19 : decode cX7_passHour 19 = .ok (.aload_n 0, 1) := by decide +kernel
theorem dX7_passHour_20 : decode cX7_passHour 20 = .ok (.aload_n 2, 1) := by decide +kernel
theorem dX7_passHour_21 : decode cX7_passHour 21 = .ok (.aload_n 0, 1) := by decide +kernel
theorem dX7_passHour_22 : decode cX7_passHour 22 = .ok (.getfield 15, 3) := by decide +kernel
theorem dX7_passHour_25 : decode cX7_passHour 25 = .ok (.aload_n 0, 1) := by decide +kernel
theorem dX7_passHour_26 : decode cX7_passHour 26 = .ok (.getfield 27, 3) := by decide +kernel
theorem dX7_passHour_29 : decode cX7_passHour 29 = .ok (.getfield 192, 3) := by decide +kernel
theorem dX7_passHour_32 : decode cX7_passHour 32 = .ok (.aload_n 0, 1) := by decide +kernel
theorem dX7_passHour_33 : decode cX7_passHour 33 = .ok (.getfield 18, 3) := by decide +kernel
theorem dX7_passHour_36 : decode cX7_passHour 36 = .ok (.invokevirtual 183, 3) := by decide +kernel
theorem dX7_passHour_39 : decode cX7_passHour 39 = .ok (.aload_n 0, 1) := by decide +kernel
theorem dX7_passHour_40 : decode cX7_passHour 40 = .ok (.getfield 34, 3) := by decide +kernel
theorem dX7_passHour_43 : decode cX7_passHour 43 = .ok (.iload_n 1, 1) := by decide +kernel
theorem dX7_passHour_44 : decode cX7_passHour 44 = .ok (.aload_n 2, 1) := by decide +kernel
theorem dX7_passHour_45 : decode cX7_passHour 45 = .ok (.invokevirtual 195, 3) := by decide +kernel
theorem dX7_passHour_48 : decode cX7_passHour 48 = .ok (.iinc 1 1, 3) := by decide +kernel
theorem dX7_passHour_51 : decode cX7_passHour 51 = .ok (.goto (-49), 3) := by decide +kernel
theorem dX7_passHour_54 : decode cX7_passHour 54 = .ok (.aload_n 0, 1) := by decide +kernel
theorem dX7_passHour_55 : decode cX7_passHour 55 = .ok (.dup, 1) := by decide +kernel
theorem dX7_passHour_56 : decode cX7_passHour 56 = .ok (.getfield 18, 3) := by decide +kernel
theorem dX7_passHour_59 : decode cX7_passHour 59 = .ok (.iconst 1, 1) := by decide +kernel
theorem dX7_passHour_60 : decode cX7_passHour 60 = .ok (.iadd, 1) := by decide +kernel
theorem dX7_passHour_61 : decode cX7_passHour 61 = .ok (.putfield 18, 3) := by decide +kernel
theorem dX7_passHour_64 : decode cX7_passHour 64 = .ok (.return_, 1) := by decide +kernel
theorem dX7_thought_0 : decode cX7_thought 0 = .ok (.aload_n 0, 1) := by decide +kernel
theorem dX7_thought_1 : decode cX7_thought 1 = .ok (.getfield 34, 3) := by decide +kernel
theorem dX7_thought_4 : decode cX7_thought 4 = .ok (.iload_n 1, 1) := by decide +kernel
theorem dX7_thought_5 : decode cX7_thought 5 = .ok (.aload_n 0, 1) := by decide +kernel
theorem dX7_thought_6 : decode cX7_thought 6 = .ok (.getfield 70, 3) := by decide +kernel
theorem dX7_thought_9 : decode cX7_thought 9 = .ok (.invokevirtual 199, 3) := by decide +kernel
theorem dX7_thought_12 : decode cX7_thought 12 = .ok (.aload_n 0, 1) := by decide +kernel
theorem dX7_thought_13 : decode cX7_thought 13 = .ok (.getfield 70, 3) := by decide +kernel
theorem dX7_thought_16 : decode cX7_thought 16 = .ok (.areturn, 1) := by decide +kernel
theorem dX7_thinkAll_0 : decode cX7_thinkAll 0 = .ok (.aload_n 0, 1) := by decide +kernel
theorem dX7_thinkAll_1 : decode cX7_thinkAll 1 = .ok (.getfield 74, 3) := by decide +kernel
theorem dX7_thinkAll_4 : decode cX7_thinkAll 4 = .ok (.invokevirtual 202, 3) := by decide +kernel
theorem dX7_thinkAll_7 : decode cX7_thinkAll 7 = .ok (.aload_n 0, 1) := by decide +kernel
theorem dX7_thinkAll_8 : decode cX7_thinkAll 8 = .ok (.iconst 0, 1) := by decide +kernel
theorem dX7_thinkAll_9 : decode cX7_thinkAll 9 = .ok (.putfield 77, 3) := by decide +kernel
theorem dX7_thinkAll_12 : decode cX7_thinkAll 12 = .ok (.iconst 0, 1) := by decide +kernel
theorem dX7_thinkAll_13 : decode cX7_thinkAll 13 = .ok (.istore_n 2, 1) := by decide +kernel
theorem dX7_thinkAll_14 : decode cX7_thinkAll 14 = .ok (.iload_n 2, 1) := by decide +kernel
theorem dX7_thinkAll_15 : decode cX7_thinkAll 15 = .ok (.aload_n 0, 1) := by decide +kernel
theorem dX7_thinkAll_16 : decode cX7_thinkAll 16 = .ok (.getfield 34, 3) := by decide +kernel
theorem dX7_thinkAll_19 : decode cX7_thinkAll 19 = .ok (.invokevirtual 187, 3) := by decide +kernel
theorem dX7_thinkAll_22 : decode cX7_thinkAll 22 = .ok (.if_icmp .ge 56, 3) := by decide +kernel
theorem dX7_thinkAll_25 : decode cX7_thinkAll 25 = .ok (.aload_n 0, 1) := by decide +kernel
theorem dX7_thinkAll_26 : decode cX7_thinkAll 26 = .ok (.iload_n 2, 1) := by decide +kernel
theorem dX7_thinkAll_27 : decode cX7_thinkAll 27 = .ok (.invokevirtual 188, 3) := by decide +kernel
theorem dX7_thinkAll_30 : decode cX7_thinkAll 30 = .ok (.astore_n 3, 1) := by decide +kernel
theorem dX7_thinkAll_31 : decode cX7_thinkAll 31 = .ok (.aload_n 0, 1) := by decide +kernel
theorem dX7_thinkAll_32 : decode cX7_thinkAll 32 = .ok (.aload_n 3, 1) := by decide +kernel
theorem dX7_thinkAll_33 : decode cX7_thinkAll 33 = .ok (.aload_n 0, 1) := by decide +kernel
theorem dX7_thinkAll_34 : decode cX7_thinkAll 34 = .ok (.getfield 15, 3) := by decide +kernel
theorem dX7_thinkAll_37 : decode cX7_thinkAll 37 = .ok (.aload_n 0, 1) := by decide +kernel
theorem dX7_thinkAll_38 : decode cX7_thinkAll 38 = .ok (.getfield 27, 3) := by decide +kernel
theorem dX7_thinkAll_41 : decode cX7_thinkAll 41 = .ok (.getfield 192, 3) := by decide +kernel
theorem dX7_thinkAll_44 : decode cX7_thinkAll 44 = .ok (.iload_n 1, 1) := by decide +kernel
theorem dX7_thinkAll_45 : decode cX7_thinkAll 45 = .ok (.invokevirtual 205, 3) := by decide +kernel
theorem dX7_thinkAll_48 : decode cX7_thinkAll 48 = .ok (.aload_n 0, 1) := by decide +kernel
theorem dX7_thinkAll_49 : decode cX7_thinkAll 49 = .ok (.getfield 74, 3) := by decide +kernel
theorem dX7_thinkAll_52 : decode cX7_thinkAll 52 = .ok (.aload_n 3, 1) := by decide +kernel
theorem dX7_thinkAll_53 : decode cX7_thinkAll 53 = .ok (.getfield 146, 3) := by decide +kernel
theorem dX7_thinkAll_56 : decode cX7_thinkAll 56 = .ok (.invokevirtual 208, 3) := by decide +kernel
theorem dX7_thinkAll_59 : decode cX7_thinkAll 59 = .ok (.aload_n 0, 1) := by decide +kernel
theorem dX7_thinkAll_60 : decode cX7_thinkAll 60 = .ok (.dup, 1) := by decide +kernel
theorem dX7_thinkAll_61 : decode cX7_thinkAll 61 = .ok (.getfield 77, 3) := by decide +kernel
theorem dX7_thinkAll_64 : decode cX7_thinkAll 64 = .ok (.aload_n 3, 1) := by decide +kernel
theorem dX7_thinkAll_65 : decode cX7_thinkAll 65 = .ok (.getfield 118, 3) := by decide +kernel
theorem dX7_thinkAll_68 : decode cX7_thinkAll 68 = .ok (.iadd, 1) := by decide +kernel
theorem dX7_thinkAll_69 : decode cX7_thinkAll 69 = .ok (.putfield 77, 3) := by decide +kernel
theorem dX7_thinkAll_72 : decode cX7_thinkAll 72 = .ok (.iinc 2 1, 3) := by decide +kernel
theorem dX7_thinkAll_75 : decode cX7_thinkAll 75 = .ok (.goto (-61), 3) := by decide +kernel
theorem dX7_thinkAll_78 : decode cX7_thinkAll 78 = .ok (.return_, 1) := by decide +kernel
theorem dX8_init_0 : decode cX8_init 0 = .ok (.aload_n 0, 1) := by decide +kernel
theorem dX8_init_1 : decode cX8_init 1 = .ok (.invokespecial 3, 3) := by decide +kernel
theorem dX8_init_4 : decode cX8_init 4 = .ok (.aload_n 0, 1) := by decide +kernel
theorem dX8_init_5 : decode cX8_init 5 = .ok (.new 9, 3) := by decide +kernel
theorem dX8_init_8 : decode cX8_init 8 = .ok (.dup, 1) := by decide +kernel
theorem dX8_init_9 : decode cX8_init 9 = .ok (.bipush 40, 2) := by decide +kernel
theorem dX8_init_11 : decode cX8_init 11 = .ok (.invokespecial 11, 3) := by decide +kernel
theorem dX8_init_14 : decode cX8_init 14 = .ok (.putfield 14, 3) := by decide +kernel
theorem dX8_init_17 : decode cX8_init 17 = .ok (.aload_n 0, 1) := by decide +kernel
theorem dX8_init_18 : decode cX8_init 18 = .ok (.iconst 0, 1) := by decide +kernel
theorem dX8_init_19 : decode cX8_init 19 = .ok (.putfield 20, 3) := by decide +kernel
theorem dX8_init_22 : decode cX8_init 22 = .ok (.aload_n 0, 1) := by decide +kernel
theorem dX8_init_23 : decode cX8_init 23 = .ok (.iconst 0, 1) := by decide +kernel
theorem dX8_init_24 : decode cX8_init 24 = .ok (.putfield 24, 3) := by decide +kernel
theorem dX8_init_27 : decode cX8_init 27 = .ok (.aload_n 0, 1) := by decide +kernel
theorem dX8_init_28 : decode cX8_init 28 = .ok (.iconst 0, 1) := by decide +kernel
theorem dX8_init_29 : decode cX8_init 29 = .ok (.putfield 27, 3) := by decide +kernel
theorem dX8_init_32 : decode cX8_init 32 = .ok (.return_, 1) := by decide +kernel
theorem dX8_above_0 : decode cX8_above 0 = .ok (.iload_n 0, 1) := by decide +kernel
theorem dX8_above_1 : decode cX8_above 1 = .ok (.ifCond .lt 19, 3) := by decide +kernel
theorem dX8_above_4 : decode cX8_above 4 = .ok (.iload_n 0, 1) := by decide +kernel
theorem dX8_above_5 : decode cX8_above 5 = .ok (.getstatic 30, 3) := by decide +kernel
theorem dX8_above_8 : decode cX8_above 8 = .ok (.arraylength, 1) := by decide +kernel
theorem dX8_above_9 : decode cX8_above 9 = .ok (.if_icmp .ge 11, 3) := by decide +kernel
theorem dX8_above_12 : decode cX8_above 12 = .ok (.getstatic 30, 3) := by decide +kernel
theorem dX8_above_15 : decode cX8_above 15 = .ok (.iload_n 0, 1) := by decide +kernel
theorem dX8_above_16 : decode cX8_above 16 = .ok (.iaload, 1) := by decide +kernel
theorem dX8_above_17 : decode cX8_above 17 = .ok (.goto 4, 3) := by decide +kernel
theorem dX8_above_20 : decode cX8_above 20 = .ok (.iconst (-1), 1) := by decide +kernel
theorem dX8_above_21 : decode cX8_above 21 = .ok (.ireturn, 1) := by decide +kernel
theorem dX8_isUnder_0 : decode cX8_isUnder 0 = .ok (.iload_n 0, 1) := by decide +kernel
theorem dX8_isUnder_1 : decode cX8_isUnder 1 = .ok (.istore_n 2, 1) := by decide +kernel
theorem dX8_isUnder_2 : decode cX8_isUnder 2 = .ok (.iconst 0, 1) := by decide +kernel
theorem dX8_isUnder_3 : decode cX8_isUnder 3 = .ok (.istore_n 3, 1) := by decide +kernel
theorem dX8_isUnder_4 : decode cX8_isUnder 4 = .ok (.iload_n 3, 1) := by decide +kernel
theorem dX8_isUnder_5 : decode cX8_isUnder 5 = .ok (.getstatic 30, 3) := by decide +kernel
theorem dX8_isUnder_8 : decode cX8_isUnder 8 = .ok (.arraylength, 1) := by decide +kernel
theorem dX8_isUnder_9 : decode cX8_isUnder 9 = .ok (.if_icmp .ge 25, 3) := by decide +kernel
theorem dX8_isUnder_12 : decode cX8_isUnder 12 = .ok (.iload_n 2, 1) := by decide +kernel
theorem dX8_isUnder_13 : decode cX8_isUnder 13 = .ok (.ifCond .lt 21, 3) := by decide +kernel
theorem dX8_isUnder_16 : decode cX8_isUnder 16 = .ok (.iload_n 2, 1) := by decide +kernel
theorem dX8_isUnder_17 : decode cX8_isUnder 17 = .ok (.iload_n 1, 1) := by decide +kernel
theorem dX8_isUnder_18 : decode cX8_isUnder 18 = .ok (.if_icmp .ne 5, 3) := by decide +kernel
theorem dX8_isUnder_21 : decode cX8_isUnder 21 = .ok (.iconst 1, 1) := by decide +kernel
theorem dX8_isUnder_22 : decode cX8_isUnder 22 = .ok (.ireturn, 1) := by decide +kernel
theorem dX8_isUnder_23 : decode cX8_isUnder 23 = .ok (.iload_n 2, 1) := by decide +kernel
theorem dX8_isUnder_24 : decode cX8_isUnder 24 = .ok (.invokestatic 34, 3) := by decide +kernel
theorem dX8_isUnder_27 : decode cX8_isUnder 27 = .ok (.istore_n 2, 1) := by decide +kernel
theorem dX8_isUnder_28 : decode cX8_isUnder 28 = .ok (.iinc 3 1, 3) := by decide +kernel
theorem dX8_isUnder_31 : decode cX8_isUnder 31 = .ok (.goto (-27), 3) := by decide +kernel
theorem dX8_isUnder_34 : decode cX8_isUnder 34 = .ok (.iconst 0, 1) := by decide +kernel
theorem dX8_isUnder_35 : decode cX8_isUnder 35 = .ok (.ireturn, 1) := by decide +kernel
theorem dX8_bodyOf_0 : decode cX8_bodyOf 0 = .ok (.iload_n 0, 1) := by decide +kernel
theorem dX8_bodyOf_1 : decode cX8_bodyOf 1 = .ok (.iconst 4, 1) := by decide +kernel
theorem dX8_bodyOf_2 : decode cX8_bodyOf 2 = .ok (.imul, 1) := by decide +kernel
theorem dX8_bodyOf_3 : decode cX8_bodyOf 3 = .ok (.iload_n 1, 1) := by decide +kernel
theorem dX8_bodyOf_4 : decode cX8_bodyOf 4 = .ok (.iadd, 1) := by decide +kernel
theorem dX8_bodyOf_5 : decode cX8_bodyOf 5 = .ok (.istore_n 2, 1) := by decide +kernel
theorem dX8_bodyOf_6 : decode cX8_bodyOf 6 = .ok (.iload_n 2, 1) := by decide +kernel
theorem dX8_bodyOf_7 : decode cX8_bodyOf 7 = .ok (.ifCond .lt 19, 3) := by decide +kernel
theorem dX8_bodyOf_10 : decode cX8_bodyOf 10 = .ok (.iload_n 2, 1) := by decide +kernel
theorem dX8_bodyOf_11 : decode cX8_bodyOf 11 = .ok (.getstatic 38, 3) := by decide +kernel
theorem dX8_bodyOf_14 : decode cX8_bodyOf 14 = .ok (.arraylength, 1) := by decide +kernel
theorem dX8_bodyOf_15 : decode cX8_bodyOf 15 = .ok (.if_icmp .ge 11, 3) := by decide +kernel
theorem dX8_bodyOf_18 : decode cX8_bodyOf 18 = .ok (.getstatic 38, 3) := by decide +kernel
theorem dX8_bodyOf_21 : decode cX8_bodyOf 21 = .ok (.iload_n 2, 1) := by decide +kernel
theorem dX8_bodyOf_22 : decode cX8_bodyOf 22 = .ok (.iaload, 1) := by decide +kernel
theorem dX8_bodyOf_23 : decode cX8_bodyOf 23 = .ok (.goto 4, 3) := by decide +kernel
theorem dX8_bodyOf_26 : decode cX8_bodyOf 26 = .ok (.iconst 0, 1) := by decide +kernel
theorem dX8_bodyOf_27 : decode cX8_bodyOf 27 = .ok (.ireturn, 1) := by decide +kernel
theorem dX8_begin_0 : decode cX8_begin 0 = .ok (.aload_n 0, 1) := by decide +kernel
theorem dX8_begin_1 : decode cX8_begin 1 = .ok (.iload_n 1, 1) := by decide +kernel
theorem dX8_begin_2 : decode cX8_begin 2 = .ok (.putfield 20, 3) := by decide +kernel
theorem dX8_begin_5 : decode cX8_begin 5 = .ok (.aload_n 0, 1) := by decide +kernel
theorem dX8_begin_6 : decode cX8_begin 6 = .ok (.aload_n 2, 1) := by decide +kernel
theorem dX8_begin_7 : decode cX8_begin 7 = .ok (.getfield 41, 3) := by decide +kernel
theorem dX8_begin_10 : decode cX8_begin 10 = .ok (.putfield 24, 3) := by decide +kernel
theorem dX8_begin_13 : decode cX8_begin 13 = .ok (.aload_n 0, 1) := by decide +kernel
theorem dX8_begin_14 : decode cX8_begin 14 = .ok (.aload_n 2, 1) := by decide +kernel
theorem dX8_begin_15 : decode cX8_begin 15 = .ok (.getfield 44, 3) := by decide +kernel
theorem dX8_begin_18 : decode cX8_begin 18 = .ok (.putfield 27, 3) := by decide +kernel
theorem dX8_begin_21 : decode cX8_begin 21 = .ok (.aload_n 0, 1) := by decide +kernel
theorem dX8_begin_22 : decode cX8_begin 22 = .ok (.getfield 14, 3) := by decide +kernel
theorem dX8_begin_25 : decode cX8_begin 25 = .ok (.invokevirtual 45, 3) := by decide +kernel
theorem dX8_begin_28 : decode cX8_begin 28 = .ok (.aload_n 0, 1) := by decide +kernel
theorem dX8_begin_29 : decode cX8_begin 29 = .ok (.aload_n 0, 1) := by decide +kernel
theorem dX8_begin_30 : decode cX8_begin 30 = .ok (.getfield 24, 3) := by decide +kernel
theorem dX8_begin_33 : decode cX8_begin 33 = .ok (.iload_n 3, 1) := by decide +kernel
theorem dX8_begin_34 : decode cX8_begin 34 = .ok (.iload 4, 2) := by decide +kernel
theorem dX8_begin_36 : decode cX8_begin 36 = .ok (.iconst 0, 1) := by decide +kernel
theorem dX8_begin_37 : decode cX8_begin 37 = .ok (.invokevirtual 48, 3) := by decide +kernel
theorem dX8_begin_40 : decode cX8_begin 40 = .ok (.ireturn, 1) := by decide +kernel
theorem dX8_says_0 : decode cX8_says 0 = .ok (.iload_n 1, 1) := by decide +kernel
theorem dX8_says_1 : decode cX8_says 1 = .ok (.istore 5, 2) := by decide +kernel
theorem dX8_says_3 : decode cX8_says 3 = .ok (.iconst 0, 1) := by decide +kernel
theorem dX8_says_4 : decode cX8_says 4 = .ok (.istore 6, 2) := by decide +kernel
theorem dX8_says_6 : decode cX8_says 6 = .ok (.iload 6, 2) := by decide +kernel
theorem dX8_says_8 : decode cX8_says 8 = .ok (.getstatic 30, 3) := by decide +kernel
theorem dX8_says_11 : decode cX8_says 11 = .ok (.arraylength, 1) := by decide +kernel
theorem dX8_says_12 : decode cX8_says 12 = .ok (.if_icmp .ge 30, 3) := by decide +kernel
theorem dX8_says_15 : decode cX8_says 15 = .ok (.iload 5, 2) := by decide +kernel
theorem dX8_says_17 : decode cX8_says 17 = .ok (.ifCond .lt 25, 3) := by decide +kernel
theorem dX8_says_20 : decode cX8_says 20 = .ok (.iload 5, 2) := by decide +kernel
theorem dX8_says_22 : decode cX8_says 22 = .ok (.iload_n 2, 1) := by decide +kernel
theorem dX8_says_23 : decode cX8_says 23 = .ok (.invokestatic 52, 3) := by decide +kernel
theorem dX8_says_26 : decode cX8_says 26 = .ok (.ifCond .ne 16, 3) := by decide +kernel
theorem dX8_says_29 : decode cX8_says 29 = .ok (.iload 5, 2) := by decide +kernel
theorem dX8_says_31 : decode cX8_says 31 = .ok (.invokestatic 34, 3) := by decide +kernel
theorem dX8_says_34 : decode cX8_says 34 = .ok (.istore 5, 2) := by decide +kernel
theorem dX8_says_36 : decode cX8_says 36 = .ok (.iinc 6 1, 3) := by decide +kernel
theorem dX8_says_39 : decode cX8_says 39 = .ok (.goto (-33), 3) := by decide +kernel
theorem dX8_says_42 : decode cX8_says 42 = .ok (.iload 5, 2) := by decide +kernel
theorem dX8_says_44 : decode cX8_says 44 = .ok (.ifCond .lt 10, 3) := by decide +kernel
theorem dX8_says_47 : decode cX8_says 47 = .ok (.iload 4, 2) := by decide +kernel
theorem dX8_says_49 : decode cX8_says 49 = .ok (.bipush 40, 2) := by decide +kernel
theorem dX8_says_51 : decode cX8_says 51 = .ok (.if_icmp .le 5, 3) := by decide +kernel
theorem dX8_says_54 : decode cX8_says 54 = .ok (.iconst 0, 1) := by decide +kernel
theorem dX8_says_55 : decode cX8_says 55 = .ok (.ireturn, 1) := by decide +kernel
theorem dX8_says_56 : decode cX8_says 56 = .ok (.aload_n 0, 1) := by decide +kernel
theorem dX8_says_57 : decode cX8_says 57 = .ok (.getfield 14, 3) := by decide +kernel
theorem dX8_says_60 : decode cX8_says 60 = .ok (.iload 5, 2) := by decide +kernel
theorem dX8_says_62 : decode cX8_says 62 = .ok (.iload_n 2, 1) := by decide +kernel
theorem dX8_says_63 : decode cX8_says 63 = .ok (.invokestatic 52, 3) := by decide +kernel
theorem dX8_says_66 : decode cX8_says 66 = .ok (.invokevirtual 56, 3) := by decide +kernel
theorem dX8_says_69 : decode cX8_says 69 = .ok (.aload_n 0, 1) := by decide +kernel
theorem dX8_says_70 : decode cX8_says 70 = .ok (.iload 5, 2) := by decide +kernel
theorem dX8_says_72 : decode cX8_says 72 = .ok (.iload_n 2, 1) := by decide +kernel
theorem dX8_says_73 : decode cX8_says 73 = .ok (.invokestatic 52, 3) := by decide +kernel
theorem dX8_says_76 : decode cX8_says 76 = .ok (.iload 5, 2) := by decide +kernel
theorem dX8_says_78 : decode cX8_says 78 = .ok (.invokestatic 34, 3) := by decide +kernel
theorem dX8_says_81 : decode cX8_says 81 = .ok (.iload_n 3, 1) := by decide +kernel
theorem dX8_says_82 : decode cX8_says 82 = .ok (.iload 4, 2) := by decide +kernel
theorem dX8_says_84 : decode cX8_says 84 = .ok (.iconst 1, 1) := by decide +kernel
theorem dX8_says_85 : decode cX8_says 85 = .ok (.iadd, 1) := by decide +kernel
theorem dX8_says_86 : decode cX8_says 86 = .ok (.invokevirtual 59, 3) := by decide +kernel
theorem dX8_says_89 : decode cX8_says 89 = .ok (.ireturn, 1) := by decide +kernel
theorem dX8_saysBody_0 : decode cX8_saysBody 0 = .ok (.iload_n 1, 1) := by decide +kernel
theorem dX8_saysBody_1 : decode cX8_saysBody 1 = .ok (.lookupswitch 273 #[(10, 99), (11, 106), (12, 121), (13, 128), (20, 154), (30, 166), (40, 189), (50, 200), (60, 223), (70, 235), (71, 250)], 99) := by decide +kernel
theorem dX8_saysBody_100 : decode cX8_saysBody 100 = .ok (.iload_n 3, 1) := by decide +kernel
theorem dX8_saysBody_101 : decode cX8_saysBody 101 = .ok (.aload_n 0, 1) := by decide +kernel
theorem dX8_saysBody_102 : decode cX8_saysBody 102 = .ok (.getfield 20, 3) := by decide +kernel
theorem dX8_saysBody_105 : decode cX8_saysBody 105 = .ok (.iadd, 1) := by decide +kernel
theorem dX8_saysBody_106 : decode cX8_saysBody 106 = .ok (.ireturn, 1) := by decide +kernel
theorem dX8_saysBody_107 : decode cX8_saysBody 107 = .ok (.aload_n 0, 1) := by decide +kernel
theorem dX8_saysBody_108 : decode cX8_saysBody 108 = .ok (.aload_n 0, 1) := by decide +kernel
theorem dX8_saysBody_109 : decode cX8_saysBody 109 = .ok (.getfield 24, 3) := by decide +kernel
theorem dX8_saysBody_112 : decode cX8_saysBody 112 = .ok (.iconst 0, 1) := by decide +kernel
theorem dX8_saysBody_113 : decode cX8_saysBody 113 = .ok (.iload_n 3, 1) := by decide +kernel
theorem dX8_saysBody_114 : decode cX8_saysBody 114 = .ok (.iload 4, 2) := by decide +kernel
theorem dX8_saysBody_116 : decode cX8_saysBody 116 = .ok (.invokevirtual 48, 3) := by decide +kernel
theorem dX8_saysBody_119 : decode cX8_saysBody 119 = .ok (.iconst 2, 1) := by decide +kernel
theorem dX8_saysBody_120 : decode cX8_saysBody 120 = .ok (.imul, 1) := by decide +kernel
theorem dX8_saysBody_121 : decode cX8_saysBody 121 = .ok (.ireturn, 1) := by decide +kernel
theorem dX8_saysBody_122 : decode cX8_saysBody 122 = .ok (.iload_n 3, 1) := by decide +kernel
theorem dX8_saysBody_123 : decode cX8_saysBody 123 = .ok (.aload_n 0, 1) := by decide +kernel
theorem dX8_saysBody_124 : decode cX8_saysBody 124 = .ok (.getfield 27, 3) := by decide +kernel
theorem dX8_saysBody_127 : decode cX8_saysBody 127 = .ok (.isub, 1) := by decide +kernel
theorem dX8_saysBody_128 : decode cX8_saysBody 128 = .ok (.ireturn, 1) := by decide +kernel
theorem dX8_saysBody_129 : decode cX8_saysBody 129 = .ok (.aload_n 0, 1) := by decide +kernel
theorem dX8_saysBody_130 : decode cX8_saysBody 130 = .ok (.aload_n 0, 1) := by decide +kernel
theorem dX8_saysBody_131 : decode cX8_saysBody 131 = .ok (.getfield 24, 3) := by decide +kernel
theorem dX8_saysBody_134 : decode cX8_saysBody 134 = .ok (.iconst 1, 1) := by decide +kernel
theorem dX8_saysBody_135 : decode cX8_saysBody 135 = .ok (.iload_n 3, 1) := by decide +kernel
theorem dX8_saysBody_136 : decode cX8_saysBody 136 = .ok (.iload 4, 2) := by decide +kernel
theorem dX8_saysBody_138 : decode cX8_saysBody 138 = .ok (.invokevirtual 48, 3) := by decide +kernel
theorem dX8_saysBody_141 : decode cX8_saysBody 141 = .ok (.aload_n 0, 1) := by decide +kernel
theorem dX8_saysBody_142 : decode cX8_saysBody 142 = .ok (.aload_n 0, 1) := by decide +kernel
theorem dX8_saysBody_143 : decode cX8_saysBody 143 = .ok (.getfield 24, 3) := by decide +kernel
theorem dX8_saysBody_146 : decode cX8_saysBody 146 = .ok (.iconst 2, 1) := by decide +kernel
theorem dX8_saysBody_147 : decode cX8_saysBody 147 = .ok (.iload_n 3, 1) := by decide +kernel
theorem dX8_saysBody_148 : decode cX8_saysBody 148 = .ok (.iload 4, 2) := by decide +kernel
theorem dX8_saysBody_150 : decode cX8_saysBody 150 = .ok (.invokevirtual 48, 3) := by decide +kernel
theorem dX8_saysBody_153 : decode cX8_saysBody 153 = .ok (.ixor, 1) := by decide +kernel
theorem dX8_saysBody_154 : decode cX8_saysBody 154 = .ok (.ireturn, 1) := by decide +kernel
theorem dX8_saysBody_155 : decode cX8_saysBody 155 = .ok (.aload_n 0, 1) := by decide +kernel
theorem dX8_saysBody_156 : decode cX8_saysBody 156 = .ok (.iload_n 2, 1) := by decide +kernel
theorem dX8_saysBody_157 : decode cX8_saysBody 157 = .ok (.iconst 0, 1) := by decide +kernel
theorem dX8_saysBody_158 : decode cX8_saysBody 158 = .ok (.iload_n 3, 1) := by decide +kernel
theorem dX8_saysBody_159 : decode cX8_saysBody 159 = .ok (.iload 4, 2) := by decide +kernel
theorem dX8_saysBody_161 : decode cX8_saysBody 161 = .ok (.invokevirtual 48, 3) := by decide +kernel
theorem dX8_saysBody_164 : decode cX8_saysBody 164 = .ok (.iconst 3, 1) := by decide +kernel
theorem dX8_saysBody_165 : decode cX8_saysBody 165 = .ok (.imul, 1) := by decide +kernel
theorem dX8_saysBody_166 : decode cX8_saysBody 166 = .ok (.ireturn, 1) := by decide +kernel
theorem dX8_saysBody_167 : decode cX8_saysBody 167 = .ok (.aload_n 0, 1) := by decide +kernel
theorem dX8_saysBody_168 : decode cX8_saysBody 168 = .ok (.iload_n 2, 1) := by decide +kernel
theorem dX8_saysBody_169 : decode cX8_saysBody 169 = .ok (.iconst 1, 1) := by decide +kernel
theorem dX8_saysBody_170 : decode cX8_saysBody 170 = .ok (.iload_n 3, 1) := by decide +kernel
theorem dX8_saysBody_171 : decode cX8_saysBody 171 = .ok (.iload 4, 2) := by decide +kernel
theorem dX8_saysBody_173 : decode cX8_saysBody 173 = .ok (.invokevirtual 48, 3) := by decide +kernel
theorem dX8_saysBody_176 : decode cX8_saysBody 176 = .ok (.aload_n 0, 1) := by decide +kernel
theorem dX8_saysBody_177 : decode cX8_saysBody 177 = .ok (.aload_n 0, 1) := by decide +kernel
theorem dX8_saysBody_178 : decode cX8_saysBody 178 = .ok (.getfield 24, 3) := by decide +kernel
theorem dX8_saysBody_181 : decode cX8_saysBody 181 = .ok (.iconst 2, 1) := by decide +kernel
theorem dX8_saysBody_182 : decode cX8_saysBody 182 = .ok (.iconst 1, 1) := by decide +kernel
theorem dX8_saysBody_183 : decode cX8_saysBody 183 = .ok (.iload 4, 2) := by decide +kernel
theorem dX8_saysBody_185 : decode cX8_saysBody 185 = .ok (.invokevirtual 48, 3) := by decide +kernel
theorem dX8_saysBody_188 : decode cX8_saysBody 188 = .ok (.isub, 1) := by decide +kernel
theorem dX8_saysBody_189 : decode cX8_saysBody 189 = .ok (.ireturn, 1) := by decide +kernel
theorem dX8_saysBody_190 : decode cX8_saysBody 190 = .ok (.aload_n 0, 1) := by decide +kernel
theorem dX8_saysBody_191 : decode cX8_saysBody 191 = .ok (.iload_n 2, 1) := by decide +kernel
theorem dX8_saysBody_192 : decode cX8_saysBody 192 = .ok (.iconst 2, 1) := by decide +kernel
theorem dX8_saysBody_193 : decode cX8_saysBody 193 = .ok (.iload_n 3, 1) := by decide +kernel
theorem dX8_saysBody_194 : decode cX8_saysBody 194 = .ok (.iload 4, 2) := by decide +kernel
theorem dX8_saysBody_196 : decode cX8_saysBody 196 = .ok (.invokevirtual 48, 3) := by decide +kernel
theorem dX8_saysBody_199 : decode cX8_saysBody 199 = .ok (.ineg, 1) := by decide +kernel
theorem dX8_saysBody_200 : decode cX8_saysBody 200 = .ok (.ireturn, 1) := by decide +kernel
theorem dX8_saysBody_201 : decode cX8_saysBody 201 = .ok (.aload_n 0, 1) := by decide +kernel
theorem dX8_saysBody_202 : decode cX8_saysBody 202 = .ok (.iload_n 2, 1) := by decide +kernel
theorem dX8_saysBody_203 : decode cX8_saysBody 203 = .ok (.iconst 3, 1) := by decide +kernel
theorem dX8_saysBody_204 : decode cX8_saysBody 204 = .ok (.iload_n 3, 1) := by decide +kernel
theorem dX8_saysBody_205 : decode cX8_saysBody 205 = .ok (.iload 4, 2) := by decide +kernel
theorem dX8_saysBody_207 : decode cX8_saysBody 207 = .ok (.invokevirtual 48, 3) := by decide +kernel
theorem dX8_saysBody_210 : decode cX8_saysBody 210 = .ok (.aload_n 0, 1) := by decide +kernel
theorem dX8_saysBody_211 : decode cX8_saysBody 211 = .ok (.aload_n 0, 1) := by decide +kernel
theorem dX8_saysBody_212 : decode cX8_saysBody 212 = .ok (.getfield 24, 3) := by decide +kernel
theorem dX8_saysBody_215 : decode cX8_saysBody 215 = .ok (.iconst 0, 1) := by decide +kernel
theorem dX8_saysBody_216 : decode cX8_saysBody 216 = .ok (.iconst 2, 1) := by decide +kernel
theorem dX8_saysBody_217 : decode cX8_saysBody 217 = .ok (.iload 4, 2) := by decide +kernel
theorem dX8_saysBody_219 : decode cX8_saysBody 219 = .ok (.invokevirtual 48, 3) := by decide +kernel
theorem dX8_saysBody_222 : decode cX8_saysBody 222 = .ok (.isub, 1) := by decide +kernel
theorem dX8_saysBody_223 : decode cX8_saysBody 223 = .ok (.ireturn, 1) := by decide +kernel
theorem dX8_saysBody_224 : decode cX8_saysBody 224 = .ok (.aload_n 0, 1) := by decide +kernel
theorem dX8_saysBody_225 : decode cX8_saysBody 225 = .ok (.iload_n 2, 1) := by decide +kernel
theorem dX8_saysBody_226 : decode cX8_saysBody 226 = .ok (.iconst 1, 1) := by decide +kernel
theorem dX8_saysBody_227 : decode cX8_saysBody 227 = .ok (.iload_n 3, 1) := by decide +kernel
theorem dX8_saysBody_228 : decode cX8_saysBody 228 = .ok (.iconst 1, 1) := by decide +kernel
theorem dX8_saysBody_229 : decode cX8_saysBody 229 = .ok (.iadd, 1) := by decide +kernel
theorem dX8_saysBody_230 : decode cX8_saysBody 230 = .ok (.iload 4, 2) := by decide +kernel
theorem dX8_saysBody_232 : decode cX8_saysBody 232 = .ok (.invokevirtual 48, 3) := by decide +kernel
theorem dX8_saysBody_235 : decode cX8_saysBody 235 = .ok (.ireturn, 1) := by decide +kernel
theorem dX8_saysBody_236 : decode cX8_saysBody 236 = .ok (.aload_n 0, 1) := by decide +kernel
theorem dX8_saysBody_237 : decode cX8_saysBody 237 = .ok (.iload_n 2, 1) := by decide +kernel
theorem dX8_saysBody_238 : decode cX8_saysBody 238 = .ok (.iconst 2, 1) := by decide +kernel
theorem dX8_saysBody_239 : decode cX8_saysBody 239 = .ok (.iload_n 3, 1) := by decide +kernel
theorem dX8_saysBody_240 : decode cX8_saysBody 240 = .ok (.iload 4, 2) := by decide +kernel
theorem dX8_saysBody_242 : decode cX8_saysBody 242 = .ok (.invokevirtual 48, 3) := by decide +kernel
theorem dX8_saysBody_245 : decode cX8_saysBody 245 = .ok (.aload_n 0, 1) := by decide +kernel
theorem dX8_saysBody_246 : decode cX8_saysBody 246 = .ok (.getfield 20, 3) := by decide +kernel
theorem dX8_saysBody_249 : decode cX8_saysBody 249 = .ok (.ixor, 1) := by decide +kernel
theorem dX8_saysBody_250 : decode cX8_saysBody 250 = .ok (.ireturn, 1) := by decide +kernel
theorem dX8_saysBody_251 : decode cX8_saysBody 251 = .ok (.aload_n 0, 1) := by decide +kernel
theorem dX8_saysBody_252 : decode cX8_saysBody 252 = .ok (.aload_n 0, 1) := by decide +kernel
theorem dX8_saysBody_253 : decode cX8_saysBody 253 = .ok (.getfield 24, 3) := by decide +kernel
theorem dX8_saysBody_256 : decode cX8_saysBody 256 = .ok (.iconst 1, 1) := by decide +kernel
theorem dX8_saysBody_257 : decode cX8_saysBody 257 = .ok (.iload_n 3, 1) := by decide +kernel
theorem dX8_saysBody_258 : decode cX8_saysBody 258 = .ok (.iload 4, 2) := by decide +kernel
theorem dX8_saysBody_260 : decode cX8_saysBody 260 = .ok (.invokevirtual 48, 3) := by decide +kernel
theorem dX8_saysBody_263 : decode cX8_saysBody 263 = .ok (.aload_n 0, 1) := by decide +kernel
theorem dX8_saysBody_264 : decode cX8_saysBody 264 = .ok (.iload_n 2, 1) := by decide +kernel
theorem dX8_saysBody_265 : decode cX8_saysBody 265 = .ok (.iconst 3, 1) := by decide +kernel
theorem dX8_saysBody_266 : decode cX8_saysBody 266 = .ok (.iload_n 3, 1) := by decide +kernel
theorem dX8_saysBody_267 : decode cX8_saysBody 267 = .ok (.iload 4, 2) := by decide +kernel
theorem dX8_saysBody_269 : decode cX8_saysBody 269 = .ok (.invokevirtual 48, 3) := by decide +kernel
theorem dX8_saysBody_272 : decode cX8_saysBody 272 = .ok (.isub, 1) := by decide +kernel
theorem dX8_saysBody_273 : decode cX8_saysBody 273 = .ok (.ireturn, 1) := by decide +kernel
theorem dX8_saysBody_274 : decode cX8_saysBody 274 = .ok (.iconst 0, 1) := by decide +kernel
theorem dX8_saysBody_275 : decode cX8_saysBody 275 = .ok (.ireturn, 1) := by decide +kernel
theorem dX9_init_0 : decode cX9_init 0 = .ok (.aload_n 0, 1) := by decide +kernel
theorem dX9_init_1 : decode cX9_init 1 = .ok (.invokespecial 3, 3) := by decide +kernel
theorem dX9_init_4 : decode cX9_init 4 = .ok (.aload_n 0, 1) := by decide +kernel
theorem dX9_init_5 : decode cX9_init 5 = .ok (.new 9, 3) := by decide +kernel
theorem dX9_init_8 : decode cX9_init 8 = .ok (.dup, 1) := by decide +kernel
theorem dX9_init_9 : decode cX9_init 9 = .ok (.bipush 8, 2) := by decide +kernel
theorem dX9_init_11 : decode cX9_init 11 = .ok (.invokespecial 11, 3) := by decide +kernel
theorem dX9_init_14 : decode cX9_init 14 = .ok (.putfield 14, 3) := by decide +kernel
theorem dX9_init_17 : decode cX9_init 17 = .ok (.aload_n 0, 1) := by decide +kernel
theorem dX9_init_18 : decode cX9_init 18 = .ok (.new 9, 3) := by decide +kernel
theorem dX9_init_21 : decode cX9_init 21 = .ok (.dup, 1) := by decide +kernel
theorem dX9_init_22 : decode cX9_init 22 = .ok (.bipush 8, 2) := by decide +kernel
theorem dX9_init_24 : decode cX9_init 24 = .ok (.invokespecial 11, 3) := by decide +kernel
theorem dX9_init_27 : decode cX9_init 27 = .ok (.putfield 20, 3) := by decide +kernel
theorem dX9_init_30 : decode cX9_init 30 = .ok (.aload_n 0, 1) := by decide +kernel
theorem dX9_init_31 : decode cX9_init 31 = .ok (.new 9, 3) := by decide +kernel
theorem dX9_init_34 : decode cX9_init 34 = .ok (.dup, 1) := by decide +kernel
theorem dX9_init_35 : decode cX9_init 35 = .ok (.bipush 8, 2) := by decide +kernel
theorem dX9_init_37 : decode cX9_init 37 = .ok (.invokespecial 11, 3) := by decide +kernel
theorem dX9_init_40 : decode cX9_init 40 = .ok (.putfield 23, 3) := by decide +kernel
theorem dX9_init_43 : decode cX9_init 43 = .ok (.aload_n 0, 1) := by decide +kernel
theorem dX9_init_44 : decode cX9_init 44 = .ok (.iconst 0, 1) := by decide +kernel
theorem dX9_init_45 : decode cX9_init 45 = .ok (.putfield 26, 3) := by decide +kernel
theorem dX9_init_48 : decode cX9_init 48 = .ok (.return_, 1) := by decide +kernel
theorem dX9_size_0 : decode cX9_size 0 = .ok (.aload_n 0, 1) := by decide +kernel
theorem dX9_size_1 : decode cX9_size 1 = .ok (.getfield 14, 3) := by decide +kernel
theorem dX9_size_4 : decode cX9_size 4 = .ok (.invokevirtual 30, 3) := by decide +kernel
theorem dX9_size_7 : decode cX9_size 7 = .ok (.ireturn, 1) := by decide +kernel
theorem dX9_has_0 : decode cX9_has 0 = .ok (.aload_n 0, 1) := by decide +kernel
