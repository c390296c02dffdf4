theorem dX9_has_1 : decode cX9_has 1 = .ok (.getfield 14, 3) := by decide +kernel
theorem dX9_has_4 : decode cX9_has 4 = .ok (.iload_n 1, 1) := by decide +kernel
theorem dX9_has_5 : decode cX9_has 5 = .ok (.invokevirtual 34, 3) := by decide +kernel
theorem dX9_has_8 : decode cX9_has 8 = .ok (.ireturn, 1) := by decide +kernel
theorem dX9_add_0 : decode cX9_add 0 = .ok (.aload_n 0, 1) := by decide +kernel
theorem dX9_add_1 : decode cX9_add 1 = .ok (.getfield 14, 3) := by decide +kernel
theorem dX9_add_4 : decode cX9_add 4 = .ok (.iload_n 1, 1) := by decide +kernel
theorem dX9_add_5 : decode cX9_add 5 = .ok (.invokevirtual 38, 3) := by decide +kernel
theorem dX9_add_8 : decode cX9_add 8 = .ok (.aload_n 0, 1) := by decide +kernel
theorem dX9_add_9 : decode cX9_add 9 = .ok (.getfield 20, 3) := by decide +kernel
theorem dX9_add_12 : decode cX9_add 12 = .ok (.iload_n 2, 1) := by decide +kernel
theorem dX9_add_13 : decode cX9_add 13 = .ok (.invokevirtual 38, 3) := by decide +kernel
theorem dX9_add_16 : decode cX9_add 16 = .ok (.aload_n 0, 1) := by decide +kernel
theorem dX9_add_17 : decode cX9_add 17 = .ok (.getfield 23, 3) := by decide +kernel
theorem dX9_add_20 : decode cX9_add 20 = .ok (.iload_n 3, 1) := by decide +kernel
theorem dX9_add_21 : decode cX9_add 21 = .ok (.invokevirtual 38, 3) := by decide +kernel
theorem dX9_add_24 : decode cX9_add 24 = .ok (.return_, 1) := by decide +kernel
theorem dX9_firstFrom_0 : decode cX9_firstFrom 0 = .ok (.iconst 0, 1) := by decide +kernel
theorem dX9_firstFrom_1 : decode cX9_firstFrom 1 = .ok (.istore_n 3, 1) := by decide +kernel
theorem dX9_firstFrom_2 : decode cX9_firstFrom 2 = .ok (.iload_n 3, 1) := by decide +kernel
theorem dX9_firstFrom_3 : decode cX9_firstFrom 3 = .ok (.aload_n 0, 1) := by decide +kernel
theorem dX9_firstFrom_4 : decode cX9_firstFrom 4 = .ok (.getfield 14, 3) := by decide +kernel
theorem dX9_firstFrom_7 : decode cX9_firstFrom 7 = .ok (.invokevirtual 30, 3) := by decide +kernel
theorem dX9_firstFrom_10 : decode cX9_firstFrom 10 = .ok (.if_icmp .ge 31, 3) := by decide +kernel
theorem dX9_firstFrom_13 : decode cX9_firstFrom 13 = .ok (.aload_n 0, 1) := by decide +kernel
theorem dX9_firstFrom_14 : decode cX9_firstFrom 14 = .ok (.getfield 14, 3) := by decide +kernel
theorem dX9_firstFrom_17 : decode cX9_firstFrom 17 = .ok (.iload_n 3, 1) := by decide +kernel
theorem dX9_firstFrom_18 : decode cX9_firstFrom 18 = .ok (.invokevirtual 41, 3) := by decide +kernel
theorem dX9_firstFrom_21 : decode cX9_firstFrom 21 = .ok (.iload_n 1, 1) := by decide +kernel
theorem dX9_firstFrom_22 : decode cX9_firstFrom 22 = .ok (.if_icmp .ne 13, 3) := by decide +kernel
theorem dX9_firstFrom_25 : decode cX9_firstFrom 25 = .ok (.iload_n 2, 1) := by decide +kernel
theorem dX9_firstFrom_26 : decode cX9_firstFrom 26 = .ok (.iload_n 3, 1) := by decide +kernel
theorem dX9_firstFrom_27 : decode cX9_firstFrom 27 = .ok (.invokestatic 45, 3) := by decide +kernel
theorem dX9_firstFrom_30 : decode cX9_firstFrom 30 = .ok (.ifCond .ne 5, 3) := by decide +kernel
theorem dX9_firstFrom_33 : decode cX9_firstFrom 33 = .ok (.iload_n 3, 1) := by decide +kernel
theorem dX9_firstFrom_34 : decode cX9_firstFrom 34 = .ok (.ireturn, 1) := by decide +kernel
theorem dX9_firstFrom_35 : decode cX9_firstFrom 35 = .ok (.iinc 3 1, 3) := by decide +kernel
theorem dX9_firstFrom_38 : decode cX9_firstFrom 38 = .ok (.goto (-36), 3) := by decide +kernel
theorem dX9_firstFrom_41 : decode cX9_firstFrom 41 = .ok (.iconst (-1), 1) := by decide +kernel
theorem dX9_firstFrom_42 : decode cX9_firstFrom 42 = .ok (.ireturn, 1) := by decide +kernel
theorem dX9_lastFrom_0 : decode cX9_lastFrom 0 = .ok (.aload_n 0, 1) := by decide +kernel
theorem dX9_lastFrom_1 : decode cX9_lastFrom 1 = .ok (.getfield 14, 3) := by decide +kernel
theorem dX9_lastFrom_4 : decode cX9_lastFrom 4 = .ok (.invokevirtual 30, 3) := by decide +kernel
theorem dX9_lastFrom_7 : decode cX9_lastFrom 7 = .ok (.iconst 1, 1) := by decide +kernel
theorem dX9_lastFrom_8 : decode cX9_lastFrom 8 = .ok (.isub, 1) := by decide +kernel
theorem dX9_lastFrom_9 : decode cX9_lastFrom 9 = .ok (.istore_n 3, 1) := by decide +kernel
theorem dX9_lastFrom_10 : decode cX9_lastFrom 10 = .ok (.iload_n 3, 1) := by decide +kernel
theorem dX9_lastFrom_11 : decode cX9_lastFrom 11 = .ok (.ifCond .lt 31, 3) := by decide +kernel
theorem dX9_lastFrom_14 : decode cX9_lastFrom 14 = .ok (.aload_n 0, 1) := by decide +kernel
theorem dX9_lastFrom_15 : decode cX9_lastFrom 15 = .ok (.getfield 14, 3) := by decide +kernel
theorem dX9_lastFrom_18 : decode cX9_lastFrom 18 = .ok (.iload_n 3, 1) := by decide +kernel
theorem dX9_lastFrom_19 : decode cX9_lastFrom 19 = .ok (.invokevirtual 41, 3) := by decide +kernel
theorem dX9_lastFrom_22 : decode cX9_lastFrom 22 = .ok (.iload_n 1, 1) := by decide +kernel
theorem dX9_lastFrom_23 : decode cX9_lastFrom 23 = .ok (.if_icmp .ne 13, 3) := by decide +kernel
theorem dX9_lastFrom_26 : decode cX9_lastFrom 26 = .ok (.iload_n 2, 1) := by decide +kernel
theorem dX9_lastFrom_27 : decode cX9_lastFrom 27 = .ok (.iload_n 3, 1) := by decide +kernel
theorem dX9_lastFrom_28 : decode cX9_lastFrom 28 = .ok (.invokestatic 45, 3) := by decide +kernel
theorem dX9_lastFrom_31 : decode cX9_lastFrom 31 = .ok (.ifCond .ne 5, 3) := by decide +kernel
theorem dX9_lastFrom_34 : decode cX9_lastFrom 34 = .ok (.iload_n 3, 1) := by decide +kernel
theorem dX9_lastFrom_35 : decode cX9_lastFrom 35 = .ok (.ireturn, 1) := by decide +kernel
theorem dX9_lastFrom_36 : decode cX9_lastFrom 36 = .ok (.iinc 3 (-1), 3) := by decide +kernel
theorem dX9_lastFrom_39 : decode cX9_lastFrom 39 = .ok (.goto (-29), 3) := by decide +kernel
theorem dX9_lastFrom_42 : decode cX9_lastFrom 42 = .ok (.iconst (-1), 1) := by decide +kernel
theorem dX9_lastFrom_43 : decode cX9_lastFrom 43 = .ok (.ireturn, 1) := by decide +kernel
theorem dX9_copyFrom_0 : decode cX9_copyFrom 0 = .ok (.aload_n 0, 1) := by decide +kernel
theorem dX9_copyFrom_1 : decode cX9_copyFrom 1 = .ok (.getfield 14, 3) := by decide +kernel
theorem dX9_copyFrom_4 : decode cX9_copyFrom 4 = .ok (.aload_n 1, 1) := by decide +kernel
theorem dX9_copyFrom_5 : decode cX9_copyFrom 5 = .ok (.getfield 14, 3) := by decide +kernel
theorem dX9_copyFrom_8 : decode cX9_copyFrom 8 = .ok (.invokevirtual 49, 3) := by decide +kernel
theorem dX9_copyFrom_11 : decode cX9_copyFrom 11 = .ok (.aload_n 0, 1) := by decide +kernel
theorem dX9_copyFrom_12 : decode cX9_copyFrom 12 = .ok (.getfield 20, 3) := by decide +kernel
theorem dX9_copyFrom_15 : decode cX9_copyFrom 15 = .ok (.aload_n 1, 1) := by decide +kernel
theorem dX9_copyFrom_16 : decode cX9_copyFrom 16 = .ok (.getfield 20, 3) := by decide +kernel
theorem dX9_copyFrom_19 : decode cX9_copyFrom 19 = .ok (.invokevirtual 49, 3) := by decide +kernel
theorem dX9_copyFrom_22 : decode cX9_copyFrom 22 = .ok (.aload_n 0, 1) := by decide +kernel
theorem dX9_copyFrom_23 : decode cX9_copyFrom 23 = .ok (.getfield 23, 3) := by decide +kernel
theorem dX9_copyFrom_26 : decode cX9_copyFrom 26 = .ok (.aload_n 1, 1) := by decide +kernel
theorem dX9_copyFrom_27 : decode cX9_copyFrom 27 = .ok (.getfield 23, 3) := by decide +kernel
theorem dX9_copyFrom_30 : decode cX9_copyFrom 30 = .ok (.invokevirtual 49, 3) := by decide +kernel
theorem dX9_copyFrom_33 : decode cX9_copyFrom 33 = .ok (.aload_n 0, 1) := by decide +kernel
theorem dX9_copyFrom_34 : decode cX9_copyFrom 34 = .ok (.aload_n 1, 1) := by decide +kernel
theorem dX9_copyFrom_35 : decode cX9_copyFrom 35 = .ok (.getfield 26, 3) := by decide +kernel
theorem dX9_copyFrom_38 : decode cX9_copyFrom 38 = .ok (.putfield 26, 3) := by decide +kernel
theorem dX9_copyFrom_41 : decode cX9_copyFrom 41 = .ok (.return_, 1) := by decide +kernel
theorem dX10_init_0 : decode cX10_init 0 = .ok (.aload_n 0, 1) := by decide +kernel
theorem dX10_init_1 : decode cX10_init 1 = .ok (.invokespecial 1, 3) := by decide +kernel
theorem dX10_init_4 : decode cX10_init 4 = .ok (.aload_n 0, 1) := by decide +kernel
theorem dX10_init_5 : decode cX10_init 5 = .ok (.new 7, 3) := by decide +kernel
theorem dX10_init_8 : decode cX10_init 8 = .ok (.dup, 1) := by decide +kernel
theorem dX10_init_9 : decode cX10_init 9 = .ok (.invokespecial 9, 3) := by decide +kernel
theorem dX10_init_12 : decode cX10_init 12 = .ok (.putfield 10, 3) := by decide +kernel
theorem dX10_init_15 : decode cX10_init 15 = .ok (.aload_n 0, 1) := by decide +kernel
theorem dX10_init_16 : decode cX10_init 16 = .ok (.new 7, 3) := by decide +kernel
theorem dX10_init_19 : decode cX10_init 19 = .ok (.dup, 1) := by decide +kernel
theorem dX10_init_20 : decode cX10_init 20 = .ok (.invokespecial 9, 3) := by decide +kernel
theorem dX10_init_23 : decode cX10_init 23 = .ok (.putfield 16, 3) := by decide +kernel
theorem dX10_init_26 : decode cX10_init 26 = .ok (.aload_n 0, 1) := by decide +kernel
theorem dX10_init_27 : decode cX10_init 27 = .ok (.new 19, 3) := by decide +kernel
theorem dX10_init_30 : decode cX10_init 30 = .ok (.dup, 1) := by decide +kernel
theorem dX10_init_31 : decode cX10_init 31 = .ok (.invokespecial 21, 3) := by decide +kernel
theorem dX10_init_34 : decode cX10_init 34 = .ok (.putfield 22, 3) := by decide +kernel
theorem dX10_init_37 : decode cX10_init 37 = .ok (.aload_n 0, 1) := by decide +kernel
theorem dX10_init_38 : decode cX10_init 38 = .ok (.new 26, 3) := by decide +kernel
theorem dX10_init_41 : decode cX10_init 41 = .ok (.dup, 1) := by decide +kernel
theorem dX10_init_42 : decode cX10_init 42 = .ok (.invokespecial 28, 3) := by decide +kernel
theorem dX10_init_45 : decode cX10_init 45 = .ok (.putfield 29, 3) := by decide +kernel
theorem dX10_init_48 : decode cX10_init 48 = .ok (.aload_n 0, 1) := by decide +kernel
theorem dX10_init_49 : decode cX10_init 49 = .ok (.iconst 4, 1) := by decide +kernel
theorem dX10_init_50 : decode cX10_init 50 = .ok (.anewarray 33, 3) := by decide +kernel
theorem dX10_init_53 : decode cX10_init 53 = .ok (.putfield 35, 3) := by decide +kernel
theorem dX10_init_56 : decode cX10_init 56 = .ok (.aload_n 0, 1) := by decide +kernel
theorem dX10_init_57 : decode cX10_init 57 = .ok (.new 39, 3) := by decide +kernel
theorem dX10_init_60 : decode cX10_init 60 = .ok (.dup, 1) := by decide +kernel
theorem dX10_init_61 : decode cX10_init 61 = .ok (.bipush 40, 2) := by decide +kernel
theorem dX10_init_63 : decode cX10_init 63 = .ok (.invokespecial 41, 3) := by decide +kernel
theorem dX10_init_66 : decode cX10_init 66 = .ok (.putfield 44, 3) := by decide +kernel
theorem dX10_init_69 : decode cX10_init 69 = .ok (.aload_n 0, 1) := by decide +kernel
theorem dX10_init_70 : decode cX10_init 70 = .ok (.new 39, 3) := by decide +kernel
theorem dX10_init_73 : decode cX10_init 73 = .ok (.dup, 1) := by decide +kernel
theorem dX10_init_74 : decode cX10_init 74 = .ok (.bipush 6, 2) := by decide +kernel
theorem dX10_init_76 : decode cX10_init 76 = .ok (.invokespecial 41, 3) := by decide +kernel
theorem dX10_init_79 : decode cX10_init 79 = .ok (.putfield 48, 3) := by decide +kernel
theorem dX10_init_82 : decode cX10_init 82 = .ok (.aload_n 0, 1) := by decide +kernel
theorem dX10_init_83 : decode cX10_init 83 = .ok (.iconst 0, 1) := by decide +kernel
theorem dX10_init_84 : decode cX10_init 84 = .ok (.putfield 51, 3) := by decide +kernel
theorem dX10_init_87 : decode cX10_init 87 = .ok (.iconst 0, 1) := by decide +kernel
theorem dX10_init_88 : decode cX10_init 88 = .ok (.istore_n 1, 1) := by decide +kernel
theorem dX10_init_89 : decode cX10_init 89 = .ok (.iload_n 1, 1) := by decide +kernel
theorem dX10_init_90 : decode cX10_init 90 = .ok (.aload_n 0, 1) := by decide +kernel
theorem dX10_init_91 : decode cX10_init 91 = .ok (.getfield 35, 3) := by decide +kernel
theorem dX10_init_94 : decode cX10_init 94 = .ok (.arraylength, 1) := by decide +kernel
theorem dX10_init_95 : decode cX10_init 95 = .ok (.if_icmp .ge 22, 3) := by decide +kernel
theorem dX10_init_98 : decode cX10_init 98 = .ok (.aload_n 0, 1) := by decide +kernel
theorem dX10_init_99 : decode cX10_init 99 = .ok (.getfield 35, 3) := by decide +kernel
theorem dX10_init_102 : decode cX10_init 102 = .ok (.iload_n 1, 1) := by decide +kernel
theorem dX10_init_103 : decode cX10_init 103 = .ok (.new 33, 3) := by decide +kernel
theorem dX10_init_106 : decode cX10_init 106 = .ok (.dup, 1) := by decide +kernel
theorem dX10_init_107 : decode cX10_init 107 = .ok (.invokespecial 55, 3) := by decide +kernel
theorem dX10_init_110 : decode cX10_init 110 = .ok (.aastore, 1) := by decide +kernel
theorem dX10_init_111 : decode cX10_init 111 = .ok (.iinc 1 1, 3) := by decide +kernel
theorem dX10_init_114 : decode cX10_init 114 = .ok (.goto (-25), 3) := by decide +kernel
theorem dX10_init_117 : decode cX10_init 117 = .ok (.aload_n 0, 1) := by decide +kernel
theorem dX10_init_118 : decode cX10_init 118 = .ok (.getfield 48, 3) := by decide +kernel
theorem dX10_init_121 : decode cX10_init 121 = .ok (.bipush 6, 2) := by decide +kernel
theorem dX10_init_123 : decode cX10_init 123 = .ok (.invokevirtual 56, 3) := by decide +kernel
theorem dX10_init_126 : decode cX10_init 126 = .ok (.return_, 1) := by decide +kernel
theorem dX10_wells_0 : decode cX10_wells 0 = .ok (.iload_n 1, 1) := by decide +kernel
theorem dX10_wells_1 : decode cX10_wells 1 = .ok (.iconst 2, 1) := by decide +kernel
theorem dX10_wells_2 : decode cX10_wells 2 = .ok (.bipush 8, 2) := by decide +kernel
theorem dX10_wells_4 : decode cX10_wells 4 = .ok (.invokestatic 59, 3) := by decide +kernel
theorem dX10_wells_7 : decode cX10_wells 7 = .ok (.ifCond .ne 9, 3) := by decide +kernel
theorem dX10_wells_10 : decode cX10_wells 10 = .ok (.aload_n 0, 1) := by decide +kernel
theorem dX10_wells_11 : decode cX10_wells 11 = .ok (.iconst 1, 1) := by decide +kernel
theorem dX10_wells_12 : decode cX10_wells 12 = .ok (.invokevirtual 63, 3) := by decide +kernel
theorem dX10_wells_15 : decode cX10_wells 15 = .ok (.ireturn, 1) := by decide +kernel
theorem dX10_wells_16 : decode cX10_wells 16 = .ok (.aload_n 0, 1) := by decide +kernel
theorem dX10_wells_17 : decode cX10_wells 17 = .ok (.getfield 10, 3) := by decide +kernel
theorem dX10_wells_20 : decode cX10_wells 20 = .ok (.getfield 67, 3) := by decide +kernel
theorem dX10_wells_23 : decode cX10_wells 23 = .ok (.invokevirtual 71, 3) := by decide +kernel
theorem dX10_wells_26 : decode cX10_wells 26 = .ok (.ifCond .gt 29, 3) := by decide +kernel
theorem dX10_wells_29 : decode cX10_wells 29 = .ok (.aload_n 0, 1) := by decide +kernel
theorem dX10_wells_30 : decode cX10_wells 30 = .ok (.getfield 10, 3) := by decide +kernel
theorem dX10_wells_33 : decode cX10_wells 33 = .ok (.getfield 77, 3) := by decide +kernel
theorem dX10_wells_36 : decode cX10_wells 36 = .ok (.invokevirtual 81, 3) := by decide +kernel
theorem dX10_wells_39 : decode cX10_wells 39 = .ok (.ifCond .gt 16, 3) := by decide +kernel
theorem dX10_wells_42 : decode cX10_wells 42 = .ok (.aload_n 0, 1) := by decide +kernel
theorem dX10_wells_43 : decode cX10_wells 43 = .ok (.getfield 10, 3) := by decide +kernel
theorem dX10_wells_46 : decode cX10_wells 46 = .ok (.getfield 84, 3) := by decide +kernel
theorem dX10_wells_49 : decode cX10_wells 49 = .ok (.invokevirtual 88, 3) := by decide +kernel
theorem dX10_wells_52 : decode cX10_wells 52 = .ok (.ifCond .le 9, 3) := by decide +kernel
theorem dX10_wells_55 : decode cX10_wells 55 = .ok (.aload_n 0, 1) := by decide +kernel
theorem dX10_wells_56 : decode cX10_wells 56 = .ok (.iconst 3, 1) := by decide +kernel
theorem dX10_wells_57 : decode cX10_wells 57 = .ok (.invokevirtual 63, 3) := by decide +kernel
theorem dX10_wells_60 : decode cX10_wells 60 = .ok (.ireturn, 1) := by decide +kernel
theorem dX10_wells_61 : decode cX10_wells 61 = .ok (.aload_n 0, 1) := by decide +kernel
theorem dX10_wells_62 : decode cX10_wells 62 = .ok (.getfield 10, 3) := by decide +kernel
theorem dX10_wells_65 : decode cX10_wells 65 = .ok (.getfield 91, 3) := by decide +kernel
theorem dX10_wells_68 : decode cX10_wells 68 = .ok (.istore_n 2, 1) := by decide +kernel
theorem dX10_wells_69 : decode cX10_wells 69 = .ok (.aload_n 0, 1) := by decide +kernel
theorem dX10_wells_70 : decode cX10_wells 70 = .ok (.getfield 10, 3) := by decide +kernel
theorem dX10_wells_73 : decode cX10_wells 73 = .ok (.iload_n 1, 1) := by decide +kernel
theorem dX10_wells_74 : decode cX10_wells 74 = .ok (.putfield 91, 3) := by decide +kernel
theorem dX10_wells_77 : decode cX10_wells 77 = .ok (.iload_n 2, 1) := by decide +kernel
theorem dX10_wells_78 : decode cX10_wells 78 = .ok (.ireturn, 1) := by decide +kernel
theorem dX10_way_0 : decode cX10_way 0 = .ok (.aload_n 0, 1) := by decide +kernel
theorem dX10_way_1 : decode cX10_way 1 = .ok (.getfield 10, 3) := by decide +kernel
theorem dX10_way_4 : decode cX10_way 4 = .ok (.iload_n 1, 1) := by decide +kernel
theorem dX10_way_5 : decode cX10_way 5 = .ok (.invokevirtual 94, 3) := by decide +kernel
theorem dX10_way_8 : decode cX10_way 8 = .ok (.ifCond .eq 29, 3) := by decide +kernel
theorem dX10_way_11 : decode cX10_way 11 = .ok (.aload_n 0, 1) := by decide +kernel
theorem dX10_way_12 : decode cX10_way 12 = .ok (.getfield 10, 3) := by decide +kernel
theorem dX10_way_15 : decode cX10_way 15 = .ok (.iload_n 2, 1) := by decide +kernel
theorem dX10_way_16 : decode cX10_way 16 = .ok (.invokevirtual 94, 3) := by decide +kernel
theorem dX10_way_19 : decode cX10_way 19 = .ok (.ifCond .eq 18, 3) := by decide +kernel
theorem dX10_way_22 : decode cX10_way 22 = .ok (.iload_n 1, 1) := by decide +kernel
theorem dX10_way_23 : decode cX10_way 23 = .ok (.iload_n 2, 1) := by decide +kernel
theorem dX10_way_24 : decode cX10_way 24 = .ok (.if_icmp .eq 13, 3) := by decide +kernel
theorem dX10_way_27 : decode cX10_way 27 = .ok (.iload_n 3, 1) := by decide +kernel
theorem dX10_way_28 : decode cX10_way 28 = .ok (.iconst 1, 1) := by decide +kernel
theorem dX10_way_29 : decode cX10_way 29 = .ok (.bipush 9, 2) := by decide +kernel
theorem dX10_way_31 : decode cX10_way 31 = .ok (.invokestatic 59, 3) := by decide +kernel
theorem dX10_way_34 : decode cX10_way 34 = .ok (.ifCond .ne 9, 3) := by decide +kernel
theorem dX10_way_37 : decode cX10_way 37 = .ok (.aload_n 0, 1) := by decide +kernel
theorem dX10_way_38 : decode cX10_way 38 = .ok (.iconst 1, 1) := by decide +kernel
theorem dX10_way_39 : decode cX10_way 39 = .ok (.invokevirtual 63, 3) := by decide +kernel
theorem dX10_way_42 : decode cX10_way 42 = .ok (.ireturn, 1) := by decide +kernel
theorem dX10_way_43 : decode cX10_way 43 = .ok (.aload_n 0, 1) := by decide +kernel
theorem dX10_way_44 : decode cX10_way 44 = .ok (.getfield 10, 3) := by decide +kernel
theorem dX10_way_47 : decode cX10_way 47 = .ok (.getfield 67, 3) := by decide +kernel
theorem dX10_way_50 : decode cX10_way 50 = .ok (.invokevirtual 71, 3) := by decide +kernel
theorem dX10_way_53 : decode cX10_way 53 = .ok (.bipush 8, 2) := by decide +kernel
theorem dX10_way_55 : decode cX10_way 55 = .ok (.if_icmp .lt 9, 3) := by decide +kernel
theorem dX10_way_58 : decode cX10_way 58 = .ok (.aload_n 0, 1) := by decide +kernel
theorem dX10_way_59 : decode cX10_way 59 = .ok (.iconst 4, 1) := by decide +kernel
theorem dX10_way_60 : decode cX10_way 60 = .ok (.invokevirtual 63, 3) := by decide +kernel
theorem dX10_way_63 : decode cX10_way 63 = .ok (.ireturn, 1) := by decide +kernel
theorem dX10_way_64 : decode cX10_way 64 = .ok (.aload_n 0, 1) := by decide +kernel
theorem dX10_way_65 : decode cX10_way 65 = .ok (.getfield 10, 3) := by decide +kernel
theorem dX10_way_68 : decode cX10_way 68 = .ok (.getfield 67, 3) := by decide +kernel
theorem dX10_way_71 : decode cX10_way 71 = .ok (.iload_n 1, 1) := by decide +kernel
theorem dX10_way_72 : decode cX10_way 72 = .ok (.iload_n 2, 1) := by decide +kernel
theorem dX10_way_73 : decode cX10_way 73 = .ok (.iload_n 3, 1) := by decide +kernel
theorem dX10_way_74 : decode cX10_way 74 = .ok (.invokevirtual 98, 3) := by decide +kernel
theorem dX10_way_77 : decode cX10_way 77 = .ok (.aload_n 0, 1) := by decide +kernel
theorem dX10_way_78 : decode cX10_way 78 = .ok (.getfield 10, 3) := by decide +kernel
theorem dX10_way_81 : decode cX10_way 81 = .ok (.getfield 67, 3) := by decide +kernel
theorem dX10_way_84 : decode cX10_way 84 = .ok (.invokevirtual 71, 3) := by decide +kernel
theorem dX10_way_87 : decode cX10_way 87 = .ok (.iconst 1, 1) := by decide +kernel
theorem dX10_way_88 : decode cX10_way 88 = .ok (.isub, 1) := by decide +kernel
theorem dX10_way_89 : decode cX10_way 89 = .ok (.ireturn, 1) := by decide +kernel
theorem dX10_ofWay_0 : decode cX10_ofWay 0 = .ok (.aload_n 0, 1) := by decide +kernel
theorem dX10_ofWay_1 : decode cX10_ofWay 1 = .ok (.getfield 10, 3) := by decide +kernel
theorem dX10_ofWay_4 : decode cX10_ofWay 4 = .ok (.getfield 67, 3) := by decide +kernel
theorem dX10_ofWay_7 : decode cX10_ofWay 7 = .ok (.iload_n 1, 1) := by decide +kernel
theorem dX10_ofWay_8 : decode cX10_ofWay 8 = .ok (.invokevirtual 102, 3) := by decide +kernel
theorem dX10_ofWay_11 : decode cX10_ofWay 11 = .ok (.ifCond .ne 9, 3) := by decide +kernel
theorem dX10_ofWay_14 : decode cX10_ofWay 14 = .ok (.aload_n 0, 1) := by decide +kernel
theorem dX10_ofWay_15 : decode cX10_ofWay 15 = .ok (.iconst 1, 1) := by decide +kernel
theorem dX10_ofWay_16 : decode cX10_ofWay 16 = .ok (.invokevirtual 63, 3) := by decide +kernel
theorem dX10_ofWay_19 : decode cX10_ofWay 19 = .ok (.ireturn, 1) := by decide +kernel
theorem dX10_ofWay_20 : decode cX10_ofWay 20 = .ok (.iload_n 2, 1) := by decide +kernel
theorem dX10_ofWay_21 : decode cX10_ofWay 21 = .ok (.tableswitch 91 0 3 #[31, 46, 61, 76], 31) := by decide +kernel
theorem dX10_ofWay_52 : decode cX10_ofWay 52 = .ok (.aload_n 0, 1) := by decide +kernel
theorem dX10_ofWay_53 : decode cX10_ofWay 53 = .ok (.getfield 10, 3) := by decide +kernel
theorem dX10_ofWay_56 : decode cX10_ofWay 56 = .ok (.getfield 67, 3) := by decide +kernel
theorem dX10_ofWay_59 : decode cX10_ofWay 59 = .ok (.getfield 105, 3) := by decide +kernel
theorem dX10_ofWay_62 : decode cX10_ofWay 62 = .ok (.iload_n 1, 1) := by decide +kernel
theorem dX10_ofWay_63 : decode cX10_ofWay 63 = .ok (.invokevirtual 108, 3) := by decide +kernel
theorem dX10_ofWay_66 : decode cX10_ofWay 66 = .ok (.ireturn, 1) := by decide +kernel
theorem dX10_ofWay_67 : decode cX10_ofWay 67 = .ok (.aload_n 0, 1) := by decide +kernel
theorem dX10_ofWay_68 : decode cX10_ofWay 68 = .ok (.getfield 10, 3) := by decide +kernel
theorem dX10_ofWay_71 : decode cX10_ofWay 71 = .ok (.getfield 67, 3) := by decide +kernel
theorem dX10_ofWay_74 : decode cX10_ofWay 74 = .ok (.getfield 111, 3) := by decide +kernel
theorem dX10_ofWay_77 : decode cX10_ofWay 77 = .ok (.iload_n 1, 1) := by decide +kernel
theorem dX10_ofWay_78 : decode cX10_ofWay 78 = .ok (.invokevirtual 108, 3) := by decide +kernel
theorem dX10_ofWay_81 : decode cX10_ofWay 81 = .ok (.ireturn, 1) := by decide +kernel
theorem dX10_ofWay_82 : decode cX10_ofWay 82 = .ok (.aload_n 0, 1) := by decide +kernel
theorem dX10_ofWay_83 : decode cX10_ofWay 83 = .ok (.getfield 10, 3) := by decide +kernel
theorem dX10_ofWay_86 : decode cX10_ofWay 86 = .ok (.getfield 67, 3) := by decide +kernel
theorem dX10_ofWay_89 : decode cX10_ofWay 89 = .ok (.getfield 114, 3) := by decide +kernel
theorem dX10_ofWay_92 : decode cX10_ofWay 92 = .ok (.iload_n 1, 1) := by decide +kernel
theorem dX10_ofWay_93 : decode cX10_ofWay 93 = .ok (.invokevirtual 108, 3) := by decide +kernel
theorem dX10_ofWay_96 : decode cX10_ofWay 96 = .ok (.ireturn, 1) := by decide +kernel
theorem dX10_ofWay_97 : decode cX10_ofWay 97 = .ok (.aload_n 0, 1) := by decide +kernel
theorem dX10_ofWay_98 : decode cX10_ofWay 98 = .ok (.getfield 10, 3) := by decide +kernel
theorem dX10_ofWay_101 : decode cX10_ofWay 101 = .ok (.getfield 67, 3) := by decide +kernel
theorem dX10_ofWay_104 : decode cX10_ofWay 104 = .ok (.getfield 117, 3) := by decide +kernel
theorem dX10_ofWay_107 : decode cX10_ofWay 107 = .ok (.iload_n 1, 1) := by decide +kernel
theorem dX10_ofWay_108 : decode cX10_ofWay 108 = .ok (.invokestatic 120, 3) := by decide +kernel
theorem dX10_ofWay_111 : decode cX10_ofWay 111 = .ok (.ireturn, 1) := by decide +kernel
theorem dX10_ofWay_112 : decode cX10_ofWay 112 = .ok (.aload_n 0, 1) := by decide +kernel
theorem dX10_ofWay_113 : decode cX10_ofWay 113 = .ok (.iconst 1, 1) := by decide +kernel
theorem dX10_ofWay_114 : decode cX10_ofWay 114 = .ok (.invokevirtual 63, 3) := by decide +kernel
theorem dX10_ofWay_117 : decode cX10_ofWay 117 = .ok (.ireturn, 1) := by decide +kernel
theorem dX10_stop_0 : decode cX10_stop 0 = .ok (.aload_n 0, 1) := by decide +kernel
theorem dX10_stop_1 : decode cX10_stop 1 = .ok (.getfield 10, 3) := by decide +kernel
theorem dX10_stop_4 : decode cX10_stop 4 = .ok (.getfield 67, 3) := by decide +kernel
theorem dX10_stop_7 : decode cX10_stop 7 = .ok (.iload_n 1, 1) := by decide +kernel
theorem dX10_stop_8 : decode cX10_stop 8 = .ok (.invokevirtual 102, 3) := by decide +kernel
theorem dX10_stop_11 : decode cX10_stop 11 = .ok (.ifCond .eq 12, 3) := by decide +kernel
theorem dX10_stop_14 : decode cX10_stop 14 = .ok (.iload_n 2, 1) := by decide +kernel
theorem dX10_stop_15 : decode cX10_stop 15 = .ok (.iconst 0, 1) := by decide +kernel
theorem dX10_stop_16 : decode cX10_stop 16 = .ok (.iconst 1, 1) := by decide +kernel
theorem dX10_stop_17 : decode cX10_stop 17 = .ok (.invokestatic 59, 3) := by decide +kernel
theorem dX10_stop_20 : decode cX10_stop 20 = .ok (.ifCond .ne 9, 3) := by decide +kernel
theorem dX10_stop_23 : decode cX10_stop 23 = .ok (.aload_n 0, 1) := by decide +kernel
theorem dX10_stop_24 : decode cX10_stop 24 = .ok (.iconst 1, 1) := by decide +kernel
theorem dX10_stop_25 : decode cX10_stop 25 = .ok (.invokevirtual 63, 3) := by decide +kernel
theorem dX10_stop_28 : decode cX10_stop 28 = .ok (.ireturn, 1) := by decide +kernel
theorem dX10_stop_29 : decode cX10_stop 29 = .ok (.aload_n 0, 1) := by decide +kernel
theorem dX10_stop_30 : decode cX10_stop 30 = .ok (.getfield 10, 3) := by decide +kernel
theorem dX10_stop_33 : decode cX10_stop 33 = .ok (.getfield 67, 3) := by decide +kernel
theorem dX10_stop_36 : decode cX10_stop 36 = .ok (.getfield 117, 3) := by decide +kernel
theorem dX10_stop_39 : decode cX10_stop 39 = .ok (.iload_n 1, 1) := by decide +kernel
theorem dX10_stop_40 : decode cX10_stop 40 = .ok (.invokestatic 120, 3) := by decide +kernel
theorem dX10_stop_43 : decode cX10_stop 43 = .ok (.istore_n 3, 1) := by decide +kernel
theorem dX10_stop_44 : decode cX10_stop 44 = .ok (.aload_n 0, 1) := by decide +kernel
theorem dX10_stop_45 : decode cX10_stop 45 = .ok (.getfield 10, 3) := by decide +kernel
theorem dX10_stop_48 : decode cX10_stop 48 = .ok (.getfield 67, 3) := by decide +kernel
theorem dX10_stop_51 : decode cX10_stop 51 = .ok (.aload_n 0, 1) := by decide +kernel
theorem dX10_stop_52 : decode cX10_stop 52 = .ok (.getfield 10, 3) := by decide +kernel
theorem dX10_stop_55 : decode cX10_stop 55 = .ok (.getfield 67, 3) := by decide +kernel
theorem dX10_stop_58 : decode cX10_stop 58 = .ok (.getfield 117, 3) := by decide +kernel
theorem dX10_stop_61 : decode cX10_stop 61 = .ok (.iload_n 1, 1) := by decide +kernel
theorem dX10_stop_62 : decode cX10_stop 62 = .ok (.iload_n 2, 1) := by decide +kernel
theorem dX10_stop_63 : decode cX10_stop 63 = .ok (.iconst 1, 1) := by decide +kernel
theorem dX10_stop_64 : decode cX10_stop 64 = .ok (.if_icmp .ne 7, 3) := by decide +kernel
theorem dX10_stop_67 : decode cX10_stop 67 = .ok (.iconst 1, 1) := by decide +kernel
theorem dX10_stop_68 : decode cX10_stop 68 = .ok (.goto 4, 3) := by decide +kernel
theorem dX10_stop_71 : decode cX10_stop 71 = .ok (.iconst 0, 1) := by decide +kernel
theorem dX10_stop_72 : decode cX10_stop 72 = .ok (.invokestatic 124, 3) := by decide +kernel
theorem dX10_stop_75 : decode cX10_stop 75 = .ok (.putfield 117, 3) := by decide +kernel
theorem dX10_stop_78 : decode cX10_stop 78 = .ok (.iload_n 3, 1) := by decide +kernel
theorem dX10_stop_79 : decode cX10_stop 79 = .ok (.ireturn, 1) := by decide +kernel
theorem dX10_rain_0 : decode cX10_rain 0 = .ok (.iload_n 1, 1) := by decide +kernel
theorem dX10_rain_1 : decode cX10_rain 1 = .ok (.iconst 0, 1) := by decide +kernel
theorem dX10_rain_2 : decode cX10_rain 2 = .ok (.bipush 9, 2) := by decide +kernel
theorem dX10_rain_4 : decode cX10_rain 4 = .ok (.invokestatic 59, 3) := by decide +kernel
theorem dX10_rain_7 : decode cX10_rain 7 = .ok (.ifCond .ne 9, 3) := by decide +kernel
theorem dX10_rain_10 : decode cX10_rain 10 = .ok (.aload_n 0, 1) := by decide +kernel
theorem dX10_rain_11 : decode cX10_rain 11 = .ok (.iconst 1, 1) := by decide +kernel
theorem dX10_rain_12 : decode cX10_rain 12 = .ok (.invokevirtual 63, 3) := by decide +kernel
theorem dX10_rain_15 : decode cX10_rain 15 = .ok (.ireturn, 1) := by decide +kernel
theorem dX10_rain_16 : decode cX10_rain 16 = .ok (.aload_n 0, 1) := by decide +kernel
theorem dX10_rain_17 : decode cX10_rain 17 = .ok (.getfield 10, 3) := by decide +kernel
theorem dX10_rain_20 : decode cX10_rain 20 = .ok (.getfield 128, 3) := by decide +kernel
theorem dX10_rain_23 : decode cX10_rain 23 = .ok (.istore_n 2, 1) := by decide +kernel
theorem dX10_rain_24 : decode cX10_rain 24 = .ok (.aload_n 0, 1) := by decide +kernel
theorem dX10_rain_25 : decode cX10_rain 25 = .ok (.getfield 10, 3) := by decide +kernel
theorem dX10_rain_28 : decode cX10_rain 28 = .ok (.iload_n 1, 1) := by decide +kernel
theorem dX10_rain_29 : decode cX10_rain 29 = .ok (.putfield 128, 3) := by decide +kernel
theorem dX10_rain_32 : decode cX10_rain 32 = .ok (.iload_n 2, 1) := by decide +kernel
theorem dX10_rain_33 : decode cX10_rain 33 = .ok (.ireturn, 1) := by decide +kernel
theorem dX10_call_0 : decode cX10_call 0 = .ok (.iload_n 1, 1) := by decide +kernel
theorem dX10_call_1 : decode cX10_call 1 = .ok (.invokestatic 131, 3) := by decide +kernel
theorem dX10_call_4 : decode cX10_call 4 = .ok (.ifCond .eq 24, 3) := by decide +kernel
theorem dX10_call_7 : decode cX10_call 7 = .ok (.aload_n 0, 1) := by decide +kernel
theorem dX10_call_8 : decode cX10_call 8 = .ok (.getfield 10, 3) := by decide +kernel
theorem dX10_call_11 : decode cX10_call 11 = .ok (.iload_n 2, 1) := by decide +kernel
theorem dX10_call_12 : decode cX10_call 12 = .ok (.invokevirtual 94, 3) := by decide +kernel
theorem dX10_call_15 : decode cX10_call 15 = .ok (.ifCond .eq 13, 3) := by decide +kernel
theorem dX10_call_18 : decode cX10_call 18 = .ok (.iload_n 3, 1) := by decide +kernel
theorem dX10_call_19 : decode cX10_call 19 = .ok (.iconst 0, 1) := by decide +kernel
theorem dX10_call_20 : decode cX10_call 20 = .ok (.bipush 99, 2) := by decide +kernel
theorem dX10_call_22 : decode cX10_call 22 = .ok (.invokestatic 59, 3) := by decide +kernel
theorem dX10_call_25 : decode cX10_call 25 = .ok (.ifCond .ne 9, 3) := by decide +kernel
theorem dX10_call_28 : decode cX10_call 28 = .ok (.aload_n 0, 1) := by decide +kernel
theorem dX10_call_29 : decode cX10_call 29 = .ok (.iconst 1, 1) := by decide +kernel
theorem dX10_call_30 : decode cX10_call 30 = .ok (.invokevirtual 63, 3) := by decide +kernel
theorem dX10_call_33 : decode cX10_call 33 = .ok (.ireturn, 1) := by decide +kernel
theorem dX10_call_34 : decode cX10_call 34 = .ok (.aload_n 0, 1) := by decide +kernel
theorem dX10_call_35 : decode cX10_call 35 = .ok (.getfield 10, 3) := by decide +kernel
theorem dX10_call_38 : decode cX10_call 38 = .ok (.getfield 77, 3) := by decide +kernel
theorem dX10_call_41 : decode cX10_call 41 = .ok (.invokevirtual 81, 3) := by decide +kernel
theorem dX10_call_44 : decode cX10_call 44 = .ok (.bipush 8, 2) := by decide +kernel
theorem dX10_call_46 : decode cX10_call 46 = .ok (.if_icmp .lt 9, 3) := by decide +kernel
theorem dX10_call_49 : decode cX10_call 49 = .ok (.aload_n 0, 1) := by decide +kernel
theorem dX10_call_50 : decode cX10_call 50 = .ok (.iconst 4, 1) := by decide +kernel
theorem dX10_call_51 : decode cX10_call 51 = .ok (.invokevirtual 63, 3) := by decide +kernel
theorem dX10_call_54 : decode cX10_call 54 = .ok (.ireturn, 1) := by decide +kernel
theorem dX10_call_55 : decode cX10_call 55 = .ok (.aload_n 0, 1) := by decide +kernel
theorem dX10_call_56 : decode cX10_call 56 = .ok (.getfield 10, 3) := by decide +kernel
theorem dX10_call_59 : decode cX10_call 59 = .ok (.getfield 77, 3) := by decide +kernel
theorem dX10_call_62 : decode cX10_call 62 = .ok (.iload_n 1, 1) := by decide +kernel
theorem dX10_call_63 : decode cX10_call 63 = .ok (.bipush 10, 2) := by decide +kernel
theorem dX10_call_65 : decode cX10_call 65 = .ok (.idiv, 1) := by decide +kernel
theorem dX10_call_66 : decode cX10_call 66 = .ok (.iload_n 1, 1) := by decide +kernel
theorem dX10_call_67 : decode cX10_call 67 = .ok (.bipush 10, 2) := by decide +kernel
theorem dX10_call_69 : decode cX10_call 69 = .ok (.irem, 1) := by decide +kernel
theorem dX10_call_70 : decode cX10_call 70 = .ok (.iload_n 2, 1) := by decide +kernel
theorem dX10_call_71 : decode cX10_call 71 = .ok (.iload_n 3, 1) := by decide +kernel
theorem dX10_call_72 : decode cX10_call 72 = .ok (.invokevirtual 134, 3) := by decide +kernel
theorem dX10_call_75 : decode cX10_call 75 = .ok (.aload_n 0, 1) := by decide +kernel
theorem dX10_call_76 : decode cX10_call 76 = .ok (.getfield 10, 3) := by decide +kernel
theorem dX10_call_79 : decode cX10_call 79 = .ok (.getfield 77, 3) := by decide +kernel
theorem dX10_call_82 : decode cX10_call 82 = .ok (.invokevirtual 81, 3) := by decide +kernel
theorem dX10_call_85 : decode cX10_call 85 = .ok (.iconst 1, 1) := by decide +kernel
theorem dX10_call_86 : decode cX10_call 86 = .ok (.isub, 1) := by decide +kernel
theorem dX10_call_87 : decode cX10_call 87 = .ok (.ireturn, 1) := by decide +kernel
theorem dX10_ofSaying_0 : decode cX10_ofSaying 0 = .ok (.aload_n 0, 1) := by decide +kernel
theorem dX10_ofSaying_1 : decode cX10_ofSaying 1 = .ok (.getfield 10, 3) := by decide +kernel
theorem dX10_ofSaying_4 : decode cX10_ofSaying 4 = .ok (.getfield 77, 3) := by decide +kernel
theorem dX10_ofSaying_7 : decode cX10_ofSaying 7 = .ok (.iload_n 1, 1) := by decide +kernel
theorem dX10_ofSaying_8 : decode cX10_ofSaying 8 = .ok (.invokevirtual 137, 3) := by decide +kernel
theorem dX10_ofSaying_11 : decode cX10_ofSaying 11 = .ok (.ifCond .ne 9, 3) := by decide +kernel
theorem dX10_ofSaying_14 : decode cX10_ofSaying 14 = .ok (.aload_n 0, 1) := by decide +kernel
theorem dX10_ofSaying_15 : decode cX10_ofSaying 15 = .ok (.iconst 1, 1) := by decide +kernel
theorem dX10_ofSaying_16 : decode cX10_ofSaying 16 = .ok (.invokevirtual 63, 3) := by decide +kernel
theorem dX10_ofSaying_19 : decode cX10_ofSaying 19 = .ok (.ireturn, 1) := by decide +kernel
theorem dX10_ofSaying_20 : decode cX10_ofSaying 20 = .ok (.aload_n 0, 1) := by decide +kernel
theorem dX10_ofSaying_21 : decode cX10_ofSaying 21 = .ok (.getfield 10, 3) := by decide +kernel
theorem dX10_ofSaying_24 : decode cX10_ofSaying 24 = .ok (.iload_n 1, 1) := by decide +kernel
theorem dX10_ofSaying_25 : decode cX10_ofSaying 25 = .ok (.invokevirtual 138, 3) := by decide +kernel
theorem dX10_ofSaying_28 : decode cX10_ofSaying 28 = .ok (.astore_n 3, 1) := by decide +kernel
theorem dX10_ofSaying_29 : decode cX10_ofSaying 29 = .ok (.iload_n 2, 1) := by decide +kernel
theorem dX10_ofSaying_30 : decode cX10_ofSaying 30 = .ok (.tableswitch 111 0 7 #[46, 51, 56, 61, 66, 71, 87, 106], 46) := by decide +kernel
theorem dX10_ofSaying_76 : decode cX10_ofSaying 76 = .ok (.aload_n 3, 1) := by decide +kernel
theorem dX10_ofSaying_77 : decode cX10_ofSaying 77 = .ok (.getfield 142, 3) := by decide +kernel
theorem dX10_ofSaying_80 : decode cX10_ofSaying 80 = .ok (.ireturn, 1) := by decide +kernel
theorem dX10_ofSaying_81 : decode cX10_ofSaying 81 = .ok (.aload_n 3, 1) := by decide +kernel
theorem dX10_ofSaying_82 : decode cX10_ofSaying 82 = .ok (.getfield 147, 3) := by decide +kernel
theorem dX10_ofSaying_85 : decode cX10_ofSaying 85 = .ok (.ireturn, 1) := by decide +kernel
theorem dX10_ofSaying_86 : decode cX10_ofSaying 86 = .ok (.aload_n 3, 1) := by decide +kernel
theorem dX10_ofSaying_87 : decode cX10_ofSaying 87 = .ok (.getfield 150, 3) := by decide +kernel
theorem dX10_ofSaying_90 : decode cX10_ofSaying 90 = .ok (.ireturn, 1) := by decide +kernel
theorem dX10_ofSaying_91 : decode cX10_ofSaying 91 = .ok (.aload_n 3, 1) := by decide +kernel
theorem dX10_ofSaying_92 : decode cX10_ofSaying 92 = .ok (.getfield 153, 3) := by decide +kernel
theorem dX10_ofSaying_95 : decode cX10_ofSaying 95 = .ok (.ireturn, 1) := by decide +kernel
theorem dX10_ofSaying_96 : decode cX10_ofSaying 96 = .ok (.aload_n 3, 1) := by decide +kernel
theorem dX10_ofSaying_97 : decode cX10_ofSaying 97 = .ok (.getfield 156, 3) := by decide +kernel
theorem dX10_ofSaying_100 : decode cX10_ofSaying 100 = .ok (.ireturn, 1) := by decide +kernel
theorem dX10_ofSaying_101 : decode cX10_ofSaying 101 = .ok (.aload_n 0, 1) := by decide +kernel
theorem dX10_ofSaying_102 : decode cX10_ofSaying 102 = .ok (.getfield 10, 3) := by decide +kernel
theorem dX10_ofSaying_105 : decode cX10_ofSaying 105 = .ok (.aload_n 3, 1) := by decide +kernel
theorem dX10_ofSaying_106 : decode cX10_ofSaying 106 = .ok (.aload_n 0, 1) := by decide +kernel
theorem dX10_ofSaying_107 : decode cX10_ofSaying 107 = .ok (.getfield 10, 3) := by decide +kernel
theorem dX10_ofSaying_110 : decode cX10_ofSaying 110 = .ok (.getfield 128, 3) := by decide +kernel
theorem dX10_ofSaying_113 : decode cX10_ofSaying 113 = .ok (.invokevirtual 159, 3) := by decide +kernel
theorem dX10_ofSaying_116 : decode cX10_ofSaying 116 = .ok (.ireturn, 1) := by decide +kernel
theorem dX10_ofSaying_117 : decode cX10_ofSaying 117 = .ok (.aload_n 0, 1) := by decide +kernel
theorem dX10_ofSaying_118 : decode cX10_ofSaying 118 = .ok (.getfield 10, 3) := by decide +kernel
theorem dX10_ofSaying_121 : decode cX10_ofSaying 121 = .ok (.aload_n 3, 1) := by decide +kernel
theorem dX10_ofSaying_122 : decode cX10_ofSaying 122 = .ok (.aload_n 0, 1) := by decide +kernel
theorem dX10_ofSaying_123 : decode cX10_ofSaying 123 = .ok (.getfield 10, 3) := by decide +kernel
theorem dX10_ofSaying_126 : decode cX10_ofSaying 126 = .ok (.getfield 67, 3) := by decide +kernel
theorem dX10_ofSaying_129 : decode cX10_ofSaying 129 = .ok (.getfield 117, 3) := by decide +kernel
theorem dX10_ofSaying_132 : decode cX10_ofSaying 132 = .ok (.invokevirtual 163, 3) := by decide +kernel
theorem dX10_ofSaying_135 : decode cX10_ofSaying 135 = .ok (.ireturn, 1) := by decide +kernel
theorem dX10_ofSaying_136 : decode cX10_ofSaying 136 = .ok (.aload_n 3, 1) := by decide +kernel
theorem dX10_ofSaying_137 : decode cX10_ofSaying 137 = .ok (.getfield 166, 3) := by decide +kernel
theorem dX10_ofSaying_140 : decode cX10_ofSaying 140 = .ok (.ireturn, 1) := by decide +kernel
theorem dX10_ofSaying_141 : decode cX10_ofSaying 141 = .ok (.aload_n 0, 1) := by decide +kernel
theorem dX10_ofSaying_142 : decode cX10_ofSaying 142 = .ok (.iconst 1, 1) := by decide +kernel
theorem dX10_ofSaying_143 : decode cX10_ofSaying 143 = .ok (.invokevirtual 63, 3) := by decide +kernel
theorem dX10_ofSaying_146 : decode cX10_ofSaying 146 = .ok (.ireturn, 1) := by decide +kernel
theorem dX10_change_0 : decode cX10_change 0 = .ok (.aload_n 0, 1) := by decide +kernel
theorem dX10_change_1 : decode cX10_change 1 = .ok (.getfield 10, 3) := by decide +kernel
theorem dX10_change_4 : decode cX10_change 4 = .ok (.getfield 77, 3) := by decide +kernel
theorem dX10_change_7 : decode cX10_change 7 = .ok (.iload_n 1, 1) := by decide +kernel
theorem dX10_change_8 : decode cX10_change 8 = .ok (.invokevirtual 137, 3) := by decide +kernel
theorem dX10_change_11 : decode cX10_change 11 = .ok (.ifCond .eq 12, 3) := by decide +kernel
theorem dX10_change_14 : decode cX10_change 14 = .ok (.iload_n 2, 1) := by decide +kernel
theorem dX10_change_15 : decode cX10_change 15 = .ok (.iconst 0, 1) := by decide +kernel
theorem dX10_change_16 : decode cX10_change 16 = .ok (.iconst 1, 1) := by decide +kernel
theorem dX10_change_17 : decode cX10_change 17 = .ok (.invokestatic 59, 3) := by decide +kernel
theorem dX10_change_20 : decode cX10_change 20 = .ok (.ifCond .ne 9, 3) := by decide +kernel
theorem dX10_change_23 : decode cX10_change 23 = .ok (.aload_n 0, 1) := by decide +kernel
theorem dX10_change_24 : decode cX10_change 24 = .ok (.iconst 1, 1) := by decide +kernel
theorem dX10_change_25 : decode cX10_change 25 = .ok (.invokevirtual 63, 3) := by decide +kernel
theorem dX10_change_28 : decode cX10_change 28 = .ok (.ireturn, 1) := by decide +kernel
theorem dX10_change_29 : decode cX10_change 29 = .ok (.iload_n 2, 1) := by decide +kernel
theorem dX10_change_30 : decode cX10_change 30 = .ok (.ifCond .ne 17, 3) := by decide +kernel
theorem dX10_change_33 : decode cX10_change 33 = .ok (.aload_n 0, 1) := by decide +kernel
theorem dX10_change_34 : decode cX10_change 34 = .ok (.getfield 10, 3) := by decide +kernel
theorem dX10_change_37 : decode cX10_change 37 = .ok (.iload_n 3, 1) := by decide +kernel
theorem dX10_change_38 : decode cX10_change 38 = .ok (.invokevirtual 94, 3) := by decide +kernel
theorem dX10_change_41 : decode cX10_change 41 = .ok (.ifCond .ne 22, 3) := by decide +kernel
theorem dX10_change_44 : decode cX10_change 44 = .ok (.goto 13, 3) := by decide +kernel
theorem dX10_change_47 : decode cX10_change 47 = .ok (.iload_n 3, 1) := by decide +kernel
theorem dX10_change_48 : decode cX10_change 48 = .ok (.iconst 0, 1) := by decide +kernel
theorem dX10_change_49 : decode cX10_change 49 = .ok (.bipush 99, 2) := by decide +kernel
theorem dX10_change_51 : decode cX10_change 51 = .ok (.invokestatic 59, 3) := by decide +kernel
theorem dX10_change_54 : decode cX10_change 54 = .ok (.ifCond .ne 9, 3) := by decide +kernel
theorem dX10_change_57 : decode cX10_change 57 = .ok (.aload_n 0, 1) := by decide +kernel
theorem dX10_change_58 : decode cX10_change 58 = .ok (.iconst 1, 1) := by decide +kernel
theorem dX10_change_59 : decode cX10_change 59 = .ok (.invokevirtual 63, 3) := by decide +kernel
theorem dX10_change_62 : decode cX10_change 62 = .ok (.ireturn, 1) := by decide +kernel
theorem dX10_change_63 : decode cX10_change 63 = .ok (.iload_n 2, 1) := by decide +kernel
theorem dX10_change_64 : decode cX10_change 64 = .ok (.ifCond .ne 16, 3) := by decide +kernel
theorem dX10_change_67 : decode cX10_change 67 = .ok (.aload_n 0, 1) := by decide +kernel
theorem dX10_change_68 : decode cX10_change 68 = .ok (.getfield 10, 3) := by decide +kernel
theorem dX10_change_71 : decode cX10_change 71 = .ok (.getfield 77, 3) := by decide +kernel
theorem dX10_change_74 : decode cX10_change 74 = .ok (.getfield 169, 3) := by decide +kernel
theorem dX10_change_77 : decode cX10_change 77 = .ok (.goto 13, 3) := by decide +kernel
theorem dX10_change_80 : decode cX10_change 80 = .ok (.aload_n 0, 1) := by decide +kernel
theorem dX10_change_81 : decode cX10_change 81 = .ok (.getfield 10, 3) := by decide +kernel
theorem dX10_change_84 : decode cX10_change 84 = .ok (.getfield 77, 3) := by decide +kernel
theorem dX10_change_87 : decode cX10_change 87 = .ok (.getfield 172, 3) := by decide +kernel
theorem dX10_change_90 : decode cX10_change 90 = .ok (.astore 4, 2) := by decide +kernel
theorem dX10_change_92 : decode cX10_change 92 = .ok (.aload 4, 2) := by decide +kernel
theorem dX10_change_94 : decode cX10_change 94 = .ok (.iload_n 1, 1) := by decide +kernel
theorem dX10_change_95 : decode cX10_change 95 = .ok (.invokevirtual 108, 3) := by decide +kernel
theorem dX10_change_98 : decode cX10_change 98 = .ok (.istore 5, 2) := by decide +kernel
theorem dX10_change_100 : decode cX10_change 100 = .ok (.aload 4, 2) := by decide +kernel
theorem dX10_change_102 : decode cX10_change 102 = .ok (.iload_n 1, 1) := by decide +kernel
theorem dX10_change_103 : decode cX10_change 103 = .ok (.iload_n 3, 1) := by decide +kernel
theorem dX10_change_104 : decode cX10_change 104 = .ok (.invokevirtual 175, 3) := by decide +kernel
theorem dX10_change_107 : decode cX10_change 107 = .ok (.iload_n 2, 1) := by decide +kernel
theorem dX10_change_108 : decode cX10_change 108 = .ok (.ifCond .ne 18, 3) := by decide +kernel
theorem dX10_change_111 : decode cX10_change 111 = .ok (.aload_n 0, 1) := by decide +kernel
theorem dX10_change_112 : decode cX10_change 112 = .ok (.getfield 10, 3) := by decide +kernel
theorem dX10_change_115 : decode cX10_change 115 = .ok (.getfield 77, 3) := by decide +kernel
theorem dX10_change_118 : decode cX10_change 118 = .ok (.getfield 179, 3) := by decide +kernel
theorem dX10_change_121 : decode cX10_change 121 = .ok (.iload_n 1, 1) := by decide +kernel
theorem dX10_change_122 : decode cX10_change 122 = .ok (.iconst 0, 1) := by decide +kernel
theorem dX10_change_123 : decode cX10_change 123 = .ok (.invokevirtual 175, 3) := by decide +kernel
theorem dX10_change_126 : decode cX10_change 126 = .ok (.iload 5, 2) := by decide +kernel
theorem dX10_change_128 : decode cX10_change 128 = .ok (.ireturn, 1) := by decide +kernel
theorem dX10_become_0 : decode cX10_become 0 = .ok (.aload_n 0, 1) := by decide +kernel
theorem dX10_become_1 : decode cX10_become 1 = .ok (.getfield 10, 3) := by decide +kernel
theorem dX10_become_4 : decode cX10_become 4 = .ok (.getfield 77, 3) := by decide +kernel
theorem dX10_become_7 : decode cX10_become 7 = .ok (.iload_n 1, 1) := by decide +kernel
theorem dX10_become_8 : decode cX10_become 8 = .ok (.invokevirtual 137, 3) := by decide +kernel
theorem dX10_become_11 : decode cX10_become 11 = .ok (.ifCond .eq 10, 3) := by decide +kernel
theorem dX10_become_14 : decode cX10_become 14 = .ok (.iload_n 2, 1) := by decide +kernel
theorem dX10_become_15 : decode cX10_become 15 = .ok (.invokestatic 131, 3) := by decide +kernel
theorem dX10_become_18 : decode cX10_become 18 = .ok (.ifCond .ne 9, 3) := by decide +kernel
theorem dX10_become_21 : decode cX10_become 21 = .ok (.aload_n 0, 1) := by decide +kernel
theorem dX10_become_22 : decode cX10_become 22 = .ok (.iconst 1, 1) := by decide +kernel
theorem dX10_become_23 : decode cX10_become 23 = .ok (.invokevirtual 63, 3) := by decide +kernel
theorem dX10_become_26 : decode cX10_become 26 = .ok (.ireturn, 1) := by decide +kernel
theorem dX10_become_27 : decode cX10_become 27 = .ok (.aload_n 0, 1) := by decide +kernel
theorem dX10_become_28 : decode cX10_become 28 = .ok (.getfield 10, 3) := by decide +kernel
theorem dX10_become_31 : decode cX10_become 31 = .ok (.getfield 77, 3) := by decide +kernel
theorem dX10_become_34 : decode cX10_become 34 = .ok (.getfield 182, 3) := by decide +kernel
theorem dX10_become_37 : decode cX10_become 37 = .ok (.iload_n 1, 1) := by decide +kernel
theorem dX10_become_38 : decode cX10_become 38 = .ok (.invokevirtual 108, 3) := by decide +kernel
theorem dX10_become_41 : decode cX10_become 41 = .ok (.istore_n 3, 1) := by decide +kernel
theorem dX10_become_42 : decode cX10_become 42 = .ok (.aload_n 0, 1) := by decide +kernel
theorem dX10_become_43 : decode cX10_become 43 = .ok (.getfield 10, 3) := by decide +kernel
theorem dX10_become_46 : decode cX10_become 46 = .ok (.getfield 77, 3) := by decide +kernel
theorem dX10_become_49 : decode cX10_become 49 = .ok (.getfield 182, 3) := by decide +kernel
theorem dX10_become_52 : decode cX10_become 52 = .ok (.iload_n 1, 1) := by decide +kernel
theorem dX10_become_53 : decode cX10_become 53 = .ok (.iload_n 2, 1) := by decide +kernel
theorem dX10_become_54 : decode cX10_become 54 = .ok (.bipush 10, 2) := by decide +kernel
theorem dX10_become_56 : decode cX10_become 56 = .ok (.idiv, 1) := by decide +kernel
theorem dX10_become_57 : decode cX10_become 57 = .ok (.invokevirtual 175, 3) := by decide +kernel
theorem dX10_become_60 : decode cX10_become 60 = .ok (.aload_n 0, 1) := by decide +kernel
theorem dX10_become_61 : decode cX10_become 61 = .ok (.getfield 10, 3) := by decide +kernel
theorem dX10_become_64 : decode cX10_become 64 = .ok (.getfield 77, 3) := by decide +kernel
theorem dX10_become_67 : decode cX10_become 67 = .ok (.getfield 185, 3) := by decide +kernel
theorem dX10_become_70 : decode cX10_become 70 = .ok (.iload_n 1, 1) := by decide +kernel
theorem dX10_become_71 : decode cX10_become 71 = .ok (.iload_n 2, 1) := by decide +kernel
theorem dX10_become_72 : decode cX10_become 72 = .ok (.bipush 10, 2) := by decide +kernel
theorem dX10_become_74 : decode cX10_become 74 = .ok (.irem, 1) := by decide +kernel
theorem dX10_become_75 : decode cX10_become 75 = .ok (.invokevirtual 175, 3) := by decide +kernel
theorem dX10_become_78 : decode cX10_become 78 = .ok (.iload_n 3, 1) := by decide +kernel
theorem dX10_become_79 : decode cX10_become 79 = .ok (.ireturn, 1) := by decide +kernel
theorem dX10_as_0 : decode cX10_as 0 = .ok (.aload_n 0, 1) := by decide +kernel
theorem dX10_as_1 : decode cX10_as 1 = .ok (.getfield 10, 3) := by decide +kernel
theorem dX10_as_4 : decode cX10_as 4 = .ok (.getfield 77, 3) := by decide +kernel
theorem dX10_as_7 : decode cX10_as 7 = .ok (.iload_n 1, 1) := by decide +kernel
theorem dX10_as_8 : decode cX10_as 8 = .ok (.invokevirtual 137, 3) := by decide +kernel
theorem dX10_as_11 : decode cX10_as 11 = .ok (.ifCond .eq 13, 3) := by decide +kernel
theorem dX10_as_14 : decode cX10_as 14 = .ok (.iload_n 2, 1) := by decide +kernel
theorem dX10_as_15 : decode cX10_as 15 = .ok (.iconst 0, 1) := by decide +kernel
theorem dX10_as_16 : decode cX10_as 16 = .ok (.bipush 6, 2) := by decide +kernel
theorem dX10_as_18 : decode cX10_as 18 = .ok (.invokestatic 59, 3) := by decide +kernel
theorem dX10_as_21 : decode cX10_as 21 = .ok (.ifCond .ne 9, 3) := by decide +kernel
theorem dX10_as_24 : decode cX10_as 24 = .ok (.aload_n 0, 1) := by decide +kernel
theorem dX10_as_25 : decode cX10_as 25 = .ok (.iconst 1, 1) := by decide +kernel
theorem dX10_as_26 : decode cX10_as 26 = .ok (.invokevirtual 63, 3) := by decide +kernel
theorem dX10_as_29 : decode cX10_as 29 = .ok (.ireturn, 1) := by decide +kernel
theorem dX10_as_30 : decode cX10_as 30 = .ok (.aload_n 0, 1) := by decide +kernel
theorem dX10_as_31 : decode cX10_as 31 = .ok (.getfield 10, 3) := by decide +kernel
theorem dX10_as_34 : decode cX10_as 34 = .ok (.getfield 77, 3) := by decide +kernel
theorem dX10_as_37 : decode cX10_as 37 = .ok (.getfield 182, 3) := by decide +kernel
theorem dX10_as_40 : decode cX10_as 40 = .ok (.iload_n 1, 1) := by decide +kernel
theorem dX10_as_41 : decode cX10_as 41 = .ok (.invokevirtual 108, 3) := by decide +kernel
theorem dX10_as_44 : decode cX10_as 44 = .ok (.iload_n 2, 1) := by decide +kernel
theorem dX10_as_45 : decode cX10_as 45 = .ok (.invokestatic 188, 3) := by decide +kernel
theorem dX10_as_48 : decode cX10_as 48 = .ok (.ifCond .ne 9, 3) := by decide +kernel
theorem dX10_as_51 : decode cX10_as 51 = .ok (.aload_n 0, 1) := by decide +kernel
theorem dX10_as_52 : decode cX10_as 52 = .ok (.iconst 5, 1) := by decide +kernel
theorem dX10_as_53 : decode cX10_as 53 = .ok (.invokevirtual 63, 3) := by decide +kernel
theorem dX10_as_56 : decode cX10_as 56 = .ok (.ireturn, 1) := by decide +kernel
theorem dX10_as_57 : decode cX10_as 57 = .ok (.aload_n 0, 1) := by decide +kernel
theorem dX10_as_58 : decode cX10_as 58 = .ok (.getfield 10, 3) := by decide +kernel
theorem dX10_as_61 : decode cX10_as 61 = .ok (.getfield 77, 3) := by decide +kernel
theorem dX10_as_64 : decode cX10_as 64 = .ok (.getfield 185, 3) := by decide +kernel
theorem dX10_as_67 : decode cX10_as 67 = .ok (.iload_n 1, 1) := by decide +kernel
theorem dX10_as_68 : decode cX10_as 68 = .ok (.invokevirtual 108, 3) := by decide +kernel
theorem dX10_as_71 : decode cX10_as 71 = .ok (.ireturn, 1) := by decide +kernel
theorem dX10_folk_0 : decode cX10_folk 0 = .ok (.aload_n 0, 1) := by decide +kernel
theorem dX10_folk_1 : decode cX10_folk 1 = .ok (.getfield 10, 3) := by decide +kernel
theorem dX10_folk_4 : decode cX10_folk 4 = .ok (.iload_n 1, 1) := by decide +kernel
theorem dX10_folk_5 : decode cX10_folk 5 = .ok (.invokevirtual 94, 3) := by decide +kernel
theorem dX10_folk_8 : decode cX10_folk 8 = .ok (.ifCond .eq 13, 3) := by decide +kernel
theorem dX10_folk_11 : decode cX10_folk 11 = .ok (.iload_n 2, 1) := by decide +kernel
theorem dX10_folk_12 : decode cX10_folk 12 = .ok (.iconst 0, 1) := by decide +kernel
theorem dX10_folk_13 : decode cX10_folk 13 = .ok (.bipush 99, 2) := by decide +kernel
theorem dX10_folk_15 : decode cX10_folk 15 = .ok (.invokestatic 59, 3) := by decide +kernel
theorem dX10_folk_18 : decode cX10_folk 18 = .ok (.ifCond .ne 9, 3) := by decide +kernel
theorem dX10_folk_21 : decode cX10_folk 21 = .ok (.aload_n 0, 1) := by decide +kernel
theorem dX10_folk_22 : decode cX10_folk 22 = .ok (.iconst 1, 1) := by decide +kernel
theorem dX10_folk_23 : decode cX10_folk 23 = .ok (.invokevirtual 63, 3) := by decide +kernel
theorem dX10_folk_26 : decode cX10_folk 26 = .ok (.ireturn, 1) := by decide +kernel
theorem dX10_folk_27 : decode cX10_folk 27 = .ok (.aload_n 0, 1) := by decide +kernel
theorem dX10_folk_28 : decode cX10_folk 28 = .ok (.getfield 10, 3) := by decide +kernel
theorem dX10_folk_31 : decode cX10_folk 31 = .ok (.getfield 84, 3) := by decide +kernel
theorem dX10_folk_34 : decode cX10_folk 34 = .ok (.invokevirtual 88, 3) := by decide +kernel
theorem dX10_folk_37 : decode cX10_folk 37 = .ok (.bipush 6, 2) := by decide +kernel
theorem dX10_folk_39 : decode cX10_folk 39 = .ok (.if_icmp .lt 9, 3) := by decide +kernel
theorem dX10_folk_42 : decode cX10_folk 42 = .ok (.aload_n 0, 1) := by decide +kernel
theorem dX10_folk_43 : decode cX10_folk 43 = .ok (.iconst 4, 1) := by decide +kernel
theorem dX10_folk_44 : decode cX10_folk 44 = .ok (.invokevirtual 63, 3) := by decide +kernel
theorem dX10_folk_47 : decode cX10_folk 47 = .ok (.ireturn, 1) := by decide +kernel
theorem dX10_folk_48 : decode cX10_folk 48 = .ok (.aload_n 0, 1) := by decide +kernel
theorem dX10_folk_49 : decode cX10_folk 49 = .ok (.getfield 10, 3) := by decide +kernel
theorem dX10_folk_52 : decode cX10_folk 52 = .ok (.getfield 84, 3) := by decide +kernel
theorem dX10_folk_55 : decode cX10_folk 55 = .ok (.iload_n 1, 1) := by decide +kernel
theorem dX10_folk_56 : decode cX10_folk 56 = .ok (.iload_n 2, 1) := by decide +kernel
theorem dX10_folk_57 : decode cX10_folk 57 = .ok (.invokevirtual 192, 3) := by decide +kernel
theorem dX10_folk_60 : decode cX10_folk 60 = .ok (.aload_n 0, 1) := by decide +kernel
theorem dX10_folk_61 : decode cX10_folk 61 = .ok (.getfield 10, 3) := by decide +kernel
theorem dX10_folk_64 : decode cX10_folk 64 = .ok (.getfield 84, 3) := by decide +kernel
theorem dX10_folk_67 : decode cX10_folk 67 = .ok (.invokevirtual 88, 3) := by decide +kernel
theorem dX10_folk_70 : decode cX10_folk 70 = .ok (.iconst 1, 1) := by decide +kernel
theorem dX10_folk_71 : decode cX10_folk 71 = .ok (.isub, 1) := by decide +kernel
theorem dX10_folk_72 : decode cX10_folk 72 = .ok (.ireturn, 1) := by decide +kernel
theorem dX10_ofFolk_0 : decode cX10_ofFolk 0 = .ok (.aload_n 0, 1) := by decide +kernel
theorem dX10_ofFolk_1 : decode cX10_ofFolk 1 = .ok (.getfield 10, 3) := by decide +kernel
theorem dX10_ofFolk_4 : decode cX10_ofFolk 4 = .ok (.getfield 84, 3) := by decide +kernel
theorem dX10_ofFolk_7 : decode cX10_ofFolk 7 = .ok (.iload_n 1, 1) := by decide +kernel
theorem dX10_ofFolk_8 : decode cX10_ofFolk 8 = .ok (.invokevirtual 194, 3) := by decide +kernel
theorem dX10_ofFolk_11 : decode cX10_ofFolk 11 = .ok (.ifCond .eq 12, 3) := by decide +kernel
theorem dX10_ofFolk_14 : decode cX10_ofFolk 14 = .ok (.iload_n 2, 1) := by decide +kernel
theorem dX10_ofFolk_15 : decode cX10_ofFolk 15 = .ok (.iconst 0, 1) := by decide +kernel
theorem dX10_ofFolk_16 : decode cX10_ofFolk 16 = .ok (.iconst 2, 1) := by decide +kernel
theorem dX10_ofFolk_17 : decode cX10_ofFolk 17 = .ok (.invokestatic 59, 3) := by decide +kernel
theorem dX10_ofFolk_20 : decode cX10_ofFolk 20 = .ok (.ifCond .ne 9, 3) := by decide +kernel
theorem dX10_ofFolk_23 : decode cX10_ofFolk 23 = .ok (.aload_n 0, 1) := by decide +kernel
theorem dX10_ofFolk_24 : decode cX10_ofFolk 24 = .ok (.iconst 1, 1) := by decide +kernel
theorem dX10_ofFolk_25 : decode cX10_ofFolk 25 = .ok (.invokevirtual 63, 3) := by decide +kernel
theorem dX10_ofFolk_28 : decode cX10_ofFolk 28 = .ok (.ireturn, 1) := by decide +kernel
theorem dX10_ofFolk_29 : decode cX10_ofFolk 29 = .ok (.aload_n 0, 1) := by decide +kernel
theorem dX10_ofFolk_30 : decode cX10_ofFolk 30 = .ok (.getfield 10, 3) := by decide +kernel
theorem dX10_ofFolk_33 : decode cX10_ofFolk 33 = .ok (.iload_n 1, 1) := by decide +kernel
theorem dX10_ofFolk_34 : decode cX10_ofFolk 34 = .ok (.iload_n 2, 1) := by decide +kernel
theorem dX10_ofFolk_35 : decode cX10_ofFolk 35 = .ok (.invokevirtual 195, 3) := by decide +kernel
theorem dX10_ofFolk_38 : decode cX10_ofFolk 38 = .ok (.ireturn, 1) := by decide +kernel
theorem dX10_drink_0 : decode cX10_drink 0 = .ok (.aload_n 0, 1) := by decide +kernel
theorem dX10_drink_1 : decode cX10_drink 1 = .ok (.getfield 10, 3) := by decide +kernel
theorem dX10_drink_4 : decode cX10_drink 4 = .ok (.getfield 84, 3) := by decide +kernel
theorem dX10_drink_7 : decode cX10_drink 7 = .ok (.iload_n 1, 1) := by decide +kernel
theorem dX10_drink_8 : decode cX10_drink 8 = .ok (.invokevirtual 194, 3) := by decide +kernel
theorem dX10_drink_11 : decode cX10_drink 11 = .ok (.ifCond .eq 21, 3) := by decide +kernel
theorem dX10_drink_14 : decode cX10_drink 14 = .ok (.iload_n 2, 1) := by decide +kernel
theorem dX10_drink_15 : decode cX10_drink 15 = .ok (.iconst 0, 1) := by decide +kernel
theorem dX10_drink_16 : decode cX10_drink 16 = .ok (.iconst 2, 1) := by decide +kernel
theorem dX10_drink_17 : decode cX10_drink 17 = .ok (.invokestatic 59, 3) := by decide +kernel
theorem dX10_drink_20 : decode cX10_drink 20 = .ok (.ifCond .eq 12, 3) := by decide +kernel
theorem dX10_drink_23 : decode cX10_drink 23 = .ok (.aload_n 0, 1) := by decide +kernel
theorem dX10_drink_24 : decode cX10_drink 24 = .ok (.iload_n 2, 1) := by decide +kernel
theorem dX10_drink_25 : decode cX10_drink 25 = .ok (.iload_n 3, 1) := by decide +kernel
theorem dX10_drink_26 : decode cX10_drink 26 = .ok (.invokevirtual 198, 3) := by decide +kernel
theorem dX10_drink_29 : decode cX10_drink 29 = .ok (.ifCond .ne 9, 3) := by decide +kernel
theorem dX10_drink_32 : decode cX10_drink 32 = .ok (.aload_n 0, 1) := by decide +kernel
theorem dX10_drink_33 : decode cX10_drink 33 = .ok (.iconst 1, 1) := by decide +kernel
theorem dX10_drink_34 : decode cX10_drink 34 = .ok (.invokevirtual 63, 3) := by decide +kernel
theorem dX10_drink_37 : decode cX10_drink 37 = .ok (.ireturn, 1) := by decide +kernel
theorem dX10_drink_38 : decode cX10_drink 38 = .ok (.aload_n 0, 1) := by decide +kernel
theorem dX10_drink_39 : decode cX10_drink 39 = .ok (.getfield 10, 3) := by decide +kernel
theorem dX10_drink_42 : decode cX10_drink 42 = .ok (.iload_n 1, 1) := by decide +kernel
theorem dX10_drink_43 : decode cX10_drink 43 = .ok (.iload_n 2, 1) := by decide +kernel
theorem dX10_drink_44 : decode cX10_drink 44 = .ok (.invokevirtual 195, 3) := by decide +kernel
theorem dX10_drink_47 : decode cX10_drink 47 = .ok (.istore 4, 2) := by decide +kernel
theorem dX10_drink_49 : decode cX10_drink 49 = .ok (.iload_n 2, 1) := by decide +kernel
theorem dX10_drink_50 : decode cX10_drink 50 = .ok (.ifCond .ne 21, 3) := by decide +kernel
theorem dX10_drink_53 : decode cX10_drink 53 = .ok (.aload_n 0, 1) := by decide +kernel
theorem dX10_drink_54 : decode cX10_drink 54 = .ok (.getfield 10, 3) := by decide +kernel
theorem dX10_drink_57 : decode cX10_drink 57 = .ok (.getfield 84, 3) := by decide +kernel
theorem dX10_drink_60 : decode cX10_drink 60 = .ok (.getfield 201, 3) := by decide +kernel
theorem dX10_drink_63 : decode cX10_drink 63 = .ok (.iload_n 1, 1) := by decide +kernel
theorem dX10_drink_64 : decode cX10_drink 64 = .ok (.iload_n 3, 1) := by decide +kernel
theorem dX10_drink_65 : decode cX10_drink 65 = .ok (.invokevirtual 175, 3) := by decide +kernel
theorem dX10_drink_68 : decode cX10_drink 68 = .ok (.goto 38, 3) := by decide +kernel
theorem dX10_drink_71 : decode cX10_drink 71 = .ok (.iload_n 2, 1) := by decide +kernel
theorem dX10_drink_72 : decode cX10_drink 72 = .ok (.iconst 1, 1) := by decide +kernel
theorem dX10_drink_73 : decode cX10_drink 73 = .ok (.if_icmp .ne 21, 3) := by decide +kernel
theorem dX10_drink_76 : decode cX10_drink 76 = .ok (.aload_n 0, 1) := by decide +kernel
theorem dX10_drink_77 : decode cX10_drink 77 = .ok (.getfield 10, 3) := by decide +kernel
theorem dX10_drink_80 : decode cX10_drink 80 = .ok (.getfield 84, 3) := by decide +kernel
theorem dX10_drink_83 : decode cX10_drink 83 = .ok (.getfield 202, 3) := by decide +kernel
theorem dX10_drink_86 : decode cX10_drink 86 = .ok (.iload_n 1, 1) := by decide +kernel
theorem dX10_drink_87 : decode cX10_drink 87 = .ok (.iload_n 3, 1) := by decide +kernel
theorem dX10_drink_88 : decode cX10_drink 88 = .ok (.invokevirtual 175, 3) := by decide +kernel
theorem dX10_drink_91 : decode cX10_drink 91 = .ok (.goto 15, 3) := by decide +kernel
theorem dX10_drink_94 : decode cX10_drink 94 = .ok (.aload_n 0, 1) := by decide +kernel
theorem dX10_drink_95 : decode cX10_drink 95 = .ok (.getfield 10, 3) := by decide +kernel
theorem dX10_drink_98 : decode cX10_drink 98 = .ok (.getfield 77, 3) := by decide +kernel
theorem dX10_drink_101 : decode cX10_drink 101 = .ok (.iload_n 1, 1) := by decide +kernel
theorem dX10_drink_102 : decode cX10_drink 102 = .ok (.iload_n 3, 1) := by decide +kernel
theorem dX10_drink_103 : decode cX10_drink 103 = .ok (.invokevirtual 205, 3) := by decide +kernel
theorem dX10_drink_106 : decode cX10_drink 106 = .ok (.iload 4, 2) := by decide +kernel
theorem dX10_drink_108 : decode cX10_drink 108 = .ok (.ireturn, 1) := by decide +kernel
theorem dX10_feed_0 : decode cX10_feed 0 = .ok (.iload_n 3, 1) := by decide +kernel
theorem dX10_feed_1 : decode cX10_feed 1 = .ok (.iconst 1, 1) := by decide +kernel
theorem dX10_feed_2 : decode cX10_feed 2 = .ok (.bipush 8, 2) := by decide +kernel
theorem dX10_feed_4 : decode cX10_feed 4 = .ok (.invokestatic 59, 3) := by decide +kernel
theorem dX10_feed_7 : decode cX10_feed 7 = .ok (.ifCond .ne 9, 3) := by decide +kernel
theorem dX10_feed_10 : decode cX10_feed 10 = .ok (.aload_n 0, 1) := by decide +kernel
theorem dX10_feed_11 : decode cX10_feed 11 = .ok (.iconst 1, 1) := by decide +kernel
theorem dX10_feed_12 : decode cX10_feed 12 = .ok (.invokevirtual 63, 3) := by decide +kernel
theorem dX10_feed_15 : decode cX10_feed 15 = .ok (.ireturn, 1) := by decide +kernel
theorem dX10_feed_16 : decode cX10_feed 16 = .ok (.aload_n 0, 1) := by decide +kernel
theorem dX10_feed_17 : decode cX10_feed 17 = .ok (.getfield 10, 3) := by decide +kernel
theorem dX10_feed_20 : decode cX10_feed 20 = .ok (.getfield 208, 3) := by decide +kernel
theorem dX10_feed_23 : decode cX10_feed 23 = .ok (.invokevirtual 211, 3) := by decide +kernel
theorem dX10_feed_26 : decode cX10_feed 26 = .ok (.iload_n 3, 1) := by decide +kernel
theorem dX10_feed_27 : decode cX10_feed 27 = .ok (.iadd, 1) := by decide +kernel
theorem dX10_feed_28 : decode cX10_feed 28 = .ok (.bipush 50, 2) := by decide +kernel
theorem dX10_feed_30 : decode cX10_feed 30 = .ok (.if_icmp .le 9, 3) := by decide +kernel
theorem dX10_feed_33 : decode cX10_feed 33 = .ok (.aload_n 0, 1) := by decide +kernel
theorem dX10_feed_34 : decode cX10_feed 34 = .ok (.iconst 4, 1) := by decide +kernel
theorem dX10_feed_35 : decode cX10_feed 35 = .ok (.invokevirtual 63, 3) := by decide +kernel
theorem dX10_feed_38 : decode cX10_feed 38 = .ok (.ireturn, 1) := by decide +kernel
theorem dX10_feed_39 : decode cX10_feed 39 = .ok (.iconst 0, 1) := by decide +kernel
theorem dX10_feed_40 : decode cX10_feed 40 = .ok (.istore 4, 2) := by decide +kernel
theorem dX10_feed_42 : decode cX10_feed 42 = .ok (.iload 4, 2) := by decide +kernel
theorem dX10_feed_44 : decode cX10_feed 44 = .ok (.iload_n 3, 1) := by decide +kernel
theorem dX10_feed_45 : decode cX10_feed 45 = .ok (.if_icmp .ge 31, 3) := by decide +kernel
theorem dX10_feed_48 : decode cX10_feed 48 = .ok (.aload_n 0, 1) := by decide +kernel
theorem dX10_feed_49 : decode cX10_feed 49 = .ok (.getfield 10, 3) := by decide +kernel
theorem dX10_feed_52 : decode cX10_feed 52 = .ok (.getfield 208, 3) := by decide +kernel
theorem dX10_feed_55 : decode cX10_feed 55 = .ok (.lload_n 1, 1) := by decide +kernel
theorem dX10_feed_56 : decode cX10_feed 56 = .ok (.bipush 8, 2) := by decide +kernel
theorem dX10_feed_58 : decode cX10_feed 58 = .ok (.iload 4, 2) := by decide +kernel
theorem dX10_feed_60 : decode cX10_feed 60 = .ok (.imul, 1) := by decide +kernel
theorem dX10_feed_61 : decode cX10_feed 61 = .ok (.lushr, 1) := by decide +kernel
theorem dX10_feed_62 : decode cX10_feed 62 = .ok (.l2i, 1) := by decide +kernel
theorem dX10_feed_63 : decode cX10_feed 63 = .ok (.sipush 255, 3) := by decide +kernel
theorem dX10_feed_66 : decode cX10_feed 66 = .ok (.iand, 1) := by decide +kernel
theorem dX10_feed_67 : decode cX10_feed 67 = .ok (.invokevirtual 212, 3) := by decide +kernel
theorem dX10_feed_70 : decode cX10_feed 70 = .ok (.iinc 4 1, 3) := by decide +kernel
theorem dX10_feed_73 : decode cX10_feed 73 = .ok (.goto (-31), 3) := by decide +kernel
theorem dX10_feed_76 : decode cX10_feed 76 = .ok (.aload_n 0, 1) := by decide +kernel
theorem dX10_feed_77 : decode cX10_feed 77 = .ok (.getfield 10, 3) := by decide +kernel
theorem dX10_feed_80 : decode cX10_feed 80 = .ok (.getfield 208, 3) := by decide +kernel
theorem dX10_feed_83 : decode cX10_feed 83 = .ok (.invokevirtual 211, 3) := by decide +kernel
theorem dX10_feed_86 : decode cX10_feed 86 = .ok (.ireturn, 1) := by decide +kernel
theorem dX10_text_0 : decode cX10_text 0 = .ok (.iload_n 1, 1) := by decide +kernel
theorem dX10_text_1 : decode cX10_text 1 = .ok (.iconst 0, 1) := by decide +kernel
theorem dX10_text_2 : decode cX10_text 2 = .ok (.iconst 1, 1) := by decide +kernel
theorem dX10_text_3 : decode cX10_text 3 = .ok (.invokestatic 59, 3) := by decide +kernel
theorem dX10_text_6 : decode cX10_text 6 = .ok (.ifCond .ne 9, 3) := by decide +kernel
theorem dX10_text_9 : decode cX10_text 9 = .ok (.aload_n 0, 1) := by decide +kernel
theorem dX10_text_10 : decode cX10_text 10 = .ok (.iconst 1, 1) := by decide +kernel
theorem dX10_text_11 : decode cX10_text 11 = .ok (.invokevirtual 63, 3) := by decide +kernel
theorem dX10_text_14 : decode cX10_text 14 = .ok (.ireturn, 1) := by decide +kernel
theorem dX10_text_15 : decode cX10_text 15 = .ok (.aload_n 0, 1) := by decide +kernel
theorem dX10_text_16 : decode cX10_text 16 = .ok (.getfield 22, 3) := by decide +kernel
theorem dX10_text_19 : decode cX10_text 19 = .ok (.aload_n 0, 1) := by decide +kernel
theorem dX10_text_20 : decode cX10_text 20 = .ok (.getfield 10, 3) := by decide +kernel
theorem dX10_text_23 : decode cX10_text 23 = .ok (.getfield 208, 3) := by decide +kernel
theorem dX10_text_26 : decode cX10_text 26 = .ok (.iload_n 1, 1) := by decide +kernel
theorem dX10_text_27 : decode cX10_text 27 = .ok (.ifCond .ne 8, 3) := by decide +kernel
theorem dX10_text_30 : decode cX10_text 30 = .ok (.ldc 214, 2) := by decide +kernel
theorem dX10_text_32 : decode cX10_text 32 = .ok (.goto 5, 3) := by decide +kernel
theorem dX10_text_35 : decode cX10_text 35 = .ok (.ldc 216, 2) := by decide +kernel
theorem dX10_text_37 : decode cX10_text 37 = .ok (.invokevirtual 218, 3) := by decide +kernel
theorem dX10_text_40 : decode cX10_text 40 = .ok (.istore_n 2, 1) := by decide +kernel
theorem dX10_text_41 : decode cX10_text 41 = .ok (.aload_n 0, 1) := by decide +kernel
theorem dX10_text_42 : decode cX10_text 42 = .ok (.getfield 10, 3) := by decide +kernel
theorem dX10_text_45 : decode cX10_text 45 = .ok (.getfield 208, 3) := by decide +kernel
theorem dX10_text_48 : decode cX10_text 48 = .ok (.invokevirtual 222, 3) := by decide +kernel
theorem dX10_text_51 : decode cX10_text 51 = .ok (.iload_n 2, 1) := by decide +kernel
theorem dX10_text_52 : decode cX10_text 52 = .ok (.ifCond .lt 8, 3) := by decide +kernel
theorem dX10_text_55 : decode cX10_text 55 = .ok (.bipush (-10), 2) := by decide +kernel
theorem dX10_text_57 : decode cX10_text 57 = .ok (.iload_n 2, 1) := by decide +kernel
theorem dX10_text_58 : decode cX10_text 58 = .ok (.isub, 1) := by decide +kernel
theorem dX10_text_59 : decode cX10_text 59 = .ok (.ireturn, 1) := by decide +kernel
theorem dX10_text_60 : decode cX10_text 60 = .ok (.aload_n 0, 1) := by decide +kernel
theorem dX10_text_61 : decode cX10_text 61 = .ok (.getfield 10, 3) := by decide +kernel
theorem dX10_text_64 : decode cX10_text 64 = .ok (.iload_n 1, 1) := by decide +kernel
theorem dX10_text_65 : decode cX10_text 65 = .ok (.invokevirtual 225, 3) := by decide +kernel
theorem dX10_text_68 : decode cX10_text 68 = .ok (.getfield 229, 3) := by decide +kernel
theorem dX10_text_71 : decode cX10_text 71 = .ok (.aload_n 0, 1) := by decide +kernel
theorem dX10_text_72 : decode cX10_text 72 = .ok (.getfield 22, 3) := by decide +kernel
theorem dX10_text_75 : decode cX10_text 75 = .ok (.getfield 234, 3) := by decide +kernel
theorem dX10_text_78 : decode cX10_text 78 = .ok (.invokevirtual 235, 3) := by decide +kernel
theorem dX10_text_81 : decode cX10_text 81 = .ok (.iconst 1, 1) := by decide +kernel
theorem dX10_text_82 : decode cX10_text 82 = .ok (.ireturn, 1) := by decide +kernel
theorem dX10_law_0 : decode cX10_law 0 = .ok (.iload_n 1, 1) := by decide +kernel
theorem dX10_law_1 : decode cX10_law 1 = .ok (.iconst 0, 1) := by decide +kernel
theorem dX10_law_2 : decode cX10_law 2 = .ok (.iconst 1, 1) := by decide +kernel
theorem dX10_law_3 : decode cX10_law 3 = .ok (.invokestatic 59, 3) := by decide +kernel
theorem dX10_law_6 : decode cX10_law 6 = .ok (.ifCond .ne 9, 3) := by decide +kernel
theorem dX10_law_9 : decode cX10_law 9 = .ok (.aload_n 0, 1) := by decide +kernel
theorem dX10_law_10 : decode cX10_law 10 = .ok (.iconst 1, 1) := by decide +kernel
theorem dX10_law_11 : decode cX10_law 11 = .ok (.invokevirtual 63, 3) := by decide +kernel
theorem dX10_law_14 : decode cX10_law 14 = .ok (.ireturn, 1) := by decide +kernel
theorem dX10_law_15 : decode cX10_law 15 = .ok (.aload_n 0, 1) := by decide +kernel
theorem dX10_law_16 : decode cX10_law 16 = .ok (.getfield 10, 3) := by decide +kernel
theorem dX10_law_19 : decode cX10_law 19 = .ok (.iload_n 1, 1) := by decide +kernel
theorem dX10_law_20 : decode cX10_law 20 = .ok (.invokevirtual 225, 3) := by decide +kernel
theorem dX10_law_23 : decode cX10_law 23 = .ok (.iload_n 2, 1) := by decide +kernel
theorem dX10_law_24 : decode cX10_law 24 = .ok (.iload_n 3, 1) := by decide +kernel
theorem dX10_law_25 : decode cX10_law 25 = .ok (.iload 4, 2) := by decide +kernel
theorem dX10_law_27 : decode cX10_law 27 = .ok (.invokevirtual 239, 3) := by decide +kernel
theorem dX10_law_30 : decode cX10_law 30 = .ok (.ireturn, 1) := by decide +kernel
theorem dX10_hours_0 : decode cX10_hours 0 = .ok (.iload_n 1, 1) := by decide +kernel
theorem dX10_hours_1 : decode cX10_hours 1 = .ok (.iconst 1, 1) := by decide +kernel
theorem dX10_hours_2 : decode cX10_hours 2 = .ok (.bipush 99, 2) := by decide +kernel
theorem dX10_hours_4 : decode cX10_hours 4 = .ok (.invokestatic 59, 3) := by decide +kernel
theorem dX10_hours_7 : decode cX10_hours 7 = .ok (.ifCond .ne 9, 3) := by decide +kernel
theorem dX10_hours_10 : decode cX10_hours 10 = .ok (.aload_n 0, 1) := by decide +kernel
theorem dX10_hours_11 : decode cX10_hours 11 = .ok (.iconst 1, 1) := by decide +kernel
theorem dX10_hours_12 : decode cX10_hours 12 = .ok (.invokevirtual 63, 3) := by decide +kernel
theorem dX10_hours_15 : decode cX10_hours 15 = .ok (.ireturn, 1) := by decide +kernel
theorem dX10_hours_16 : decode cX10_hours 16 = .ok (.aload_n 0, 1) := by decide +kernel
theorem dX10_hours_17 : decode cX10_hours 17 = .ok (.getfield 10, 3) := by decide +kernel
theorem dX10_hours_20 : decode cX10_hours 20 = .ok (.getfield 243, 3) := by decide +kernel
theorem dX10_hours_23 : decode cX10_hours 23 = .ok (.iload_n 1, 1) := by decide +kernel
theorem dX10_hours_24 : decode cX10_hours 24 = .ok (.iadd, 1) := by decide +kernel
theorem dX10_hours_25 : decode cX10_hours 25 = .ok (.sipush 9999, 3) := by decide +kernel
theorem dX10_hours_28 : decode cX10_hours 28 = .ok (.if_icmp .le 9, 3) := by decide +kernel
theorem dX10_hours_31 : decode cX10_hours 31 = .ok (.aload_n 0, 1) := by decide +kernel
theorem dX10_hours_32 : decode cX10_hours 32 = .ok (.iconst 3, 1) := by decide +kernel
theorem dX10_hours_33 : decode cX10_hours 33 = .ok (.invokevirtual 63, 3) := by decide +kernel
theorem dX10_hours_36 : decode cX10_hours 36 = .ok (.ireturn, 1) := by decide +kernel
theorem dX10_hours_37 : decode cX10_hours 37 = .ok (.iconst 0, 1) := by decide +kernel
theorem dX10_hours_38 : decode cX10_hours 38 = .ok (.istore_n 2, 1) := by decide +kernel
theorem dX10_hours_39 : decode cX10_hours 39 = .ok (.iload_n 2, 1) := by decide +kernel
theorem dX10_hours_40 : decode cX10_hours 40 = .ok (.iload_n 1, 1) := by decide +kernel
theorem dX10_hours_41 : decode cX10_hours 41 = .ok (.if_icmp .ge 16, 3) := by decide +kernel
theorem dX10_hours_44 : decode cX10_hours 44 = .ok (.aload_n 0, 1) := by decide +kernel
theorem dX10_hours_45 : decode cX10_hours 45 = .ok (.getfield 10, 3) := by decide +kernel
theorem dX10_hours_48 : decode cX10_hours 48 = .ok (.invokevirtual 246, 3) := by decide +kernel
theorem dX10_hours_51 : decode cX10_hours 51 = .ok (.iinc 2 1, 3) := by decide +kernel
theorem dX10_hours_54 : decode cX10_hours 54 = .ok (.goto (-15), 3) := by decide +kernel
theorem dX10_hours_57 : decode cX10_hours 57 = .ok (.aload_n 0, 1) := by decide +kernel
theorem dX10_hours_58 : decode cX10_hours 58 = .ok (.getfield 10, 3) := by decide +kernel
theorem dX10_hours_61 : decode cX10_hours 61 = .ok (.getfield 77, 3) := by decide +kernel
theorem dX10_hours_64 : decode cX10_hours 64 = .ok (.invokevirtual 249, 3) := by decide +kernel
theorem dX10_hours_67 : decode cX10_hours 67 = .ok (.invokestatic 252, 3) := by decide +kernel
theorem dX10_hours_70 : decode cX10_hours 70 = .ok (.ireturn, 1) := by decide +kernel
theorem dX10_loose_0 : decode cX10_loose 0 = .ok (.iload_n 1, 1) := by decide +kernel
theorem dX10_loose_1 : decode cX10_loose 1 = .ok (.iconst 1, 1) := by decide +kernel
theorem dX10_loose_2 : decode cX10_loose 2 = .ok (.bipush 40, 2) := by decide +kernel
theorem dX10_loose_4 : decode cX10_loose 4 = .ok (.invokestatic 59, 3) := by decide +kernel
theorem dX10_loose_7 : decode cX10_loose 7 = .ok (.ifCond .ne 9, 3) := by decide +kernel
theorem dX10_loose_10 : decode cX10_loose 10 = .ok (.aload_n 0, 1) := by decide +kernel
theorem dX10_loose_11 : decode cX10_loose 11 = .ok (.iconst 1, 1) := by decide +kernel
theorem dX10_loose_12 : decode cX10_loose 12 = .ok (.invokevirtual 63, 3) := by decide +kernel
theorem dX10_loose_15 : decode cX10_loose 15 = .ok (.ireturn, 1) := by decide +kernel
theorem dX10_loose_16 : decode cX10_loose 16 = .ok (.aload_n 0, 1) := by decide +kernel
theorem dX10_loose_17 : decode cX10_loose 17 = .ok (.getfield 10, 3) := by decide +kernel
theorem dX10_loose_20 : decode cX10_loose 20 = .ok (.getfield 243, 3) := by decide +kernel
theorem dX10_loose_23 : decode cX10_loose 23 = .ok (.iload_n 1, 1) := by decide +kernel
theorem dX10_loose_24 : decode cX10_loose 24 = .ok (.iadd, 1) := by decide +kernel
theorem dX10_loose_25 : decode cX10_loose 25 = .ok (.sipush 9999, 3) := by decide +kernel
theorem dX10_loose_28 : decode cX10_loose 28 = .ok (.if_icmp .le 9, 3) := by decide +kernel
theorem dX10_loose_31 : decode cX10_loose 31 = .ok (.aload_n 0, 1) := by decide +kernel
theorem dX10_loose_32 : decode cX10_loose 32 = .ok (.iconst 3, 1) := by decide +kernel
theorem dX10_loose_33 : decode cX10_loose 33 = .ok (.invokevirtual 63, 3) := by decide +kernel
theorem dX10_loose_36 : decode cX10_loose 36 = .ok (.ireturn, 1) := by decide +kernel
theorem dX10_loose_37 : decode cX10_loose 37 = .ok (.iconst 0, 1) := by decide +kernel
theorem dX10_loose_38 : decode cX10_loose 38 = .ok (.istore_n 2, 1) := by decide +kernel
theorem dX10_loose_39 : decode cX10_loose 39 = .ok (.iload_n 2, 1) := by decide +kernel
theorem dX10_loose_40 : decode cX10_loose 40 = .ok (.iload_n 1, 1) := by decide +kernel
theorem dX10_loose_41 : decode cX10_loose 41 = .ok (.if_icmp .ge 33, 3) := by decide +kernel
theorem dX10_loose_44 : decode cX10_loose 44 = .ok (.aload_n 0, 1) := by decide +kernel
theorem dX10_loose_45 : decode cX10_loose 45 = .ok (.getfield 10, 3) := by decide +kernel
theorem dX10_loose_48 : decode cX10_loose 48 = .ok (.aload_n 0, 1) := by decide +kernel
theorem dX10_loose_49 : decode cX10_loose 49 = .ok (.getfield 10, 3) := by decide +kernel
theorem dX10_loose_52 : decode cX10_loose 52 = .ok (.invokevirtual 257, 3) := by decide +kernel
theorem dX10_loose_55 : decode cX10_loose 55 = .ok (.bipush 10, 2) := by decide +kernel
theorem dX10_loose_57 : decode cX10_loose 57 = .ok (.irem, 1) := by decide +kernel
theorem dX10_loose_58 : decode cX10_loose 58 = .ok (.putfield 128, 3) := by decide +kernel
theorem dX10_loose_61 : decode cX10_loose 61 = .ok (.aload_n 0, 1) := by decide +kernel
theorem dX10_loose_62 : decode cX10_loose 62 = .ok (.getfield 10, 3) := by decide +kernel
theorem dX10_loose_65 : decode cX10_loose 65 = .ok (.invokevirtual 246, 3) := by decide +kernel
theorem dX10_loose_68 : decode cX10_loose 68 = .ok (.iinc 2 1, 3) := by decide +kernel
theorem dX10_loose_71 : decode cX10_loose 71 = .ok (.goto (-32), 3) := by decide +kernel
theorem dX10_loose_74 : decode cX10_loose 74 = .ok (.aload_n 0, 1) := by decide +kernel
theorem dX10_loose_75 : decode cX10_loose 75 = .ok (.getfield 10, 3) := by decide +kernel
theorem dX10_loose_78 : decode cX10_loose 78 = .ok (.getfield 77, 3) := by decide +kernel
theorem dX10_loose_81 : decode cX10_loose 81 = .ok (.invokevirtual 249, 3) := by decide +kernel
theorem dX10_loose_84 : decode cX10_loose 84 = .ok (.invokestatic 252, 3) := by decide +kernel
theorem dX10_loose_87 : decode cX10_loose 87 = .ok (.ireturn, 1) := by decide +kernel
theorem dX10_then_0 : decode cX10_then 0 = .ok (.iload_n 1, 1) := by decide +kernel
theorem dX10_then_1 : decode cX10_then 1 = .ok (.iconst 0, 1) := by decide +kernel
theorem dX10_then_2 : decode cX10_then 2 = .ok (.bipush 99, 2) := by decide +kernel
theorem dX10_then_4 : decode cX10_then 4 = .ok (.invokestatic 59, 3) := by decide +kernel
theorem dX10_then_7 : decode cX10_then 7 = .ok (.ifCond .eq 17, 3) := by decide +kernel
theorem dX10_then_10 : decode cX10_then 10 = .ok (.aload_n 0, 1) := by decide +kernel
theorem dX10_then_11 : decode cX10_then 11 = .ok (.getfield 10, 3) := by decide +kernel
theorem dX10_then_14 : decode cX10_then 14 = .ok (.getfield 84, 3) := by decide +kernel
theorem dX10_then_17 : decode cX10_then 17 = .ok (.iload_n 2, 1) := by decide +kernel
theorem dX10_then_18 : decode cX10_then 18 = .ok (.invokevirtual 194, 3) := by decide +kernel
theorem dX10_then_21 : decode cX10_then 21 = .ok (.ifCond .ne 9, 3) := by decide +kernel
theorem dX10_then_24 : decode cX10_then 24 = .ok (.aload_n 0, 1) := by decide +kernel
theorem dX10_then_25 : decode cX10_then 25 = .ok (.iconst 1, 1) := by decide +kernel
theorem dX10_then_26 : decode cX10_then 26 = .ok (.invokevirtual 63, 3) := by decide +kernel
theorem dX10_then_29 : decode cX10_then 29 = .ok (.ireturn, 1) := by decide +kernel
theorem dX10_then_30 : decode cX10_then 30 = .ok (.aload_n 0, 1) := by decide +kernel
theorem dX10_then_31 : decode cX10_then 31 = .ok (.getfield 10, 3) := by decide +kernel
theorem dX10_then_34 : decode cX10_then 34 = .ok (.iload_n 1, 1) := by decide +kernel
theorem dX10_then_35 : decode cX10_then 35 = .ok (.invokevirtual 260, 3) := by decide +kernel
theorem dX10_then_38 : decode cX10_then 38 = .ok (.aload_n 0, 1) := by decide +kernel
theorem dX10_then_39 : decode cX10_then 39 = .ok (.getfield 10, 3) := by decide +kernel
theorem dX10_then_42 : decode cX10_then 42 = .ok (.getfield 77, 3) := by decide +kernel
theorem dX10_then_45 : decode cX10_then 45 = .ok (.iload_n 2, 1) := by decide +kernel
theorem dX10_then_46 : decode cX10_then 46 = .ok (.aload_n 0, 1) := by decide +kernel
theorem dX10_then_47 : decode cX10_then 47 = .ok (.getfield 10, 3) := by decide +kernel
theorem dX10_then_50 : decode cX10_then 50 = .ok (.getfield 263, 3) := by decide +kernel
theorem dX10_then_53 : decode cX10_then 53 = .ok (.invokevirtual 266, 3) := by decide +kernel
theorem dX10_then_56 : decode cX10_then 56 = .ok (.ireturn, 1) := by decide +kernel
theorem dX10_learns_0 : decode cX10_learns 0 = .ok (.aload_n 0, 1) := by decide +kernel
theorem dX10_learns_1 : decode cX10_learns 1 = .ok (.getfield 10, 3) := by decide +kernel
theorem dX10_learns_4 : decode cX10_learns 4 = .ok (.getfield 84, 3) := by decide +kernel
theorem dX10_learns_7 : decode cX10_learns 7 = .ok (.iload_n 1, 1) := by decide +kernel
theorem dX10_learns_8 : decode cX10_learns 8 = .ok (.invokevirtual 194, 3) := by decide +kernel
theorem dX10_learns_11 : decode cX10_learns 11 = .ok (.ifCond .eq 17, 3) := by decide +kernel
theorem dX10_learns_14 : decode cX10_learns 14 = .ok (.aload_n 0, 1) := by decide +kernel
theorem dX10_learns_15 : decode cX10_learns 15 = .ok (.getfield 10, 3) := by decide +kernel
theorem dX10_learns_18 : decode cX10_learns 18 = .ok (.getfield 77, 3) := by decide +kernel
theorem dX10_learns_21 : decode cX10_learns 21 = .ok (.iload_n 2, 1) := by decide +kernel
theorem dX10_learns_22 : decode cX10_learns 22 = .ok (.invokevirtual 137, 3) := by decide +kernel
theorem dX10_learns_25 : decode cX10_learns 25 = .ok (.ifCond .ne 9, 3) := by decide +kernel
theorem dX10_learns_28 : decode cX10_learns 28 = .ok (.aload_n 0, 1) := by decide +kernel
theorem dX10_learns_29 : decode cX10_learns 29 = .ok (.iconst 1, 1) := by decide +kernel
theorem dX10_learns_30 : decode cX10_learns 30 = .ok (.invokevirtual 63, 3) := by decide +kernel
theorem dX10_learns_33 : decode cX10_learns 33 = .ok (.ireturn, 1) := by decide +kernel
theorem dX10_learns_34 : decode cX10_learns 34 = .ok (.aload_n 0, 1) := by decide +kernel
theorem dX10_learns_35 : decode cX10_learns 35 = .ok (.getfield 10, 3) := by decide +kernel
theorem dX10_learns_38 : decode cX10_learns 38 = .ok (.iload_n 2, 1) := by decide +kernel
theorem dX10_learns_39 : decode cX10_learns 39 = .ok (.invokevirtual 138, 3) := by decide +kernel
theorem dX10_learns_42 : decode cX10_learns 42 = .ok (.astore_n 3, 1) := by decide +kernel
theorem dX10_learns_43 : decode cX10_learns 43 = .ok (.iconst 0, 1) := by decide +kernel
theorem dX10_learns_44 : decode cX10_learns 44 = .ok (.istore 4, 2) := by decide +kernel
theorem dX10_learns_46 : decode cX10_learns 46 = .ok (.iload 4, 2) := by decide +kernel
theorem dX10_learns_48 : decode cX10_learns 48 = .ok (.bipush 99, 2) := by decide +kernel
theorem dX10_learns_50 : decode cX10_learns 50 = .ok (.if_icmp .gt 59, 3) := by decide +kernel
theorem dX10_learns_53 : decode cX10_learns 53 = .ok (.aload_n 3, 1) := by decide +kernel
theorem dX10_learns_54 : decode cX10_learns 54 = .ok (.getfield 166, 3) := by decide +kernel
theorem dX10_learns_57 : decode cX10_learns 57 = .ok (.iload_n 1, 1) := by decide +kernel
theorem dX10_learns_58 : decode cX10_learns 58 = .ok (.invokestatic 120, 3) := by decide +kernel
theorem dX10_learns_61 : decode cX10_learns 61 = .ok (.iconst 1, 1) := by decide +kernel
theorem dX10_learns_62 : decode cX10_learns 62 = .ok (.if_icmp .ne 6, 3) := by decide +kernel
theorem dX10_learns_65 : decode cX10_learns 65 = .ok (.iload 4, 2) := by decide +kernel
theorem dX10_learns_67 : decode cX10_learns 67 = .ok (.ireturn, 1) := by decide +kernel
theorem dX10_learns_68 : decode cX10_learns 68 = .ok (.aload_n 0, 1) := by decide +kernel
theorem dX10_learns_69 : decode cX10_learns 69 = .ok (.getfield 10, 3) := by decide +kernel
theorem dX10_learns_72 : decode cX10_learns 72 = .ok (.aload_n 3, 1) := by decide +kernel
theorem dX10_learns_73 : decode cX10_learns 73 = .ok (.aload_n 0, 1) := by decide +kernel
theorem dX10_learns_74 : decode cX10_learns 74 = .ok (.getfield 10, 3) := by decide +kernel
theorem dX10_learns_77 : decode cX10_learns 77 = .ok (.getfield 128, 3) := by decide +kernel
theorem dX10_learns_80 : decode cX10_learns 80 = .ok (.aload_n 0, 1) := by decide +kernel
theorem dX10_learns_81 : decode cX10_learns 81 = .ok (.getfield 10, 3) := by decide +kernel
theorem dX10_learns_84 : decode cX10_learns 84 = .ok (.getfield 67, 3) := by decide +kernel
theorem dX10_learns_87 : decode cX10_learns 87 = .ok (.getfield 117, 3) := by decide +kernel
theorem dX10_learns_90 : decode cX10_learns 90 = .ok (.aload_n 0, 1) := by decide +kernel
theorem dX10_learns_91 : decode cX10_learns 91 = .ok (.getfield 10, 3) := by decide +kernel
theorem dX10_learns_94 : decode cX10_learns 94 = .ok (.getfield 243, 3) := by decide +kernel
theorem dX10_learns_97 : decode cX10_learns 97 = .ok (.iload 4, 2) := by decide +kernel
theorem dX10_learns_99 : decode cX10_learns 99 = .ok (.iadd, 1) := by decide +kernel
theorem dX10_learns_100 : decode cX10_learns 100 = .ok (.invokevirtual 270, 3) := by decide +kernel
theorem dX10_learns_103 : decode cX10_learns 103 = .ok (.iinc 4 1, 3) := by decide +kernel
theorem dX10_learns_106 : decode cX10_learns 106 = .ok (.goto (-60), 3) := by decide +kernel
theorem dX10_learns_109 : decode cX10_learns 109 = .ok (.aload_n 0, 1) := by decide +kernel
theorem dX10_learns_110 : decode cX10_learns 110 = .ok (.iconst 2, 1) := by decide +kernel
theorem dX10_learns_111 : decode cX10_learns 111 = .ok (.invokevirtual 63, 3) := by decide +kernel
theorem dX10_learns_114 : decode cX10_learns 114 = .ok (.ireturn, 1) := by decide +kernel
theorem dX10_calls_0 : decode cX10_calls 0 = .ok (.aload_n 0, 1) := by decide +kernel
theorem dX10_calls_1 : decode cX10_calls 1 = .ok (.getfield 10, 3) := by decide +kernel
theorem dX10_calls_4 : decode cX10_calls 4 = .ok (.getfield 77, 3) := by decide +kernel
theorem dX10_calls_7 : decode cX10_calls 7 = .ok (.iload_n 1, 1) := by decide +kernel
theorem dX10_calls_8 : decode cX10_calls 8 = .ok (.invokevirtual 137, 3) := by decide +kernel
theorem dX10_calls_11 : decode cX10_calls 11 = .ok (.ifCond .eq 13, 3) := by decide +kernel
theorem dX10_calls_14 : decode cX10_calls 14 = .ok (.iload_n 2, 1) := by decide +kernel
theorem dX10_calls_15 : decode cX10_calls 15 = .ok (.iconst 0, 1) := by decide +kernel
theorem dX10_calls_16 : decode cX10_calls 16 = .ok (.bipush 99, 2) := by decide +kernel
theorem dX10_calls_18 : decode cX10_calls 18 = .ok (.invokestatic 59, 3) := by decide +kernel
theorem dX10_calls_21 : decode cX10_calls 21 = .ok (.ifCond .ne 9, 3) := by decide +kernel
theorem dX10_calls_24 : decode cX10_calls 24 = .ok (.aload_n 0, 1) := by decide +kernel
theorem dX10_calls_25 : decode cX10_calls 25 = .ok (.iconst 1, 1) := by decide +kernel
theorem dX10_calls_26 : decode cX10_calls 26 = .ok (.invokevirtual 63, 3) := by decide +kernel
theorem dX10_calls_29 : decode cX10_calls 29 = .ok (.ireturn, 1) := by decide +kernel
theorem dX10_calls_30 : decode cX10_calls 30 = .ok (.aload_n 0, 1) := by decide +kernel
theorem dX10_calls_31 : decode cX10_calls 31 = .ok (.getfield 10, 3) := by decide +kernel
theorem dX10_calls_34 : decode cX10_calls 34 = .ok (.getfield 84, 3) := by decide +kernel
theorem dX10_calls_37 : decode cX10_calls 37 = .ok (.invokevirtual 88, 3) := by decide +kernel
theorem dX10_calls_40 : decode cX10_calls 40 = .ok (.iload_n 3, 1) := by decide +kernel
theorem dX10_calls_41 : decode cX10_calls 41 = .ok (.invokestatic 274, 3) := by decide +kernel
theorem dX10_calls_44 : decode cX10_calls 44 = .ok (.ifCond .eq 28, 3) := by decide +kernel
theorem dX10_calls_47 : decode cX10_calls 47 = .ok (.aload_n 0, 1) := by decide +kernel
theorem dX10_calls_48 : decode cX10_calls 48 = .ok (.getfield 10, 3) := by decide +kernel
theorem dX10_calls_51 : decode cX10_calls 51 = .ok (.getfield 84, 3) := by decide +kernel
theorem dX10_calls_54 : decode cX10_calls 54 = .ok (.invokevirtual 88, 3) := by decide +kernel
theorem dX10_calls_57 : decode cX10_calls 57 = .ok (.iload 4, 2) := by decide +kernel
theorem dX10_calls_59 : decode cX10_calls 59 = .ok (.invokestatic 274, 3) := by decide +kernel
theorem dX10_calls_62 : decode cX10_calls 62 = .ok (.ifCond .eq 10, 3) := by decide +kernel
theorem dX10_calls_65 : decode cX10_calls 65 = .ok (.iload_n 3, 1) := by decide +kernel
theorem dX10_calls_66 : decode cX10_calls 66 = .ok (.iload 4, 2) := by decide +kernel
theorem dX10_calls_68 : decode cX10_calls 68 = .ok (.iand, 1) := by decide +kernel
theorem dX10_calls_69 : decode cX10_calls 69 = .ok (.ifCond .eq 9, 3) := by decide +kernel
theorem dX10_calls_72 : decode cX10_calls 72 = .ok (.aload_n 0, 1) := by decide +kernel
theorem dX10_calls_73 : decode cX10_calls 73 = .ok (.iconst 1, 1) := by decide +kernel
theorem dX10_calls_74 : decode cX10_calls 74 = .ok (.invokevirtual 63, 3) := by decide +kernel
theorem dX10_calls_77 : decode cX10_calls 77 = .ok (.ireturn, 1) := by decide +kernel
theorem dX10_calls_78 : decode cX10_calls 78 = .ok (.iconst 0, 1) := by decide +kernel
theorem dX10_calls_79 : decode cX10_calls 79 = .ok (.istore 5, 2) := by decide +kernel
theorem dX10_calls_81 : decode cX10_calls 81 = .ok (.iconst 0, 1) := by decide +kernel
theorem dX10_calls_82 : decode cX10_calls 82 = .ok (.istore 6, 2) := by decide +kernel
theorem dX10_calls_84 : decode cX10_calls 84 = .ok (.iload 6, 2) := by decide +kernel
theorem dX10_calls_86 : decode cX10_calls 86 = .ok (.aload_n 0, 1) := by decide +kernel
theorem dX10_calls_87 : decode cX10_calls 87 = .ok (.getfield 10, 3) := by decide +kernel
theorem dX10_calls_90 : decode cX10_calls 90 = .ok (.getfield 91, 3) := by decide +kernel
theorem dX10_calls_93 : decode cX10_calls 93 = .ok (.if_icmp .ge 95, 3) := by decide +kernel
theorem dX10_calls_96 : decode cX10_calls 96 = .ok (.aload_n 0, 1) := by decide +kernel
theorem dX10_calls_97 : decode cX10_calls 97 = .ok (.getfield 10, 3) := by decide +kernel
theorem dX10_calls_100 : decode cX10_calls 100 = .ok (.iload_n 1, 1) := by decide +kernel
theorem dX10_calls_101 : decode cX10_calls 101 = .ok (.invokevirtual 138, 3) := by decide +kernel
theorem dX10_calls_104 : decode cX10_calls 104 = .ok (.astore 7, 2) := by decide +kernel
theorem dX10_calls_106 : decode cX10_calls 106 = .ok (.aload 7, 2) := by decide +kernel
theorem dX10_calls_108 : decode cX10_calls 108 = .ok (.iload 6, 2) := by decide +kernel
theorem dX10_calls_110 : decode cX10_calls 110 = .ok (.putfield 150, 3) := by decide +kernel
theorem dX10_calls_113 : decode cX10_calls 113 = .ok (.aload 7, 2) := by decide +kernel
theorem dX10_calls_115 : decode cX10_calls 115 = .ok (.iconst 0, 1) := by decide +kernel
theorem dX10_calls_116 : decode cX10_calls 116 = .ok (.putfield 156, 3) := by decide +kernel
theorem dX10_calls_119 : decode cX10_calls 119 = .ok (.aload_n 0, 1) := by decide +kernel
theorem dX10_calls_120 : decode cX10_calls 120 = .ok (.getfield 10, 3) := by decide +kernel
theorem dX10_calls_123 : decode cX10_calls 123 = .ok (.aload 7, 2) := by decide +kernel
theorem dX10_calls_125 : decode cX10_calls 125 = .ok (.aload_n 0, 1) := by decide +kernel
theorem dX10_calls_126 : decode cX10_calls 126 = .ok (.getfield 10, 3) := by decide +kernel
theorem dX10_calls_129 : decode cX10_calls 129 = .ok (.getfield 128, 3) := by decide +kernel
theorem dX10_calls_132 : decode cX10_calls 132 = .ok (.aload_n 0, 1) := by decide +kernel
theorem dX10_calls_133 : decode cX10_calls 133 = .ok (.getfield 10, 3) := by decide +kernel
theorem dX10_calls_136 : decode cX10_calls 136 = .ok (.getfield 67, 3) := by decide +kernel
theorem dX10_calls_139 : decode cX10_calls 139 = .ok (.getfield 117, 3) := by decide +kernel
theorem dX10_calls_142 : decode cX10_calls 142 = .ok (.iload_n 2, 1) := by decide +kernel
theorem dX10_calls_143 : decode cX10_calls 143 = .ok (.invokevirtual 277, 3) := by decide +kernel
theorem dX10_calls_146 : decode cX10_calls 146 = .ok (.iload 5, 2) := by decide +kernel
theorem dX10_calls_148 : decode cX10_calls 148 = .ok (.iload 6, 2) := by decide +kernel
theorem dX10_calls_150 : decode cX10_calls 150 = .ok (.aload 7, 2) := by decide +kernel
theorem dX10_calls_152 : decode cX10_calls 152 = .ok (.getfield 166, 3) := by decide +kernel
theorem dX10_calls_155 : decode cX10_calls 155 = .ok (.iload_n 3, 1) := by decide +kernel
theorem dX10_calls_156 : decode cX10_calls 156 = .ok (.iand, 1) := by decide +kernel
theorem dX10_calls_157 : decode cX10_calls 157 = .ok (.iload_n 3, 1) := by decide +kernel
theorem dX10_calls_158 : decode cX10_calls 158 = .ok (.if_icmp .ne 18, 3) := by decide +kernel
theorem dX10_calls_161 : decode cX10_calls 161 = .ok (.aload 7, 2) := by decide +kernel
theorem dX10_calls_163 : decode cX10_calls 163 = .ok (.getfield 166, 3) := by decide +kernel
theorem dX10_calls_166 : decode cX10_calls 166 = .ok (.iload 4, 2) := by decide +kernel
theorem dX10_calls_168 : decode cX10_calls 168 = .ok (.iand, 1) := by decide +kernel
theorem dX10_calls_169 : decode cX10_calls 169 = .ok (.ifCond .ne 7, 3) := by decide +kernel
theorem dX10_calls_172 : decode cX10_calls 172 = .ok (.iconst 1, 1) := by decide +kernel
theorem dX10_calls_173 : decode cX10_calls 173 = .ok (.goto 4, 3) := by decide +kernel
theorem dX10_calls_176 : decode cX10_calls 176 = .ok (.iconst 0, 1) := by decide +kernel
theorem dX10_calls_177 : decode cX10_calls 177 = .ok (.invokestatic 124, 3) := by decide +kernel
theorem dX10_calls_180 : decode cX10_calls 180 = .ok (.istore 5, 2) := by decide +kernel
theorem dX10_calls_182 : decode cX10_calls 182 = .ok (.iinc 6 1, 3) := by decide +kernel
theorem dX10_calls_185 : decode cX10_calls 185 = .ok (.goto (-101), 3) := by decide +kernel
theorem dX10_calls_188 : decode cX10_calls 188 = .ok (.iload 5, 2) := by decide +kernel
theorem dX10_calls_190 : decode cX10_calls 190 = .ok (.ireturn, 1) := by decide +kernel
theorem dX10_stops_0 : decode cX10_stops 0 = .ok (.aload_n 0, 1) := by decide +kernel
theorem dX10_stops_1 : decode cX10_stops 1 = .ok (.getfield 10, 3) := by decide +kernel
theorem dX10_stops_4 : decode cX10_stops 4 = .ok (.getfield 84, 3) := by decide +kernel
theorem dX10_stops_7 : decode cX10_stops 7 = .ok (.iload_n 1, 1) := by decide +kernel
theorem dX10_stops_8 : decode cX10_stops 8 = .ok (.invokevirtual 194, 3) := by decide +kernel
theorem dX10_stops_11 : decode cX10_stops 11 = .ok (.ifCond .eq 27, 3) := by decide +kernel
theorem dX10_stops_14 : decode cX10_stops 14 = .ok (.aload_n 0, 1) := by decide +kernel
theorem dX10_stops_15 : decode cX10_stops 15 = .ok (.getfield 10, 3) := by decide +kernel
theorem dX10_stops_18 : decode cX10_stops 18 = .ok (.getfield 77, 3) := by decide +kernel
theorem dX10_stops_21 : decode cX10_stops 21 = .ok (.iload_n 2, 1) := by decide +kernel
theorem dX10_stops_22 : decode cX10_stops 22 = .ok (.invokevirtual 137, 3) := by decide +kernel
theorem dX10_stops_25 : decode cX10_stops 25 = .ok (.ifCond .eq 13, 3) := by decide +kernel
theorem dX10_stops_28 : decode cX10_stops 28 = .ok (.iload_n 3, 1) := by decide +kernel
theorem dX10_stops_29 : decode cX10_stops 29 = .ok (.iconst 0, 1) := by decide +kernel
theorem dX10_stops_30 : decode cX10_stops 30 = .ok (.bipush 10, 2) := by decide +kernel
theorem dX10_stops_32 : decode cX10_stops 32 = .ok (.invokestatic 59, 3) := by decide +kernel
theorem dX10_stops_35 : decode cX10_stops 35 = .ok (.ifCond .ne 9, 3) := by decide +kernel
theorem dX10_stops_38 : decode cX10_stops 38 = .ok (.aload_n 0, 1) := by decide +kernel
theorem dX10_stops_39 : decode cX10_stops 39 = .ok (.iconst 1, 1) := by decide +kernel
theorem dX10_stops_40 : decode cX10_stops 40 = .ok (.invokevirtual 63, 3) := by decide +kernel
theorem dX10_stops_43 : decode cX10_stops 43 = .ok (.ireturn, 1) := by decide +kernel
theorem dX10_stops_44 : decode cX10_stops 44 = .ok (.iconst 1, 1) := by decide +kernel
theorem dX10_stops_45 : decode cX10_stops 45 = .ok (.aload_n 0, 1) := by decide +kernel
theorem dX10_stops_46 : decode cX10_stops 46 = .ok (.getfield 10, 3) := by decide +kernel
theorem dX10_stops_49 : decode cX10_stops 49 = .ok (.getfield 67, 3) := by decide +kernel
theorem dX10_stops_52 : decode cX10_stops 52 = .ok (.invokevirtual 71, 3) := by decide +kernel
theorem dX10_stops_55 : decode cX10_stops 55 = .ok (.ishl, 1) := by decide +kernel
theorem dX10_stops_56 : decode cX10_stops 56 = .ok (.istore 4, 2) := by decide +kernel
theorem dX10_stops_58 : decode cX10_stops 58 = .ok (.iconst 0, 1) := by decide +kernel
theorem dX10_stops_59 : decode cX10_stops 59 = .ok (.istore 5, 2) := by decide +kernel
theorem dX10_stops_61 : decode cX10_stops 61 = .ok (.iload 5, 2) := by decide +kernel
theorem dX10_stops_63 : decode cX10_stops 63 = .ok (.aload_n 0, 1) := by decide +kernel
theorem dX10_stops_64 : decode cX10_stops 64 = .ok (.getfield 10, 3) := by decide +kernel
theorem dX10_stops_67 : decode cX10_stops 67 = .ok (.getfield 67, 3) := by decide +kernel
theorem dX10_stops_70 : decode cX10_stops 70 = .ok (.invokevirtual 71, 3) := by decide +kernel
theorem dX10_stops_73 : decode cX10_stops 73 = .ok (.if_icmp .gt 50, 3) := by decide +kernel
theorem dX10_stops_76 : decode cX10_stops 76 = .ok (.iconst 0, 1) := by decide +kernel
theorem dX10_stops_77 : decode cX10_stops 77 = .ok (.istore 6, 2) := by decide +kernel
theorem dX10_stops_79 : decode cX10_stops 79 = .ok (.iload 6, 2) := by decide +kernel
theorem dX10_stops_81 : decode cX10_stops 81 = .ok (.iload 4, 2) := by decide +kernel
theorem dX10_stops_83 : decode cX10_stops 83 = .ok (.if_icmp .ge 34, 3) := by decide +kernel
theorem dX10_stops_86 : decode cX10_stops 86 = .ok (.iload 6, 2) := by decide +kernel
theorem dX10_stops_88 : decode cX10_stops 88 = .ok (.invokestatic 252, 3) := by decide +kernel
theorem dX10_stops_91 : decode cX10_stops 91 = .ok (.iload 5, 2) := by decide +kernel
theorem dX10_stops_93 : decode cX10_stops 93 = .ok (.if_icmp .ne 18, 3) := by decide +kernel
theorem dX10_stops_96 : decode cX10_stops 96 = .ok (.aload_n 0, 1) := by decide +kernel
theorem dX10_stops_97 : decode cX10_stops 97 = .ok (.iload 6, 2) := by decide +kernel
theorem dX10_stops_99 : decode cX10_stops 99 = .ok (.iload_n 1, 1) := by decide +kernel
theorem dX10_stops_100 : decode cX10_stops 100 = .ok (.iload_n 2, 1) := by decide +kernel
theorem dX10_stops_101 : decode cX10_stops 101 = .ok (.iload_n 3, 1) := by decide +kernel
theorem dX10_stops_102 : decode cX10_stops 102 = .ok (.invokevirtual 280, 3) := by decide +kernel
theorem dX10_stops_105 : decode cX10_stops 105 = .ok (.ifCond .eq 6, 3) := by decide +kernel
theorem dX10_stops_108 : decode cX10_stops 108 = .ok (.iload 6, 2) := by decide +kernel
theorem dX10_stops_110 : decode cX10_stops 110 = .ok (.ireturn, 1) := by decide +kernel
theorem dX10_stops_111 : decode cX10_stops 111 = .ok (.iinc 6 1, 3) := by decide +kernel
theorem dX10_stops_114 : decode cX10_stops 114 = .ok (.goto (-35), 3) := by decide +kernel
theorem dX10_stops_117 : decode cX10_stops 117 = .ok (.iinc 5 1, 3) := by decide +kernel
theorem dX10_stops_120 : decode cX10_stops 120 = .ok (.goto (-59), 3) := by decide +kernel
theorem dX10_stops_123 : decode cX10_stops 123 = .ok (.aload_n 0, 1) := by decide +kernel
theorem dX10_stops_124 : decode cX10_stops 124 = .ok (.iconst 2, 1) := by decide +kernel
theorem dX10_stops_125 : decode cX10_stops 125 = .ok (.invokevirtual 63, 3) := by decide +kernel
theorem dX10_stops_128 : decode cX10_stops 128 = .ok (.ireturn, 1) := by decide +kernel
theorem dX10_who_0 : decode cX10_who 0 = .ok (.aload_n 0, 1) := by decide +kernel
theorem dX10_who_1 : decode cX10_who 1 = .ok (.iload_n 1, 1) := by decide +kernel
theorem dX10_who_2 : decode cX10_who 2 = .ok (.invokevirtual 284, 3) := by decide +kernel
theorem dX10_who_5 : decode cX10_who 5 = .ok (.astore_n 3, 1) := by decide +kernel
theorem dX10_who_6 : decode cX10_who 6 = .ok (.aload_n 3, 1) := by decide +kernel
theorem dX10_who_7 : decode cX10_who 7 = .ok (.ifnull 13, 3) := by decide +kernel
theorem dX10_who_10 : decode cX10_who 10 = .ok (.iload_n 2, 1) := by decide +kernel
theorem dX10_who_11 : decode cX10_who 11 = .ok (.iconst 0, 1) := by decide +kernel
theorem dX10_who_12 : decode cX10_who 12 = .ok (.bipush 99, 2) := by decide +kernel
theorem dX10_who_14 : decode cX10_who 14 = .ok (.invokestatic 59, 3) := by decide +kernel
theorem dX10_who_17 : decode cX10_who 17 = .ok (.ifCond .ne 9, 3) := by decide +kernel
theorem dX10_who_20 : decode cX10_who 20 = .ok (.aload_n 0, 1) := by decide +kernel
theorem dX10_who_21 : decode cX10_who 21 = .ok (.iconst 1, 1) := by decide +kernel
theorem dX10_who_22 : decode cX10_who 22 = .ok (.invokevirtual 63, 3) := by decide +kernel
theorem dX10_who_25 : decode cX10_who 25 = .ok (.ireturn, 1) := by decide +kernel
theorem dX10_who_26 : decode cX10_who 26 = .ok (.aload_n 3, 1) := by decide +kernel
theorem dX10_who_27 : decode cX10_who 27 = .ok (.aload_n 0, 1) := by decide +kernel
theorem dX10_who_28 : decode cX10_who 28 = .ok (.getfield 10, 3) := by decide +kernel
theorem dX10_who_31 : decode cX10_who 31 = .ok (.getfield 84, 3) := by decide +kernel
theorem dX10_who_34 : decode cX10_who 34 = .ok (.invokevirtual 88, 3) := by decide +kernel
theorem dX10_who_37 : decode cX10_who 37 = .ok (.invokevirtual 288, 3) := by decide +kernel
theorem dX10_who_40 : decode cX10_who 40 = .ok (.ifCond .ne 9, 3) := by decide +kernel
theorem dX10_who_43 : decode cX10_who 43 = .ok (.aload_n 0, 1) := by decide +kernel
theorem dX10_who_44 : decode cX10_who 44 = .ok (.iconst 2, 1) := by decide +kernel
theorem dX10_who_45 : decode cX10_who 45 = .ok (.invokevirtual 63, 3) := by decide +kernel
theorem dX10_who_48 : decode cX10_who 48 = .ok (.ireturn, 1) := by decide +kernel
theorem dX10_who_49 : decode cX10_who 49 = .ok (.aload_n 0, 1) := by decide +kernel
theorem dX10_who_50 : decode cX10_who 50 = .ok (.getfield 10, 3) := by decide +kernel
theorem dX10_who_53 : decode cX10_who 53 = .ok (.iload_n 2, 1) := by decide +kernel
theorem dX10_who_54 : decode cX10_who 54 = .ok (.invokevirtual 260, 3) := by decide +kernel
theorem dX10_who_57 : decode cX10_who 57 = .ok (.iconst 0, 1) := by decide +kernel
theorem dX10_who_58 : decode cX10_who 58 = .ok (.istore 4, 2) := by decide +kernel
theorem dX10_who_60 : decode cX10_who 60 = .ok (.iconst 0, 1) := by decide +kernel
theorem dX10_who_61 : decode cX10_who 61 = .ok (.istore 5, 2) := by decide +kernel
theorem dX10_who_63 : decode cX10_who 63 = .ok (.iload 5, 2) := by decide +kernel
theorem dX10_who_65 : decode cX10_who 65 = .ok (.aload_n 0, 1) := by decide +kernel
theorem dX10_who_66 : decode cX10_who 66 = .ok (.getfield 10, 3) := by decide +kernel
theorem dX10_who_69 : decode cX10_who 69 = .ok (.getfield 263, 3) := by decide +kernel
theorem dX10_who_72 : decode cX10_who 72 = .ok (.invokevirtual 211, 3) := by decide +kernel
theorem dX10_who_75 : decode cX10_who 75 = .ok (.if_icmp .ge 34, 3) := by decide +kernel
theorem dX10_who_78 : decode cX10_who 78 = .ok (.iload 4, 2) := by decide +kernel
theorem dX10_who_80 : decode cX10_who 80 = .ok (.iload 5, 2) := by decide +kernel
theorem dX10_who_82 : decode cX10_who 82 = .ok (.aload_n 3, 1) := by decide +kernel
theorem dX10_who_83 : decode cX10_who 83 = .ok (.aload_n 0, 1) := by decide +kernel
theorem dX10_who_84 : decode cX10_who 84 = .ok (.getfield 10, 3) := by decide +kernel
theorem dX10_who_87 : decode cX10_who 87 = .ok (.getfield 263, 3) := by decide +kernel
theorem dX10_who_90 : decode cX10_who 90 = .ok (.iload 5, 2) := by decide +kernel
theorem dX10_who_92 : decode cX10_who 92 = .ok (.invokevirtual 108, 3) := by decide +kernel
theorem dX10_who_95 : decode cX10_who 95 = .ok (.invokevirtual 291, 3) := by decide +kernel
theorem dX10_who_98 : decode cX10_who 98 = .ok (.invokestatic 124, 3) := by decide +kernel
theorem dX10_who_101 : decode cX10_who 101 = .ok (.istore 4, 2) := by decide +kernel
theorem dX10_who_103 : decode cX10_who 103 = .ok (.iinc 5 1, 3) := by decide +kernel
theorem dX10_who_106 : decode cX10_who 106 = .ok (.goto (-43), 3) := by decide +kernel
theorem dX10_who_109 : decode cX10_who 109 = .ok (.iload 4, 2) := by decide +kernel
theorem dX10_who_111 : decode cX10_who 111 = .ok (.ireturn, 1) := by decide +kernel
theorem dX10_loud_0 : decode cX10_loud 0 = .ok (.aload_n 0, 1) := by decide +kernel
theorem dX10_loud_1 : decode cX10_loud 1 = .ok (.iload_n 1, 1) := by decide +kernel
theorem dX10_loud_2 : decode cX10_loud 2 = .ok (.invokevirtual 284, 3) := by decide +kernel
theorem dX10_loud_5 : decode cX10_loud 5 = .ok (.astore 5, 2) := by decide +kernel
theorem dX10_loud_7 : decode cX10_loud 7 = .ok (.aload 5, 2) := by decide +kernel
theorem dX10_loud_9 : decode cX10_loud 9 = .ok (.ifnull 37, 3) := by decide +kernel
theorem dX10_loud_12 : decode cX10_loud 12 = .ok (.aload_n 0, 1) := by decide +kernel
theorem dX10_loud_13 : decode cX10_loud 13 = .ok (.getfield 10, 3) := by decide +kernel
theorem dX10_loud_16 : decode cX10_loud 16 = .ok (.getfield 77, 3) := by decide +kernel
theorem dX10_loud_19 : decode cX10_loud 19 = .ok (.iload_n 2, 1) := by decide +kernel
theorem dX10_loud_20 : decode cX10_loud 20 = .ok (.invokevirtual 137, 3) := by decide +kernel
theorem dX10_loud_23 : decode cX10_loud 23 = .ok (.ifCond .eq 23, 3) := by decide +kernel
theorem dX10_loud_26 : decode cX10_loud 26 = .ok (.iload_n 3, 1) := by decide +kernel
theorem dX10_loud_27 : decode cX10_loud 27 = .ok (.iconst 0, 1) := by decide +kernel
theorem dX10_loud_28 : decode cX10_loud 28 = .ok (.bipush 20, 2) := by decide +kernel
theorem dX10_loud_30 : decode cX10_loud 30 = .ok (.invokestatic 59, 3) := by decide +kernel
theorem dX10_loud_33 : decode cX10_loud 33 = .ok (.ifCond .eq 13, 3) := by decide +kernel
theorem dX10_loud_36 : decode cX10_loud 36 = .ok (.iload 4, 2) := by decide +kernel
theorem dX10_loud_38 : decode cX10_loud 38 = .ok (.iconst 0, 1) := by decide +kernel
theorem dX10_loud_39 : decode cX10_loud 39 = .ok (.iconst 1, 1) := by decide +kernel
theorem dX10_loud_40 : decode cX10_loud 40 = .ok (.invokestatic 59, 3) := by decide +kernel
theorem dX10_loud_43 : decode cX10_loud 43 = .ok (.ifCond .ne 9, 3) := by decide +kernel
theorem dX10_loud_46 : decode cX10_loud 46 = .ok (.aload_n 0, 1) := by decide +kernel
theorem dX10_loud_47 : decode cX10_loud 47 = .ok (.iconst 1, 1) := by decide +kernel
theorem dX10_loud_48 : decode cX10_loud 48 = .ok (.invokevirtual 63, 3) := by decide +kernel
theorem dX10_loud_51 : decode cX10_loud 51 = .ok (.ireturn, 1) := by decide +kernel
theorem dX10_loud_52 : decode cX10_loud 52 = .ok (.aload 5, 2) := by decide +kernel
theorem dX10_loud_54 : decode cX10_loud 54 = .ok (.aload_n 0, 1) := by decide +kernel
theorem dX10_loud_55 : decode cX10_loud 55 = .ok (.getfield 10, 3) := by decide +kernel
theorem dX10_loud_58 : decode cX10_loud 58 = .ok (.getfield 84, 3) := by decide +kernel
theorem dX10_loud_61 : decode cX10_loud 61 = .ok (.invokevirtual 88, 3) := by decide +kernel
theorem dX10_loud_64 : decode cX10_loud 64 = .ok (.invokevirtual 288, 3) := by decide +kernel
theorem dX10_loud_67 : decode cX10_loud 67 = .ok (.ifCond .ne 9, 3) := by decide +kernel
theorem dX10_loud_70 : decode cX10_loud 70 = .ok (.aload_n 0, 1) := by decide +kernel
theorem dX10_loud_71 : decode cX10_loud 71 = .ok (.iconst 2, 1) := by decide +kernel
theorem dX10_loud_72 : decode cX10_loud 72 = .ok (.invokevirtual 63, 3) := by decide +kernel
theorem dX10_loud_75 : decode cX10_loud 75 = .ok (.ireturn, 1) := by decide +kernel
theorem dX10_loud_76 : decode cX10_loud 76 = .ok (.iconst 0, 1) := by decide +kernel
theorem dX10_loud_77 : decode cX10_loud 77 = .ok (.istore 6, 2) := by decide +kernel
theorem dX10_loud_79 : decode cX10_loud 79 = .ok (.iconst (-1), 1) := by decide +kernel
theorem dX10_loud_80 : decode cX10_loud 80 = .ok (.istore 7, 2) := by decide +kernel
theorem dX10_loud_82 : decode cX10_loud 82 = .ok (.bipush 99, 2) := by decide +kernel
theorem dX10_loud_84 : decode cX10_loud 84 = .ok (.istore 8, 2) := by decide +kernel
theorem dX10_loud_86 : decode cX10_loud 86 = .ok (.iload 8, 2) := by decide +kernel
theorem dX10_loud_88 : decode cX10_loud 88 = .ok (.ifCond .lt 73, 3) := by decide +kernel
theorem dX10_loud_91 : decode cX10_loud 91 = .ok (.aload_n 0, 1) := by decide +kernel
theorem dX10_loud_92 : decode cX10_loud 92 = .ok (.getfield 10, 3) := by decide +kernel
theorem dX10_loud_95 : decode cX10_loud 95 = .ok (.iload_n 2, 1) := by decide +kernel
theorem dX10_loud_96 : decode cX10_loud 96 = .ok (.invokevirtual 138, 3) := by decide +kernel
theorem dX10_loud_99 : decode cX10_loud 99 = .ok (.astore 9, 2) := by decide +kernel
theorem dX10_loud_101 : decode cX10_loud 101 = .ok (.aload 9, 2) := by decide +kernel
theorem dX10_loud_103 : decode cX10_loud 103 = .ok (.iload 8, 2) := by decide +kernel
theorem dX10_loud_105 : decode cX10_loud 105 = .ok (.putfield 153, 3) := by decide +kernel
theorem dX10_loud_108 : decode cX10_loud 108 = .ok (.aload_n 0, 1) := by decide +kernel
theorem dX10_loud_109 : decode cX10_loud 109 = .ok (.getfield 10, 3) := by decide +kernel
theorem dX10_loud_112 : decode cX10_loud 112 = .ok (.aload 9, 2) := by decide +kernel
theorem dX10_loud_114 : decode cX10_loud 114 = .ok (.aload_n 0, 1) := by decide +kernel
theorem dX10_loud_115 : decode cX10_loud 115 = .ok (.getfield 10, 3) := by decide +kernel
theorem dX10_loud_118 : decode cX10_loud 118 = .ok (.getfield 128, 3) := by decide +kernel
theorem dX10_loud_121 : decode cX10_loud 121 = .ok (.aload_n 0, 1) := by decide +kernel
theorem dX10_loud_122 : decode cX10_loud 122 = .ok (.getfield 10, 3) := by decide +kernel
theorem dX10_loud_125 : decode cX10_loud 125 = .ok (.getfield 67, 3) := by decide +kernel
theorem dX10_loud_128 : decode cX10_loud 128 = .ok (.getfield 117, 3) := by decide +kernel
theorem dX10_loud_131 : decode cX10_loud 131 = .ok (.iload_n 3, 1) := by decide +kernel
theorem dX10_loud_132 : decode cX10_loud 132 = .ok (.invokevirtual 277, 3) := by decide +kernel
theorem dX10_loud_135 : decode cX10_loud 135 = .ok (.aload 5, 2) := by decide +kernel
theorem dX10_loud_137 : decode cX10_loud 137 = .ok (.aload 9, 2) := by decide +kernel
theorem dX10_loud_139 : decode cX10_loud 139 = .ok (.getfield 166, 3) := by decide +kernel
theorem dX10_loud_142 : decode cX10_loud 142 = .ok (.invokevirtual 291, 3) := by decide +kernel
theorem dX10_loud_145 : decode cX10_loud 145 = .ok (.ifCond .eq 10, 3) := by decide +kernel
theorem dX10_loud_148 : decode cX10_loud 148 = .ok (.iinc 6 1, 3) := by decide +kernel
theorem dX10_loud_151 : decode cX10_loud 151 = .ok (.iload 8, 2) := by decide +kernel
theorem dX10_loud_153 : decode cX10_loud 153 = .ok (.istore 7, 2) := by decide +kernel
theorem dX10_loud_155 : decode cX10_loud 155 = .ok (.iinc 8 (-1), 3) := by decide +kernel
theorem dX10_loud_158 : decode cX10_loud 158 = .ok (.goto (-72), 3) := by decide +kernel
theorem dX10_loud_161 : decode cX10_loud 161 = .ok (.iload 4, 2) := by decide +kernel
theorem dX10_loud_163 : decode cX10_loud 163 = .ok (.ifCond .ne 6, 3) := by decide +kernel
theorem dX10_loud_166 : decode cX10_loud 166 = .ok (.iload 6, 2) := by decide +kernel
theorem dX10_loud_168 : decode cX10_loud 168 = .ok (.ireturn, 1) := by decide +kernel
theorem dX10_loud_169 : decode cX10_loud 169 = .ok (.iload 7, 2) := by decide +kernel
theorem dX10_loud_171 : decode cX10_loud 171 = .ok (.ifCond .ge 11, 3) := by decide +kernel
theorem dX10_loud_174 : decode cX10_loud 174 = .ok (.aload_n 0, 1) := by decide +kernel
theorem dX10_loud_175 : decode cX10_loud 175 = .ok (.iconst 2, 1) := by decide +kernel
theorem dX10_loud_176 : decode cX10_loud 176 = .ok (.invokevirtual 63, 3) := by decide +kernel
theorem dX10_loud_179 : decode cX10_loud 179 = .ok (.goto 5, 3) := by decide +kernel
theorem dX10_loud_182 : decode cX10_loud 182 = .ok (.iload 7, 2) := by decide +kernel
theorem dX10_loud_184 : decode cX10_loud 184 = .ok (.ireturn, 1) := by decide +kernel
theorem dX10_alike_0 : decode cX10_alike 0 = .ok (.iload_n 1, 1) := by decide +kernel
theorem dX10_alike_1 : decode cX10_alike 1 = .ok (.iconst 0, 1) := by decide +kernel
theorem dX10_alike_2 : decode cX10_alike 2 = .ok (.bipush 99, 2) := by decide +kernel
theorem dX10_alike_4 : decode cX10_alike 4 = .ok (.invokestatic 59, 3) := by decide +kernel
theorem dX10_alike_7 : decode cX10_alike 7 = .ok (.ifCond .ne 9, 3) := by decide +kernel
theorem dX10_alike_10 : decode cX10_alike 10 = .ok (.aload_n 0, 1) := by decide +kernel
theorem dX10_alike_11 : decode cX10_alike 11 = .ok (.iconst 1, 1) := by decide +kernel
theorem dX10_alike_12 : decode cX10_alike 12 = .ok (.invokevirtual 63, 3) := by decide +kernel
theorem dX10_alike_15 : decode cX10_alike 15 = .ok (.ireturn, 1) := by decide +kernel
theorem dX10_alike_16 : decode cX10_alike 16 = .ok (.aload_n 0, 1) := by decide +kernel
theorem dX10_alike_17 : decode cX10_alike 17 = .ok (.getfield 10, 3) := by decide +kernel
theorem dX10_alike_20 : decode cX10_alike 20 = .ok (.iload_n 1, 1) := by decide +kernel
theorem dX10_alike_21 : decode cX10_alike 21 = .ok (.invokevirtual 260, 3) := by decide +kernel
theorem dX10_alike_24 : decode cX10_alike 24 = .ok (.iconst 0, 1) := by decide +kernel
theorem dX10_alike_25 : decode cX10_alike 25 = .ok (.istore_n 2, 1) := by decide +kernel
theorem dX10_alike_26 : decode cX10_alike 26 = .ok (.iconst 0, 1) := by decide +kernel
theorem dX10_alike_27 : decode cX10_alike 27 = .ok (.istore_n 3, 1) := by decide +kernel
theorem dX10_alike_28 : decode cX10_alike 28 = .ok (.iload_n 3, 1) := by decide +kernel
theorem dX10_alike_29 : decode cX10_alike 29 = .ok (.aload_n 0, 1) := by decide +kernel
theorem dX10_alike_30 : decode cX10_alike 30 = .ok (.getfield 10, 3) := by decide +kernel
theorem dX10_alike_33 : decode cX10_alike 33 = .ok (.getfield 84, 3) := by decide +kernel
theorem dX10_alike_36 : decode cX10_alike 36 = .ok (.invokevirtual 88, 3) := by decide +kernel
theorem dX10_alike_39 : decode cX10_alike 39 = .ok (.if_icmp .ge 78, 3) := by decide +kernel
theorem dX10_alike_42 : decode cX10_alike 42 = .ok (.iload_n 3, 1) := by decide +kernel
theorem dX10_alike_43 : decode cX10_alike 43 = .ok (.iconst 1, 1) := by decide +kernel
theorem dX10_alike_44 : decode cX10_alike 44 = .ok (.iadd, 1) := by decide +kernel
theorem dX10_alike_45 : decode cX10_alike 45 = .ok (.istore 4, 2) := by decide +kernel
theorem dX10_alike_47 : decode cX10_alike 47 = .ok (.iload 4, 2) := by decide +kernel
theorem dX10_alike_49 : decode cX10_alike 49 = .ok (.aload_n 0, 1) := by decide +kernel
theorem dX10_alike_50 : decode cX10_alike 50 = .ok (.getfield 10, 3) := by decide +kernel
theorem dX10_alike_53 : decode cX10_alike 53 = .ok (.getfield 84, 3) := by decide +kernel
theorem dX10_alike_56 : decode cX10_alike 56 = .ok (.invokevirtual 88, 3) := by decide +kernel
theorem dX10_alike_59 : decode cX10_alike 59 = .ok (.if_icmp .ge 52, 3) := by decide +kernel
theorem dX10_alike_62 : decode cX10_alike 62 = .ok (.aload_n 0, 1) := by decide +kernel
theorem dX10_alike_63 : decode cX10_alike 63 = .ok (.getfield 10, 3) := by decide +kernel
theorem dX10_alike_66 : decode cX10_alike 66 = .ok (.getfield 77, 3) := by decide +kernel
theorem dX10_alike_69 : decode cX10_alike 69 = .ok (.iload_n 3, 1) := by decide +kernel
theorem dX10_alike_70 : decode cX10_alike 70 = .ok (.aload_n 0, 1) := by decide +kernel
theorem dX10_alike_71 : decode cX10_alike 71 = .ok (.getfield 10, 3) := by decide +kernel
theorem dX10_alike_74 : decode cX10_alike 74 = .ok (.getfield 263, 3) := by decide +kernel
theorem dX10_alike_77 : decode cX10_alike 77 = .ok (.invokevirtual 266, 3) := by decide +kernel
theorem dX10_alike_80 : decode cX10_alike 80 = .ok (.aload_n 0, 1) := by decide +kernel
theorem dX10_alike_81 : decode cX10_alike 81 = .ok (.getfield 10, 3) := by decide +kernel
theorem dX10_alike_84 : decode cX10_alike 84 = .ok (.getfield 77, 3) := by decide +kernel
theorem dX10_alike_87 : decode cX10_alike 87 = .ok (.iload 4, 2) := by decide +kernel
theorem dX10_alike_89 : decode cX10_alike 89 = .ok (.aload_n 0, 1) := by decide +kernel
theorem dX10_alike_90 : decode cX10_alike 90 = .ok (.getfield 10, 3) := by decide +kernel
theorem dX10_alike_93 : decode cX10_alike 93 = .ok (.getfield 263, 3) := by decide +kernel
theorem dX10_alike_96 : decode cX10_alike 96 = .ok (.invokevirtual 266, 3) := by decide +kernel
theorem dX10_alike_99 : decode cX10_alike 99 = .ok (.if_icmp .ne 6, 3) := by decide +kernel
theorem dX10_alike_102 : decode cX10_alike 102 = .ok (.iinc 2 1, 3) := by decide +kernel
theorem dX10_alike_105 : decode cX10_alike 105 = .ok (.iinc 4 1, 3) := by decide +kernel
theorem dX10_alike_108 : decode cX10_alike 108 = .ok (.goto (-61), 3) := by decide +kernel
theorem dX10_alike_111 : decode cX10_alike 111 = .ok (.iinc 3 1, 3) := by decide +kernel
theorem dX10_alike_114 : decode cX10_alike 114 = .ok (.goto (-86), 3) := by decide +kernel
theorem dX10_alike_117 : decode cX10_alike 117 = .ok (.iload_n 2, 1) := by decide +kernel
theorem dX10_alike_118 : decode cX10_alike 118 = .ok (.ireturn, 1) := by decide +kernel
theorem dX10_furthest_0 : decode cX10_furthest 0 = .ok (.iload_n 1, 1) := by decide +kernel
theorem dX10_furthest_1 : decode cX10_furthest 1 = .ok (.iconst 0, 1) := by decide +kernel
theorem dX10_furthest_2 : decode cX10_furthest 2 = .ok (.bipush 99, 2) := by decide +kernel
theorem dX10_furthest_4 : decode cX10_furthest 4 = .ok (.invokestatic 59, 3) := by decide +kernel
theorem dX10_furthest_7 : decode cX10_furthest 7 = .ok (.ifCond .eq 12, 3) := by decide +kernel
theorem dX10_furthest_10 : decode cX10_furthest 10 = .ok (.iload_n 2, 1) := by decide +kernel
theorem dX10_furthest_11 : decode cX10_furthest 11 = .ok (.iconst 0, 1) := by decide +kernel
theorem dX10_furthest_12 : decode cX10_furthest 12 = .ok (.iconst 1, 1) := by decide +kernel
theorem dX10_furthest_13 : decode cX10_furthest 13 = .ok (.invokestatic 59, 3) := by decide +kernel
theorem dX10_furthest_16 : decode cX10_furthest 16 = .ok (.ifCond .ne 9, 3) := by decide +kernel
theorem dX10_furthest_19 : decode cX10_furthest 19 = .ok (.aload_n 0, 1) := by decide +kernel
theorem dX10_furthest_20 : decode cX10_furthest 20 = .ok (.iconst 1, 1) := by decide +kernel
theorem dX10_furthest_21 : decode cX10_furthest 21 = .ok (.invokevirtual 63, 3) := by decide +kernel
theorem dX10_furthest_24 : decode cX10_furthest 24 = .ok (.ireturn, 1) := by decide +kernel
theorem dX10_furthest_25 : decode cX10_furthest 25 = .ok (.aload_n 0, 1) := by decide +kernel
theorem dX10_furthest_26 : decode cX10_furthest 26 = .ok (.getfield 10, 3) := by decide +kernel
theorem dX10_furthest_29 : decode cX10_furthest 29 = .ok (.getfield 77, 3) := by decide +kernel
theorem dX10_furthest_32 : decode cX10_furthest 32 = .ok (.invokevirtual 81, 3) := by decide +kernel
theorem dX10_furthest_35 : decode cX10_furthest 35 = .ok (.ifCond .ne 9, 3) := by decide +kernel
theorem dX10_furthest_38 : decode cX10_furthest 38 = .ok (.aload_n 0, 1) := by decide +kernel
theorem dX10_furthest_39 : decode cX10_furthest 39 = .ok (.iconst 2, 1) := by decide +kernel
theorem dX10_furthest_40 : decode cX10_furthest 40 = .ok (.invokevirtual 63, 3) := by decide +kernel
theorem dX10_furthest_43 : decode cX10_furthest 43 = .ok (.ireturn, 1) := by decide +kernel
theorem dX10_furthest_44 : decode cX10_furthest 44 = .ok (.aload_n 0, 1) := by decide +kernel
theorem dX10_furthest_45 : decode cX10_furthest 45 = .ok (.getfield 10, 3) := by decide +kernel
theorem dX10_furthest_48 : decode cX10_furthest 48 = .ok (.iload_n 1, 1) := by decide +kernel
theorem dX10_furthest_49 : decode cX10_furthest 49 = .ok (.invokevirtual 260, 3) := by decide +kernel
theorem dX10_furthest_52 : decode cX10_furthest 52 = .ok (.iconst 0, 1) := by decide +kernel
theorem dX10_furthest_53 : decode cX10_furthest 53 = .ok (.istore_n 3, 1) := by decide +kernel
theorem dX10_furthest_54 : decode cX10_furthest 54 = .ok (.iconst (-1), 1) := by decide +kernel
theorem dX10_furthest_55 : decode cX10_furthest 55 = .ok (.istore 4, 2) := by decide +kernel
theorem dX10_furthest_57 : decode cX10_furthest 57 = .ok (.iconst 0, 1) := by decide +kernel
theorem dX10_furthest_58 : decode cX10_furthest 58 = .ok (.istore 5, 2) := by decide +kernel
theorem dX10_furthest_60 : decode cX10_furthest 60 = .ok (.iload 5, 2) := by decide +kernel
theorem dX10_furthest_62 : decode cX10_furthest 62 = .ok (.aload_n 0, 1) := by decide +kernel
theorem dX10_furthest_63 : decode cX10_furthest 63 = .ok (.getfield 10, 3) := by decide +kernel
theorem dX10_furthest_66 : decode cX10_furthest 66 = .ok (.getfield 263, 3) := by decide +kernel
theorem dX10_furthest_69 : decode cX10_furthest 69 = .ok (.invokevirtual 211, 3) := by decide +kernel
theorem dX10_furthest_72 : decode cX10_furthest 72 = .ok (.if_icmp .ge 40, 3) := by decide +kernel
theorem dX10_furthest_75 : decode cX10_furthest 75 = .ok (.aload_n 0, 1) := by decide +kernel
theorem dX10_furthest_76 : decode cX10_furthest 76 = .ok (.getfield 10, 3) := by decide +kernel
theorem dX10_furthest_79 : decode cX10_furthest 79 = .ok (.getfield 263, 3) := by decide +kernel
theorem dX10_furthest_82 : decode cX10_furthest 82 = .ok (.iload 5, 2) := by decide +kernel
theorem dX10_furthest_84 : decode cX10_furthest 84 = .ok (.invokevirtual 108, 3) := by decide +kernel
theorem dX10_furthest_87 : decode cX10_furthest 87 = .ok (.invokestatic 252, 3) := by decide +kernel
theorem dX10_furthest_90 : decode cX10_furthest 90 = .ok (.istore 6, 2) := by decide +kernel
theorem dX10_furthest_92 : decode cX10_furthest 92 = .ok (.iload 6, 2) := by decide +kernel
theorem dX10_furthest_94 : decode cX10_furthest 94 = .ok (.iload 4, 2) := by decide +kernel
theorem dX10_furthest_96 : decode cX10_furthest 96 = .ok (.if_icmp .le 10, 3) := by decide +kernel
theorem dX10_furthest_99 : decode cX10_furthest 99 = .ok (.iload 5, 2) := by decide +kernel
theorem dX10_furthest_101 : decode cX10_furthest 101 = .ok (.istore_n 3, 1) := by decide +kernel
theorem dX10_furthest_102 : decode cX10_furthest 102 = .ok (.iload 6, 2) := by decide +kernel
theorem dX10_furthest_104 : decode cX10_furthest 104 = .ok (.istore 4, 2) := by decide +kernel
theorem dX10_furthest_106 : decode cX10_furthest 106 = .ok (.iinc 5 1, 3) := by decide +kernel
theorem dX10_furthest_109 : decode cX10_furthest 109 = .ok (.goto (-49), 3) := by decide +kernel
theorem dX10_furthest_112 : decode cX10_furthest 112 = .ok (.iload_n 2, 1) := by decide +kernel
theorem dX10_furthest_113 : decode cX10_furthest 113 = .ok (.ifCond .ne 7, 3) := by decide +kernel
theorem dX10_furthest_116 : decode cX10_furthest 116 = .ok (.iload_n 3, 1) := by decide +kernel
theorem dX10_furthest_117 : decode cX10_furthest 117 = .ok (.goto 5, 3) := by decide +kernel
theorem dX10_furthest_120 : decode cX10_furthest 120 = .ok (.iload 4, 2) := by decide +kernel
theorem dX10_furthest_122 : decode cX10_furthest 122 = .ok (.ireturn, 1) := by decide +kernel
theorem dX10_odds_0 : decode cX10_odds 0 = .ok (.aload_n 0, 1) := by decide +kernel
theorem dX10_odds_1 : decode cX10_odds 1 = .ok (.getfield 10, 3) := by decide +kernel
theorem dX10_odds_4 : decode cX10_odds 4 = .ok (.getfield 84, 3) := by decide +kernel
theorem dX10_odds_7 : decode cX10_odds 7 = .ok (.iload_n 1, 1) := by decide +kernel
theorem dX10_odds_8 : decode cX10_odds 8 = .ok (.invokevirtual 194, 3) := by decide +kernel
theorem dX10_odds_11 : decode cX10_odds 11 = .ok (.ifCond .eq 17, 3) := by decide +kernel
theorem dX10_odds_14 : decode cX10_odds 14 = .ok (.aload_n 0, 1) := by decide +kernel
theorem dX10_odds_15 : decode cX10_odds 15 = .ok (.getfield 10, 3) := by decide +kernel
theorem dX10_odds_18 : decode cX10_odds 18 = .ok (.getfield 77, 3) := by decide +kernel
theorem dX10_odds_21 : decode cX10_odds 21 = .ok (.iload_n 2, 1) := by decide +kernel
theorem dX10_odds_22 : decode cX10_odds 22 = .ok (.invokevirtual 137, 3) := by decide +kernel
theorem dX10_odds_25 : decode cX10_odds 25 = .ok (.ifCond .ne 9, 3) := by decide +kernel
theorem dX10_odds_28 : decode cX10_odds 28 = .ok (.aload_n 0, 1) := by decide +kernel
theorem dX10_odds_29 : decode cX10_odds 29 = .ok (.iconst 1, 1) := by decide +kernel
theorem dX10_odds_30 : decode cX10_odds 30 = .ok (.invokevirtual 63, 3) := by decide +kernel
theorem dX10_odds_33 : decode cX10_odds 33 = .ok (.ireturn, 1) := by decide +kernel
theorem dX10_odds_34 : decode cX10_odds 34 = .ok (.iload_n 3, 1) := by decide +kernel
theorem dX10_odds_35 : decode cX10_odds 35 = .ok (.iconst 0, 1) := by decide +kernel
theorem dX10_odds_36 : decode cX10_odds 36 = .ok (.bipush 99, 2) := by decide +kernel
theorem dX10_odds_38 : decode cX10_odds 38 = .ok (.invokestatic 59, 3) := by decide +kernel
theorem dX10_odds_41 : decode cX10_odds 41 = .ok (.ifCond .eq 13, 3) := by decide +kernel
theorem dX10_odds_44 : decode cX10_odds 44 = .ok (.iload 4, 2) := by decide +kernel
theorem dX10_odds_46 : decode cX10_odds 46 = .ok (.iconst 0, 1) := by decide +kernel
theorem dX10_odds_47 : decode cX10_odds 47 = .ok (.iconst 1, 1) := by decide +kernel
theorem dX10_odds_48 : decode cX10_odds 48 = .ok (.invokestatic 59, 3) := by decide +kernel
theorem dX10_odds_51 : decode cX10_odds 51 = .ok (.ifCond .ne 9, 3) := by decide +kernel
theorem dX10_odds_54 : decode cX10_odds 54 = .ok (.aload_n 0, 1) := by decide +kernel
theorem dX10_odds_55 : decode cX10_odds 55 = .ok (.iconst 1, 1) := by decide +kernel
theorem dX10_odds_56 : decode cX10_odds 56 = .ok (.invokevirtual 63, 3) := by decide +kernel
theorem dX10_odds_59 : decode cX10_odds 59 = .ok (.ireturn, 1) := by decide +kernel
theorem dX10_odds_60 : decode cX10_odds 60 = .ok (.iconst 0, 1) := by decide +kernel
theorem dX10_odds_61 : decode cX10_odds 61 = .ok (.istore 5, 2) := by decide +kernel
theorem dX10_odds_63 : decode cX10_odds 63 = .ok (.iconst 0, 1) := by decide +kernel
theorem dX10_odds_64 : decode cX10_odds 64 = .ok (.istore 6, 2) := by decide +kernel
theorem dX10_odds_66 : decode cX10_odds 66 = .ok (.iload 6, 2) := by decide +kernel
theorem dX10_odds_68 : decode cX10_odds 68 = .ok (.bipush 9, 2) := by decide +kernel
theorem dX10_odds_70 : decode cX10_odds 70 = .ok (.if_icmp .gt 55, 3) := by decide +kernel
theorem dX10_odds_73 : decode cX10_odds 73 = .ok (.aload_n 0, 1) := by decide +kernel
theorem dX10_odds_74 : decode cX10_odds 74 = .ok (.getfield 10, 3) := by decide +kernel
theorem dX10_odds_77 : decode cX10_odds 77 = .ok (.iload_n 2, 1) := by decide +kernel
theorem dX10_odds_78 : decode cX10_odds 78 = .ok (.invokevirtual 138, 3) := by decide +kernel
theorem dX10_odds_81 : decode cX10_odds 81 = .ok (.astore 7, 2) := by decide +kernel
theorem dX10_odds_83 : decode cX10_odds 83 = .ok (.aload_n 0, 1) := by decide +kernel
theorem dX10_odds_84 : decode cX10_odds 84 = .ok (.getfield 10, 3) := by decide +kernel
theorem dX10_odds_87 : decode cX10_odds 87 = .ok (.aload 7, 2) := by decide +kernel
theorem dX10_odds_89 : decode cX10_odds 89 = .ok (.iload 6, 2) := by decide +kernel
theorem dX10_odds_91 : decode cX10_odds 91 = .ok (.aload_n 0, 1) := by decide +kernel
theorem dX10_odds_92 : decode cX10_odds 92 = .ok (.getfield 10, 3) := by decide +kernel
theorem dX10_odds_95 : decode cX10_odds 95 = .ok (.getfield 67, 3) := by decide +kernel
theorem dX10_odds_98 : decode cX10_odds 98 = .ok (.getfield 117, 3) := by decide +kernel
theorem dX10_odds_101 : decode cX10_odds 101 = .ok (.iload_n 3, 1) := by decide +kernel
theorem dX10_odds_102 : decode cX10_odds 102 = .ok (.invokevirtual 277, 3) := by decide +kernel
theorem dX10_odds_105 : decode cX10_odds 105 = .ok (.iload 5, 2) := by decide +kernel
theorem dX10_odds_107 : decode cX10_odds 107 = .ok (.aload 7, 2) := by decide +kernel
theorem dX10_odds_109 : decode cX10_odds 109 = .ok (.getfield 166, 3) := by decide +kernel
theorem dX10_odds_112 : decode cX10_odds 112 = .ok (.iload_n 1, 1) := by decide +kernel
theorem dX10_odds_113 : decode cX10_odds 113 = .ok (.invokestatic 120, 3) := by decide +kernel
theorem dX10_odds_116 : decode cX10_odds 116 = .ok (.iadd, 1) := by decide +kernel
theorem dX10_odds_117 : decode cX10_odds 117 = .ok (.istore 5, 2) := by decide +kernel
theorem dX10_odds_119 : decode cX10_odds 119 = .ok (.iinc 6 1, 3) := by decide +kernel
theorem dX10_odds_122 : decode cX10_odds 122 = .ok (.goto (-56), 3) := by decide +kernel
theorem dX10_odds_125 : decode cX10_odds 125 = .ok (.iload 5, 2) := by decide +kernel
theorem dX10_odds_127 : decode cX10_odds 127 = .ok (.bipush 10, 2) := by decide +kernel
theorem dX10_odds_129 : decode cX10_odds 129 = .ok (.invokestatic 294, 3) := by decide +kernel
theorem dX10_odds_132 : decode cX10_odds 132 = .ok (.istore 6, 2) := by decide +kernel
theorem dX10_odds_134 : decode cX10_odds 134 = .ok (.iload 6, 2) := by decide +kernel
theorem dX10_odds_136 : decode cX10_odds 136 = .ok (.ifCond .gt 5, 3) := by decide +kernel
theorem dX10_odds_139 : decode cX10_odds 139 = .ok (.iconst 0, 1) := by decide +kernel
theorem dX10_odds_140 : decode cX10_odds 140 = .ok (.ireturn, 1) := by decide +kernel
theorem dX10_odds_141 : decode cX10_odds 141 = .ok (.iload 4, 2) := by decide +kernel
theorem dX10_odds_143 : decode cX10_odds 143 = .ok (.ifCond .ne 8, 3) := by decide +kernel
theorem dX10_odds_146 : decode cX10_odds 146 = .ok (.iload 5, 2) := by decide +kernel
theorem dX10_odds_148 : decode cX10_odds 148 = .ok (.goto 5, 3) := by decide +kernel
theorem dX10_odds_151 : decode cX10_odds 151 = .ok (.bipush 10, 2) := by decide +kernel
theorem dX10_odds_153 : decode cX10_odds 153 = .ok (.iload 6, 2) := by decide +kernel
theorem dX10_odds_155 : decode cX10_odds 155 = .ok (.idiv, 1) := by decide +kernel
theorem dX10_odds_156 : decode cX10_odds 156 = .ok (.ireturn, 1) := by decide +kernel
theorem dX10_seed_0 : decode cX10_seed 0 = .ok (.aload_n 0, 1) := by decide +kernel
theorem dX10_seed_1 : decode cX10_seed 1 = .ok (.getfield 10, 3) := by decide +kernel
theorem dX10_seed_4 : decode cX10_seed 4 = .ok (.getfield 297, 3) := by decide +kernel
theorem dX10_seed_7 : decode cX10_seed 7 = .ok (.istore_n 2, 1) := by decide +kernel
theorem dX10_seed_8 : decode cX10_seed 8 = .ok (.aload_n 0, 1) := by decide +kernel
theorem dX10_seed_9 : decode cX10_seed 9 = .ok (.getfield 10, 3) := by decide +kernel
theorem dX10_seed_12 : decode cX10_seed 12 = .ok (.iload_n 1, 1) := by decide +kernel
theorem dX10_seed_13 : decode cX10_seed 13 = .ok (.putfield 297, 3) := by decide +kernel
theorem dX10_seed_16 : decode cX10_seed 16 = .ok (.iload_n 2, 1) := by decide +kernel
theorem dX10_seed_17 : decode cX10_seed 17 = .ok (.ireturn, 1) := by decide +kernel
theorem dX10_voice_0 : decode cX10_voice 0 = .ok (.aload_n 0, 1) := by decide +kernel
theorem dX10_voice_1 : decode cX10_voice 1 = .ok (.getfield 10, 3) := by decide +kernel
theorem dX10_voice_4 : decode cX10_voice 4 = .ok (.getfield 77, 3) := by decide +kernel
theorem dX10_voice_7 : decode cX10_voice 7 = .ok (.iload_n 1, 1) := by decide +kernel
theorem dX10_voice_8 : decode cX10_voice 8 = .ok (.invokevirtual 137, 3) := by decide +kernel
theorem dX10_voice_11 : decode cX10_voice 11 = .ok (.ifCond .eq 12, 3) := by decide +kernel
theorem dX10_voice_14 : decode cX10_voice 14 = .ok (.iload_n 2, 1) := by decide +kernel
theorem dX10_voice_15 : decode cX10_voice 15 = .ok (.iconst 0, 1) := by decide +kernel
theorem dX10_voice_16 : decode cX10_voice 16 = .ok (.iconst 3, 1) := by decide +kernel
theorem dX10_voice_17 : decode cX10_voice 17 = .ok (.invokestatic 59, 3) := by decide +kernel
theorem dX10_voice_20 : decode cX10_voice 20 = .ok (.ifCond .ne 9, 3) := by decide +kernel
theorem dX10_voice_23 : decode cX10_voice 23 = .ok (.aload_n 0, 1) := by decide +kernel
theorem dX10_voice_24 : decode cX10_voice 24 = .ok (.iconst 1, 1) := by decide +kernel
theorem dX10_voice_25 : decode cX10_voice 25 = .ok (.invokevirtual 63, 3) := by decide +kernel
theorem dX10_voice_28 : decode cX10_voice 28 = .ok (.ireturn, 1) := by decide +kernel
theorem dX10_voice_29 : decode cX10_voice 29 = .ok (.aload_n 0, 1) := by decide +kernel
theorem dX10_voice_30 : decode cX10_voice 30 = .ok (.getfield 29, 3) := by decide +kernel
theorem dX10_voice_33 : decode cX10_voice 33 = .ok (.iload_n 1, 1) := by decide +kernel
theorem dX10_voice_34 : decode cX10_voice 34 = .ok (.aload_n 0, 1) := by decide +kernel
theorem dX10_voice_35 : decode cX10_voice 35 = .ok (.getfield 10, 3) := by decide +kernel
theorem dX10_voice_38 : decode cX10_voice 38 = .ok (.iload_n 1, 1) := by decide +kernel
theorem dX10_voice_39 : decode cX10_voice 39 = .ok (.invokevirtual 138, 3) := by decide +kernel
theorem dX10_voice_42 : decode cX10_voice 42 = .ok (.iload_n 2, 1) := by decide +kernel
theorem dX10_voice_43 : decode cX10_voice 43 = .ok (.iload_n 3, 1) := by decide +kernel
theorem dX10_voice_44 : decode cX10_voice 44 = .ok (.invokevirtual 300, 3) := by decide +kernel
theorem dX10_voice_47 : decode cX10_voice 47 = .ok (.ireturn, 1) := by decide +kernel
theorem dX10_trace_0 : decode cX10_trace 0 = .ok (.aload_n 0, 1) := by decide +kernel
theorem dX10_trace_1 : decode cX10_trace 1 = .ok (.getfield 29, 3) := by decide +kernel
theorem dX10_trace_4 : decode cX10_trace 4 = .ok (.getfield 304, 3) := by decide +kernel
theorem dX10_trace_7 : decode cX10_trace 7 = .ok (.iload_n 1, 1) := by decide +kernel
theorem dX10_trace_8 : decode cX10_trace 8 = .ok (.invokevirtual 307, 3) := by decide +kernel
theorem dX10_trace_11 : decode cX10_trace 11 = .ok (.ifCond .ne 9, 3) := by decide +kernel
theorem dX10_trace_14 : decode cX10_trace 14 = .ok (.aload_n 0, 1) := by decide +kernel
theorem dX10_trace_15 : decode cX10_trace 15 = .ok (.iconst 2, 1) := by decide +kernel
theorem dX10_trace_16 : decode cX10_trace 16 = .ok (.invokevirtual 63, 3) := by decide +kernel
theorem dX10_trace_19 : decode cX10_trace 19 = .ok (.ireturn, 1) := by decide +kernel
theorem dX10_trace_20 : decode cX10_trace 20 = .ok (.aload_n 0, 1) := by decide +kernel
theorem dX10_trace_21 : decode cX10_trace 21 = .ok (.getfield 29, 3) := by decide +kernel
theorem dX10_trace_24 : decode cX10_trace 24 = .ok (.getfield 304, 3) := by decide +kernel
theorem dX10_trace_27 : decode cX10_trace 27 = .ok (.iload_n 1, 1) := by decide +kernel
theorem dX10_trace_28 : decode cX10_trace 28 = .ok (.invokevirtual 108, 3) := by decide +kernel
theorem dX10_trace_31 : decode cX10_trace 31 = .ok (.ireturn, 1) := by decide +kernel
theorem dX10_sheet_0 : decode cX10_sheet 0 = .ok (.aload_n 0, 1) := by decide +kernel
theorem dX10_sheet_1 : decode cX10_sheet 1 = .ok (.iload_n 1, 1) := by decide +kernel
theorem dX10_sheet_2 : decode cX10_sheet 2 = .ok (.invokevirtual 284, 3) := by decide +kernel
theorem dX10_sheet_5 : decode cX10_sheet 5 = .ok (.astore 4, 2) := by decide +kernel
theorem dX10_sheet_7 : decode cX10_sheet 7 = .ok (.aload 4, 2) := by decide +kernel
theorem dX10_sheet_9 : decode cX10_sheet 9 = .ok (.ifnull 25, 3) := by decide +kernel
theorem dX10_sheet_12 : decode cX10_sheet 12 = .ok (.iload_n 2, 1) := by decide +kernel
theorem dX10_sheet_13 : decode cX10_sheet 13 = .ok (.ifCond .eq 27, 3) := by decide +kernel
theorem dX10_sheet_16 : decode cX10_sheet 16 = .ok (.iload_n 2, 1) := by decide +kernel
theorem dX10_sheet_17 : decode cX10_sheet 17 = .ok (.bipush 8, 2) := by decide +kernel
theorem dX10_sheet_19 : decode cX10_sheet 19 = .ok (.if_icmp .eq 21, 3) := by decide +kernel
theorem dX10_sheet_22 : decode cX10_sheet 22 = .ok (.iload_n 2, 1) := by decide +kernel
theorem dX10_sheet_23 : decode cX10_sheet 23 = .ok (.bipush 16, 2) := by decide +kernel
theorem dX10_sheet_25 : decode cX10_sheet 25 = .ok (.if_icmp .eq 15, 3) := by decide +kernel
theorem dX10_sheet_28 : decode cX10_sheet 28 = .ok (.iload_n 2, 1) := by decide +kernel
theorem dX10_sheet_29 : decode cX10_sheet 29 = .ok (.bipush 32, 2) := by decide +kernel
theorem dX10_sheet_31 : decode cX10_sheet 31 = .ok (.if_icmp .eq 9, 3) := by decide +kernel
theorem dX10_sheet_34 : decode cX10_sheet 34 = .ok (.aload_n 0, 1) := by decide +kernel
theorem dX10_sheet_35 : decode cX10_sheet 35 = .ok (.iconst 1, 1) := by decide +kernel
theorem dX10_sheet_36 : decode cX10_sheet 36 = .ok (.invokevirtual 63, 3) := by decide +kernel
theorem dX10_sheet_39 : decode cX10_sheet 39 = .ok (.ireturn, 1) := by decide +kernel
theorem dX10_sheet_40 : decode cX10_sheet 40 = .ok (.iload_n 2, 1) := by decide +kernel
theorem dX10_sheet_41 : decode cX10_sheet 41 = .ok (.ifCond .eq 13, 3) := by decide +kernel
theorem dX10_sheet_44 : decode cX10_sheet 44 = .ok (.iload_n 3, 1) := by decide +kernel
theorem dX10_sheet_45 : decode cX10_sheet 45 = .ok (.ifCond .ge 9, 3) := by decide +kernel
theorem dX10_sheet_48 : decode cX10_sheet 48 = .ok (.aload_n 0, 1) := by decide +kernel
theorem dX10_sheet_49 : decode cX10_sheet 49 = .ok (.iconst 3, 1) := by decide +kernel
theorem dX10_sheet_50 : decode cX10_sheet 50 = .ok (.invokevirtual 63, 3) := by decide +kernel
theorem dX10_sheet_53 : decode cX10_sheet 53 = .ok (.ireturn, 1) := by decide +kernel
theorem dX10_sheet_54 : decode cX10_sheet 54 = .ok (.iload_n 2, 1) := by decide +kernel
theorem dX10_sheet_55 : decode cX10_sheet 55 = .ok (.ifCond .eq 15, 3) := by decide +kernel
theorem dX10_sheet_58 : decode cX10_sheet 58 = .ok (.iload_n 3, 1) := by decide +kernel
theorem dX10_sheet_59 : decode cX10_sheet 59 = .ok (.bipush 40, 2) := by decide +kernel
theorem dX10_sheet_61 : decode cX10_sheet 61 = .ok (.if_icmp .le 9, 3) := by decide +kernel
theorem dX10_sheet_64 : decode cX10_sheet 64 = .ok (.aload_n 0, 1) := by decide +kernel
theorem dX10_sheet_65 : decode cX10_sheet 65 = .ok (.iconst 1, 1) := by decide +kernel
theorem dX10_sheet_66 : decode cX10_sheet 66 = .ok (.invokevirtual 63, 3) := by decide +kernel
theorem dX10_sheet_69 : decode cX10_sheet 69 = .ok (.ireturn, 1) := by decide +kernel
theorem dX10_sheet_70 : decode cX10_sheet 70 = .ok (.aload 4, 2) := by decide +kernel
theorem dX10_sheet_72 : decode cX10_sheet 72 = .ok (.iload_n 2, 1) := by decide +kernel
theorem dX10_sheet_73 : decode cX10_sheet 73 = .ok (.putfield 308, 3) := by decide +kernel
theorem dX10_sheet_76 : decode cX10_sheet 76 = .ok (.aload 4, 2) := by decide +kernel
theorem dX10_sheet_78 : decode cX10_sheet 78 = .ok (.getfield 311, 3) := by decide +kernel
theorem dX10_sheet_81 : decode cX10_sheet 81 = .ok (.iload_n 2, 1) := by decide +kernel
theorem dX10_sheet_82 : decode cX10_sheet 82 = .ok (.ifCond .ne 7, 3) := by decide +kernel
theorem dX10_sheet_85 : decode cX10_sheet 85 = .ok (.iconst 0, 1) := by decide +kernel
theorem dX10_sheet_86 : decode cX10_sheet 86 = .ok (.goto 4, 3) := by decide +kernel
theorem dX10_sheet_89 : decode cX10_sheet 89 = .ok (.iload_n 3, 1) := by decide +kernel
theorem dX10_sheet_90 : decode cX10_sheet 90 = .ok (.invokevirtual 56, 3) := by decide +kernel
theorem dX10_sheet_93 : decode cX10_sheet 93 = .ok (.iconst 1, 1) := by decide +kernel
theorem dX10_sheet_94 : decode cX10_sheet 94 = .ok (.ireturn, 1) := by decide +kernel
theorem dX10_put_0 : decode cX10_put 0 = .ok (.aload_n 0, 1) := by decide +kernel
theorem dX10_put_1 : decode cX10_put 1 = .ok (.iload_n 1, 1) := by decide +kernel
theorem dX10_put_2 : decode cX10_put 2 = .ok (.invokevirtual 284, 3) := by decide +kernel
theorem dX10_put_5 : decode cX10_put 5 = .ok (.astore 4, 2) := by decide +kernel
theorem dX10_put_7 : decode cX10_put 7 = .ok (.aload 4, 2) := by decide +kernel
theorem dX10_put_9 : decode cX10_put 9 = .ok (.ifnonnull 9, 3) := by decide +kernel
theorem dX10_put_12 : decode cX10_put 12 = .ok (.aload_n 0, 1) := by decide +kernel
theorem dX10_put_13 : decode cX10_put 13 = .ok (.iconst 1, 1) := by decide +kernel
theorem dX10_put_14 : decode cX10_put 14 = .ok (.invokevirtual 63, 3) := by decide +kernel
theorem dX10_put_17 : decode cX10_put 17 = .ok (.ireturn, 1) := by decide +kernel
theorem dX10_put_18 : decode cX10_put 18 = .ok (.aload 4, 2) := by decide +kernel
theorem dX10_put_20 : decode cX10_put 20 = .ok (.invokevirtual 314, 3) := by decide +kernel
theorem dX10_put_23 : decode cX10_put 23 = .ok (.ifCond .eq 9, 3) := by decide +kernel
theorem dX10_put_26 : decode cX10_put 26 = .ok (.aload_n 0, 1) := by decide +kernel
theorem dX10_put_27 : decode cX10_put 27 = .ok (.iconst 2, 1) := by decide +kernel
theorem dX10_put_28 : decode cX10_put 28 = .ok (.invokevirtual 63, 3) := by decide +kernel
theorem dX10_put_31 : decode cX10_put 31 = .ok (.ireturn, 1) := by decide +kernel
theorem dX10_put_32 : decode cX10_put 32 = .ok (.aload 4, 2) := by decide +kernel
theorem dX10_put_34 : decode cX10_put 34 = .ok (.getfield 311, 3) := by decide +kernel
theorem dX10_put_37 : decode cX10_put 37 = .ok (.iload_n 2, 1) := by decide +kernel
theorem dX10_put_38 : decode cX10_put 38 = .ok (.invokevirtual 307, 3) := by decide +kernel
theorem dX10_put_41 : decode cX10_put 41 = .ok (.ifCond .ne 9, 3) := by decide +kernel
theorem dX10_put_44 : decode cX10_put 44 = .ok (.aload_n 0, 1) := by decide +kernel
theorem dX10_put_45 : decode cX10_put 45 = .ok (.iconst 1, 1) := by decide +kernel
theorem dX10_put_46 : decode cX10_put 46 = .ok (.invokevirtual 63, 3) := by decide +kernel
theorem dX10_put_49 : decode cX10_put 49 = .ok (.ireturn, 1) := by decide +kernel
theorem dX10_put_50 : decode cX10_put 50 = .ok (.aload 4, 2) := by decide +kernel
theorem dX10_put_52 : decode cX10_put 52 = .ok (.getfield 311, 3) := by decide +kernel
theorem dX10_put_55 : decode cX10_put 55 = .ok (.iload_n 2, 1) := by decide +kernel
theorem dX10_put_56 : decode cX10_put 56 = .ok (.aload 4, 2) := by decide +kernel
theorem dX10_put_58 : decode cX10_put 58 = .ok (.iload_n 3, 1) := by decide +kernel
theorem dX10_put_59 : decode cX10_put 59 = .ok (.invokevirtual 318, 3) := by decide +kernel
theorem dX10_put_62 : decode cX10_put 62 = .ok (.invokevirtual 175, 3) := by decide +kernel
theorem dX10_put_65 : decode cX10_put 65 = .ok (.iconst 1, 1) := by decide +kernel
theorem dX10_put_66 : decode cX10_put 66 = .ok (.ireturn, 1) := by decide +kernel
theorem dX10_move_0 : decode cX10_move 0 = .ok (.aload_n 0, 1) := by decide +kernel
theorem dX10_move_1 : decode cX10_move 1 = .ok (.iload_n 1, 1) := by decide +kernel
theorem dX10_move_2 : decode cX10_move 2 = .ok (.invokevirtual 284, 3) := by decide +kernel
theorem dX10_move_5 : decode cX10_move 5 = .ok (.astore 6, 2) := by decide +kernel
theorem dX10_move_7 : decode cX10_move 7 = .ok (.aload_n 0, 1) := by decide +kernel
theorem dX10_move_8 : decode cX10_move 8 = .ok (.iload_n 3, 1) := by decide +kernel
theorem dX10_move_9 : decode cX10_move 9 = .ok (.invokevirtual 284, 3) := by decide +kernel
theorem dX10_move_12 : decode cX10_move 12 = .ok (.astore 7, 2) := by decide +kernel
theorem dX10_move_14 : decode cX10_move 14 = .ok (.aload 6, 2) := by decide +kernel
theorem dX10_move_16 : decode cX10_move 16 = .ok (.ifnull 8, 3) := by decide +kernel
theorem dX10_move_19 : decode cX10_move 19 = .ok (.aload 7, 2) := by decide +kernel
theorem dX10_move_21 : decode cX10_move 21 = .ok (.ifnonnull 9, 3) := by decide +kernel
theorem dX10_move_24 : decode cX10_move 24 = .ok (.aload_n 0, 1) := by decide +kernel
theorem dX10_move_25 : decode cX10_move 25 = .ok (.iconst 1, 1) := by decide +kernel
theorem dX10_move_26 : decode cX10_move 26 = .ok (.invokevirtual 63, 3) := by decide +kernel
theorem dX10_move_29 : decode cX10_move 29 = .ok (.ireturn, 1) := by decide +kernel
theorem dX10_move_30 : decode cX10_move 30 = .ok (.aload 6, 2) := by decide +kernel
theorem dX10_move_32 : decode cX10_move 32 = .ok (.invokevirtual 314, 3) := by decide +kernel
theorem dX10_move_35 : decode cX10_move 35 = .ok (.ifCond .ne 11, 3) := by decide +kernel
theorem dX10_move_38 : decode cX10_move 38 = .ok (.aload 7, 2) := by decide +kernel
theorem dX10_move_40 : decode cX10_move 40 = .ok (.invokevirtual 314, 3) := by decide +kernel
theorem dX10_move_43 : decode cX10_move 43 = .ok (.ifCond .eq 9, 3) := by decide +kernel
theorem dX10_move_46 : decode cX10_move 46 = .ok (.aload_n 0, 1) := by decide +kernel
theorem dX10_move_47 : decode cX10_move 47 = .ok (.iconst 2, 1) := by decide +kernel
theorem dX10_move_48 : decode cX10_move 48 = .ok (.invokevirtual 63, 3) := by decide +kernel
theorem dX10_move_51 : decode cX10_move 51 = .ok (.ireturn, 1) := by decide +kernel
theorem dX10_move_52 : decode cX10_move 52 = .ok (.aload 6, 2) := by decide +kernel
theorem dX10_move_54 : decode cX10_move 54 = .ok (.getfield 308, 3) := by decide +kernel
theorem dX10_move_57 : decode cX10_move 57 = .ok (.aload 7, 2) := by decide +kernel
theorem dX10_move_59 : decode cX10_move 59 = .ok (.getfield 308, 3) := by decide +kernel
theorem dX10_move_62 : decode cX10_move 62 = .ok (.if_icmp .eq 9, 3) := by decide +kernel
theorem dX10_move_65 : decode cX10_move 65 = .ok (.aload_n 0, 1) := by decide +kernel
theorem dX10_move_66 : decode cX10_move 66 = .ok (.iconst 5, 1) := by decide +kernel
theorem dX10_move_67 : decode cX10_move 67 = .ok (.invokevirtual 63, 3) := by decide +kernel
theorem dX10_move_70 : decode cX10_move 70 = .ok (.ireturn, 1) := by decide +kernel
theorem dX10_move_71 : decode cX10_move 71 = .ok (.aload 6, 2) := by decide +kernel
theorem dX10_move_73 : decode cX10_move 73 = .ok (.getfield 311, 3) := by decide +kernel
theorem dX10_move_76 : decode cX10_move 76 = .ok (.iload_n 2, 1) := by decide +kernel
theorem dX10_move_77 : decode cX10_move 77 = .ok (.iload 5, 2) := by decide +kernel
theorem dX10_move_79 : decode cX10_move 79 = .ok (.invokevirtual 321, 3) := by decide +kernel
theorem dX10_move_82 : decode cX10_move 82 = .ok (.ifCond .eq 18, 3) := by decide +kernel
theorem dX10_move_85 : decode cX10_move 85 = .ok (.aload 7, 2) := by decide +kernel
theorem dX10_move_87 : decode cX10_move 87 = .ok (.getfield 311, 3) := by decide +kernel
theorem dX10_move_90 : decode cX10_move 90 = .ok (.iload 4, 2) := by decide +kernel
theorem dX10_move_92 : decode cX10_move 92 = .ok (.iload 5, 2) := by decide +kernel
theorem dX10_move_94 : decode cX10_move 94 = .ok (.invokevirtual 321, 3) := by decide +kernel
theorem dX10_move_97 : decode cX10_move 97 = .ok (.ifCond .ne 9, 3) := by decide +kernel
theorem dX10_move_100 : decode cX10_move 100 = .ok (.aload_n 0, 1) := by decide +kernel
theorem dX10_move_101 : decode cX10_move 101 = .ok (.iconst 1, 1) := by decide +kernel
theorem dX10_move_102 : decode cX10_move 102 = .ok (.invokevirtual 63, 3) := by decide +kernel
theorem dX10_move_105 : decode cX10_move 105 = .ok (.ireturn, 1) := by decide +kernel
theorem dX10_move_106 : decode cX10_move 106 = .ok (.aload_n 0, 1) := by decide +kernel
theorem dX10_move_107 : decode cX10_move 107 = .ok (.getfield 44, 3) := by decide +kernel
theorem dX10_move_110 : decode cX10_move 110 = .ok (.aload 6, 2) := by decide +kernel
theorem dX10_move_112 : decode cX10_move 112 = .ok (.getfield 311, 3) := by decide +kernel
theorem dX10_move_115 : decode cX10_move 115 = .ok (.invokevirtual 235, 3) := by decide +kernel
theorem dX10_move_118 : decode cX10_move 118 = .ok (.iconst 0, 1) := by decide +kernel
theorem dX10_move_119 : decode cX10_move 119 = .ok (.istore 8, 2) := by decide +kernel
theorem dX10_move_121 : decode cX10_move 121 = .ok (.iload 8, 2) := by decide +kernel
theorem dX10_move_123 : decode cX10_move 123 = .ok (.iload 5, 2) := by decide +kernel
theorem dX10_move_125 : decode cX10_move 125 = .ok (.if_icmp .ge 33, 3) := by decide +kernel
theorem dX10_move_128 : decode cX10_move 128 = .ok (.aload 7, 2) := by decide +kernel
theorem dX10_move_130 : decode cX10_move 130 = .ok (.getfield 311, 3) := by decide +kernel
theorem dX10_move_133 : decode cX10_move 133 = .ok (.iload 4, 2) := by decide +kernel
theorem dX10_move_135 : decode cX10_move 135 = .ok (.iload 8, 2) := by decide +kernel
theorem dX10_move_137 : decode cX10_move 137 = .ok (.iadd, 1) := by decide +kernel
theorem dX10_move_138 : decode cX10_move 138 = .ok (.aload_n 0, 1) := by decide +kernel
theorem dX10_move_139 : decode cX10_move 139 = .ok (.getfield 44, 3) := by decide +kernel
theorem dX10_move_142 : decode cX10_move 142 = .ok (.iload_n 2, 1) := by decide +kernel
theorem dX10_move_143 : decode cX10_move 143 = .ok (.iload 8, 2) := by decide +kernel
theorem dX10_move_145 : decode cX10_move 145 = .ok (.iadd, 1) := by decide +kernel
theorem dX10_move_146 : decode cX10_move 146 = .ok (.invokevirtual 108, 3) := by decide +kernel
theorem dX10_move_149 : decode cX10_move 149 = .ok (.invokevirtual 175, 3) := by decide +kernel
theorem dX10_move_152 : decode cX10_move 152 = .ok (.iinc 8 1, 3) := by decide +kernel
theorem dX10_move_155 : decode cX10_move 155 = .ok (.goto (-34), 3) := by decide +kernel
theorem dX10_move_158 : decode cX10_move 158 = .ok (.iload 5, 2) := by decide +kernel
theorem dX10_move_160 : decode cX10_move 160 = .ok (.ireturn, 1) := by decide +kernel
theorem dX10_palates_0 : decode cX10_palates 0 = .ok (.aload_n 0, 1) := by decide +kernel
theorem dX10_palates_1 : decode cX10_palates 1 = .ok (.iload_n 1, 1) := by decide +kernel
theorem dX10_palates_2 : decode cX10_palates 2 = .ok (.invokevirtual 284, 3) := by decide +kernel
theorem dX10_palates_5 : decode cX10_palates 5 = .ok (.astore_n 2, 1) := by decide +kernel
theorem dX10_palates_6 : decode cX10_palates 6 = .ok (.aload_n 2, 1) := by decide +kernel
theorem dX10_palates_7 : decode cX10_palates 7 = .ok (.ifnonnull 9, 3) := by decide +kernel
theorem dX10_palates_10 : decode cX10_palates 10 = .ok (.aload_n 0, 1) := by decide +kernel
theorem dX10_palates_11 : decode cX10_palates 11 = .ok (.iconst 1, 1) := by decide +kernel
theorem dX10_palates_12 : decode cX10_palates 12 = .ok (.invokevirtual 63, 3) := by decide +kernel
theorem dX10_palates_15 : decode cX10_palates 15 = .ok (.ireturn, 1) := by decide +kernel
theorem dX10_palates_16 : decode cX10_palates 16 = .ok (.aload_n 2, 1) := by decide +kernel
theorem dX10_palates_17 : decode cX10_palates 17 = .ok (.invokevirtual 314, 3) := by decide +kernel
theorem dX10_palates_20 : decode cX10_palates 20 = .ok (.ifCond .eq 9, 3) := by decide +kernel
theorem dX10_palates_23 : decode cX10_palates 23 = .ok (.aload_n 0, 1) := by decide +kernel
theorem dX10_palates_24 : decode cX10_palates 24 = .ok (.iconst 2, 1) := by decide +kernel
theorem dX10_palates_25 : decode cX10_palates 25 = .ok (.invokevirtual 63, 3) := by decide +kernel
theorem dX10_palates_28 : decode cX10_palates 28 = .ok (.ireturn, 1) := by decide +kernel
theorem dX10_palates_29 : decode cX10_palates 29 = .ok (.aload_n 2, 1) := by decide +kernel
theorem dX10_palates_30 : decode cX10_palates 30 = .ok (.getfield 311, 3) := by decide +kernel
theorem dX10_palates_33 : decode cX10_palates 33 = .ok (.invokevirtual 211, 3) := by decide +kernel
theorem dX10_palates_36 : decode cX10_palates 36 = .ok (.aload_n 0, 1) := by decide +kernel
theorem dX10_palates_37 : decode cX10_palates 37 = .ok (.getfield 10, 3) := by decide +kernel
theorem dX10_palates_40 : decode cX10_palates 40 = .ok (.getfield 84, 3) := by decide +kernel
theorem dX10_palates_43 : decode cX10_palates 43 = .ok (.invokevirtual 88, 3) := by decide +kernel
theorem dX10_palates_46 : decode cX10_palates 46 = .ok (.invokestatic 324, 3) := by decide +kernel
theorem dX10_palates_49 : decode cX10_palates 49 = .ok (.istore_n 3, 1) := by decide +kernel
theorem dX10_palates_50 : decode cX10_palates 50 = .ok (.iconst 0, 1) := by decide +kernel
theorem dX10_palates_51 : decode cX10_palates 51 = .ok (.istore 4, 2) := by decide +kernel
theorem dX10_palates_53 : decode cX10_palates 53 = .ok (.iload 4, 2) := by decide +kernel
theorem dX10_palates_55 : decode cX10_palates 55 = .ok (.iload_n 3, 1) := by decide +kernel
theorem dX10_palates_56 : decode cX10_palates 56 = .ok (.if_icmp .ge 51, 3) := by decide +kernel
theorem dX10_palates_59 : decode cX10_palates 59 = .ok (.aload_n 2, 1) := by decide +kernel
theorem dX10_palates_60 : decode cX10_palates 60 = .ok (.getfield 311, 3) := by decide +kernel
theorem dX10_palates_63 : decode cX10_palates 63 = .ok (.iload 4, 2) := by decide +kernel
theorem dX10_palates_65 : decode cX10_palates 65 = .ok (.invokevirtual 108, 3) := by decide +kernel
theorem dX10_palates_68 : decode cX10_palates 68 = .ok (.istore 5, 2) := by decide +kernel
theorem dX10_palates_70 : decode cX10_palates 70 = .ok (.iload 5, 2) := by decide +kernel
theorem dX10_palates_72 : decode cX10_palates 72 = .ok (.iconst 0, 1) := by decide +kernel
theorem dX10_palates_73 : decode cX10_palates 73 = .ok (.bipush 99, 2) := by decide +kernel
theorem dX10_palates_75 : decode cX10_palates 75 = .ok (.invokestatic 59, 3) := by decide +kernel
theorem dX10_palates_78 : decode cX10_palates 78 = .ok (.ifCond .ne 6, 3) := by decide +kernel
theorem dX10_palates_81 : decode cX10_palates 81 = .ok (.iload 4, 2) := by decide +kernel
theorem dX10_palates_83 : decode cX10_palates 83 = .ok (.ireturn, 1) := by decide +kernel
theorem dX10_palates_84 : decode cX10_palates 84 = .ok (.aload_n 0, 1) := by decide +kernel
theorem dX10_palates_85 : decode cX10_palates 85 = .ok (.getfield 10, 3) := by decide +kernel
theorem dX10_palates_88 : decode cX10_palates 88 = .ok (.getfield 84, 3) := by decide +kernel
theorem dX10_palates_91 : decode cX10_palates 91 = .ok (.getfield 202, 3) := by decide +kernel
theorem dX10_palates_94 : decode cX10_palates 94 = .ok (.iload 4, 2) := by decide +kernel
theorem dX10_palates_96 : decode cX10_palates 96 = .ok (.iload 5, 2) := by decide +kernel
theorem dX10_palates_98 : decode cX10_palates 98 = .ok (.invokevirtual 175, 3) := by decide +kernel
theorem dX10_palates_101 : decode cX10_palates 101 = .ok (.iinc 4 1, 3) := by decide +kernel
theorem dX10_palates_104 : decode cX10_palates 104 = .ok (.goto (-51), 3) := by decide +kernel
theorem dX10_palates_107 : decode cX10_palates 107 = .ok (.iload_n 3, 1) := by decide +kernel
theorem dX10_palates_108 : decode cX10_palates 108 = .ok (.ireturn, 1) := by decide +kernel
theorem dX10_judge_0 : decode cX10_judge 0 = .ok (.aload_n 0, 1) := by decide +kernel
theorem dX10_judge_1 : decode cX10_judge 1 = .ok (.iload_n 1, 1) := by decide +kernel
theorem dX10_judge_2 : decode cX10_judge 2 = .ok (.invokevirtual 284, 3) := by decide +kernel
theorem dX10_judge_5 : decode cX10_judge 5 = .ok (.astore_n 2, 1) := by decide +kernel
theorem dX10_judge_6 : decode cX10_judge 6 = .ok (.aload_n 2, 1) := by decide +kernel
theorem dX10_judge_7 : decode cX10_judge 7 = .ok (.ifnonnull 9, 3) := by decide +kernel
theorem dX10_judge_10 : decode cX10_judge 10 = .ok (.aload_n 0, 1) := by decide +kernel
theorem dX10_judge_11 : decode cX10_judge 11 = .ok (.iconst 1, 1) := by decide +kernel
theorem dX10_judge_12 : decode cX10_judge 12 = .ok (.invokevirtual 63, 3) := by decide +kernel
theorem dX10_judge_15 : decode cX10_judge 15 = .ok (.ireturn, 1) := by decide +kernel
theorem dX10_judge_16 : decode cX10_judge 16 = .ok (.aload_n 2, 1) := by decide +kernel
theorem dX10_judge_17 : decode cX10_judge 17 = .ok (.invokevirtual 314, 3) := by decide +kernel
theorem dX10_judge_20 : decode cX10_judge 20 = .ok (.ifCond .eq 9, 3) := by decide +kernel
theorem dX10_judge_23 : decode cX10_judge 23 = .ok (.aload_n 0, 1) := by decide +kernel
theorem dX10_judge_24 : decode cX10_judge 24 = .ok (.iconst 2, 1) := by decide +kernel
theorem dX10_judge_25 : decode cX10_judge 25 = .ok (.invokevirtual 63, 3) := by decide +kernel
theorem dX10_judge_28 : decode cX10_judge 28 = .ok (.ireturn, 1) := by decide +kernel
theorem dX10_judge_29 : decode cX10_judge 29 = .ok (.aload_n 2, 1) := by decide +kernel
theorem dX10_judge_30 : decode cX10_judge 30 = .ok (.getfield 311, 3) := by decide +kernel
theorem dX10_judge_33 : decode cX10_judge 33 = .ok (.invokevirtual 211, 3) := by decide +kernel
theorem dX10_judge_36 : decode cX10_judge 36 = .ok (.aload_n 0, 1) := by decide +kernel
theorem dX10_judge_37 : decode cX10_judge 37 = .ok (.getfield 10, 3) := by decide +kernel
theorem dX10_judge_40 : decode cX10_judge 40 = .ok (.getfield 77, 3) := by decide +kernel
theorem dX10_judge_43 : decode cX10_judge 43 = .ok (.invokevirtual 81, 3) := by decide +kernel
theorem dX10_judge_46 : decode cX10_judge 46 = .ok (.invokestatic 324, 3) := by decide +kernel
theorem dX10_judge_49 : decode cX10_judge 49 = .ok (.istore_n 3, 1) := by decide +kernel
theorem dX10_judge_50 : decode cX10_judge 50 = .ok (.iconst 0, 1) := by decide +kernel
theorem dX10_judge_51 : decode cX10_judge 51 = .ok (.istore 4, 2) := by decide +kernel
theorem dX10_judge_53 : decode cX10_judge 53 = .ok (.iload 4, 2) := by decide +kernel
theorem dX10_judge_55 : decode cX10_judge 55 = .ok (.iload_n 3, 1) := by decide +kernel
theorem dX10_judge_56 : decode cX10_judge 56 = .ok (.if_icmp .ge 39, 3) := by decide +kernel
theorem dX10_judge_59 : decode cX10_judge 59 = .ok (.aload_n 2, 1) := by decide +kernel
theorem dX10_judge_60 : decode cX10_judge 60 = .ok (.getfield 311, 3) := by decide +kernel
theorem dX10_judge_63 : decode cX10_judge 63 = .ok (.iload 4, 2) := by decide +kernel
theorem dX10_judge_65 : decode cX10_judge 65 = .ok (.invokevirtual 108, 3) := by decide +kernel
theorem dX10_judge_68 : decode cX10_judge 68 = .ok (.aload_n 0, 1) := by decide +kernel
theorem dX10_judge_69 : decode cX10_judge 69 = .ok (.getfield 10, 3) := by decide +kernel
theorem dX10_judge_72 : decode cX10_judge 72 = .ok (.getfield 77, 3) := by decide +kernel
theorem dX10_judge_75 : decode cX10_judge 75 = .ok (.getfield 172, 3) := by decide +kernel
theorem dX10_judge_78 : decode cX10_judge 78 = .ok (.iload 4, 2) := by decide +kernel
theorem dX10_judge_80 : decode cX10_judge 80 = .ok (.invokevirtual 108, 3) := by decide +kernel
theorem dX10_judge_83 : decode cX10_judge 83 = .ok (.if_icmp .eq 6, 3) := by decide +kernel
theorem dX10_judge_86 : decode cX10_judge 86 = .ok (.iload 4, 2) := by decide +kernel
theorem dX10_judge_88 : decode cX10_judge 88 = .ok (.ireturn, 1) := by decide +kernel
theorem dX10_judge_89 : decode cX10_judge 89 = .ok (.iinc 4 1, 3) := by decide +kernel
theorem dX10_judge_92 : decode cX10_judge 92 = .ok (.goto (-39), 3) := by decide +kernel
theorem dX10_judge_95 : decode cX10_judge 95 = .ok (.aload_n 2, 1) := by decide +kernel
theorem dX10_judge_96 : decode cX10_judge 96 = .ok (.getfield 311, 3) := by decide +kernel
theorem dX10_judge_99 : decode cX10_judge 99 = .ok (.invokevirtual 211, 3) := by decide +kernel
theorem dX10_judge_102 : decode cX10_judge 102 = .ok (.aload_n 0, 1) := by decide +kernel
theorem dX10_judge_103 : decode cX10_judge 103 = .ok (.getfield 10, 3) := by decide +kernel
theorem dX10_judge_106 : decode cX10_judge 106 = .ok (.getfield 77, 3) := by decide +kernel
theorem dX10_judge_109 : decode cX10_judge 109 = .ok (.invokevirtual 81, 3) := by decide +kernel
theorem dX10_judge_112 : decode cX10_judge 112 = .ok (.if_icmp .ne 7, 3) := by decide +kernel
theorem dX10_judge_115 : decode cX10_judge 115 = .ok (.iconst (-1), 1) := by decide +kernel
theorem dX10_judge_116 : decode cX10_judge 116 = .ok (.goto 4, 3) := by decide +kernel
theorem dX10_judge_119 : decode cX10_judge 119 = .ok (.iload_n 3, 1) := by decide +kernel
theorem dX10_judge_120 : decode cX10_judge 120 = .ok (.ireturn, 1) := by decide +kernel
theorem dX10_image_0 : decode cX10_image 0 = .ok (.aload_n 0, 1) := by decide +kernel
theorem dX10_image_1 : decode cX10_image 1 = .ok (.getfield 16, 3) := by decide +kernel
theorem dX10_image_4 : decode cX10_image 4 = .ok (.aload_n 0, 1) := by decide +kernel
theorem dX10_image_5 : decode cX10_image 5 = .ok (.getfield 10, 3) := by decide +kernel
theorem dX10_image_8 : decode cX10_image 8 = .ok (.invokevirtual 329, 3) := by decide +kernel
theorem dX10_image_11 : decode cX10_image 11 = .ok (.aload_n 0, 1) := by decide +kernel
theorem dX10_image_12 : decode cX10_image 12 = .ok (.dup, 1) := by decide +kernel
theorem dX10_image_13 : decode cX10_image 13 = .ok (.getfield 51, 3) := by decide +kernel
theorem dX10_image_16 : decode cX10_image 16 = .ok (.iconst 1, 1) := by decide +kernel
theorem dX10_image_17 : decode cX10_image 17 = .ok (.iadd, 1) := by decide +kernel
theorem dX10_image_18 : decode cX10_image 18 = .ok (.putfield 51, 3) := by decide +kernel
theorem dX10_image_21 : decode cX10_image 21 = .ok (.aload_n 0, 1) := by decide +kernel
theorem dX10_image_22 : decode cX10_image 22 = .ok (.getfield 51, 3) := by decide +kernel
theorem dX10_image_25 : decode cX10_image 25 = .ok (.ireturn, 1) := by decide +kernel
theorem dX10_restore_0 : decode cX10_restore 0 = .ok (.aload_n 0, 1) := by decide +kernel
theorem dX10_restore_1 : decode cX10_restore 1 = .ok (.getfield 51, 3) := by decide +kernel
theorem dX10_restore_4 : decode cX10_restore 4 = .ok (.ifCond .ne 9, 3) := by decide +kernel
theorem dX10_restore_7 : decode cX10_restore 7 = .ok (.aload_n 0, 1) := by decide +kernel
theorem dX10_restore_8 : decode cX10_restore 8 = .ok (.iconst 2, 1) := by decide +kernel
theorem dX10_restore_9 : decode cX10_restore 9 = .ok (.invokevirtual 63, 3) := by decide +kernel
theorem dX10_restore_12 : decode cX10_restore 12 = .ok (.ireturn, 1) := by decide +kernel
theorem dX10_restore_13 : decode cX10_restore 13 = .ok (.aload_n 0, 1) := by decide +kernel
theorem dX10_restore_14 : decode cX10_restore 14 = .ok (.getfield 10, 3) := by decide +kernel
theorem dX10_restore_17 : decode cX10_restore 17 = .ok (.aload_n 0, 1) := by decide +kernel
theorem dX10_restore_18 : decode cX10_restore 18 = .ok (.getfield 16, 3) := by decide +kernel
theorem dX10_restore_21 : decode cX10_restore 21 = .ok (.invokevirtual 329, 3) := by decide +kernel
theorem dX10_restore_24 : decode cX10_restore 24 = .ok (.aload_n 0, 1) := by decide +kernel
theorem dX10_restore_25 : decode cX10_restore 25 = .ok (.getfield 10, 3) := by decide +kernel
theorem dX10_restore_28 : decode cX10_restore 28 = .ok (.getfield 243, 3) := by decide +kernel
theorem dX10_restore_31 : decode cX10_restore 31 = .ok (.ireturn, 1) := by decide +kernel
theorem dX10_tell_0 : decode cX10_tell 0 = .ok (.aload_n 0, 1) := by decide +kernel
theorem dX10_tell_1 : decode cX10_tell 1 = .ok (.getfield 10, 3) := by decide +kernel
theorem dX10_tell_4 : decode cX10_tell 4 = .ok (.getfield 332, 3) := by decide +kernel
theorem dX10_tell_7 : decode cX10_tell 7 = .ok (.invokevirtual 211, 3) := by decide +kernel
theorem dX10_tell_10 : decode cX10_tell 10 = .ok (.bipush 20, 2) := by decide +kernel
theorem dX10_tell_12 : decode cX10_tell 12 = .ok (.if_icmp .lt 9, 3) := by decide +kernel
theorem dX10_tell_15 : decode cX10_tell 15 = .ok (.aload_n 0, 1) := by decide +kernel
theorem dX10_tell_16 : decode cX10_tell 16 = .ok (.iconst 4, 1) := by decide +kernel
theorem dX10_tell_17 : decode cX10_tell 17 = .ok (.invokevirtual 63, 3) := by decide +kernel
theorem dX10_tell_20 : decode cX10_tell 20 = .ok (.ireturn, 1) := by decide +kernel
theorem dX10_tell_21 : decode cX10_tell 21 = .ok (.aload_n 0, 1) := by decide +kernel
theorem dX10_tell_22 : decode cX10_tell 22 = .ok (.getfield 10, 3) := by decide +kernel
theorem dX10_tell_25 : decode cX10_tell 25 = .ok (.getfield 332, 3) := by decide +kernel
theorem dX10_tell_28 : decode cX10_tell 28 = .ok (.iload_n 1, 1) := by decide +kernel
theorem dX10_tell_29 : decode cX10_tell 29 = .ok (.invokevirtual 212, 3) := by decide +kernel
theorem dX10_tell_32 : decode cX10_tell 32 = .ok (.aload_n 0, 1) := by decide +kernel
