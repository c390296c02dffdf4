theorem dX11_change_28 : decode cX11_change 28 = .ok (.iconst 0, 1) := by decide +kernel
theorem dX11_change_29 : decode cX11_change 29 = .ok (.istore 4, 2) := by decide +kernel
theorem dX11_change_31 : decode cX11_change 31 = .ok (.aload_n 0, 1) := by decide +kernel
theorem dX11_change_32 : decode cX11_change 32 = .ok (.iload_n 1, 1) := by decide +kernel
theorem dX11_change_33 : decode cX11_change 33 = .ok (.invokevirtual 215, 3) := by decide +kernel
theorem dX11_change_36 : decode cX11_change 36 = .ok (.ifCond .eq 8, 3) := by decide +kernel
theorem dX11_change_39 : decode cX11_change 39 = .ok (.iload 4, 2) := by decide +kernel
theorem dX11_change_41 : decode cX11_change 41 = .ok (.ifCond .ne 10, 3) := by decide +kernel
theorem dX11_change_44 : decode cX11_change 44 = .ok (.aload_n 0, 1) := by decide +kernel
theorem dX11_change_45 : decode cX11_change 45 = .ok (.ldc 74, 2) := by decide +kernel
theorem dX11_change_47 : decode cX11_change 47 = .ok (.invokevirtual 75, 3) := by decide +kernel
theorem dX11_change_50 : decode cX11_change 50 = .ok (.ireturn, 1) := by decide +kernel
theorem dX11_change_51 : decode cX11_change 51 = .ok (.aload_n 0, 1) := by decide +kernel
theorem dX11_change_52 : decode cX11_change 52 = .ok (.getfield 9, 3) := by decide +kernel
theorem dX11_change_55 : decode cX11_change 55 = .ok (.iload_n 1, 1) := by decide +kernel
theorem dX11_change_56 : decode cX11_change 56 = .ok (.iconst 4, 1) := by decide +kernel
theorem dX11_change_57 : decode cX11_change 57 = .ok (.invokestatic 159, 3) := by decide +kernel
theorem dX11_change_60 : decode cX11_change 60 = .ok (.iload_n 2, 1) := by decide +kernel
theorem dX11_change_61 : decode cX11_change 61 = .ok (.ifCond .ne 7, 3) := by decide +kernel
theorem dX11_change_64 : decode cX11_change 64 = .ok (.iconst 0, 1) := by decide +kernel
theorem dX11_change_65 : decode cX11_change 65 = .ok (.goto 9, 3) := by decide +kernel
theorem dX11_change_68 : decode cX11_change 68 = .ok (.aload_n 0, 1) := by decide +kernel
theorem dX11_change_69 : decode cX11_change 69 = .ok (.iload_n 1, 1) := by decide +kernel
theorem dX11_change_70 : decode cX11_change 70 = .ok (.iconst 4, 1) := by decide +kernel
theorem dX11_change_71 : decode cX11_change 71 = .ok (.invokevirtual 193, 3) := by decide +kernel
theorem dX11_change_74 : decode cX11_change 74 = .ok (.iastore, 1) := by decide +kernel
theorem dX11_change_75 : decode cX11_change 75 = .ok (.aload_n 0, 1) := by decide +kernel
theorem dX11_change_76 : decode cX11_change 76 = .ok (.iload_n 1, 1) := by decide +kernel
theorem dX11_change_77 : decode cX11_change 77 = .ok (.iload_n 2, 1) := by decide +kernel
theorem dX11_change_78 : decode cX11_change 78 = .ok (.ifCond .ne 7, 3) := by decide +kernel
theorem dX11_change_81 : decode cX11_change 81 = .ok (.iconst 2, 1) := by decide +kernel
theorem dX11_change_82 : decode cX11_change 82 = .ok (.goto 4, 3) := by decide +kernel
theorem dX11_change_85 : decode cX11_change 85 = .ok (.iconst 3, 1) := by decide +kernel
theorem dX11_change_86 : decode cX11_change 86 = .ok (.invokestatic 159, 3) := by decide +kernel
theorem dX11_change_89 : decode cX11_change 89 = .ok (.iload_n 3, 1) := by decide +kernel
theorem dX11_change_90 : decode cX11_change 90 = .ok (.invokevirtual 166, 3) := by decide +kernel
theorem dX11_change_93 : decode cX11_change 93 = .ok (.ireturn, 1) := by decide +kernel
theorem dX11_become_0 : decode cX11_become 0 = .ok (.aload_n 0, 1) := by decide +kernel
theorem dX11_become_1 : decode cX11_become 1 = .ok (.iload_n 1, 1) := by decide +kernel
theorem dX11_become_2 : decode cX11_become 2 = .ok (.invokevirtual 215, 3) := by decide +kernel
theorem dX11_become_5 : decode cX11_become 5 = .ok (.ifCond .eq 10, 3) := by decide +kernel
theorem dX11_become_8 : decode cX11_become 8 = .ok (.iload_n 2, 1) := by decide +kernel
theorem dX11_become_9 : decode cX11_become 9 = .ok (.invokestatic 181, 3) := by decide +kernel
theorem dX11_become_12 : decode cX11_become 12 = .ok (.ifCond .ne 10, 3) := by decide +kernel
theorem dX11_become_15 : decode cX11_become 15 = .ok (.aload_n 0, 1) := by decide +kernel
theorem dX11_become_16 : decode cX11_become 16 = .ok (.ldc 74, 2) := by decide +kernel
theorem dX11_become_18 : decode cX11_become 18 = .ok (.invokevirtual 75, 3) := by decide +kernel
theorem dX11_become_21 : decode cX11_become 21 = .ok (.ireturn, 1) := by decide +kernel
theorem dX11_become_22 : decode cX11_become 22 = .ok (.aload_n 0, 1) := by decide +kernel
theorem dX11_become_23 : decode cX11_become 23 = .ok (.getfield 9, 3) := by decide +kernel
theorem dX11_become_26 : decode cX11_become 26 = .ok (.iload_n 1, 1) := by decide +kernel
theorem dX11_become_27 : decode cX11_become 27 = .ok (.iconst 1, 1) := by decide +kernel
theorem dX11_become_28 : decode cX11_become 28 = .ok (.invokestatic 159, 3) := by decide +kernel
theorem dX11_become_31 : decode cX11_become 31 = .ok (.iload_n 2, 1) := by decide +kernel
theorem dX11_become_32 : decode cX11_become 32 = .ok (.bipush 10, 2) := by decide +kernel
theorem dX11_become_34 : decode cX11_become 34 = .ok (.irem, 1) := by decide +kernel
theorem dX11_become_35 : decode cX11_become 35 = .ok (.iastore, 1) := by decide +kernel
theorem dX11_become_36 : decode cX11_become 36 = .ok (.aload_n 0, 1) := by decide +kernel
theorem dX11_become_37 : decode cX11_become 37 = .ok (.iload_n 1, 1) := by decide +kernel
theorem dX11_become_38 : decode cX11_become 38 = .ok (.iconst 0, 1) := by decide +kernel
theorem dX11_become_39 : decode cX11_become 39 = .ok (.invokestatic 159, 3) := by decide +kernel
theorem dX11_become_42 : decode cX11_become 42 = .ok (.iload_n 2, 1) := by decide +kernel
theorem dX11_become_43 : decode cX11_become 43 = .ok (.bipush 10, 2) := by decide +kernel
theorem dX11_become_45 : decode cX11_become 45 = .ok (.idiv, 1) := by decide +kernel
theorem dX11_become_46 : decode cX11_become 46 = .ok (.invokevirtual 166, 3) := by decide +kernel
theorem dX11_become_49 : decode cX11_become 49 = .ok (.ireturn, 1) := by decide +kernel
theorem dX11_as_0 : decode cX11_as 0 = .ok (.aload_n 0, 1) := by decide +kernel
theorem dX11_as_1 : decode cX11_as 1 = .ok (.iload_n 1, 1) := by decide +kernel
theorem dX11_as_2 : decode cX11_as 2 = .ok (.invokevirtual 215, 3) := by decide +kernel
theorem dX11_as_5 : decode cX11_as 5 = .ok (.ifCond .eq 13, 3) := by decide +kernel
theorem dX11_as_8 : decode cX11_as 8 = .ok (.iload_n 2, 1) := by decide +kernel
theorem dX11_as_9 : decode cX11_as 9 = .ok (.iconst 0, 1) := by decide +kernel
theorem dX11_as_10 : decode cX11_as 10 = .ok (.bipush 6, 2) := by decide +kernel
theorem dX11_as_12 : decode cX11_as 12 = .ok (.invokestatic 70, 3) := by decide +kernel
theorem dX11_as_15 : decode cX11_as 15 = .ok (.ifCond .ne 10, 3) := by decide +kernel
theorem dX11_as_18 : decode cX11_as 18 = .ok (.aload_n 0, 1) := by decide +kernel
theorem dX11_as_19 : decode cX11_as 19 = .ok (.ldc 74, 2) := by decide +kernel
theorem dX11_as_21 : decode cX11_as 21 = .ok (.invokevirtual 75, 3) := by decide +kernel
theorem dX11_as_24 : decode cX11_as 24 = .ok (.ireturn, 1) := by decide +kernel
theorem dX11_as_25 : decode cX11_as 25 = .ok (.aload_n 0, 1) := by decide +kernel
theorem dX11_as_26 : decode cX11_as 26 = .ok (.iload_n 1, 1) := by decide +kernel
theorem dX11_as_27 : decode cX11_as 27 = .ok (.iconst 0, 1) := by decide +kernel
theorem dX11_as_28 : decode cX11_as 28 = .ok (.invokevirtual 193, 3) := by decide +kernel
theorem dX11_as_31 : decode cX11_as 31 = .ok (.iload_n 2, 1) := by decide +kernel
theorem dX11_as_32 : decode cX11_as 32 = .ok (.invokestatic 212, 3) := by decide +kernel
theorem dX11_as_35 : decode cX11_as 35 = .ok (.ifCond .eq 12, 3) := by decide +kernel
theorem dX11_as_38 : decode cX11_as 38 = .ok (.aload_n 0, 1) := by decide +kernel
theorem dX11_as_39 : decode cX11_as 39 = .ok (.iload_n 1, 1) := by decide +kernel
theorem dX11_as_40 : decode cX11_as 40 = .ok (.iconst 1, 1) := by decide +kernel
theorem dX11_as_41 : decode cX11_as 41 = .ok (.invokevirtual 193, 3) := by decide +kernel
theorem dX11_as_44 : decode cX11_as 44 = .ok (.goto 9, 3) := by decide +kernel
theorem dX11_as_47 : decode cX11_as 47 = .ok (.aload_n 0, 1) := by decide +kernel
theorem dX11_as_48 : decode cX11_as 48 = .ok (.ldc 224, 2) := by decide +kernel
theorem dX11_as_50 : decode cX11_as 50 = .ok (.invokevirtual 75, 3) := by decide +kernel
theorem dX11_as_53 : decode cX11_as 53 = .ok (.ireturn, 1) := by decide +kernel
theorem dX11_folkComes_0 : decode cX11_folkComes 0 = .ok (.aload_n 0, 1) := by decide +kernel
theorem dX11_folkComes_1 : decode cX11_folkComes 1 = .ok (.getfield 9, 3) := by decide +kernel
theorem dX11_folkComes_4 : decode cX11_folkComes 4 = .ok (.iconst 4, 1) := by decide +kernel
theorem dX11_folkComes_5 : decode cX11_folkComes 5 = .ok (.iaload, 1) := by decide +kernel
theorem dX11_folkComes_6 : decode cX11_folkComes 6 = .ok (.istore_n 3, 1) := by decide +kernel
theorem dX11_folkComes_7 : decode cX11_folkComes 7 = .ok (.aload_n 0, 1) := by decide +kernel
theorem dX11_folkComes_8 : decode cX11_folkComes 8 = .ok (.getfield 9, 3) := by decide +kernel
theorem dX11_folkComes_11 : decode cX11_folkComes 11 = .ok (.iload_n 3, 1) := by decide +kernel
theorem dX11_folkComes_12 : decode cX11_folkComes 12 = .ok (.iconst 0, 1) := by decide +kernel
theorem dX11_folkComes_13 : decode cX11_folkComes 13 = .ok (.invokestatic 162, 3) := by decide +kernel
theorem dX11_folkComes_16 : decode cX11_folkComes 16 = .ok (.iload_n 1, 1) := by decide +kernel
theorem dX11_folkComes_17 : decode cX11_folkComes 17 = .ok (.iastore, 1) := by decide +kernel
theorem dX11_folkComes_18 : decode cX11_folkComes 18 = .ok (.aload_n 0, 1) := by decide +kernel
theorem dX11_folkComes_19 : decode cX11_folkComes 19 = .ok (.getfield 9, 3) := by decide +kernel
theorem dX11_folkComes_22 : decode cX11_folkComes 22 = .ok (.iload_n 3, 1) := by decide +kernel
theorem dX11_folkComes_23 : decode cX11_folkComes 23 = .ok (.iconst 1, 1) := by decide +kernel
theorem dX11_folkComes_24 : decode cX11_folkComes 24 = .ok (.invokestatic 162, 3) := by decide +kernel
theorem dX11_folkComes_27 : decode cX11_folkComes 27 = .ok (.iload_n 2, 1) := by decide +kernel
theorem dX11_folkComes_28 : decode cX11_folkComes 28 = .ok (.iastore, 1) := by decide +kernel
theorem dX11_folkComes_29 : decode cX11_folkComes 29 = .ok (.aload_n 0, 1) := by decide +kernel
theorem dX11_folkComes_30 : decode cX11_folkComes 30 = .ok (.getfield 9, 3) := by decide +kernel
theorem dX11_folkComes_33 : decode cX11_folkComes 33 = .ok (.iload_n 3, 1) := by decide +kernel
theorem dX11_folkComes_34 : decode cX11_folkComes 34 = .ok (.iconst 2, 1) := by decide +kernel
theorem dX11_folkComes_35 : decode cX11_folkComes 35 = .ok (.invokestatic 162, 3) := by decide +kernel
theorem dX11_folkComes_38 : decode cX11_folkComes 38 = .ok (.iconst 0, 1) := by decide +kernel
theorem dX11_folkComes_39 : decode cX11_folkComes 39 = .ok (.iastore, 1) := by decide +kernel
theorem dX11_folkComes_40 : decode cX11_folkComes 40 = .ok (.aload_n 0, 1) := by decide +kernel
theorem dX11_folkComes_41 : decode cX11_folkComes 41 = .ok (.getfield 9, 3) := by decide +kernel
theorem dX11_folkComes_44 : decode cX11_folkComes 44 = .ok (.iconst 4, 1) := by decide +kernel
theorem dX11_folkComes_45 : decode cX11_folkComes 45 = .ok (.dup2, 1) := by decide +kernel
theorem dX11_folkComes_46 : decode cX11_folkComes 46 = .ok (.iaload, 1) := by decide +kernel
theorem dX11_folkComes_47 : decode cX11_folkComes 47 = .ok (.iconst 1, 1) := by decide +kernel
theorem dX11_folkComes_48 : decode cX11_folkComes 48 = .ok (.iadd, 1) := by decide +kernel
theorem dX11_folkComes_49 : decode cX11_folkComes 49 = .ok (.iastore, 1) := by decide +kernel
theorem dX11_folkComes_50 : decode cX11_folkComes 50 = .ok (.iload_n 3, 1) := by decide +kernel
theorem dX11_folkComes_51 : decode cX11_folkComes 51 = .ok (.ireturn, 1) := by decide +kernel
theorem dX11_folk_0 : decode cX11_folk 0 = .ok (.aload_n 0, 1) := by decide +kernel
theorem dX11_folk_1 : decode cX11_folk 1 = .ok (.iload_n 1, 1) := by decide +kernel
theorem dX11_folk_2 : decode cX11_folk 2 = .ok (.invokevirtual 169, 3) := by decide +kernel
theorem dX11_folk_5 : decode cX11_folk 5 = .ok (.ifCond .eq 10, 3) := by decide +kernel
theorem dX11_folk_8 : decode cX11_folk 8 = .ok (.iload_n 2, 1) := by decide +kernel
theorem dX11_folk_9 : decode cX11_folk 9 = .ok (.invokestatic 184, 3) := by decide +kernel
theorem dX11_folk_12 : decode cX11_folk 12 = .ok (.ifCond .ne 10, 3) := by decide +kernel
theorem dX11_folk_15 : decode cX11_folk 15 = .ok (.aload_n 0, 1) := by decide +kernel
theorem dX11_folk_16 : decode cX11_folk 16 = .ok (.ldc 74, 2) := by decide +kernel
theorem dX11_folk_18 : decode cX11_folk 18 = .ok (.invokevirtual 75, 3) := by decide +kernel
theorem dX11_folk_21 : decode cX11_folk 21 = .ok (.ireturn, 1) := by decide +kernel
theorem dX11_folk_22 : decode cX11_folk 22 = .ok (.aload_n 0, 1) := by decide +kernel
theorem dX11_folk_23 : decode cX11_folk 23 = .ok (.getfield 9, 3) := by decide +kernel
theorem dX11_folk_26 : decode cX11_folk 26 = .ok (.iconst 4, 1) := by decide +kernel
theorem dX11_folk_27 : decode cX11_folk 27 = .ok (.iaload, 1) := by decide +kernel
theorem dX11_folk_28 : decode cX11_folk 28 = .ok (.bipush 6, 2) := by decide +kernel
theorem dX11_folk_30 : decode cX11_folk 30 = .ok (.if_icmp .ne 12, 3) := by decide +kernel
theorem dX11_folk_33 : decode cX11_folk 33 = .ok (.aload_n 0, 1) := by decide +kernel
theorem dX11_folk_34 : decode cX11_folk 34 = .ok (.ldc 79, 2) := by decide +kernel
theorem dX11_folk_36 : decode cX11_folk 36 = .ok (.invokevirtual 75, 3) := by decide +kernel
theorem dX11_folk_39 : decode cX11_folk 39 = .ok (.goto 9, 3) := by decide +kernel
theorem dX11_folk_42 : decode cX11_folk 42 = .ok (.aload_n 0, 1) := by decide +kernel
theorem dX11_folk_43 : decode cX11_folk 43 = .ok (.iload_n 1, 1) := by decide +kernel
theorem dX11_folk_44 : decode cX11_folk 44 = .ok (.iload_n 2, 1) := by decide +kernel
theorem dX11_folk_45 : decode cX11_folk 45 = .ok (.invokevirtual 225, 3) := by decide +kernel
theorem dX11_folk_48 : decode cX11_folk 48 = .ok (.ireturn, 1) := by decide +kernel
theorem dX11_ofFolk_0 : decode cX11_ofFolk 0 = .ok (.aload_n 0, 1) := by decide +kernel
theorem dX11_ofFolk_1 : decode cX11_ofFolk 1 = .ok (.iload_n 1, 1) := by decide +kernel
theorem dX11_ofFolk_2 : decode cX11_ofFolk 2 = .ok (.invokevirtual 228, 3) := by decide +kernel
theorem dX11_ofFolk_5 : decode cX11_ofFolk 5 = .ok (.ifCond .eq 21, 3) := by decide +kernel
theorem dX11_ofFolk_8 : decode cX11_ofFolk 8 = .ok (.iload_n 2, 1) := by decide +kernel
theorem dX11_ofFolk_9 : decode cX11_ofFolk 9 = .ok (.iconst 0, 1) := by decide +kernel
theorem dX11_ofFolk_10 : decode cX11_ofFolk 10 = .ok (.iconst 2, 1) := by decide +kernel
theorem dX11_ofFolk_11 : decode cX11_ofFolk 11 = .ok (.invokestatic 70, 3) := by decide +kernel
theorem dX11_ofFolk_14 : decode cX11_ofFolk 14 = .ok (.ifCond .eq 12, 3) := by decide +kernel
theorem dX11_ofFolk_17 : decode cX11_ofFolk 17 = .ok (.aload_n 0, 1) := by decide +kernel
theorem dX11_ofFolk_18 : decode cX11_ofFolk 18 = .ok (.iload_n 1, 1) := by decide +kernel
theorem dX11_ofFolk_19 : decode cX11_ofFolk 19 = .ok (.iload_n 2, 1) := by decide +kernel
theorem dX11_ofFolk_20 : decode cX11_ofFolk 20 = .ok (.invokevirtual 196, 3) := by decide +kernel
theorem dX11_ofFolk_23 : decode cX11_ofFolk 23 = .ok (.goto 9, 3) := by decide +kernel
theorem dX11_ofFolk_26 : decode cX11_ofFolk 26 = .ok (.aload_n 0, 1) := by decide +kernel
theorem dX11_ofFolk_27 : decode cX11_ofFolk 27 = .ok (.ldc 74, 2) := by decide +kernel
theorem dX11_ofFolk_29 : decode cX11_ofFolk 29 = .ok (.invokevirtual 75, 3) := by decide +kernel
theorem dX11_ofFolk_32 : decode cX11_ofFolk 32 = .ok (.ireturn, 1) := by decide +kernel
theorem dX11_drink_0 : decode cX11_drink 0 = .ok (.iload_n 2, 1) := by decide +kernel
theorem dX11_drink_1 : decode cX11_drink 1 = .ok (.ifCond .ne 11, 3) := by decide +kernel
theorem dX11_drink_4 : decode cX11_drink 4 = .ok (.aload_n 0, 1) := by decide +kernel
theorem dX11_drink_5 : decode cX11_drink 5 = .ok (.iload_n 3, 1) := by decide +kernel
theorem dX11_drink_6 : decode cX11_drink 6 = .ok (.invokevirtual 169, 3) := by decide +kernel
theorem dX11_drink_9 : decode cX11_drink 9 = .ok (.goto 43, 3) := by decide +kernel
theorem dX11_drink_12 : decode cX11_drink 12 = .ok (.iload_n 2, 1) := by decide +kernel
theorem dX11_drink_13 : decode cX11_drink 13 = .ok (.iconst 1, 1) := by decide +kernel
theorem dX11_drink_14 : decode cX11_drink 14 = .ok (.if_icmp .ne 10, 3) := by decide +kernel
theorem dX11_drink_17 : decode cX11_drink 17 = .ok (.iload_n 3, 1) := by decide +kernel
theorem dX11_drink_18 : decode cX11_drink 18 = .ok (.invokestatic 184, 3) := by decide +kernel
theorem dX11_drink_21 : decode cX11_drink 21 = .ok (.goto 31, 3) := by decide +kernel
theorem dX11_drink_24 : decode cX11_drink 24 = .ok (.iload_n 2, 1) := by decide +kernel
theorem dX11_drink_25 : decode cX11_drink 25 = .ok (.iconst 2, 1) := by decide +kernel
theorem dX11_drink_26 : decode cX11_drink 26 = .ok (.if_icmp .ne 25, 3) := by decide +kernel
theorem dX11_drink_29 : decode cX11_drink 29 = .ok (.iload_n 3, 1) := by decide +kernel
theorem dX11_drink_30 : decode cX11_drink 30 = .ok (.iconst 0, 1) := by decide +kernel
theorem dX11_drink_31 : decode cX11_drink 31 = .ok (.iconst 1, 1) := by decide +kernel
theorem dX11_drink_32 : decode cX11_drink 32 = .ok (.aload_n 0, 1) := by decide +kernel
theorem dX11_drink_33 : decode cX11_drink 33 = .ok (.getfield 9, 3) := by decide +kernel
theorem dX11_drink_36 : decode cX11_drink 36 = .ok (.iconst 3, 1) := by decide +kernel
theorem dX11_drink_37 : decode cX11_drink 37 = .ok (.iaload, 1) := by decide +kernel
theorem dX11_drink_38 : decode cX11_drink 38 = .ok (.ishl, 1) := by decide +kernel
theorem dX11_drink_39 : decode cX11_drink 39 = .ok (.iconst 1, 1) := by decide +kernel
theorem dX11_drink_40 : decode cX11_drink 40 = .ok (.isub, 1) := by decide +kernel
theorem dX11_drink_41 : decode cX11_drink 41 = .ok (.invokestatic 70, 3) := by decide +kernel
theorem dX11_drink_44 : decode cX11_drink 44 = .ok (.ifCond .eq 7, 3) := by decide +kernel
theorem dX11_drink_47 : decode cX11_drink 47 = .ok (.iconst 1, 1) := by decide +kernel
theorem dX11_drink_48 : decode cX11_drink 48 = .ok (.goto 4, 3) := by decide +kernel
theorem dX11_drink_51 : decode cX11_drink 51 = .ok (.iconst 0, 1) := by decide +kernel
theorem dX11_drink_52 : decode cX11_drink 52 = .ok (.istore 4, 2) := by decide +kernel
theorem dX11_drink_54 : decode cX11_drink 54 = .ok (.aload_n 0, 1) := by decide +kernel
theorem dX11_drink_55 : decode cX11_drink 55 = .ok (.iload_n 1, 1) := by decide +kernel
theorem dX11_drink_56 : decode cX11_drink 56 = .ok (.invokevirtual 228, 3) := by decide +kernel
theorem dX11_drink_59 : decode cX11_drink 59 = .ok (.ifCond .eq 21, 3) := by decide +kernel
theorem dX11_drink_62 : decode cX11_drink 62 = .ok (.iload 4, 2) := by decide +kernel
theorem dX11_drink_64 : decode cX11_drink 64 = .ok (.ifCond .eq 16, 3) := by decide +kernel
theorem dX11_drink_67 : decode cX11_drink 67 = .ok (.aload_n 0, 1) := by decide +kernel
theorem dX11_drink_68 : decode cX11_drink 68 = .ok (.iload_n 1, 1) := by decide +kernel
theorem dX11_drink_69 : decode cX11_drink 69 = .ok (.iload_n 2, 1) := by decide +kernel
theorem dX11_drink_70 : decode cX11_drink 70 = .ok (.invokestatic 162, 3) := by decide +kernel
theorem dX11_drink_73 : decode cX11_drink 73 = .ok (.iload_n 3, 1) := by decide +kernel
theorem dX11_drink_74 : decode cX11_drink 74 = .ok (.invokevirtual 166, 3) := by decide +kernel
theorem dX11_drink_77 : decode cX11_drink 77 = .ok (.goto 9, 3) := by decide +kernel
theorem dX11_drink_80 : decode cX11_drink 80 = .ok (.aload_n 0, 1) := by decide +kernel
theorem dX11_drink_81 : decode cX11_drink 81 = .ok (.ldc 74, 2) := by decide +kernel
theorem dX11_drink_83 : decode cX11_drink 83 = .ok (.invokevirtual 75, 3) := by decide +kernel
theorem dX11_drink_86 : decode cX11_drink 86 = .ok (.ireturn, 1) := by decide +kernel
theorem dX11_goes_0 : decode cX11_goes 0 = .ok (.aload_n 0, 1) := by decide +kernel
theorem dX11_goes_1 : decode cX11_goes 1 = .ok (.getfield 9, 3) := by decide +kernel
theorem dX11_goes_4 : decode cX11_goes 4 = .ok (.iload_n 1, 1) := by decide +kernel
theorem dX11_goes_5 : decode cX11_goes 5 = .ok (.iconst 3, 1) := by decide +kernel
theorem dX11_goes_6 : decode cX11_goes 6 = .ok (.invokestatic 159, 3) := by decide +kernel
theorem dX11_goes_9 : decode cX11_goes 9 = .ok (.iconst 0, 1) := by decide +kernel
theorem dX11_goes_10 : decode cX11_goes 10 = .ok (.aload_n 0, 1) := by decide +kernel
theorem dX11_goes_11 : decode cX11_goes 11 = .ok (.iload_n 1, 1) := by decide +kernel
theorem dX11_goes_12 : decode cX11_goes 12 = .ok (.iconst 3, 1) := by decide +kernel
theorem dX11_goes_13 : decode cX11_goes 13 = .ok (.invokevirtual 193, 3) := by decide +kernel
theorem dX11_goes_16 : decode cX11_goes 16 = .ok (.aload_n 0, 1) := by decide +kernel
theorem dX11_goes_17 : decode cX11_goes 17 = .ok (.iload_n 1, 1) := by decide +kernel
theorem dX11_goes_18 : decode cX11_goes 18 = .ok (.invokevirtual 218, 3) := by decide +kernel
theorem dX11_goes_21 : decode cX11_goes 21 = .ok (.isub, 1) := by decide +kernel
theorem dX11_goes_22 : decode cX11_goes 22 = .ok (.invokestatic 63, 3) := by decide +kernel
theorem dX11_goes_25 : decode cX11_goes 25 = .ok (.iastore, 1) := by decide +kernel
theorem dX11_goes_26 : decode cX11_goes 26 = .ok (.aload_n 0, 1) := by decide +kernel
theorem dX11_goes_27 : decode cX11_goes 27 = .ok (.iload_n 1, 1) := by decide +kernel
theorem dX11_goes_28 : decode cX11_goes 28 = .ok (.iconst 4, 1) := by decide +kernel
theorem dX11_goes_29 : decode cX11_goes 29 = .ok (.invokevirtual 193, 3) := by decide +kernel
theorem dX11_goes_32 : decode cX11_goes 32 = .ok (.ifCond .le 18, 3) := by decide +kernel
theorem dX11_goes_35 : decode cX11_goes 35 = .ok (.aload_n 0, 1) := by decide +kernel
theorem dX11_goes_36 : decode cX11_goes 36 = .ok (.getfield 9, 3) := by decide +kernel
theorem dX11_goes_39 : decode cX11_goes 39 = .ok (.iload_n 1, 1) := by decide +kernel
theorem dX11_goes_40 : decode cX11_goes 40 = .ok (.iconst 4, 1) := by decide +kernel
theorem dX11_goes_41 : decode cX11_goes 41 = .ok (.invokestatic 159, 3) := by decide +kernel
theorem dX11_goes_44 : decode cX11_goes 44 = .ok (.dup2, 1) := by decide +kernel
theorem dX11_goes_45 : decode cX11_goes 45 = .ok (.iaload, 1) := by decide +kernel
theorem dX11_goes_46 : decode cX11_goes 46 = .ok (.iconst 1, 1) := by decide +kernel
theorem dX11_goes_47 : decode cX11_goes 47 = .ok (.isub, 1) := by decide +kernel
theorem dX11_goes_48 : decode cX11_goes 48 = .ok (.iastore, 1) := by decide +kernel
theorem dX11_goes_49 : decode cX11_goes 49 = .ok (.return_, 1) := by decide +kernel
theorem dX11_goes_50 : decode cX11_goes 50 = .ok (.aload_n 0, 1) := by decide +kernel
theorem dX11_goes_51 : decode cX11_goes 51 = .ok (.iload_n 1, 1) := by decide +kernel
theorem dX11_goes_52 : decode cX11_goes 52 = .ok (.invokevirtual 221, 3) := by decide +kernel
theorem dX11_goes_55 : decode cX11_goes 55 = .ok (.istore_n 2, 1) := by decide +kernel
theorem dX11_goes_56 : decode cX11_goes 56 = .ok (.iload_n 2, 1) := by decide +kernel
theorem dX11_goes_57 : decode cX11_goes 57 = .ok (.ifCond .lt 35, 3) := by decide +kernel
theorem dX11_goes_60 : decode cX11_goes 60 = .ok (.aload_n 0, 1) := by decide +kernel
theorem dX11_goes_61 : decode cX11_goes 61 = .ok (.getfield 9, 3) := by decide +kernel
theorem dX11_goes_64 : decode cX11_goes 64 = .ok (.iload_n 1, 1) := by decide +kernel
theorem dX11_goes_65 : decode cX11_goes 65 = .ok (.iconst 2, 1) := by decide +kernel
theorem dX11_goes_66 : decode cX11_goes 66 = .ok (.invokestatic 159, 3) := by decide +kernel
theorem dX11_goes_69 : decode cX11_goes 69 = .ok (.aload_n 0, 1) := by decide +kernel
theorem dX11_goes_70 : decode cX11_goes 70 = .ok (.iload_n 2, 1) := by decide +kernel
theorem dX11_goes_71 : decode cX11_goes 71 = .ok (.iconst 1, 1) := by decide +kernel
theorem dX11_goes_72 : decode cX11_goes 72 = .ok (.invokevirtual 178, 3) := by decide +kernel
theorem dX11_goes_75 : decode cX11_goes 75 = .ok (.iastore, 1) := by decide +kernel
theorem dX11_goes_76 : decode cX11_goes 76 = .ok (.aload_n 0, 1) := by decide +kernel
theorem dX11_goes_77 : decode cX11_goes 77 = .ok (.getfield 9, 3) := by decide +kernel
theorem dX11_goes_80 : decode cX11_goes 80 = .ok (.iload_n 1, 1) := by decide +kernel
theorem dX11_goes_81 : decode cX11_goes 81 = .ok (.iconst 4, 1) := by decide +kernel
theorem dX11_goes_82 : decode cX11_goes 82 = .ok (.invokestatic 159, 3) := by decide +kernel
theorem dX11_goes_85 : decode cX11_goes 85 = .ok (.aload_n 0, 1) := by decide +kernel
theorem dX11_goes_86 : decode cX11_goes 86 = .ok (.iload_n 2, 1) := by decide +kernel
theorem dX11_goes_87 : decode cX11_goes 87 = .ok (.iconst 2, 1) := by decide +kernel
theorem dX11_goes_88 : decode cX11_goes 88 = .ok (.invokevirtual 178, 3) := by decide +kernel
theorem dX11_goes_91 : decode cX11_goes 91 = .ok (.iastore, 1) := by decide +kernel
theorem dX11_goes_92 : decode cX11_goes 92 = .ok (.return_, 1) := by decide +kernel
theorem dX11_tastes_0 : decode cX11_tastes 0 = .ok (.aload_n 0, 1) := by decide +kernel
theorem dX11_tastes_1 : decode cX11_tastes 1 = .ok (.iload_n 2, 1) := by decide +kernel
theorem dX11_tastes_2 : decode cX11_tastes 2 = .ok (.iconst 3, 1) := by decide +kernel
theorem dX11_tastes_3 : decode cX11_tastes 3 = .ok (.invokevirtual 193, 3) := by decide +kernel
theorem dX11_tastes_6 : decode cX11_tastes 6 = .ok (.istore_n 3, 1) := by decide +kernel
theorem dX11_tastes_7 : decode cX11_tastes 7 = .ok (.aload_n 0, 1) := by decide +kernel
theorem dX11_tastes_8 : decode cX11_tastes 8 = .ok (.iload_n 2, 1) := by decide +kernel
theorem dX11_tastes_9 : decode cX11_tastes 9 = .ok (.iconst 2, 1) := by decide +kernel
theorem dX11_tastes_10 : decode cX11_tastes 10 = .ok (.invokevirtual 193, 3) := by decide +kernel
theorem dX11_tastes_13 : decode cX11_tastes 13 = .ok (.aload_n 0, 1) := by decide +kernel
theorem dX11_tastes_14 : decode cX11_tastes 14 = .ok (.iload_n 1, 1) := by decide +kernel
theorem dX11_tastes_15 : decode cX11_tastes 15 = .ok (.iconst 0, 1) := by decide +kernel
theorem dX11_tastes_16 : decode cX11_tastes 16 = .ok (.invokevirtual 196, 3) := by decide +kernel
theorem dX11_tastes_19 : decode cX11_tastes 19 = .ok (.if_icmp .ne 30, 3) := by decide +kernel
theorem dX11_tastes_22 : decode cX11_tastes 22 = .ok (.aload_n 0, 1) := by decide +kernel
theorem dX11_tastes_23 : decode cX11_tastes 23 = .ok (.iload_n 2, 1) := by decide +kernel
theorem dX11_tastes_24 : decode cX11_tastes 24 = .ok (.iconst 4, 1) := by decide +kernel
theorem dX11_tastes_25 : decode cX11_tastes 25 = .ok (.invokevirtual 193, 3) := by decide +kernel
theorem dX11_tastes_28 : decode cX11_tastes 28 = .ok (.ifCond .ne 21, 3) := by decide +kernel
theorem dX11_tastes_31 : decode cX11_tastes 31 = .ok (.iload_n 3, 1) := by decide +kernel
theorem dX11_tastes_32 : decode cX11_tastes 32 = .ok (.aload_n 0, 1) := by decide +kernel
theorem dX11_tastes_33 : decode cX11_tastes 33 = .ok (.iload_n 1, 1) := by decide +kernel
theorem dX11_tastes_34 : decode cX11_tastes 34 = .ok (.iconst 1, 1) := by decide +kernel
theorem dX11_tastes_35 : decode cX11_tastes 35 = .ok (.invokevirtual 196, 3) := by decide +kernel
theorem dX11_tastes_38 : decode cX11_tastes 38 = .ok (.if_icmp .lt 11, 3) := by decide +kernel
theorem dX11_tastes_41 : decode cX11_tastes 41 = .ok (.iload_n 3, 1) := by decide +kernel
theorem dX11_tastes_42 : decode cX11_tastes 42 = .ok (.ifCond .le 7, 3) := by decide +kernel
theorem dX11_tastes_45 : decode cX11_tastes 45 = .ok (.iconst 1, 1) := by decide +kernel
theorem dX11_tastes_46 : decode cX11_tastes 46 = .ok (.goto 4, 3) := by decide +kernel
theorem dX11_tastes_49 : decode cX11_tastes 49 = .ok (.iconst 0, 1) := by decide +kernel
theorem dX11_tastes_50 : decode cX11_tastes 50 = .ok (.istore 4, 2) := by decide +kernel
theorem dX11_tastes_52 : decode cX11_tastes 52 = .ok (.iload 4, 2) := by decide +kernel
theorem dX11_tastes_54 : decode cX11_tastes 54 = .ok (.ifCond .eq 28, 3) := by decide +kernel
theorem dX11_tastes_57 : decode cX11_tastes 57 = .ok (.aload_n 0, 1) := by decide +kernel
theorem dX11_tastes_58 : decode cX11_tastes 58 = .ok (.iconst 1, 1) := by decide +kernel
theorem dX11_tastes_59 : decode cX11_tastes 59 = .ok (.iload_n 3, 1) := by decide +kernel
theorem dX11_tastes_60 : decode cX11_tastes 60 = .ok (.aload_n 0, 1) := by decide +kernel
theorem dX11_tastes_61 : decode cX11_tastes 61 = .ok (.iload_n 1, 1) := by decide +kernel
theorem dX11_tastes_62 : decode cX11_tastes 62 = .ok (.iconst 1, 1) := by decide +kernel
theorem dX11_tastes_63 : decode cX11_tastes 63 = .ok (.invokevirtual 196, 3) := by decide +kernel
theorem dX11_tastes_66 : decode cX11_tastes 66 = .ok (.aload_n 0, 1) := by decide +kernel
theorem dX11_tastes_67 : decode cX11_tastes 67 = .ok (.getfield 9, 3) := by decide +kernel
theorem dX11_tastes_70 : decode cX11_tastes 70 = .ok (.iconst 0, 1) := by decide +kernel
theorem dX11_tastes_71 : decode cX11_tastes 71 = .ok (.iaload, 1) := by decide +kernel
theorem dX11_tastes_72 : decode cX11_tastes 72 = .ok (.invokevirtual 152, 3) := by decide +kernel
theorem dX11_tastes_75 : decode cX11_tastes 75 = .ok (.ifCond .eq 7, 3) := by decide +kernel
theorem dX11_tastes_78 : decode cX11_tastes 78 = .ok (.iconst 1, 1) := by decide +kernel
theorem dX11_tastes_79 : decode cX11_tastes 79 = .ok (.goto 4, 3) := by decide +kernel
theorem dX11_tastes_82 : decode cX11_tastes 82 = .ok (.iconst 0, 1) := by decide +kernel
theorem dX11_tastes_83 : decode cX11_tastes 83 = .ok (.ireturn, 1) := by decide +kernel
theorem dX11_hour_0 : decode cX11_hour 0 = .ok (.iconst 0, 1) := by decide +kernel
theorem dX11_hour_1 : decode cX11_hour 1 = .ok (.istore_n 1, 1) := by decide +kernel
theorem dX11_hour_2 : decode cX11_hour 2 = .ok (.iload_n 1, 1) := by decide +kernel
theorem dX11_hour_3 : decode cX11_hour 3 = .ok (.aload_n 0, 1) := by decide +kernel
theorem dX11_hour_4 : decode cX11_hour 4 = .ok (.getfield 9, 3) := by decide +kernel
theorem dX11_hour_7 : decode cX11_hour 7 = .ok (.iconst 3, 1) := by decide +kernel
theorem dX11_hour_8 : decode cX11_hour 8 = .ok (.iaload, 1) := by decide +kernel
theorem dX11_hour_9 : decode cX11_hour 9 = .ok (.if_icmp .ge 14, 3) := by decide +kernel
theorem dX11_hour_12 : decode cX11_hour 12 = .ok (.aload_n 0, 1) := by decide +kernel
theorem dX11_hour_13 : decode cX11_hour 13 = .ok (.iload_n 1, 1) := by decide +kernel
theorem dX11_hour_14 : decode cX11_hour 14 = .ok (.invokevirtual 231, 3) := by decide +kernel
theorem dX11_hour_17 : decode cX11_hour 17 = .ok (.iinc 1 1, 3) := by decide +kernel
theorem dX11_hour_20 : decode cX11_hour 20 = .ok (.goto (-18), 3) := by decide +kernel
theorem dX11_hour_23 : decode cX11_hour 23 = .ok (.iconst 0, 1) := by decide +kernel
theorem dX11_hour_24 : decode cX11_hour 24 = .ok (.istore_n 1, 1) := by decide +kernel
theorem dX11_hour_25 : decode cX11_hour 25 = .ok (.iload_n 1, 1) := by decide +kernel
theorem dX11_hour_26 : decode cX11_hour 26 = .ok (.aload_n 0, 1) := by decide +kernel
theorem dX11_hour_27 : decode cX11_hour 27 = .ok (.getfield 9, 3) := by decide +kernel
theorem dX11_hour_30 : decode cX11_hour 30 = .ok (.iconst 4, 1) := by decide +kernel
theorem dX11_hour_31 : decode cX11_hour 31 = .ok (.iaload, 1) := by decide +kernel
theorem dX11_hour_32 : decode cX11_hour 32 = .ok (.if_icmp .ge 56, 3) := by decide +kernel
theorem dX11_hour_35 : decode cX11_hour 35 = .ok (.iconst 0, 1) := by decide +kernel
theorem dX11_hour_36 : decode cX11_hour 36 = .ok (.istore_n 2, 1) := by decide +kernel
theorem dX11_hour_37 : decode cX11_hour 37 = .ok (.iload_n 2, 1) := by decide +kernel
theorem dX11_hour_38 : decode cX11_hour 38 = .ok (.aload_n 0, 1) := by decide +kernel
theorem dX11_hour_39 : decode cX11_hour 39 = .ok (.getfield 9, 3) := by decide +kernel
theorem dX11_hour_42 : decode cX11_hour 42 = .ok (.iconst 3, 1) := by decide +kernel
theorem dX11_hour_43 : decode cX11_hour 43 = .ok (.iaload, 1) := by decide +kernel
theorem dX11_hour_44 : decode cX11_hour 44 = .ok (.if_icmp .ge 38, 3) := by decide +kernel
theorem dX11_hour_47 : decode cX11_hour 47 = .ok (.aload_n 0, 1) := by decide +kernel
theorem dX11_hour_48 : decode cX11_hour 48 = .ok (.getfield 9, 3) := by decide +kernel
theorem dX11_hour_51 : decode cX11_hour 51 = .ok (.iload_n 1, 1) := by decide +kernel
theorem dX11_hour_52 : decode cX11_hour 52 = .ok (.iconst 2, 1) := by decide +kernel
theorem dX11_hour_53 : decode cX11_hour 53 = .ok (.invokestatic 162, 3) := by decide +kernel
theorem dX11_hour_56 : decode cX11_hour 56 = .ok (.dup2, 1) := by decide +kernel
theorem dX11_hour_57 : decode cX11_hour 57 = .ok (.iaload, 1) := by decide +kernel
theorem dX11_hour_58 : decode cX11_hour 58 = .ok (.aload_n 0, 1) := by decide +kernel
theorem dX11_hour_59 : decode cX11_hour 59 = .ok (.iload_n 1, 1) := by decide +kernel
theorem dX11_hour_60 : decode cX11_hour 60 = .ok (.iload_n 2, 1) := by decide +kernel
theorem dX11_hour_61 : decode cX11_hour 61 = .ok (.invokevirtual 234, 3) := by decide +kernel
theorem dX11_hour_64 : decode cX11_hour 64 = .ok (.ifCond .eq 9, 3) := by decide +kernel
theorem dX11_hour_67 : decode cX11_hour 67 = .ok (.iconst 1, 1) := by decide +kernel
theorem dX11_hour_68 : decode cX11_hour 68 = .ok (.iload_n 2, 1) := by decide +kernel
theorem dX11_hour_69 : decode cX11_hour 69 = .ok (.ishl, 1) := by decide +kernel
theorem dX11_hour_70 : decode cX11_hour 70 = .ok (.goto 4, 3) := by decide +kernel
theorem dX11_hour_73 : decode cX11_hour 73 = .ok (.iconst 0, 1) := by decide +kernel
theorem dX11_hour_74 : decode cX11_hour 74 = .ok (.ior, 1) := by decide +kernel
theorem dX11_hour_75 : decode cX11_hour 75 = .ok (.iastore, 1) := by decide +kernel
theorem dX11_hour_76 : decode cX11_hour 76 = .ok (.iinc 2 1, 3) := by decide +kernel
theorem dX11_hour_79 : decode cX11_hour 79 = .ok (.goto (-42), 3) := by decide +kernel
theorem dX11_hour_82 : decode cX11_hour 82 = .ok (.iinc 1 1, 3) := by decide +kernel
theorem dX11_hour_85 : decode cX11_hour 85 = .ok (.goto (-60), 3) := by decide +kernel
theorem dX11_hour_88 : decode cX11_hour 88 = .ok (.aload_n 0, 1) := by decide +kernel
theorem dX11_hour_89 : decode cX11_hour 89 = .ok (.getfield 9, 3) := by decide +kernel
theorem dX11_hour_92 : decode cX11_hour 92 = .ok (.iconst 0, 1) := by decide +kernel
theorem dX11_hour_93 : decode cX11_hour 93 = .ok (.dup2, 1) := by decide +kernel
theorem dX11_hour_94 : decode cX11_hour 94 = .ok (.iaload, 1) := by decide +kernel
theorem dX11_hour_95 : decode cX11_hour 95 = .ok (.iconst 1, 1) := by decide +kernel
theorem dX11_hour_96 : decode cX11_hour 96 = .ok (.iadd, 1) := by decide +kernel
theorem dX11_hour_97 : decode cX11_hour 97 = .ok (.iastore, 1) := by decide +kernel
theorem dX11_hour_98 : decode cX11_hour 98 = .ok (.return_, 1) := by decide +kernel
theorem dX11_hoursGo_0 : decode cX11_hoursGo 0 = .ok (.iconst 0, 1) := by decide +kernel
theorem dX11_hoursGo_1 : decode cX11_hoursGo 1 = .ok (.istore_n 2, 1) := by decide +kernel
theorem dX11_hoursGo_2 : decode cX11_hoursGo 2 = .ok (.iload_n 2, 1) := by decide +kernel
theorem dX11_hoursGo_3 : decode cX11_hoursGo 3 = .ok (.iload_n 1, 1) := by decide +kernel
theorem dX11_hoursGo_4 : decode cX11_hoursGo 4 = .ok (.if_icmp .ge 13, 3) := by decide +kernel
theorem dX11_hoursGo_7 : decode cX11_hoursGo 7 = .ok (.aload_n 0, 1) := by decide +kernel
theorem dX11_hoursGo_8 : decode cX11_hoursGo 8 = .ok (.invokevirtual 237, 3) := by decide +kernel
theorem dX11_hoursGo_11 : decode cX11_hoursGo 11 = .ok (.iinc 2 1, 3) := by decide +kernel
theorem dX11_hoursGo_14 : decode cX11_hoursGo 14 = .ok (.goto (-12), 3) := by decide +kernel
theorem dX11_hoursGo_17 : decode cX11_hoursGo 17 = .ok (.return_, 1) := by decide +kernel
theorem dX11_knowing_0 : decode cX11_knowing 0 = .ok (.iconst 0, 1) := by decide +kernel
theorem dX11_knowing_1 : decode cX11_knowing 1 = .ok (.istore_n 1, 1) := by decide +kernel
theorem dX11_knowing_2 : decode cX11_knowing 2 = .ok (.iconst 0, 1) := by decide +kernel
theorem dX11_knowing_3 : decode cX11_knowing 3 = .ok (.istore_n 2, 1) := by decide +kernel
theorem dX11_knowing_4 : decode cX11_knowing 4 = .ok (.iload_n 2, 1) := by decide +kernel
theorem dX11_knowing_5 : decode cX11_knowing 5 = .ok (.aload_n 0, 1) := by decide +kernel
theorem dX11_knowing_6 : decode cX11_knowing 6 = .ok (.getfield 9, 3) := by decide +kernel
theorem dX11_knowing_9 : decode cX11_knowing 9 = .ok (.iconst 4, 1) := by decide +kernel
theorem dX11_knowing_10 : decode cX11_knowing 10 = .ok (.iaload, 1) := by decide +kernel
theorem dX11_knowing_11 : decode cX11_knowing 11 = .ok (.if_icmp .ge 26, 3) := by decide +kernel
theorem dX11_knowing_14 : decode cX11_knowing 14 = .ok (.iload_n 1, 1) := by decide +kernel
theorem dX11_knowing_15 : decode cX11_knowing 15 = .ok (.aload_n 0, 1) := by decide +kernel
theorem dX11_knowing_16 : decode cX11_knowing 16 = .ok (.iload_n 2, 1) := by decide +kernel
theorem dX11_knowing_17 : decode cX11_knowing 17 = .ok (.iconst 2, 1) := by decide +kernel
theorem dX11_knowing_18 : decode cX11_knowing 18 = .ok (.invokevirtual 196, 3) := by decide +kernel
theorem dX11_knowing_21 : decode cX11_knowing 21 = .ok (.ifCond .eq 7, 3) := by decide +kernel
theorem dX11_knowing_24 : decode cX11_knowing 24 = .ok (.iconst 1, 1) := by decide +kernel
theorem dX11_knowing_25 : decode cX11_knowing 25 = .ok (.goto 4, 3) := by decide +kernel
theorem dX11_knowing_28 : decode cX11_knowing 28 = .ok (.iconst 0, 1) := by decide +kernel
theorem dX11_knowing_29 : decode cX11_knowing 29 = .ok (.iadd, 1) := by decide +kernel
theorem dX11_knowing_30 : decode cX11_knowing 30 = .ok (.istore_n 1, 1) := by decide +kernel
theorem dX11_knowing_31 : decode cX11_knowing 31 = .ok (.iinc 2 1, 3) := by decide +kernel
theorem dX11_knowing_34 : decode cX11_knowing 34 = .ok (.goto (-30), 3) := by decide +kernel
theorem dX11_knowing_37 : decode cX11_knowing 37 = .ok (.iload_n 1, 1) := by decide +kernel
theorem dX11_knowing_38 : decode cX11_knowing 38 = .ok (.ireturn, 1) := by decide +kernel
theorem dX11_hours_0 : decode cX11_hours 0 = .ok (.iload_n 1, 1) := by decide +kernel
theorem dX11_hours_1 : decode cX11_hours 1 = .ok (.iconst 1, 1) := by decide +kernel
theorem dX11_hours_2 : decode cX11_hours 2 = .ok (.bipush 99, 2) := by decide +kernel
theorem dX11_hours_4 : decode cX11_hours 4 = .ok (.invokestatic 70, 3) := by decide +kernel
theorem dX11_hours_7 : decode cX11_hours 7 = .ok (.ifCond .ne 10, 3) := by decide +kernel
theorem dX11_hours_10 : decode cX11_hours 10 = .ok (.aload_n 0, 1) := by decide +kernel
theorem dX11_hours_11 : decode cX11_hours 11 = .ok (.ldc 74, 2) := by decide +kernel
theorem dX11_hours_13 : decode cX11_hours 13 = .ok (.invokevirtual 75, 3) := by decide +kernel
theorem dX11_hours_16 : decode cX11_hours 16 = .ok (.ireturn, 1) := by decide +kernel
theorem dX11_hours_17 : decode cX11_hours 17 = .ok (.aload_n 0, 1) := by decide +kernel
theorem dX11_hours_18 : decode cX11_hours 18 = .ok (.getfield 9, 3) := by decide +kernel
theorem dX11_hours_21 : decode cX11_hours 21 = .ok (.iconst 0, 1) := by decide +kernel
theorem dX11_hours_22 : decode cX11_hours 22 = .ok (.iaload, 1) := by decide +kernel
theorem dX11_hours_23 : decode cX11_hours 23 = .ok (.iload_n 1, 1) := by decide +kernel
theorem dX11_hours_24 : decode cX11_hours 24 = .ok (.iadd, 1) := by decide +kernel
theorem dX11_hours_25 : decode cX11_hours 25 = .ok (.sipush 9999, 3) := by decide +kernel
theorem dX11_hours_28 : decode cX11_hours 28 = .ok (.if_icmp .le 10, 3) := by decide +kernel
theorem dX11_hours_31 : decode cX11_hours 31 = .ok (.aload_n 0, 1) := by decide +kernel
theorem dX11_hours_32 : decode cX11_hours 32 = .ok (.ldc 165, 2) := by decide +kernel
theorem dX11_hours_34 : decode cX11_hours 34 = .ok (.invokevirtual 75, 3) := by decide +kernel
theorem dX11_hours_37 : decode cX11_hours 37 = .ok (.ireturn, 1) := by decide +kernel
theorem dX11_hours_38 : decode cX11_hours 38 = .ok (.aload_n 0, 1) := by decide +kernel
theorem dX11_hours_39 : decode cX11_hours 39 = .ok (.iload_n 1, 1) := by decide +kernel
theorem dX11_hours_40 : decode cX11_hours 40 = .ok (.invokevirtual 240, 3) := by decide +kernel
theorem dX11_hours_43 : decode cX11_hours 43 = .ok (.aload_n 0, 1) := by decide +kernel
theorem dX11_hours_44 : decode cX11_hours 44 = .ok (.invokevirtual 243, 3) := by decide +kernel
theorem dX11_hours_47 : decode cX11_hours 47 = .ok (.ireturn, 1) := by decide +kernel
theorem dX11_drawn_0 : decode cX11_drawn 0 = .ok (.aload_n 0, 1) := by decide +kernel
theorem dX11_drawn_1 : decode cX11_drawn 1 = .ok (.getfield 9, 3) := by decide +kernel
theorem dX11_drawn_4 : decode cX11_drawn 4 = .ok (.bipush 6, 2) := by decide +kernel
theorem dX11_drawn_6 : decode cX11_drawn 6 = .ok (.aload_n 0, 1) := by decide +kernel
theorem dX11_drawn_7 : decode cX11_drawn 7 = .ok (.getfield 9, 3) := by decide +kernel
theorem dX11_drawn_10 : decode cX11_drawn 10 = .ok (.bipush 6, 2) := by decide +kernel
theorem dX11_drawn_12 : decode cX11_drawn 12 = .ok (.iaload, 1) := by decide +kernel
theorem dX11_drawn_13 : decode cX11_drawn 13 = .ok (.ldc 246, 2) := by decide +kernel
theorem dX11_drawn_15 : decode cX11_drawn 15 = .ok (.imul, 1) := by decide +kernel
theorem dX11_drawn_16 : decode cX11_drawn 16 = .ok (.sipush 12345, 3) := by decide +kernel
theorem dX11_drawn_19 : decode cX11_drawn 19 = .ok (.iadd, 1) := by decide +kernel
theorem dX11_drawn_20 : decode cX11_drawn 20 = .ok (.iastore, 1) := by decide +kernel
theorem dX11_drawn_21 : decode cX11_drawn 21 = .ok (.aload_n 0, 1) := by decide +kernel
theorem dX11_drawn_22 : decode cX11_drawn 22 = .ok (.getfield 9, 3) := by decide +kernel
theorem dX11_drawn_25 : decode cX11_drawn 25 = .ok (.bipush 6, 2) := by decide +kernel
theorem dX11_drawn_27 : decode cX11_drawn 27 = .ok (.iaload, 1) := by decide +kernel
theorem dX11_drawn_28 : decode cX11_drawn 28 = .ok (.bipush 8, 2) := by decide +kernel
theorem dX11_drawn_30 : decode cX11_drawn 30 = .ok (.iushr, 1) := by decide +kernel
theorem dX11_drawn_31 : decode cX11_drawn 31 = .ok (.ireturn, 1) := by decide +kernel
theorem dX11_loose_0 : decode cX11_loose 0 = .ok (.iload_n 1, 1) := by decide +kernel
theorem dX11_loose_1 : decode cX11_loose 1 = .ok (.iconst 1, 1) := by decide +kernel
theorem dX11_loose_2 : decode cX11_loose 2 = .ok (.bipush 40, 2) := by decide +kernel
theorem dX11_loose_4 : decode cX11_loose 4 = .ok (.invokestatic 70, 3) := by decide +kernel
theorem dX11_loose_7 : decode cX11_loose 7 = .ok (.ifCond .ne 10, 3) := by decide +kernel
theorem dX11_loose_10 : decode cX11_loose 10 = .ok (.aload_n 0, 1) := by decide +kernel
theorem dX11_loose_11 : decode cX11_loose 11 = .ok (.ldc 74, 2) := by decide +kernel
theorem dX11_loose_13 : decode cX11_loose 13 = .ok (.invokevirtual 75, 3) := by decide +kernel
theorem dX11_loose_16 : decode cX11_loose 16 = .ok (.ireturn, 1) := by decide +kernel
theorem dX11_loose_17 : decode cX11_loose 17 = .ok (.aload_n 0, 1) := by decide +kernel
theorem dX11_loose_18 : decode cX11_loose 18 = .ok (.getfield 9, 3) := by decide +kernel
theorem dX11_loose_21 : decode cX11_loose 21 = .ok (.iconst 0, 1) := by decide +kernel
theorem dX11_loose_22 : decode cX11_loose 22 = .ok (.iaload, 1) := by decide +kernel
theorem dX11_loose_23 : decode cX11_loose 23 = .ok (.iload_n 1, 1) := by decide +kernel
theorem dX11_loose_24 : decode cX11_loose 24 = .ok (.iadd, 1) := by decide +kernel
theorem dX11_loose_25 : decode cX11_loose 25 = .ok (.sipush 9999, 3) := by decide +kernel
theorem dX11_loose_28 : decode cX11_loose 28 = .ok (.if_icmp .le 10, 3) := by decide +kernel
theorem dX11_loose_31 : decode cX11_loose 31 = .ok (.aload_n 0, 1) := by decide +kernel
theorem dX11_loose_32 : decode cX11_loose 32 = .ok (.ldc 165, 2) := by decide +kernel
theorem dX11_loose_34 : decode cX11_loose 34 = .ok (.invokevirtual 75, 3) := by decide +kernel
theorem dX11_loose_37 : decode cX11_loose 37 = .ok (.ireturn, 1) := by decide +kernel
theorem dX11_loose_38 : decode cX11_loose 38 = .ok (.iconst 0, 1) := by decide +kernel
theorem dX11_loose_39 : decode cX11_loose 39 = .ok (.istore_n 2, 1) := by decide +kernel
theorem dX11_loose_40 : decode cX11_loose 40 = .ok (.iload_n 2, 1) := by decide +kernel
theorem dX11_loose_41 : decode cX11_loose 41 = .ok (.iload_n 1, 1) := by decide +kernel
theorem dX11_loose_42 : decode cX11_loose 42 = .ok (.if_icmp .ge 26, 3) := by decide +kernel
theorem dX11_loose_45 : decode cX11_loose 45 = .ok (.aload_n 0, 1) := by decide +kernel
theorem dX11_loose_46 : decode cX11_loose 46 = .ok (.getfield 9, 3) := by decide +kernel
theorem dX11_loose_49 : decode cX11_loose 49 = .ok (.iconst 5, 1) := by decide +kernel
theorem dX11_loose_50 : decode cX11_loose 50 = .ok (.aload_n 0, 1) := by decide +kernel
theorem dX11_loose_51 : decode cX11_loose 51 = .ok (.invokevirtual 247, 3) := by decide +kernel
theorem dX11_loose_54 : decode cX11_loose 54 = .ok (.bipush 10, 2) := by decide +kernel
theorem dX11_loose_56 : decode cX11_loose 56 = .ok (.irem, 1) := by decide +kernel
theorem dX11_loose_57 : decode cX11_loose 57 = .ok (.iastore, 1) := by decide +kernel
theorem dX11_loose_58 : decode cX11_loose 58 = .ok (.aload_n 0, 1) := by decide +kernel
theorem dX11_loose_59 : decode cX11_loose 59 = .ok (.invokevirtual 237, 3) := by decide +kernel
theorem dX11_loose_62 : decode cX11_loose 62 = .ok (.iinc 2 1, 3) := by decide +kernel
theorem dX11_loose_65 : decode cX11_loose 65 = .ok (.goto (-25), 3) := by decide +kernel
theorem dX11_loose_68 : decode cX11_loose 68 = .ok (.aload_n 0, 1) := by decide +kernel
theorem dX11_loose_69 : decode cX11_loose 69 = .ok (.invokevirtual 243, 3) := by decide +kernel
theorem dX11_loose_72 : decode cX11_loose 72 = .ok (.ireturn, 1) := by decide +kernel
theorem dX11_isBehind_0 : decode cX11_isBehind 0 = .ok (.iload_n 0, 1) := by decide +kernel
theorem dX11_isBehind_1 : decode cX11_isBehind 1 = .ok (.iconst 0, 1) := by decide +kernel
theorem dX11_isBehind_2 : decode cX11_isBehind 2 = .ok (.bipush 99, 2) := by decide +kernel
theorem dX11_isBehind_4 : decode cX11_isBehind 4 = .ok (.invokestatic 70, 3) := by decide +kernel
theorem dX11_isBehind_7 : decode cX11_isBehind 7 = .ok (.ireturn, 1) := by decide +kernel
theorem dX11_then_0 : decode cX11_then 0 = .ok (.iload_n 1, 1) := by decide +kernel
theorem dX11_then_1 : decode cX11_then 1 = .ok (.invokestatic 250, 3) := by decide +kernel
theorem dX11_then_4 : decode cX11_then 4 = .ok (.ifCond .eq 11, 3) := by decide +kernel
theorem dX11_then_7 : decode cX11_then 7 = .ok (.aload_n 0, 1) := by decide +kernel
theorem dX11_then_8 : decode cX11_then 8 = .ok (.iload_n 2, 1) := by decide +kernel
theorem dX11_then_9 : decode cX11_then 9 = .ok (.invokevirtual 228, 3) := by decide +kernel
theorem dX11_then_12 : decode cX11_then 12 = .ok (.ifCond .ne 10, 3) := by decide +kernel
theorem dX11_then_15 : decode cX11_then 15 = .ok (.aload_n 0, 1) := by decide +kernel
theorem dX11_then_16 : decode cX11_then 16 = .ok (.ldc 74, 2) := by decide +kernel
theorem dX11_then_18 : decode cX11_then 18 = .ok (.invokevirtual 75, 3) := by decide +kernel
theorem dX11_then_21 : decode cX11_then 21 = .ok (.ireturn, 1) := by decide +kernel
theorem dX11_then_22 : decode cX11_then 22 = .ok (.aload_n 0, 1) := by decide +kernel
theorem dX11_then_23 : decode cX11_then 23 = .ok (.getfield 9, 3) := by decide +kernel
theorem dX11_then_26 : decode cX11_then 26 = .ok (.aload_n 0, 1) := by decide +kernel
theorem dX11_then_27 : decode cX11_then 27 = .ok (.getfield 16, 3) := by decide +kernel
theorem dX11_then_30 : decode cX11_then 30 = .ok (.invokestatic 66, 3) := by decide +kernel
theorem dX11_then_33 : decode cX11_then 33 = .ok (.aload_n 0, 1) := by decide +kernel
theorem dX11_then_34 : decode cX11_then 34 = .ok (.iload_n 1, 1) := by decide +kernel
theorem dX11_then_35 : decode cX11_then 35 = .ok (.invokevirtual 240, 3) := by decide +kernel
theorem dX11_then_38 : decode cX11_then 38 = .ok (.aload_n 0, 1) := by decide +kernel
theorem dX11_then_39 : decode cX11_then 39 = .ok (.aload_n 0, 1) := by decide +kernel
theorem dX11_then_40 : decode cX11_then 40 = .ok (.iload_n 2, 1) := by decide +kernel
theorem dX11_then_41 : decode cX11_then 41 = .ok (.iconst 2, 1) := by decide +kernel
theorem dX11_then_42 : decode cX11_then 42 = .ok (.invokevirtual 196, 3) := by decide +kernel
theorem dX11_then_45 : decode cX11_then 45 = .ok (.invokevirtual 253, 3) := by decide +kernel
theorem dX11_then_48 : decode cX11_then 48 = .ok (.ireturn, 1) := by decide +kernel
theorem dX11_knows_0 : decode cX11_knows 0 = .ok (.aload_n 0, 1) := by decide +kernel
theorem dX11_knows_1 : decode cX11_knows 1 = .ok (.iload_n 1, 1) := by decide +kernel
theorem dX11_knows_2 : decode cX11_knows 2 = .ok (.iconst 2, 1) := by decide +kernel
theorem dX11_knows_3 : decode cX11_knows 3 = .ok (.invokevirtual 196, 3) := by decide +kernel
theorem dX11_knows_6 : decode cX11_knows 6 = .ok (.iload_n 2, 1) := by decide +kernel
theorem dX11_knows_7 : decode cX11_knows 7 = .ok (.invokestatic 199, 3) := by decide +kernel
theorem dX11_knows_10 : decode cX11_knows 10 = .ok (.ireturn, 1) := by decide +kernel
theorem dX11_learns_0 : decode cX11_learns 0 = .ok (.aload_n 0, 1) := by decide +kernel
theorem dX11_learns_1 : decode cX11_learns 1 = .ok (.iload_n 1, 1) := by decide +kernel
theorem dX11_learns_2 : decode cX11_learns 2 = .ok (.invokevirtual 228, 3) := by decide +kernel
theorem dX11_learns_5 : decode cX11_learns 5 = .ok (.ifCond .eq 11, 3) := by decide +kernel
theorem dX11_learns_8 : decode cX11_learns 8 = .ok (.aload_n 0, 1) := by decide +kernel
theorem dX11_learns_9 : decode cX11_learns 9 = .ok (.iload_n 2, 1) := by decide +kernel
theorem dX11_learns_10 : decode cX11_learns 10 = .ok (.invokevirtual 215, 3) := by decide +kernel
theorem dX11_learns_13 : decode cX11_learns 13 = .ok (.ifCond .ne 10, 3) := by decide +kernel
theorem dX11_learns_16 : decode cX11_learns 16 = .ok (.aload_n 0, 1) := by decide +kernel
theorem dX11_learns_17 : decode cX11_learns 17 = .ok (.ldc 74, 2) := by decide +kernel
theorem dX11_learns_19 : decode cX11_learns 19 = .ok (.invokevirtual 75, 3) := by decide +kernel
theorem dX11_learns_22 : decode cX11_learns 22 = .ok (.ireturn, 1) := by decide +kernel
theorem dX11_learns_23 : decode cX11_learns 23 = .ok (.aload_n 0, 1) := by decide +kernel
theorem dX11_learns_24 : decode cX11_learns 24 = .ok (.getfield 9, 3) := by decide +kernel
theorem dX11_learns_27 : decode cX11_learns 27 = .ok (.aload_n 0, 1) := by decide +kernel
theorem dX11_learns_28 : decode cX11_learns 28 = .ok (.getfield 16, 3) := by decide +kernel
theorem dX11_learns_31 : decode cX11_learns 31 = .ok (.invokestatic 66, 3) := by decide +kernel
theorem dX11_learns_34 : decode cX11_learns 34 = .ok (.iconst 0, 1) := by decide +kernel
theorem dX11_learns_35 : decode cX11_learns 35 = .ok (.istore_n 3, 1) := by decide +kernel
theorem dX11_learns_36 : decode cX11_learns 36 = .ok (.iload_n 3, 1) := by decide +kernel
theorem dX11_learns_37 : decode cX11_learns 37 = .ok (.bipush 99, 2) := by decide +kernel
theorem dX11_learns_39 : decode cX11_learns 39 = .ok (.if_icmp .ge 22, 3) := by decide +kernel
theorem dX11_learns_42 : decode cX11_learns 42 = .ok (.aload_n 0, 1) := by decide +kernel
theorem dX11_learns_43 : decode cX11_learns 43 = .ok (.iload_n 1, 1) := by decide +kernel
theorem dX11_learns_44 : decode cX11_learns 44 = .ok (.iload_n 2, 1) := by decide +kernel
theorem dX11_learns_45 : decode cX11_learns 45 = .ok (.invokevirtual 256, 3) := by decide +kernel
theorem dX11_learns_48 : decode cX11_learns 48 = .ok (.ifCond .ne 13, 3) := by decide +kernel
theorem dX11_learns_51 : decode cX11_learns 51 = .ok (.aload_n 0, 1) := by decide +kernel
theorem dX11_learns_52 : decode cX11_learns 52 = .ok (.invokevirtual 237, 3) := by decide +kernel
theorem dX11_learns_55 : decode cX11_learns 55 = .ok (.iinc 3 1, 3) := by decide +kernel
theorem dX11_learns_58 : decode cX11_learns 58 = .ok (.goto (-22), 3) := by decide +kernel
theorem dX11_learns_61 : decode cX11_learns 61 = .ok (.aload_n 0, 1) := by decide +kernel
theorem dX11_learns_62 : decode cX11_learns 62 = .ok (.iload_n 1, 1) := by decide +kernel
theorem dX11_learns_63 : decode cX11_learns 63 = .ok (.iload_n 2, 1) := by decide +kernel
theorem dX11_learns_64 : decode cX11_learns 64 = .ok (.invokevirtual 256, 3) := by decide +kernel
theorem dX11_learns_67 : decode cX11_learns 67 = .ok (.istore 4, 2) := by decide +kernel
theorem dX11_learns_69 : decode cX11_learns 69 = .ok (.aload_n 0, 1) := by decide +kernel
theorem dX11_learns_70 : decode cX11_learns 70 = .ok (.getfield 16, 3) := by decide +kernel
theorem dX11_learns_73 : decode cX11_learns 73 = .ok (.aload_n 0, 1) := by decide +kernel
theorem dX11_learns_74 : decode cX11_learns 74 = .ok (.getfield 9, 3) := by decide +kernel
theorem dX11_learns_77 : decode cX11_learns 77 = .ok (.invokestatic 66, 3) := by decide +kernel
theorem dX11_learns_80 : decode cX11_learns 80 = .ok (.iload 4, 2) := by decide +kernel
theorem dX11_learns_82 : decode cX11_learns 82 = .ok (.ifCond .eq 7, 3) := by decide +kernel
theorem dX11_learns_85 : decode cX11_learns 85 = .ok (.iload_n 3, 1) := by decide +kernel
theorem dX11_learns_86 : decode cX11_learns 86 = .ok (.goto 10, 3) := by decide +kernel
theorem dX11_learns_89 : decode cX11_learns 89 = .ok (.aload_n 0, 1) := by decide +kernel
theorem dX11_learns_90 : decode cX11_learns 90 = .ok (.ldc_w 259, 3) := by decide +kernel
theorem dX11_learns_93 : decode cX11_learns 93 = .ok (.invokevirtual 75, 3) := by decide +kernel
theorem dX11_learns_96 : decode cX11_learns 96 = .ok (.ireturn, 1) := by decide +kernel
theorem dX11_knowersBehind_0 : decode cX11_knowersBehind 0 = .ok (.aload_n 0, 1) := by decide +kernel
theorem dX11_knowersBehind_1 : decode cX11_knowersBehind 1 = .ok (.iload_n 2, 1) := by decide +kernel
theorem dX11_knowersBehind_2 : decode cX11_knowersBehind 2 = .ok (.invokevirtual 240, 3) := by decide +kernel
theorem dX11_knowersBehind_5 : decode cX11_knowersBehind 5 = .ok (.aload_n 0, 1) := by decide +kernel
theorem dX11_knowersBehind_6 : decode cX11_knowersBehind 6 = .ok (.aload_n 0, 1) := by decide +kernel
theorem dX11_knowersBehind_7 : decode cX11_knowersBehind 7 = .ok (.iload_n 1, 1) := by decide +kernel
theorem dX11_knowersBehind_8 : decode cX11_knowersBehind 8 = .ok (.invokevirtual 209, 3) := by decide +kernel
theorem dX11_knowersBehind_11 : decode cX11_knowersBehind 11 = .ok (.invokevirtual 253, 3) := by decide +kernel
theorem dX11_knowersBehind_14 : decode cX11_knowersBehind 14 = .ok (.ireturn, 1) := by decide +kernel
theorem dX11_isSet_0 : decode cX11_isSet 0 = .ok (.iload_n 1, 1) := by decide +kernel
theorem dX11_isSet_1 : decode cX11_isSet 1 = .ok (.iconst 0, 1) := by decide +kernel
theorem dX11_isSet_2 : decode cX11_isSet 2 = .ok (.iconst 1, 1) := by decide +kernel
theorem dX11_isSet_3 : decode cX11_isSet 3 = .ok (.aload_n 0, 1) := by decide +kernel
theorem dX11_isSet_4 : decode cX11_isSet 4 = .ok (.getfield 9, 3) := by decide +kernel
theorem dX11_isSet_7 : decode cX11_isSet 7 = .ok (.iconst 4, 1) := by decide +kernel
theorem dX11_isSet_8 : decode cX11_isSet 8 = .ok (.iaload, 1) := by decide +kernel
theorem dX11_isSet_9 : decode cX11_isSet 9 = .ok (.ishl, 1) := by decide +kernel
theorem dX11_isSet_10 : decode cX11_isSet 10 = .ok (.iconst 1, 1) := by decide +kernel
theorem dX11_isSet_11 : decode cX11_isSet 11 = .ok (.isub, 1) := by decide +kernel
theorem dX11_isSet_12 : decode cX11_isSet 12 = .ok (.invokestatic 70, 3) := by decide +kernel
theorem dX11_isSet_15 : decode cX11_isSet 15 = .ok (.ireturn, 1) := by decide +kernel
theorem dX11_calls_0 : decode cX11_calls 0 = .ok (.aload_n 0, 1) := by decide +kernel
theorem dX11_calls_1 : decode cX11_calls 1 = .ok (.iload_n 1, 1) := by decide +kernel
theorem dX11_calls_2 : decode cX11_calls 2 = .ok (.invokevirtual 215, 3) := by decide +kernel
theorem dX11_calls_5 : decode cX11_calls 5 = .ok (.ifCond .eq 34, 3) := by decide +kernel
theorem dX11_calls_8 : decode cX11_calls 8 = .ok (.iload_n 2, 1) := by decide +kernel
theorem dX11_calls_9 : decode cX11_calls 9 = .ok (.invokestatic 250, 3) := by decide +kernel
theorem dX11_calls_12 : decode cX11_calls 12 = .ok (.ifCond .eq 27, 3) := by decide +kernel
theorem dX11_calls_15 : decode cX11_calls 15 = .ok (.aload_n 0, 1) := by decide +kernel
theorem dX11_calls_16 : decode cX11_calls 16 = .ok (.iload_n 3, 1) := by decide +kernel
theorem dX11_calls_17 : decode cX11_calls 17 = .ok (.invokevirtual 260, 3) := by decide +kernel
theorem dX11_calls_20 : decode cX11_calls 20 = .ok (.ifCond .eq 19, 3) := by decide +kernel
theorem dX11_calls_23 : decode cX11_calls 23 = .ok (.aload_n 0, 1) := by decide +kernel
theorem dX11_calls_24 : decode cX11_calls 24 = .ok (.iload 4, 2) := by decide +kernel
theorem dX11_calls_26 : decode cX11_calls 26 = .ok (.invokevirtual 260, 3) := by decide +kernel
theorem dX11_calls_29 : decode cX11_calls 29 = .ok (.ifCond .eq 10, 3) := by decide +kernel
theorem dX11_calls_32 : decode cX11_calls 32 = .ok (.iload_n 3, 1) := by decide +kernel
theorem dX11_calls_33 : decode cX11_calls 33 = .ok (.iload 4, 2) := by decide +kernel
theorem dX11_calls_35 : decode cX11_calls 35 = .ok (.iand, 1) := by decide +kernel
theorem dX11_calls_36 : decode cX11_calls 36 = .ok (.ifCond .eq 10, 3) := by decide +kernel
theorem dX11_calls_39 : decode cX11_calls 39 = .ok (.aload_n 0, 1) := by decide +kernel
theorem dX11_calls_40 : decode cX11_calls 40 = .ok (.ldc 74, 2) := by decide +kernel
theorem dX11_calls_42 : decode cX11_calls 42 = .ok (.invokevirtual 75, 3) := by decide +kernel
theorem dX11_calls_45 : decode cX11_calls 45 = .ok (.ireturn, 1) := by decide +kernel
theorem dX11_calls_46 : decode cX11_calls 46 = .ok (.aload_n 0, 1) := by decide +kernel
theorem dX11_calls_47 : decode cX11_calls 47 = .ok (.getfield 9, 3) := by decide +kernel
theorem dX11_calls_50 : decode cX11_calls 50 = .ok (.aload_n 0, 1) := by decide +kernel
theorem dX11_calls_51 : decode cX11_calls 51 = .ok (.getfield 16, 3) := by decide +kernel
theorem dX11_calls_54 : decode cX11_calls 54 = .ok (.invokestatic 66, 3) := by decide +kernel
theorem dX11_calls_57 : decode cX11_calls 57 = .ok (.iconst 0, 1) := by decide +kernel
theorem dX11_calls_58 : decode cX11_calls 58 = .ok (.istore 5, 2) := by decide +kernel
theorem dX11_calls_60 : decode cX11_calls 60 = .ok (.iconst 0, 1) := by decide +kernel
theorem dX11_calls_61 : decode cX11_calls 61 = .ok (.istore 6, 2) := by decide +kernel
theorem dX11_calls_63 : decode cX11_calls 63 = .ok (.iload 6, 2) := by decide +kernel
theorem dX11_calls_65 : decode cX11_calls 65 = .ok (.aload_n 0, 1) := by decide +kernel
theorem dX11_calls_66 : decode cX11_calls 66 = .ok (.getfield 16, 3) := by decide +kernel
theorem dX11_calls_69 : decode cX11_calls 69 = .ok (.iconst 1, 1) := by decide +kernel
theorem dX11_calls_70 : decode cX11_calls 70 = .ok (.iaload, 1) := by decide +kernel
theorem dX11_calls_71 : decode cX11_calls 71 = .ok (.if_icmp .ge 70, 3) := by decide +kernel
theorem dX11_calls_74 : decode cX11_calls 74 = .ok (.aload_n 0, 1) := by decide +kernel
theorem dX11_calls_75 : decode cX11_calls 75 = .ok (.getfield 9, 3) := by decide +kernel
theorem dX11_calls_78 : decode cX11_calls 78 = .ok (.iload_n 1, 1) := by decide +kernel
theorem dX11_calls_79 : decode cX11_calls 79 = .ok (.iconst 2, 1) := by decide +kernel
theorem dX11_calls_80 : decode cX11_calls 80 = .ok (.invokestatic 159, 3) := by decide +kernel
theorem dX11_calls_83 : decode cX11_calls 83 = .ok (.iload 6, 2) := by decide +kernel
theorem dX11_calls_85 : decode cX11_calls 85 = .ok (.iastore, 1) := by decide +kernel
theorem dX11_calls_86 : decode cX11_calls 86 = .ok (.aload_n 0, 1) := by decide +kernel
theorem dX11_calls_87 : decode cX11_calls 87 = .ok (.getfield 9, 3) := by decide +kernel
theorem dX11_calls_90 : decode cX11_calls 90 = .ok (.iload_n 1, 1) := by decide +kernel
theorem dX11_calls_91 : decode cX11_calls 91 = .ok (.iconst 4, 1) := by decide +kernel
theorem dX11_calls_92 : decode cX11_calls 92 = .ok (.invokestatic 159, 3) := by decide +kernel
theorem dX11_calls_95 : decode cX11_calls 95 = .ok (.iconst 0, 1) := by decide +kernel
theorem dX11_calls_96 : decode cX11_calls 96 = .ok (.iastore, 1) := by decide +kernel
theorem dX11_calls_97 : decode cX11_calls 97 = .ok (.aload_n 0, 1) := by decide +kernel
theorem dX11_calls_98 : decode cX11_calls 98 = .ok (.iload_n 1, 1) := by decide +kernel
theorem dX11_calls_99 : decode cX11_calls 99 = .ok (.iload_n 2, 1) := by decide +kernel
theorem dX11_calls_100 : decode cX11_calls 100 = .ok (.invokevirtual 263, 3) := by decide +kernel
theorem dX11_calls_103 : decode cX11_calls 103 = .ok (.istore 7, 2) := by decide +kernel
theorem dX11_calls_105 : decode cX11_calls 105 = .ok (.iload 5, 2) := by decide +kernel
theorem dX11_calls_107 : decode cX11_calls 107 = .ok (.iload_n 3, 1) := by decide +kernel
theorem dX11_calls_108 : decode cX11_calls 108 = .ok (.iload 7, 2) := by decide +kernel
theorem dX11_calls_110 : decode cX11_calls 110 = .ok (.iconst (-1), 1) := by decide +kernel
theorem dX11_calls_111 : decode cX11_calls 111 = .ok (.ixor, 1) := by decide +kernel
theorem dX11_calls_112 : decode cX11_calls 112 = .ok (.iand, 1) := by decide +kernel
theorem dX11_calls_113 : decode cX11_calls 113 = .ok (.ifCond .ne 18, 3) := by decide +kernel
theorem dX11_calls_116 : decode cX11_calls 116 = .ok (.iload 4, 2) := by decide +kernel
theorem dX11_calls_118 : decode cX11_calls 118 = .ok (.iload 7, 2) := by decide +kernel
theorem dX11_calls_120 : decode cX11_calls 120 = .ok (.iand, 1) := by decide +kernel
theorem dX11_calls_121 : decode cX11_calls 121 = .ok (.ifCond .ne 10, 3) := by decide +kernel
theorem dX11_calls_124 : decode cX11_calls 124 = .ok (.iconst 1, 1) := by decide +kernel
theorem dX11_calls_125 : decode cX11_calls 125 = .ok (.iload 6, 2) := by decide +kernel
theorem dX11_calls_127 : decode cX11_calls 127 = .ok (.ishl, 1) := by decide +kernel
theorem dX11_calls_128 : decode cX11_calls 128 = .ok (.goto 4, 3) := by decide +kernel
theorem dX11_calls_131 : decode cX11_calls 131 = .ok (.iconst 0, 1) := by decide +kernel
theorem dX11_calls_132 : decode cX11_calls 132 = .ok (.ior, 1) := by decide +kernel
theorem dX11_calls_133 : decode cX11_calls 133 = .ok (.istore 5, 2) := by decide +kernel
theorem dX11_calls_135 : decode cX11_calls 135 = .ok (.iinc 6 1, 3) := by decide +kernel
theorem dX11_calls_138 : decode cX11_calls 138 = .ok (.goto (-75), 3) := by decide +kernel
theorem dX11_calls_141 : decode cX11_calls 141 = .ok (.iload 5, 2) := by decide +kernel
theorem dX11_calls_143 : decode cX11_calls 143 = .ok (.ireturn, 1) := by decide +kernel
theorem dX11_isMoreStopped_0 : decode cX11_isMoreStopped 0 = .ok (.iconst 1, 1) := by decide +kernel
theorem dX11_isMoreStopped_1 : decode cX11_isMoreStopped 1 = .ok (.istore_n 2, 1) := by decide +kernel
theorem dX11_isMoreStopped_2 : decode cX11_isMoreStopped 2 = .ok (.iconst 0, 1) := by decide +kernel
theorem dX11_isMoreStopped_3 : decode cX11_isMoreStopped 3 = .ok (.istore_n 3, 1) := by decide +kernel
theorem dX11_isMoreStopped_4 : decode cX11_isMoreStopped 4 = .ok (.iload_n 3, 1) := by decide +kernel
theorem dX11_isMoreStopped_5 : decode cX11_isMoreStopped 5 = .ok (.aload_n 0, 1) := by decide +kernel
theorem dX11_isMoreStopped_6 : decode cX11_isMoreStopped 6 = .ok (.getfield 9, 3) := by decide +kernel
theorem dX11_isMoreStopped_9 : decode cX11_isMoreStopped 9 = .ok (.iconst 2, 1) := by decide +kernel
theorem dX11_isMoreStopped_10 : decode cX11_isMoreStopped 10 = .ok (.iaload, 1) := by decide +kernel
theorem dX11_isMoreStopped_11 : decode cX11_isMoreStopped 11 = .ok (.if_icmp .ge 36, 3) := by decide +kernel
theorem dX11_isMoreStopped_14 : decode cX11_isMoreStopped 14 = .ok (.iload_n 2, 1) := by decide +kernel
theorem dX11_isMoreStopped_15 : decode cX11_isMoreStopped 15 = .ok (.ifCond .eq 24, 3) := by decide +kernel
theorem dX11_isMoreStopped_18 : decode cX11_isMoreStopped 18 = .ok (.iload_n 1, 1) := by decide +kernel
theorem dX11_isMoreStopped_19 : decode cX11_isMoreStopped 19 = .ok (.iload_n 3, 1) := by decide +kernel
theorem dX11_isMoreStopped_20 : decode cX11_isMoreStopped 20 = .ok (.invokestatic 199, 3) := by decide +kernel
theorem dX11_isMoreStopped_23 : decode cX11_isMoreStopped 23 = .ok (.ifCond .eq 12, 3) := by decide +kernel
theorem dX11_isMoreStopped_26 : decode cX11_isMoreStopped 26 = .ok (.aload_n 0, 1) := by decide +kernel
theorem dX11_isMoreStopped_27 : decode cX11_isMoreStopped 27 = .ok (.iload_n 3, 1) := by decide +kernel
theorem dX11_isMoreStopped_28 : decode cX11_isMoreStopped 28 = .ok (.iconst 3, 1) := by decide +kernel
theorem dX11_isMoreStopped_29 : decode cX11_isMoreStopped 29 = .ok (.invokevirtual 178, 3) := by decide +kernel
theorem dX11_isMoreStopped_32 : decode cX11_isMoreStopped 32 = .ok (.ifCond .ne 7, 3) := by decide +kernel
theorem dX11_isMoreStopped_35 : decode cX11_isMoreStopped 35 = .ok (.iconst 1, 1) := by decide +kernel
theorem dX11_isMoreStopped_36 : decode cX11_isMoreStopped 36 = .ok (.goto 4, 3) := by decide +kernel
theorem dX11_isMoreStopped_39 : decode cX11_isMoreStopped 39 = .ok (.iconst 0, 1) := by decide +kernel
theorem dX11_isMoreStopped_40 : decode cX11_isMoreStopped 40 = .ok (.istore_n 2, 1) := by decide +kernel
theorem dX11_isMoreStopped_41 : decode cX11_isMoreStopped 41 = .ok (.iinc 3 1, 3) := by decide +kernel
theorem dX11_isMoreStopped_44 : decode cX11_isMoreStopped 44 = .ok (.goto (-40), 3) := by decide +kernel
theorem dX11_isMoreStopped_47 : decode cX11_isMoreStopped 47 = .ok (.iload_n 2, 1) := by decide +kernel
theorem dX11_isMoreStopped_48 : decode cX11_isMoreStopped 48 = .ok (.ireturn, 1) := by decide +kernel
theorem dX11_knowsIfStopped_0 : decode cX11_knowsIfStopped 0 = .ok (.aload_n 0, 1) := by decide +kernel
theorem dX11_knowsIfStopped_1 : decode cX11_knowsIfStopped 1 = .ok (.getfield 9, 3) := by decide +kernel
theorem dX11_knowsIfStopped_4 : decode cX11_knowsIfStopped 4 = .ok (.aload_n 0, 1) := by decide +kernel
theorem dX11_knowsIfStopped_5 : decode cX11_knowsIfStopped 5 = .ok (.getfield 16, 3) := by decide +kernel
theorem dX11_knowsIfStopped_8 : decode cX11_knowsIfStopped 8 = .ok (.invokestatic 66, 3) := by decide +kernel
theorem dX11_knowsIfStopped_11 : decode cX11_knowsIfStopped 11 = .ok (.iconst 0, 1) := by decide +kernel
theorem dX11_knowsIfStopped_12 : decode cX11_knowsIfStopped 12 = .ok (.istore 5, 2) := by decide +kernel
theorem dX11_knowsIfStopped_14 : decode cX11_knowsIfStopped 14 = .ok (.iload 5, 2) := by decide +kernel
theorem dX11_knowsIfStopped_16 : decode cX11_knowsIfStopped 16 = .ok (.aload_n 0, 1) := by decide +kernel
theorem dX11_knowsIfStopped_17 : decode cX11_knowsIfStopped 17 = .ok (.getfield 16, 3) := by decide +kernel
theorem dX11_knowsIfStopped_20 : decode cX11_knowsIfStopped 20 = .ok (.iconst 2, 1) := by decide +kernel
theorem dX11_knowsIfStopped_21 : decode cX11_knowsIfStopped 21 = .ok (.iaload, 1) := by decide +kernel
theorem dX11_knowsIfStopped_22 : decode cX11_knowsIfStopped 22 = .ok (.if_icmp .ge 30, 3) := by decide +kernel
theorem dX11_knowsIfStopped_25 : decode cX11_knowsIfStopped 25 = .ok (.aload_n 0, 1) := by decide +kernel
theorem dX11_knowsIfStopped_26 : decode cX11_knowsIfStopped 26 = .ok (.getfield 9, 3) := by decide +kernel
theorem dX11_knowsIfStopped_29 : decode cX11_knowsIfStopped 29 = .ok (.iload 5, 2) := by decide +kernel
theorem dX11_knowsIfStopped_31 : decode cX11_knowsIfStopped 31 = .ok (.iconst 3, 1) := by decide +kernel
theorem dX11_knowsIfStopped_32 : decode cX11_knowsIfStopped 32 = .ok (.invokestatic 156, 3) := by decide +kernel
theorem dX11_knowsIfStopped_35 : decode cX11_knowsIfStopped 35 = .ok (.dup2, 1) := by decide +kernel
theorem dX11_knowsIfStopped_36 : decode cX11_knowsIfStopped 36 = .ok (.iaload, 1) := by decide +kernel
theorem dX11_knowsIfStopped_37 : decode cX11_knowsIfStopped 37 = .ok (.iload 4, 2) := by decide +kernel
theorem dX11_knowsIfStopped_39 : decode cX11_knowsIfStopped 39 = .ok (.iload 5, 2) := by decide +kernel
theorem dX11_knowsIfStopped_41 : decode cX11_knowsIfStopped 41 = .ok (.ishr, 1) := by decide +kernel
theorem dX11_knowsIfStopped_42 : decode cX11_knowsIfStopped 42 = .ok (.iconst 1, 1) := by decide +kernel
theorem dX11_knowsIfStopped_43 : decode cX11_knowsIfStopped 43 = .ok (.iand, 1) := by decide +kernel
theorem dX11_knowsIfStopped_44 : decode cX11_knowsIfStopped 44 = .ok (.ior, 1) := by decide +kernel
theorem dX11_knowsIfStopped_45 : decode cX11_knowsIfStopped 45 = .ok (.iastore, 1) := by decide +kernel
theorem dX11_knowsIfStopped_46 : decode cX11_knowsIfStopped 46 = .ok (.iinc 5 1, 3) := by decide +kernel
theorem dX11_knowsIfStopped_49 : decode cX11_knowsIfStopped 49 = .ok (.goto (-35), 3) := by decide +kernel
theorem dX11_knowsIfStopped_52 : decode cX11_knowsIfStopped 52 = .ok (.aload_n 0, 1) := by decide +kernel
theorem dX11_knowsIfStopped_53 : decode cX11_knowsIfStopped 53 = .ok (.iload_n 2, 1) := by decide +kernel
theorem dX11_knowsIfStopped_54 : decode cX11_knowsIfStopped 54 = .ok (.iload_n 3, 1) := by decide +kernel
theorem dX11_knowsIfStopped_55 : decode cX11_knowsIfStopped 55 = .ok (.invokevirtual 263, 3) := by decide +kernel
theorem dX11_knowsIfStopped_58 : decode cX11_knowsIfStopped 58 = .ok (.iload_n 1, 1) := by decide +kernel
theorem dX11_knowsIfStopped_59 : decode cX11_knowsIfStopped 59 = .ok (.invokestatic 199, 3) := by decide +kernel
theorem dX11_knowsIfStopped_62 : decode cX11_knowsIfStopped 62 = .ok (.ireturn, 1) := by decide +kernel
theorem dX11_stops_0 : decode cX11_stops 0 = .ok (.aload_n 0, 1) := by decide +kernel
theorem dX11_stops_1 : decode cX11_stops 1 = .ok (.iload_n 1, 1) := by decide +kernel
theorem dX11_stops_2 : decode cX11_stops 2 = .ok (.invokevirtual 228, 3) := by decide +kernel
theorem dX11_stops_5 : decode cX11_stops 5 = .ok (.ifCond .eq 21, 3) := by decide +kernel
theorem dX11_stops_8 : decode cX11_stops 8 = .ok (.aload_n 0, 1) := by decide +kernel
theorem dX11_stops_9 : decode cX11_stops 9 = .ok (.iload_n 2, 1) := by decide +kernel
theorem dX11_stops_10 : decode cX11_stops 10 = .ok (.invokevirtual 215, 3) := by decide +kernel
theorem dX11_stops_13 : decode cX11_stops 13 = .ok (.ifCond .eq 13, 3) := by decide +kernel
theorem dX11_stops_16 : decode cX11_stops 16 = .ok (.iload_n 3, 1) := by decide +kernel
theorem dX11_stops_17 : decode cX11_stops 17 = .ok (.iconst 0, 1) := by decide +kernel
theorem dX11_stops_18 : decode cX11_stops 18 = .ok (.bipush 10, 2) := by decide +kernel
theorem dX11_stops_20 : decode cX11_stops 20 = .ok (.invokestatic 70, 3) := by decide +kernel
theorem dX11_stops_23 : decode cX11_stops 23 = .ok (.ifCond .ne 10, 3) := by decide +kernel
theorem dX11_stops_26 : decode cX11_stops 26 = .ok (.aload_n 0, 1) := by decide +kernel
theorem dX11_stops_27 : decode cX11_stops 27 = .ok (.ldc 74, 2) := by decide +kernel
theorem dX11_stops_29 : decode cX11_stops 29 = .ok (.invokevirtual 75, 3) := by decide +kernel
theorem dX11_stops_32 : decode cX11_stops 32 = .ok (.ireturn, 1) := by decide +kernel
theorem dX11_stops_33 : decode cX11_stops 33 = .ok (.iconst (-1), 1) := by decide +kernel
theorem dX11_stops_34 : decode cX11_stops 34 = .ok (.istore 4, 2) := by decide +kernel
theorem dX11_stops_36 : decode cX11_stops 36 = .ok (.iconst 0, 1) := by decide +kernel
theorem dX11_stops_37 : decode cX11_stops 37 = .ok (.istore 5, 2) := by decide +kernel
theorem dX11_stops_39 : decode cX11_stops 39 = .ok (.iload 5, 2) := by decide +kernel
theorem dX11_stops_41 : decode cX11_stops 41 = .ok (.iconst 1, 1) := by decide +kernel
theorem dX11_stops_42 : decode cX11_stops 42 = .ok (.aload_n 0, 1) := by decide +kernel
theorem dX11_stops_43 : decode cX11_stops 43 = .ok (.getfield 9, 3) := by decide +kernel
theorem dX11_stops_46 : decode cX11_stops 46 = .ok (.iconst 2, 1) := by decide +kernel
theorem dX11_stops_47 : decode cX11_stops 47 = .ok (.iaload, 1) := by decide +kernel
theorem dX11_stops_48 : decode cX11_stops 48 = .ok (.ishl, 1) := by decide +kernel
theorem dX11_stops_49 : decode cX11_stops 49 = .ok (.if_icmp .ge 69, 3) := by decide +kernel
theorem dX11_stops_52 : decode cX11_stops 52 = .ok (.iload 4, 2) := by decide +kernel
theorem dX11_stops_54 : decode cX11_stops 54 = .ok (.ifCond .lt 16, 3) := by decide +kernel
theorem dX11_stops_57 : decode cX11_stops 57 = .ok (.iload 5, 2) := by decide +kernel
theorem dX11_stops_59 : decode cX11_stops 59 = .ok (.invokestatic 266, 3) := by decide +kernel
theorem dX11_stops_62 : decode cX11_stops 62 = .ok (.iload 4, 2) := by decide +kernel
theorem dX11_stops_64 : decode cX11_stops 64 = .ok (.invokestatic 266, 3) := by decide +kernel
theorem dX11_stops_67 : decode cX11_stops 67 = .ok (.if_icmp .ge 16, 3) := by decide +kernel
theorem dX11_stops_70 : decode cX11_stops 70 = .ok (.aload_n 0, 1) := by decide +kernel
theorem dX11_stops_71 : decode cX11_stops 71 = .ok (.iload 5, 2) := by decide +kernel
theorem dX11_stops_73 : decode cX11_stops 73 = .ok (.invokevirtual 269, 3) := by decide +kernel
theorem dX11_stops_76 : decode cX11_stops 76 = .ok (.ifCond .eq 7, 3) := by decide +kernel
theorem dX11_stops_79 : decode cX11_stops 79 = .ok (.iconst 1, 1) := by decide +kernel
theorem dX11_stops_80 : decode cX11_stops 80 = .ok (.goto 4, 3) := by decide +kernel
theorem dX11_stops_83 : decode cX11_stops 83 = .ok (.iconst 0, 1) := by decide +kernel
theorem dX11_stops_84 : decode cX11_stops 84 = .ok (.istore 6, 2) := by decide +kernel
theorem dX11_stops_86 : decode cX11_stops 86 = .ok (.iload 6, 2) := by decide +kernel
theorem dX11_stops_88 : decode cX11_stops 88 = .ok (.ifCond .eq 20, 3) := by decide +kernel
theorem dX11_stops_91 : decode cX11_stops 91 = .ok (.aload_n 0, 1) := by decide +kernel
theorem dX11_stops_92 : decode cX11_stops 92 = .ok (.iload_n 1, 1) := by decide +kernel
theorem dX11_stops_93 : decode cX11_stops 93 = .ok (.iload_n 2, 1) := by decide +kernel
theorem dX11_stops_94 : decode cX11_stops 94 = .ok (.iload_n 3, 1) := by decide +kernel
theorem dX11_stops_95 : decode cX11_stops 95 = .ok (.iload 5, 2) := by decide +kernel
theorem dX11_stops_97 : decode cX11_stops 97 = .ok (.invokevirtual 272, 3) := by decide +kernel
theorem dX11_stops_100 : decode cX11_stops 100 = .ok (.ifCond .ne 8, 3) := by decide +kernel
theorem dX11_stops_103 : decode cX11_stops 103 = .ok (.iload 5, 2) := by decide +kernel
theorem dX11_stops_105 : decode cX11_stops 105 = .ok (.goto 5, 3) := by decide +kernel
theorem dX11_stops_108 : decode cX11_stops 108 = .ok (.iload 4, 2) := by decide +kernel
theorem dX11_stops_110 : decode cX11_stops 110 = .ok (.istore 4, 2) := by decide +kernel
theorem dX11_stops_112 : decode cX11_stops 112 = .ok (.iinc 5 1, 3) := by decide +kernel
theorem dX11_stops_115 : decode cX11_stops 115 = .ok (.goto (-76), 3) := by decide +kernel
theorem dX11_stops_118 : decode cX11_stops 118 = .ok (.iload 4, 2) := by decide +kernel
theorem dX11_stops_120 : decode cX11_stops 120 = .ok (.ifCond .ge 13, 3) := by decide +kernel
theorem dX11_stops_123 : decode cX11_stops 123 = .ok (.aload_n 0, 1) := by decide +kernel
theorem dX11_stops_124 : decode cX11_stops 124 = .ok (.ldc_w 259, 3) := by decide +kernel
theorem dX11_stops_127 : decode cX11_stops 127 = .ok (.invokevirtual 75, 3) := by decide +kernel
theorem dX11_stops_130 : decode cX11_stops 130 = .ok (.goto 5, 3) := by decide +kernel
theorem dX11_stops_133 : decode cX11_stops 133 = .ok (.iload 4, 2) := by decide +kernel
theorem dX11_stops_135 : decode cX11_stops 135 = .ok (.ireturn, 1) := by decide +kernel
theorem dX11_tellsNobody_0 : decode cX11_tellsNobody 0 = .ok (.aload_n 0, 1) := by decide +kernel
theorem dX11_tellsNobody_1 : decode cX11_tellsNobody 1 = .ok (.getfield 44, 3) := by decide +kernel
theorem dX11_tellsNobody_4 : decode cX11_tellsNobody 4 = .ok (.iload_n 1, 1) := by decide +kernel
theorem dX11_tellsNobody_5 : decode cX11_tellsNobody 5 = .ok (.iaload, 1) := by decide +kernel
theorem dX11_tellsNobody_6 : decode cX11_tellsNobody 6 = .ok (.ifCond .eq 18, 3) := by decide +kernel
theorem dX11_tellsNobody_9 : decode cX11_tellsNobody 9 = .ok (.aload_n 0, 1) := by decide +kernel
theorem dX11_tellsNobody_10 : decode cX11_tellsNobody 10 = .ok (.getfield 47, 3) := by decide +kernel
theorem dX11_tellsNobody_13 : decode cX11_tellsNobody 13 = .ok (.iload_n 1, 1) := by decide +kernel
theorem dX11_tellsNobody_14 : decode cX11_tellsNobody 14 = .ok (.iaload, 1) := by decide +kernel
theorem dX11_tellsNobody_15 : decode cX11_tellsNobody 15 = .ok (.aload_n 0, 1) := by decide +kernel
theorem dX11_tellsNobody_16 : decode cX11_tellsNobody 16 = .ok (.getfield 9, 3) := by decide +kernel
theorem dX11_tellsNobody_19 : decode cX11_tellsNobody 19 = .ok (.iconst 4, 1) := by decide +kernel
theorem dX11_tellsNobody_20 : decode cX11_tellsNobody 20 = .ok (.iaload, 1) := by decide +kernel
theorem dX11_tellsNobody_21 : decode cX11_tellsNobody 21 = .ok (.if_icmp .eq 7, 3) := by decide +kernel
theorem dX11_tellsNobody_24 : decode cX11_tellsNobody 24 = .ok (.iconst 1, 1) := by decide +kernel
theorem dX11_tellsNobody_25 : decode cX11_tellsNobody 25 = .ok (.goto 4, 3) := by decide +kernel
theorem dX11_tellsNobody_28 : decode cX11_tellsNobody 28 = .ok (.iconst 0, 1) := by decide +kernel
theorem dX11_tellsNobody_29 : decode cX11_tellsNobody 29 = .ok (.ireturn, 1) := by decide +kernel
theorem dX11_isTold_0 : decode cX11_isTold 0 = .ok (.iconst 1, 1) := by decide +kernel
theorem dX11_isTold_1 : decode cX11_isTold 1 = .ok (.istore_n 3, 1) := by decide +kernel
theorem dX11_isTold_2 : decode cX11_isTold 2 = .ok (.iconst 0, 1) := by decide +kernel
theorem dX11_isTold_3 : decode cX11_isTold 3 = .ok (.istore 4, 2) := by decide +kernel
theorem dX11_isTold_5 : decode cX11_isTold 5 = .ok (.iload 4, 2) := by decide +kernel
theorem dX11_isTold_7 : decode cX11_isTold 7 = .ok (.aload_n 0, 1) := by decide +kernel
theorem dX11_isTold_8 : decode cX11_isTold 8 = .ok (.getfield 9, 3) := by decide +kernel
theorem dX11_isTold_11 : decode cX11_isTold 11 = .ok (.iconst 4, 1) := by decide +kernel
theorem dX11_isTold_12 : decode cX11_isTold 12 = .ok (.iaload, 1) := by decide +kernel
theorem dX11_isTold_13 : decode cX11_isTold 13 = .ok (.if_icmp .ge 49, 3) := by decide +kernel
theorem dX11_isTold_16 : decode cX11_isTold 16 = .ok (.aload_n 0, 1) := by decide +kernel
theorem dX11_isTold_17 : decode cX11_isTold 17 = .ok (.getfield 50, 3) := by decide +kernel
theorem dX11_isTold_20 : decode cX11_isTold 20 = .ok (.bipush 40, 2) := by decide +kernel
theorem dX11_isTold_22 : decode cX11_isTold 22 = .ok (.iload_n 1, 1) := by decide +kernel
theorem dX11_isTold_23 : decode cX11_isTold 23 = .ok (.imul, 1) := by decide +kernel
theorem dX11_isTold_24 : decode cX11_isTold 24 = .ok (.iload 4, 2) := by decide +kernel
theorem dX11_isTold_26 : decode cX11_isTold 26 = .ok (.iadd, 1) := by decide +kernel
theorem dX11_isTold_27 : decode cX11_isTold 27 = .ok (.iaload, 1) := by decide +kernel
theorem dX11_isTold_28 : decode cX11_isTold 28 = .ok (.istore 5, 2) := by decide +kernel
theorem dX11_isTold_30 : decode cX11_isTold 30 = .ok (.iload_n 3, 1) := by decide +kernel
theorem dX11_isTold_31 : decode cX11_isTold 31 = .ok (.ifCond .eq 23, 3) := by decide +kernel
theorem dX11_isTold_34 : decode cX11_isTold 34 = .ok (.iload 5, 2) := by decide +kernel
theorem dX11_isTold_36 : decode cX11_isTold 36 = .ok (.ifCond .lt 14, 3) := by decide +kernel
theorem dX11_isTold_39 : decode cX11_isTold 39 = .ok (.iload 5, 2) := by decide +kernel
theorem dX11_isTold_41 : decode cX11_isTold 41 = .ok (.iload_n 2, 1) := by decide +kernel
theorem dX11_isTold_42 : decode cX11_isTold 42 = .ok (.iload 4, 2) := by decide +kernel
theorem dX11_isTold_44 : decode cX11_isTold 44 = .ok (.ishr, 1) := by decide +kernel
theorem dX11_isTold_45 : decode cX11_isTold 45 = .ok (.iconst 1, 1) := by decide +kernel
theorem dX11_isTold_46 : decode cX11_isTold 46 = .ok (.iand, 1) := by decide +kernel
theorem dX11_isTold_47 : decode cX11_isTold 47 = .ok (.if_icmp .ne 7, 3) := by decide +kernel
theorem dX11_isTold_50 : decode cX11_isTold 50 = .ok (.iconst 1, 1) := by decide +kernel
theorem dX11_isTold_51 : decode cX11_isTold 51 = .ok (.goto 4, 3) := by decide +kernel
theorem dX11_isTold_54 : decode cX11_isTold 54 = .ok (.iconst 0, 1) := by decide +kernel
theorem dX11_isTold_55 : decode cX11_isTold 55 = .ok (.istore_n 3, 1) := by decide +kernel
theorem dX11_isTold_56 : decode cX11_isTold 56 = .ok (.iinc 4 1, 3) := by decide +kernel
theorem dX11_isTold_59 : decode cX11_isTold 59 = .ok (.goto (-54), 3) := by decide +kernel
theorem dX11_isTold_62 : decode cX11_isTold 62 = .ok (.iload_n 3, 1) := by decide +kernel
theorem dX11_isTold_63 : decode cX11_isTold 63 = .ok (.ireturn, 1) := by decide +kernel
theorem dX11_who_0 : decode cX11_who 0 = .ok (.iload_n 1, 1) := by decide +kernel
theorem dX11_who_1 : decode cX11_who 1 = .ok (.invokestatic 276, 3) := by decide +kernel
theorem dX11_who_4 : decode cX11_who 4 = .ok (.ifCond .eq 10, 3) := by decide +kernel
theorem dX11_who_7 : decode cX11_who 7 = .ok (.iload_n 2, 1) := by decide +kernel
theorem dX11_who_8 : decode cX11_who 8 = .ok (.invokestatic 250, 3) := by decide +kernel
theorem dX11_who_11 : decode cX11_who 11 = .ok (.ifCond .ne 10, 3) := by decide +kernel
theorem dX11_who_14 : decode cX11_who 14 = .ok (.aload_n 0, 1) := by decide +kernel
theorem dX11_who_15 : decode cX11_who 15 = .ok (.ldc 74, 2) := by decide +kernel
theorem dX11_who_17 : decode cX11_who 17 = .ok (.invokevirtual 75, 3) := by decide +kernel
theorem dX11_who_20 : decode cX11_who 20 = .ok (.ireturn, 1) := by decide +kernel
theorem dX11_who_21 : decode cX11_who 21 = .ok (.aload_n 0, 1) := by decide +kernel
theorem dX11_who_22 : decode cX11_who 22 = .ok (.iload_n 1, 1) := by decide +kernel
theorem dX11_who_23 : decode cX11_who 23 = .ok (.invokevirtual 279, 3) := by decide +kernel
theorem dX11_who_26 : decode cX11_who 26 = .ok (.ifCond .eq 11, 3) := by decide +kernel
theorem dX11_who_29 : decode cX11_who 29 = .ok (.aload_n 0, 1) := by decide +kernel
theorem dX11_who_30 : decode cX11_who 30 = .ok (.ldc_w 259, 3) := by decide +kernel
theorem dX11_who_33 : decode cX11_who 33 = .ok (.invokevirtual 75, 3) := by decide +kernel
theorem dX11_who_36 : decode cX11_who 36 = .ok (.ireturn, 1) := by decide +kernel
theorem dX11_who_37 : decode cX11_who 37 = .ok (.aload_n 0, 1) := by decide +kernel
theorem dX11_who_38 : decode cX11_who 38 = .ok (.getfield 9, 3) := by decide +kernel
theorem dX11_who_41 : decode cX11_who 41 = .ok (.aload_n 0, 1) := by decide +kernel
theorem dX11_who_42 : decode cX11_who 42 = .ok (.getfield 16, 3) := by decide +kernel
theorem dX11_who_45 : decode cX11_who 45 = .ok (.invokestatic 66, 3) := by decide +kernel
theorem dX11_who_48 : decode cX11_who 48 = .ok (.aload_n 0, 1) := by decide +kernel
theorem dX11_who_49 : decode cX11_who 49 = .ok (.iload_n 2, 1) := by decide +kernel
theorem dX11_who_50 : decode cX11_who 50 = .ok (.invokevirtual 240, 3) := by decide +kernel
theorem dX11_who_53 : decode cX11_who 53 = .ok (.iconst 0, 1) := by decide +kernel
theorem dX11_who_54 : decode cX11_who 54 = .ok (.istore_n 3, 1) := by decide +kernel
theorem dX11_who_55 : decode cX11_who 55 = .ok (.iconst 0, 1) := by decide +kernel
theorem dX11_who_56 : decode cX11_who 56 = .ok (.istore 4, 2) := by decide +kernel
theorem dX11_who_58 : decode cX11_who 58 = .ok (.iload 4, 2) := by decide +kernel
theorem dX11_who_60 : decode cX11_who 60 = .ok (.aload_n 0, 1) := by decide +kernel
theorem dX11_who_61 : decode cX11_who 61 = .ok (.getfield 9, 3) := by decide +kernel
theorem dX11_who_64 : decode cX11_who 64 = .ok (.iconst 3, 1) := by decide +kernel
theorem dX11_who_65 : decode cX11_who 65 = .ok (.iaload, 1) := by decide +kernel
theorem dX11_who_66 : decode cX11_who 66 = .ok (.if_icmp .ge 34, 3) := by decide +kernel
theorem dX11_who_69 : decode cX11_who 69 = .ok (.iload_n 3, 1) := by decide +kernel
theorem dX11_who_70 : decode cX11_who 70 = .ok (.aload_n 0, 1) := by decide +kernel
theorem dX11_who_71 : decode cX11_who 71 = .ok (.iload_n 1, 1) := by decide +kernel
theorem dX11_who_72 : decode cX11_who 72 = .ok (.aload_n 0, 1) := by decide +kernel
theorem dX11_who_73 : decode cX11_who 73 = .ok (.iload 4, 2) := by decide +kernel
theorem dX11_who_75 : decode cX11_who 75 = .ok (.invokevirtual 209, 3) := by decide +kernel
theorem dX11_who_78 : decode cX11_who 78 = .ok (.invokevirtual 282, 3) := by decide +kernel
theorem dX11_who_81 : decode cX11_who 81 = .ok (.ifCond .eq 10, 3) := by decide +kernel
theorem dX11_who_84 : decode cX11_who 84 = .ok (.iconst 1, 1) := by decide +kernel
theorem dX11_who_85 : decode cX11_who 85 = .ok (.iload 4, 2) := by decide +kernel
theorem dX11_who_87 : decode cX11_who 87 = .ok (.ishl, 1) := by decide +kernel
theorem dX11_who_88 : decode cX11_who 88 = .ok (.goto 4, 3) := by decide +kernel
theorem dX11_who_91 : decode cX11_who 91 = .ok (.iconst 0, 1) := by decide +kernel
theorem dX11_who_92 : decode cX11_who 92 = .ok (.ior, 1) := by decide +kernel
theorem dX11_who_93 : decode cX11_who 93 = .ok (.istore_n 3, 1) := by decide +kernel
theorem dX11_who_94 : decode cX11_who 94 = .ok (.iinc 4 1, 3) := by decide +kernel
theorem dX11_who_97 : decode cX11_who 97 = .ok (.goto (-39), 3) := by decide +kernel
theorem dX11_who_100 : decode cX11_who 100 = .ok (.aload_n 0, 1) := by decide +kernel
theorem dX11_who_101 : decode cX11_who 101 = .ok (.iload_n 3, 1) := by decide +kernel
theorem dX11_who_102 : decode cX11_who 102 = .ok (.invokevirtual 253, 3) := by decide +kernel
theorem dX11_who_105 : decode cX11_who 105 = .ok (.ireturn, 1) := by decide +kernel
theorem dX11_loud_0 : decode cX11_loud 0 = .ok (.iload_n 1, 1) := by decide +kernel
theorem dX11_loud_1 : decode cX11_loud 1 = .ok (.invokestatic 276, 3) := by decide +kernel
theorem dX11_loud_4 : decode cX11_loud 4 = .ok (.ifCond .eq 31, 3) := by decide +kernel
theorem dX11_loud_7 : decode cX11_loud 7 = .ok (.aload_n 0, 1) := by decide +kernel
theorem dX11_loud_8 : decode cX11_loud 8 = .ok (.iload_n 2, 1) := by decide +kernel
theorem dX11_loud_9 : decode cX11_loud 9 = .ok (.invokevirtual 215, 3) := by decide +kernel
theorem dX11_loud_12 : decode cX11_loud 12 = .ok (.ifCond .eq 23, 3) := by decide +kernel
theorem dX11_loud_15 : decode cX11_loud 15 = .ok (.iload_n 3, 1) := by decide +kernel
theorem dX11_loud_16 : decode cX11_loud 16 = .ok (.iconst 0, 1) := by decide +kernel
theorem dX11_loud_17 : decode cX11_loud 17 = .ok (.bipush 20, 2) := by decide +kernel
theorem dX11_loud_19 : decode cX11_loud 19 = .ok (.invokestatic 70, 3) := by decide +kernel
theorem dX11_loud_22 : decode cX11_loud 22 = .ok (.ifCond .eq 13, 3) := by decide +kernel
theorem dX11_loud_25 : decode cX11_loud 25 = .ok (.iload 4, 2) := by decide +kernel
theorem dX11_loud_27 : decode cX11_loud 27 = .ok (.iconst 0, 1) := by decide +kernel
theorem dX11_loud_28 : decode cX11_loud 28 = .ok (.iconst 1, 1) := by decide +kernel
theorem dX11_loud_29 : decode cX11_loud 29 = .ok (.invokestatic 70, 3) := by decide +kernel
theorem dX11_loud_32 : decode cX11_loud 32 = .ok (.ifCond .ne 10, 3) := by decide +kernel
theorem dX11_loud_35 : decode cX11_loud 35 = .ok (.aload_n 0, 1) := by decide +kernel
theorem dX11_loud_36 : decode cX11_loud 36 = .ok (.ldc 74, 2) := by decide +kernel
theorem dX11_loud_38 : decode cX11_loud 38 = .ok (.invokevirtual 75, 3) := by decide +kernel
theorem dX11_loud_41 : decode cX11_loud 41 = .ok (.ireturn, 1) := by decide +kernel
theorem dX11_loud_42 : decode cX11_loud 42 = .ok (.aload_n 0, 1) := by decide +kernel
theorem dX11_loud_43 : decode cX11_loud 43 = .ok (.iload_n 1, 1) := by decide +kernel
theorem dX11_loud_44 : decode cX11_loud 44 = .ok (.invokevirtual 279, 3) := by decide +kernel
theorem dX11_loud_47 : decode cX11_loud 47 = .ok (.ifCond .eq 11, 3) := by decide +kernel
theorem dX11_loud_50 : decode cX11_loud 50 = .ok (.aload_n 0, 1) := by decide +kernel
theorem dX11_loud_51 : decode cX11_loud 51 = .ok (.ldc_w 259, 3) := by decide +kernel
theorem dX11_loud_54 : decode cX11_loud 54 = .ok (.invokevirtual 75, 3) := by decide +kernel
theorem dX11_loud_57 : decode cX11_loud 57 = .ok (.ireturn, 1) := by decide +kernel
theorem dX11_loud_58 : decode cX11_loud 58 = .ok (.aload_n 0, 1) := by decide +kernel
theorem dX11_loud_59 : decode cX11_loud 59 = .ok (.getfield 9, 3) := by decide +kernel
theorem dX11_loud_62 : decode cX11_loud 62 = .ok (.aload_n 0, 1) := by decide +kernel
theorem dX11_loud_63 : decode cX11_loud 63 = .ok (.getfield 16, 3) := by decide +kernel
theorem dX11_loud_66 : decode cX11_loud 66 = .ok (.invokestatic 66, 3) := by decide +kernel
theorem dX11_loud_69 : decode cX11_loud 69 = .ok (.iconst 0, 1) := by decide +kernel
theorem dX11_loud_70 : decode cX11_loud 70 = .ok (.istore 5, 2) := by decide +kernel
theorem dX11_loud_72 : decode cX11_loud 72 = .ok (.iconst (-1), 1) := by decide +kernel
theorem dX11_loud_73 : decode cX11_loud 73 = .ok (.istore 6, 2) := by decide +kernel
theorem dX11_loud_75 : decode cX11_loud 75 = .ok (.bipush 99, 2) := by decide +kernel
theorem dX11_loud_77 : decode cX11_loud 77 = .ok (.istore 7, 2) := by decide +kernel
theorem dX11_loud_79 : decode cX11_loud 79 = .ok (.iload 7, 2) := by decide +kernel
theorem dX11_loud_81 : decode cX11_loud 81 = .ok (.ifCond .lt 63, 3) := by decide +kernel
theorem dX11_loud_84 : decode cX11_loud 84 = .ok (.aload_n 0, 1) := by decide +kernel
theorem dX11_loud_85 : decode cX11_loud 85 = .ok (.getfield 9, 3) := by decide +kernel
theorem dX11_loud_88 : decode cX11_loud 88 = .ok (.iload_n 2, 1) := by decide +kernel
theorem dX11_loud_89 : decode cX11_loud 89 = .ok (.iconst 3, 1) := by decide +kernel
theorem dX11_loud_90 : decode cX11_loud 90 = .ok (.invokestatic 159, 3) := by decide +kernel
theorem dX11_loud_93 : decode cX11_loud 93 = .ok (.iload 7, 2) := by decide +kernel
theorem dX11_loud_95 : decode cX11_loud 95 = .ok (.iastore, 1) := by decide +kernel
theorem dX11_loud_96 : decode cX11_loud 96 = .ok (.aload_n 0, 1) := by decide +kernel
theorem dX11_loud_97 : decode cX11_loud 97 = .ok (.iload_n 1, 1) := by decide +kernel
theorem dX11_loud_98 : decode cX11_loud 98 = .ok (.aload_n 0, 1) := by decide +kernel
theorem dX11_loud_99 : decode cX11_loud 99 = .ok (.iload_n 2, 1) := by decide +kernel
theorem dX11_loud_100 : decode cX11_loud 100 = .ok (.iload_n 3, 1) := by decide +kernel
theorem dX11_loud_101 : decode cX11_loud 101 = .ok (.invokevirtual 263, 3) := by decide +kernel
theorem dX11_loud_104 : decode cX11_loud 104 = .ok (.invokevirtual 282, 3) := by decide +kernel
theorem dX11_loud_107 : decode cX11_loud 107 = .ok (.istore 8, 2) := by decide +kernel
theorem dX11_loud_109 : decode cX11_loud 109 = .ok (.iload 5, 2) := by decide +kernel
theorem dX11_loud_111 : decode cX11_loud 111 = .ok (.iload 8, 2) := by decide +kernel
theorem dX11_loud_113 : decode cX11_loud 113 = .ok (.ifCond .eq 7, 3) := by decide +kernel
theorem dX11_loud_116 : decode cX11_loud 116 = .ok (.iconst 1, 1) := by decide +kernel
theorem dX11_loud_117 : decode cX11_loud 117 = .ok (.goto 4, 3) := by decide +kernel
theorem dX11_loud_120 : decode cX11_loud 120 = .ok (.iconst 0, 1) := by decide +kernel
theorem dX11_loud_121 : decode cX11_loud 121 = .ok (.iadd, 1) := by decide +kernel
theorem dX11_loud_122 : decode cX11_loud 122 = .ok (.istore 5, 2) := by decide +kernel
theorem dX11_loud_124 : decode cX11_loud 124 = .ok (.iload 8, 2) := by decide +kernel
theorem dX11_loud_126 : decode cX11_loud 126 = .ok (.ifCond .eq 8, 3) := by decide +kernel
theorem dX11_loud_129 : decode cX11_loud 129 = .ok (.iload 7, 2) := by decide +kernel
theorem dX11_loud_131 : decode cX11_loud 131 = .ok (.goto 5, 3) := by decide +kernel
theorem dX11_loud_134 : decode cX11_loud 134 = .ok (.iload 6, 2) := by decide +kernel
theorem dX11_loud_136 : decode cX11_loud 136 = .ok (.istore 6, 2) := by decide +kernel
theorem dX11_loud_138 : decode cX11_loud 138 = .ok (.iinc 7 (-1), 3) := by decide +kernel
theorem dX11_loud_141 : decode cX11_loud 141 = .ok (.goto (-62), 3) := by decide +kernel
theorem dX11_loud_144 : decode cX11_loud 144 = .ok (.iload 4, 2) := by decide +kernel
theorem dX11_loud_146 : decode cX11_loud 146 = .ok (.ifCond .ne 8, 3) := by decide +kernel
theorem dX11_loud_149 : decode cX11_loud 149 = .ok (.iload 5, 2) := by decide +kernel
theorem dX11_loud_151 : decode cX11_loud 151 = .ok (.goto 20, 3) := by decide +kernel
theorem dX11_loud_154 : decode cX11_loud 154 = .ok (.iload 6, 2) := by decide +kernel
theorem dX11_loud_156 : decode cX11_loud 156 = .ok (.ifCond .ge 13, 3) := by decide +kernel
theorem dX11_loud_159 : decode cX11_loud 159 = .ok (.aload_n 0, 1) := by decide +kernel
theorem dX11_loud_160 : decode cX11_loud 160 = .ok (.ldc_w 259, 3) := by decide +kernel
theorem dX11_loud_163 : decode cX11_loud 163 = .ok (.invokevirtual 75, 3) := by decide +kernel
theorem dX11_loud_166 : decode cX11_loud 166 = .ok (.goto 5, 3) := by decide +kernel
theorem dX11_loud_169 : decode cX11_loud 169 = .ok (.iload 6, 2) := by decide +kernel
theorem dX11_loud_171 : decode cX11_loud 171 = .ok (.ireturn, 1) := by decide +kernel
theorem dX11_alikeNow_0 : decode cX11_alikeNow 0 = .ok (.iconst 0, 1) := by decide +kernel
theorem dX11_alikeNow_1 : decode cX11_alikeNow 1 = .ok (.istore_n 1, 1) := by decide +kernel
theorem dX11_alikeNow_2 : decode cX11_alikeNow 2 = .ok (.iconst 0, 1) := by decide +kernel
theorem dX11_alikeNow_3 : decode cX11_alikeNow 3 = .ok (.istore_n 2, 1) := by decide +kernel
theorem dX11_alikeNow_4 : decode cX11_alikeNow 4 = .ok (.iload_n 2, 1) := by decide +kernel
theorem dX11_alikeNow_5 : decode cX11_alikeNow 5 = .ok (.aload_n 0, 1) := by decide +kernel
theorem dX11_alikeNow_6 : decode cX11_alikeNow 6 = .ok (.getfield 9, 3) := by decide +kernel
theorem dX11_alikeNow_9 : decode cX11_alikeNow 9 = .ok (.iconst 4, 1) := by decide +kernel
theorem dX11_alikeNow_10 : decode cX11_alikeNow 10 = .ok (.iaload, 1) := by decide +kernel
theorem dX11_alikeNow_11 : decode cX11_alikeNow 11 = .ok (.if_icmp .ge 45, 3) := by decide +kernel
theorem dX11_alikeNow_14 : decode cX11_alikeNow 14 = .ok (.iconst 0, 1) := by decide +kernel
theorem dX11_alikeNow_15 : decode cX11_alikeNow 15 = .ok (.istore_n 3, 1) := by decide +kernel
theorem dX11_alikeNow_16 : decode cX11_alikeNow 16 = .ok (.iload_n 3, 1) := by decide +kernel
theorem dX11_alikeNow_17 : decode cX11_alikeNow 17 = .ok (.iload_n 2, 1) := by decide +kernel
theorem dX11_alikeNow_18 : decode cX11_alikeNow 18 = .ok (.if_icmp .ge 32, 3) := by decide +kernel
theorem dX11_alikeNow_21 : decode cX11_alikeNow 21 = .ok (.iload_n 1, 1) := by decide +kernel
theorem dX11_alikeNow_22 : decode cX11_alikeNow 22 = .ok (.aload_n 0, 1) := by decide +kernel
theorem dX11_alikeNow_23 : decode cX11_alikeNow 23 = .ok (.iload_n 2, 1) := by decide +kernel
theorem dX11_alikeNow_24 : decode cX11_alikeNow 24 = .ok (.iconst 2, 1) := by decide +kernel
theorem dX11_alikeNow_25 : decode cX11_alikeNow 25 = .ok (.invokevirtual 196, 3) := by decide +kernel
theorem dX11_alikeNow_28 : decode cX11_alikeNow 28 = .ok (.aload_n 0, 1) := by decide +kernel
theorem dX11_alikeNow_29 : decode cX11_alikeNow 29 = .ok (.iload_n 3, 1) := by decide +kernel
theorem dX11_alikeNow_30 : decode cX11_alikeNow 30 = .ok (.iconst 2, 1) := by decide +kernel
theorem dX11_alikeNow_31 : decode cX11_alikeNow 31 = .ok (.invokevirtual 196, 3) := by decide +kernel
theorem dX11_alikeNow_34 : decode cX11_alikeNow 34 = .ok (.if_icmp .ne 7, 3) := by decide +kernel
theorem dX11_alikeNow_37 : decode cX11_alikeNow 37 = .ok (.iconst 1, 1) := by decide +kernel
theorem dX11_alikeNow_38 : decode cX11_alikeNow 38 = .ok (.goto 4, 3) := by decide +kernel
theorem dX11_alikeNow_41 : decode cX11_alikeNow 41 = .ok (.iconst 0, 1) := by decide +kernel
theorem dX11_alikeNow_42 : decode cX11_alikeNow 42 = .ok (.iadd, 1) := by decide +kernel
theorem dX11_alikeNow_43 : decode cX11_alikeNow 43 = .ok (.istore_n 1, 1) := by decide +kernel
theorem dX11_alikeNow_44 : decode cX11_alikeNow 44 = .ok (.iinc 3 1, 3) := by decide +kernel
theorem dX11_alikeNow_47 : decode cX11_alikeNow 47 = .ok (.goto (-31), 3) := by decide +kernel
theorem dX11_alikeNow_50 : decode cX11_alikeNow 50 = .ok (.iinc 2 1, 3) := by decide +kernel
theorem dX11_alikeNow_53 : decode cX11_alikeNow 53 = .ok (.goto (-49), 3) := by decide +kernel
theorem dX11_alikeNow_56 : decode cX11_alikeNow 56 = .ok (.iload_n 1, 1) := by decide +kernel
theorem dX11_alikeNow_57 : decode cX11_alikeNow 57 = .ok (.ireturn, 1) := by decide +kernel
theorem dX11_alike_0 : decode cX11_alike 0 = .ok (.iload_n 1, 1) := by decide +kernel
theorem dX11_alike_1 : decode cX11_alike 1 = .ok (.invokestatic 250, 3) := by decide +kernel
theorem dX11_alike_4 : decode cX11_alike 4 = .ok (.ifCond .ne 10, 3) := by decide +kernel
theorem dX11_alike_7 : decode cX11_alike 7 = .ok (.aload_n 0, 1) := by decide +kernel
theorem dX11_alike_8 : decode cX11_alike 8 = .ok (.ldc 74, 2) := by decide +kernel
theorem dX11_alike_10 : decode cX11_alike 10 = .ok (.invokevirtual 75, 3) := by decide +kernel
theorem dX11_alike_13 : decode cX11_alike 13 = .ok (.ireturn, 1) := by decide +kernel
theorem dX11_alike_14 : decode cX11_alike 14 = .ok (.aload_n 0, 1) := by decide +kernel
theorem dX11_alike_15 : decode cX11_alike 15 = .ok (.getfield 9, 3) := by decide +kernel
theorem dX11_alike_18 : decode cX11_alike 18 = .ok (.aload_n 0, 1) := by decide +kernel
theorem dX11_alike_19 : decode cX11_alike 19 = .ok (.getfield 16, 3) := by decide +kernel
theorem dX11_alike_22 : decode cX11_alike 22 = .ok (.invokestatic 66, 3) := by decide +kernel
theorem dX11_alike_25 : decode cX11_alike 25 = .ok (.aload_n 0, 1) := by decide +kernel
theorem dX11_alike_26 : decode cX11_alike 26 = .ok (.iload_n 1, 1) := by decide +kernel
theorem dX11_alike_27 : decode cX11_alike 27 = .ok (.invokevirtual 240, 3) := by decide +kernel
theorem dX11_alike_30 : decode cX11_alike 30 = .ok (.aload_n 0, 1) := by decide +kernel
theorem dX11_alike_31 : decode cX11_alike 31 = .ok (.aload_n 0, 1) := by decide +kernel
theorem dX11_alike_32 : decode cX11_alike 32 = .ok (.invokevirtual 285, 3) := by decide +kernel
theorem dX11_alike_35 : decode cX11_alike 35 = .ok (.invokevirtual 253, 3) := by decide +kernel
theorem dX11_alike_38 : decode cX11_alike 38 = .ok (.ireturn, 1) := by decide +kernel
theorem dX11_furthest_0 : decode cX11_furthest 0 = .ok (.iload_n 1, 1) := by decide +kernel
theorem dX11_furthest_1 : decode cX11_furthest 1 = .ok (.invokestatic 250, 3) := by decide +kernel
theorem dX11_furthest_4 : decode cX11_furthest 4 = .ok (.ifCond .eq 12, 3) := by decide +kernel
theorem dX11_furthest_7 : decode cX11_furthest 7 = .ok (.iload_n 2, 1) := by decide +kernel
theorem dX11_furthest_8 : decode cX11_furthest 8 = .ok (.iconst 0, 1) := by decide +kernel
theorem dX11_furthest_9 : decode cX11_furthest 9 = .ok (.iconst 1, 1) := by decide +kernel
theorem dX11_furthest_10 : decode cX11_furthest 10 = .ok (.invokestatic 70, 3) := by decide +kernel
theorem dX11_furthest_13 : decode cX11_furthest 13 = .ok (.ifCond .ne 10, 3) := by decide +kernel
theorem dX11_furthest_16 : decode cX11_furthest 16 = .ok (.aload_n 0, 1) := by decide +kernel
theorem dX11_furthest_17 : decode cX11_furthest 17 = .ok (.ldc 74, 2) := by decide +kernel
theorem dX11_furthest_19 : decode cX11_furthest 19 = .ok (.invokevirtual 75, 3) := by decide +kernel
theorem dX11_furthest_22 : decode cX11_furthest 22 = .ok (.ireturn, 1) := by decide +kernel
theorem dX11_furthest_23 : decode cX11_furthest 23 = .ok (.aload_n 0, 1) := by decide +kernel
theorem dX11_furthest_24 : decode cX11_furthest 24 = .ok (.getfield 9, 3) := by decide +kernel
theorem dX11_furthest_27 : decode cX11_furthest 27 = .ok (.iconst 3, 1) := by decide +kernel
theorem dX11_furthest_28 : decode cX11_furthest 28 = .ok (.iaload, 1) := by decide +kernel
theorem dX11_furthest_29 : decode cX11_furthest 29 = .ok (.ifCond .ne 11, 3) := by decide +kernel
theorem dX11_furthest_32 : decode cX11_furthest 32 = .ok (.aload_n 0, 1) := by decide +kernel
theorem dX11_furthest_33 : decode cX11_furthest 33 = .ok (.ldc_w 259, 3) := by decide +kernel
theorem dX11_furthest_36 : decode cX11_furthest 36 = .ok (.invokevirtual 75, 3) := by decide +kernel
theorem dX11_furthest_39 : decode cX11_furthest 39 = .ok (.ireturn, 1) := by decide +kernel
theorem dX11_furthest_40 : decode cX11_furthest 40 = .ok (.aload_n 0, 1) := by decide +kernel
theorem dX11_furthest_41 : decode cX11_furthest 41 = .ok (.getfield 9, 3) := by decide +kernel
theorem dX11_furthest_44 : decode cX11_furthest 44 = .ok (.aload_n 0, 1) := by decide +kernel
theorem dX11_furthest_45 : decode cX11_furthest 45 = .ok (.getfield 16, 3) := by decide +kernel
theorem dX11_furthest_48 : decode cX11_furthest 48 = .ok (.invokestatic 66, 3) := by decide +kernel
theorem dX11_furthest_51 : decode cX11_furthest 51 = .ok (.aload_n 0, 1) := by decide +kernel
theorem dX11_furthest_52 : decode cX11_furthest 52 = .ok (.iload_n 1, 1) := by decide +kernel
theorem dX11_furthest_53 : decode cX11_furthest 53 = .ok (.invokevirtual 240, 3) := by decide +kernel
theorem dX11_furthest_56 : decode cX11_furthest 56 = .ok (.iconst 0, 1) := by decide +kernel
theorem dX11_furthest_57 : decode cX11_furthest 57 = .ok (.istore_n 3, 1) := by decide +kernel
theorem dX11_furthest_58 : decode cX11_furthest 58 = .ok (.iconst 1, 1) := by decide +kernel
theorem dX11_furthest_59 : decode cX11_furthest 59 = .ok (.istore 4, 2) := by decide +kernel
theorem dX11_furthest_61 : decode cX11_furthest 61 = .ok (.iload 4, 2) := by decide +kernel
theorem dX11_furthest_63 : decode cX11_furthest 63 = .ok (.aload_n 0, 1) := by decide +kernel
theorem dX11_furthest_64 : decode cX11_furthest 64 = .ok (.getfield 9, 3) := by decide +kernel
theorem dX11_furthest_67 : decode cX11_furthest 67 = .ok (.iconst 3, 1) := by decide +kernel
theorem dX11_furthest_68 : decode cX11_furthest 68 = .ok (.iaload, 1) := by decide +kernel
theorem dX11_furthest_69 : decode cX11_furthest 69 = .ok (.if_icmp .ge 36, 3) := by decide +kernel
theorem dX11_furthest_72 : decode cX11_furthest 72 = .ok (.aload_n 0, 1) := by decide +kernel
theorem dX11_furthest_73 : decode cX11_furthest 73 = .ok (.iload 4, 2) := by decide +kernel
theorem dX11_furthest_75 : decode cX11_furthest 75 = .ok (.invokevirtual 209, 3) := by decide +kernel
theorem dX11_furthest_78 : decode cX11_furthest 78 = .ok (.invokestatic 266, 3) := by decide +kernel
theorem dX11_furthest_81 : decode cX11_furthest 81 = .ok (.aload_n 0, 1) := by decide +kernel
theorem dX11_furthest_82 : decode cX11_furthest 82 = .ok (.iload_n 3, 1) := by decide +kernel
theorem dX11_furthest_83 : decode cX11_furthest 83 = .ok (.invokevirtual 209, 3) := by decide +kernel
theorem dX11_furthest_86 : decode cX11_furthest 86 = .ok (.invokestatic 266, 3) := by decide +kernel
theorem dX11_furthest_89 : decode cX11_furthest 89 = .ok (.if_icmp .le 8, 3) := by decide +kernel
theorem dX11_furthest_92 : decode cX11_furthest 92 = .ok (.iload 4, 2) := by decide +kernel
theorem dX11_furthest_94 : decode cX11_furthest 94 = .ok (.goto 4, 3) := by decide +kernel
theorem dX11_furthest_97 : decode cX11_furthest 97 = .ok (.iload_n 3, 1) := by decide +kernel
theorem dX11_furthest_98 : decode cX11_furthest 98 = .ok (.istore_n 3, 1) := by decide +kernel
theorem dX11_furthest_99 : decode cX11_furthest 99 = .ok (.iinc 4 1, 3) := by decide +kernel
theorem dX11_furthest_102 : decode cX11_furthest 102 = .ok (.goto (-41), 3) := by decide +kernel
theorem dX11_furthest_105 : decode cX11_furthest 105 = .ok (.aload_n 0, 1) := by decide +kernel
theorem dX11_furthest_106 : decode cX11_furthest 106 = .ok (.iload_n 2, 1) := by decide +kernel
theorem dX11_furthest_107 : decode cX11_furthest 107 = .ok (.ifCond .ne 7, 3) := by decide +kernel
theorem dX11_furthest_110 : decode cX11_furthest 110 = .ok (.iload_n 3, 1) := by decide +kernel
theorem dX11_furthest_111 : decode cX11_furthest 111 = .ok (.goto 11, 3) := by decide +kernel
theorem dX11_furthest_114 : decode cX11_furthest 114 = .ok (.aload_n 0, 1) := by decide +kernel
theorem dX11_furthest_115 : decode cX11_furthest 115 = .ok (.iload_n 3, 1) := by decide +kernel
theorem dX11_furthest_116 : decode cX11_furthest 116 = .ok (.invokevirtual 209, 3) := by decide +kernel
theorem dX11_furthest_119 : decode cX11_furthest 119 = .ok (.invokestatic 266, 3) := by decide +kernel
theorem dX11_furthest_122 : decode cX11_furthest 122 = .ok (.invokevirtual 253, 3) := by decide +kernel
theorem dX11_furthest_125 : decode cX11_furthest 125 = .ok (.ireturn, 1) := by decide +kernel
theorem dX11_odds_0 : decode cX11_odds 0 = .ok (.aload_n 0, 1) := by decide +kernel
theorem dX11_odds_1 : decode cX11_odds 1 = .ok (.iload_n 1, 1) := by decide +kernel
theorem dX11_odds_2 : decode cX11_odds 2 = .ok (.invokevirtual 228, 3) := by decide +kernel
theorem dX11_odds_5 : decode cX11_odds 5 = .ok (.ifCond .eq 28, 3) := by decide +kernel
theorem dX11_odds_8 : decode cX11_odds 8 = .ok (.aload_n 0, 1) := by decide +kernel
theorem dX11_odds_9 : decode cX11_odds 9 = .ok (.iload_n 2, 1) := by decide +kernel
theorem dX11_odds_10 : decode cX11_odds 10 = .ok (.invokevirtual 215, 3) := by decide +kernel
theorem dX11_odds_13 : decode cX11_odds 13 = .ok (.ifCond .eq 20, 3) := by decide +kernel
theorem dX11_odds_16 : decode cX11_odds 16 = .ok (.iload_n 3, 1) := by decide +kernel
theorem dX11_odds_17 : decode cX11_odds 17 = .ok (.invokestatic 250, 3) := by decide +kernel
theorem dX11_odds_20 : decode cX11_odds 20 = .ok (.ifCond .eq 13, 3) := by decide +kernel
theorem dX11_odds_23 : decode cX11_odds 23 = .ok (.iload 4, 2) := by decide +kernel
theorem dX11_odds_25 : decode cX11_odds 25 = .ok (.iconst 0, 1) := by decide +kernel
theorem dX11_odds_26 : decode cX11_odds 26 = .ok (.iconst 1, 1) := by decide +kernel
theorem dX11_odds_27 : decode cX11_odds 27 = .ok (.invokestatic 70, 3) := by decide +kernel
theorem dX11_odds_30 : decode cX11_odds 30 = .ok (.ifCond .ne 10, 3) := by decide +kernel
theorem dX11_odds_33 : decode cX11_odds 33 = .ok (.aload_n 0, 1) := by decide +kernel
theorem dX11_odds_34 : decode cX11_odds 34 = .ok (.ldc 74, 2) := by decide +kernel
theorem dX11_odds_36 : decode cX11_odds 36 = .ok (.invokevirtual 75, 3) := by decide +kernel
theorem dX11_odds_39 : decode cX11_odds 39 = .ok (.ireturn, 1) := by decide +kernel
theorem dX11_odds_40 : decode cX11_odds 40 = .ok (.aload_n 0, 1) := by decide +kernel
theorem dX11_odds_41 : decode cX11_odds 41 = .ok (.getfield 9, 3) := by decide +kernel
theorem dX11_odds_44 : decode cX11_odds 44 = .ok (.aload_n 0, 1) := by decide +kernel
theorem dX11_odds_45 : decode cX11_odds 45 = .ok (.getfield 16, 3) := by decide +kernel
theorem dX11_odds_48 : decode cX11_odds 48 = .ok (.invokestatic 66, 3) := by decide +kernel
theorem dX11_odds_51 : decode cX11_odds 51 = .ok (.iconst 0, 1) := by decide +kernel
theorem dX11_odds_52 : decode cX11_odds 52 = .ok (.istore 5, 2) := by decide +kernel
theorem dX11_odds_54 : decode cX11_odds 54 = .ok (.iconst 0, 1) := by decide +kernel
theorem dX11_odds_55 : decode cX11_odds 55 = .ok (.istore 6, 2) := by decide +kernel
theorem dX11_odds_57 : decode cX11_odds 57 = .ok (.iload 6, 2) := by decide +kernel
theorem dX11_odds_59 : decode cX11_odds 59 = .ok (.bipush 10, 2) := by decide +kernel
theorem dX11_odds_61 : decode cX11_odds 61 = .ok (.if_icmp .ge 40, 3) := by decide +kernel
theorem dX11_odds_64 : decode cX11_odds 64 = .ok (.aload_n 0, 1) := by decide +kernel
theorem dX11_odds_65 : decode cX11_odds 65 = .ok (.getfield 9, 3) := by decide +kernel
theorem dX11_odds_68 : decode cX11_odds 68 = .ok (.iconst 5, 1) := by decide +kernel
theorem dX11_odds_69 : decode cX11_odds 69 = .ok (.iload 6, 2) := by decide +kernel
theorem dX11_odds_71 : decode cX11_odds 71 = .ok (.iastore, 1) := by decide +kernel
theorem dX11_odds_72 : decode cX11_odds 72 = .ok (.iload 5, 2) := by decide +kernel
theorem dX11_odds_74 : decode cX11_odds 74 = .ok (.aload_n 0, 1) := by decide +kernel
theorem dX11_odds_75 : decode cX11_odds 75 = .ok (.iload_n 2, 1) := by decide +kernel
theorem dX11_odds_76 : decode cX11_odds 76 = .ok (.iload_n 3, 1) := by decide +kernel
theorem dX11_odds_77 : decode cX11_odds 77 = .ok (.invokevirtual 263, 3) := by decide +kernel
theorem dX11_odds_80 : decode cX11_odds 80 = .ok (.iload_n 1, 1) := by decide +kernel
theorem dX11_odds_81 : decode cX11_odds 81 = .ok (.invokestatic 199, 3) := by decide +kernel
theorem dX11_odds_84 : decode cX11_odds 84 = .ok (.ifCond .eq 7, 3) := by decide +kernel
theorem dX11_odds_87 : decode cX11_odds 87 = .ok (.iconst 1, 1) := by decide +kernel
theorem dX11_odds_88 : decode cX11_odds 88 = .ok (.goto 4, 3) := by decide +kernel
theorem dX11_odds_91 : decode cX11_odds 91 = .ok (.iconst 0, 1) := by decide +kernel
theorem dX11_odds_92 : decode cX11_odds 92 = .ok (.iadd, 1) := by decide +kernel
theorem dX11_odds_93 : decode cX11_odds 93 = .ok (.istore 5, 2) := by decide +kernel
theorem dX11_odds_95 : decode cX11_odds 95 = .ok (.iinc 6 1, 3) := by decide +kernel
theorem dX11_odds_98 : decode cX11_odds 98 = .ok (.goto (-41), 3) := by decide +kernel
theorem dX11_odds_101 : decode cX11_odds 101 = .ok (.bipush 10, 2) := by decide +kernel
theorem dX11_odds_103 : decode cX11_odds 103 = .ok (.istore 6, 2) := by decide +kernel
theorem dX11_odds_105 : decode cX11_odds 105 = .ok (.iload 5, 2) := by decide +kernel
theorem dX11_odds_107 : decode cX11_odds 107 = .ok (.istore 7, 2) := by decide +kernel
theorem dX11_odds_109 : decode cX11_odds 109 = .ok (.iload 7, 2) := by decide +kernel
theorem dX11_odds_111 : decode cX11_odds 111 = .ok (.ifCond .eq 21, 3) := by decide +kernel
theorem dX11_odds_114 : decode cX11_odds 114 = .ok (.iload 6, 2) := by decide +kernel
theorem dX11_odds_116 : decode cX11_odds 116 = .ok (.iload 7, 2) := by decide +kernel
theorem dX11_odds_118 : decode cX11_odds 118 = .ok (.irem, 1) := by decide +kernel
theorem dX11_odds_119 : decode cX11_odds 119 = .ok (.istore 8, 2) := by decide +kernel
theorem dX11_odds_121 : decode cX11_odds 121 = .ok (.iload 7, 2) := by decide +kernel
theorem dX11_odds_123 : decode cX11_odds 123 = .ok (.istore 6, 2) := by decide +kernel
theorem dX11_odds_125 : decode cX11_odds 125 = .ok (.iload 8, 2) := by decide +kernel
theorem dX11_odds_127 : decode cX11_odds 127 = .ok (.istore 7, 2) := by decide +kernel
theorem dX11_odds_129 : decode cX11_odds 129 = .ok (.goto (-20), 3) := by decide +kernel
theorem dX11_odds_132 : decode cX11_odds 132 = .ok (.iload 4, 2) := by decide +kernel
theorem dX11_odds_134 : decode cX11_odds 134 = .ok (.ifCond .ne 8, 3) := by decide +kernel
theorem dX11_odds_137 : decode cX11_odds 137 = .ok (.iload 5, 2) := by decide +kernel
theorem dX11_odds_139 : decode cX11_odds 139 = .ok (.goto 5, 3) := by decide +kernel
theorem dX11_odds_142 : decode cX11_odds 142 = .ok (.bipush 10, 2) := by decide +kernel
theorem dX11_odds_144 : decode cX11_odds 144 = .ok (.iload 6, 2) := by decide +kernel
theorem dX11_odds_146 : decode cX11_odds 146 = .ok (.idiv, 1) := by decide +kernel
theorem dX11_odds_147 : decode cX11_odds 147 = .ok (.ireturn, 1) := by decide +kernel
theorem dX11_seed_0 : decode cX11_seed 0 = .ok (.aload_n 0, 1) := by decide +kernel
theorem dX11_seed_1 : decode cX11_seed 1 = .ok (.bipush 6, 2) := by decide +kernel
theorem dX11_seed_3 : decode cX11_seed 3 = .ok (.iload_n 1, 1) := by decide +kernel
theorem dX11_seed_4 : decode cX11_seed 4 = .ok (.invokevirtual 166, 3) := by decide +kernel
theorem dX11_seed_7 : decode cX11_seed 7 = .ok (.ireturn, 1) := by decide +kernel
theorem dX11_ran_0 : decode cX11_ran 0 = .ok (.aload_n 0, 1) := by decide +kernel
theorem dX11_ran_1 : decode cX11_ran 1 = .ok (.getfield 288, 3) := by decide +kernel
theorem dX11_ran_4 : decode cX11_ran 4 = .ok (.bipush 40, 2) := by decide +kernel
theorem dX11_ran_6 : decode cX11_ran 6 = .ok (.if_icmp .ge 23, 3) := by decide +kernel
theorem dX11_ran_9 : decode cX11_ran 9 = .ok (.aload_n 0, 1) := by decide +kernel
theorem dX11_ran_10 : decode cX11_ran 10 = .ok (.getfield 41, 3) := by decide +kernel
theorem dX11_ran_13 : decode cX11_ran 13 = .ok (.aload_n 0, 1) := by decide +kernel
theorem dX11_ran_14 : decode cX11_ran 14 = .ok (.getfield 288, 3) := by decide +kernel
theorem dX11_ran_17 : decode cX11_ran 17 = .ok (.iload_n 1, 1) := by decide +kernel
theorem dX11_ran_18 : decode cX11_ran 18 = .ok (.iastore, 1) := by decide +kernel
theorem dX11_ran_19 : decode cX11_ran 19 = .ok (.aload_n 0, 1) := by decide +kernel
theorem dX11_ran_20 : decode cX11_ran 20 = .ok (.dup, 1) := by decide +kernel
theorem dX11_ran_21 : decode cX11_ran 21 = .ok (.getfield 288, 3) := by decide +kernel
theorem dX11_ran_24 : decode cX11_ran 24 = .ok (.iconst 1, 1) := by decide +kernel
theorem dX11_ran_25 : decode cX11_ran 25 = .ok (.iadd, 1) := by decide +kernel
theorem dX11_ran_26 : decode cX11_ran 26 = .ok (.putfield 288, 3) := by decide +kernel
theorem dX11_ran_29 : decode cX11_ran 29 = .ok (.return_, 1) := by decide +kernel
theorem dX11_callsOf_0 : decode cX11_callsOf 0 = .ok (.aload_n 0, 1) := by decide +kernel
theorem dX11_callsOf_1 : decode cX11_callsOf 1 = .ok (.getfield 291, 3) := by decide +kernel
theorem dX11_callsOf_4 : decode cX11_callsOf 4 = .ok (.iconst 1, 1) := by decide +kernel
theorem dX11_callsOf_5 : decode cX11_callsOf 5 = .ok (.invokestatic 212, 3) := by decide +kernel
theorem dX11_callsOf_8 : decode cX11_callsOf 8 = .ok (.istore_n 2, 1) := by decide +kernel
theorem dX11_callsOf_9 : decode cX11_callsOf 9 = .ok (.iload_n 2, 1) := by decide +kernel
theorem dX11_callsOf_10 : decode cX11_callsOf 10 = .ok (.ifCond .eq 9, 3) := by decide +kernel
theorem dX11_callsOf_13 : decode cX11_callsOf 13 = .ok (.aload_n 0, 1) := by decide +kernel
theorem dX11_callsOf_14 : decode cX11_callsOf 14 = .ok (.bipush 20, 2) := by decide +kernel
theorem dX11_callsOf_16 : decode cX11_callsOf 16 = .ok (.invokevirtual 294, 3) := by decide +kernel
theorem dX11_callsOf_19 : decode cX11_callsOf 19 = .ok (.aload_n 0, 1) := by decide +kernel
theorem dX11_callsOf_20 : decode cX11_callsOf 20 = .ok (.bipush 10, 2) := by decide +kernel
theorem dX11_callsOf_22 : decode cX11_callsOf 22 = .ok (.invokevirtual 294, 3) := by decide +kernel
theorem dX11_callsOf_25 : decode cX11_callsOf 25 = .ok (.iload_n 2, 1) := by decide +kernel
theorem dX11_callsOf_26 : decode cX11_callsOf 26 = .ok (.ifCond .eq 14, 3) := by decide +kernel
theorem dX11_callsOf_29 : decode cX11_callsOf 29 = .ok (.iload_n 1, 1) := by decide +kernel
theorem dX11_callsOf_30 : decode cX11_callsOf 30 = .ok (.aload_n 0, 1) := by decide +kernel
theorem dX11_callsOf_31 : decode cX11_callsOf 31 = .ok (.getfield 297, 3) := by decide +kernel
theorem dX11_callsOf_34 : decode cX11_callsOf 34 = .ok (.iadd, 1) := by decide +kernel
theorem dX11_callsOf_35 : decode cX11_callsOf 35 = .ok (.iconst 3, 1) := by decide +kernel
theorem dX11_callsOf_36 : decode cX11_callsOf 36 = .ok (.imul, 1) := by decide +kernel
theorem dX11_callsOf_37 : decode cX11_callsOf 37 = .ok (.goto 9, 3) := by decide +kernel
theorem dX11_callsOf_40 : decode cX11_callsOf 40 = .ok (.iload_n 1, 1) := by decide +kernel
theorem dX11_callsOf_41 : decode cX11_callsOf 41 = .ok (.aload_n 0, 1) := by decide +kernel
theorem dX11_callsOf_42 : decode cX11_callsOf 42 = .ok (.getfield 297, 3) := by decide +kernel
theorem dX11_callsOf_45 : decode cX11_callsOf 45 = .ok (.iadd, 1) := by decide +kernel
theorem dX11_callsOf_46 : decode cX11_callsOf 46 = .ok (.ireturn, 1) := by decide +kernel
theorem dX11_echoesOf_0 : decode cX11_echoesOf 0 = .ok (.iload_n 1, 1) := by decide +kernel
theorem dX11_echoesOf_1 : decode cX11_echoesOf 1 = .ok (.istore_n 2, 1) := by decide +kernel
theorem dX11_echoesOf_2 : decode cX11_echoesOf 2 = .ok (.aload_n 0, 1) := by decide +kernel
theorem dX11_echoesOf_3 : decode cX11_echoesOf 3 = .ok (.getfield 291, 3) := by decide +kernel
theorem dX11_echoesOf_6 : decode cX11_echoesOf 6 = .ok (.iconst 5, 1) := by decide +kernel
theorem dX11_echoesOf_7 : decode cX11_echoesOf 7 = .ok (.if_icmp .ne 12, 3) := by decide +kernel
theorem dX11_echoesOf_10 : decode cX11_echoesOf 10 = .ok (.aload_n 0, 1) := by decide +kernel
theorem dX11_echoesOf_11 : decode cX11_echoesOf 11 = .ok (.bipush 60, 2) := by decide +kernel
theorem dX11_echoesOf_13 : decode cX11_echoesOf 13 = .ok (.invokevirtual 294, 3) := by decide +kernel
theorem dX11_echoesOf_16 : decode cX11_echoesOf 16 = .ok (.iinc 2 1, 3) := by decide +kernel
theorem dX11_echoesOf_19 : decode cX11_echoesOf 19 = .ok (.aload_n 0, 1) := by decide +kernel
theorem dX11_echoesOf_20 : decode cX11_echoesOf 20 = .ok (.getfield 291, 3) := by decide +kernel
theorem dX11_echoesOf_23 : decode cX11_echoesOf 23 = .ok (.iconst 2, 1) := by decide +kernel
theorem dX11_echoesOf_24 : decode cX11_echoesOf 24 = .ok (.invokestatic 212, 3) := by decide +kernel
theorem dX11_echoesOf_27 : decode cX11_echoesOf 27 = .ok (.istore_n 3, 1) := by decide +kernel
theorem dX11_echoesOf_28 : decode cX11_echoesOf 28 = .ok (.iload_n 3, 1) := by decide +kernel
theorem dX11_echoesOf_29 : decode cX11_echoesOf 29 = .ok (.ifCond .eq 9, 3) := by decide +kernel
theorem dX11_echoesOf_32 : decode cX11_echoesOf 32 = .ok (.aload_n 0, 1) := by decide +kernel
theorem dX11_echoesOf_33 : decode cX11_echoesOf 33 = .ok (.bipush 30, 2) := by decide +kernel
theorem dX11_echoesOf_35 : decode cX11_echoesOf 35 = .ok (.invokevirtual 294, 3) := by decide +kernel
theorem dX11_echoesOf_38 : decode cX11_echoesOf 38 = .ok (.aload_n 0, 1) := by decide +kernel
theorem dX11_echoesOf_39 : decode cX11_echoesOf 39 = .ok (.bipush 11, 2) := by decide +kernel
theorem dX11_echoesOf_41 : decode cX11_echoesOf 41 = .ok (.invokevirtual 294, 3) := by decide +kernel
theorem dX11_echoesOf_44 : decode cX11_echoesOf 44 = .ok (.aload_n 0, 1) := by decide +kernel
theorem dX11_echoesOf_45 : decode cX11_echoesOf 45 = .ok (.iload_n 2, 1) := by decide +kernel
theorem dX11_echoesOf_46 : decode cX11_echoesOf 46 = .ok (.invokevirtual 300, 3) := by decide +kernel
theorem dX11_echoesOf_49 : decode cX11_echoesOf 49 = .ok (.iconst 2, 1) := by decide +kernel
theorem dX11_echoesOf_50 : decode cX11_echoesOf 50 = .ok (.imul, 1) := by decide +kernel
theorem dX11_echoesOf_51 : decode cX11_echoesOf 51 = .ok (.istore 4, 2) := by decide +kernel
theorem dX11_echoesOf_53 : decode cX11_echoesOf 53 = .ok (.iload_n 3, 1) := by decide +kernel
theorem dX11_echoesOf_54 : decode cX11_echoesOf 54 = .ok (.ifCond .eq 14, 3) := by decide +kernel
theorem dX11_echoesOf_57 : decode cX11_echoesOf 57 = .ok (.iload 4, 2) := by decide +kernel
theorem dX11_echoesOf_59 : decode cX11_echoesOf 59 = .ok (.aload_n 0, 1) := by decide +kernel
theorem dX11_echoesOf_60 : decode cX11_echoesOf 60 = .ok (.iconst 1, 1) := by decide +kernel
theorem dX11_echoesOf_61 : decode cX11_echoesOf 61 = .ok (.invokevirtual 303, 3) := by decide +kernel
theorem dX11_echoesOf_64 : decode cX11_echoesOf 64 = .ok (.isub, 1) := by decide +kernel
theorem dX11_echoesOf_65 : decode cX11_echoesOf 65 = .ok (.goto 5, 3) := by decide +kernel
theorem dX11_echoesOf_68 : decode cX11_echoesOf 68 = .ok (.iload 4, 2) := by decide +kernel
theorem dX11_echoesOf_70 : decode cX11_echoesOf 70 = .ok (.ireturn, 1) := by decide +kernel
theorem dX11_clearsOf_0 : decode cX11_clearsOf 0 = .ok (.aload_n 0, 1) := by decide +kernel
theorem dX11_clearsOf_1 : decode cX11_clearsOf 1 = .ok (.getfield 291, 3) := by decide +kernel
theorem dX11_clearsOf_4 : decode cX11_clearsOf 4 = .ok (.bipush 6, 2) := by decide +kernel
theorem dX11_clearsOf_6 : decode cX11_clearsOf 6 = .ok (.if_icmp .ne 9, 3) := by decide +kernel
theorem dX11_clearsOf_9 : decode cX11_clearsOf 9 = .ok (.aload_n 0, 1) := by decide +kernel
theorem dX11_clearsOf_10 : decode cX11_clearsOf 10 = .ok (.bipush 70, 2) := by decide +kernel
theorem dX11_clearsOf_12 : decode cX11_clearsOf 12 = .ok (.invokevirtual 294, 3) := by decide +kernel
theorem dX11_clearsOf_15 : decode cX11_clearsOf 15 = .ok (.aload_n 0, 1) := by decide +kernel
theorem dX11_clearsOf_16 : decode cX11_clearsOf 16 = .ok (.getfield 291, 3) := by decide +kernel
theorem dX11_clearsOf_19 : decode cX11_clearsOf 19 = .ok (.iconst 3, 1) := by decide +kernel
theorem dX11_clearsOf_20 : decode cX11_clearsOf 20 = .ok (.invokestatic 212, 3) := by decide +kernel
theorem dX11_clearsOf_23 : decode cX11_clearsOf 23 = .ok (.istore_n 2, 1) := by decide +kernel
theorem dX11_clearsOf_24 : decode cX11_clearsOf 24 = .ok (.iload_n 2, 1) := by decide +kernel
theorem dX11_clearsOf_25 : decode cX11_clearsOf 25 = .ok (.ifCond .eq 9, 3) := by decide +kernel
theorem dX11_clearsOf_28 : decode cX11_clearsOf 28 = .ok (.aload_n 0, 1) := by decide +kernel
theorem dX11_clearsOf_29 : decode cX11_clearsOf 29 = .ok (.bipush 40, 2) := by decide +kernel
theorem dX11_clearsOf_31 : decode cX11_clearsOf 31 = .ok (.invokevirtual 294, 3) := by decide +kernel
theorem dX11_clearsOf_34 : decode cX11_clearsOf 34 = .ok (.aload_n 0, 1) := by decide +kernel
theorem dX11_clearsOf_35 : decode cX11_clearsOf 35 = .ok (.bipush 12, 2) := by decide +kernel
theorem dX11_clearsOf_37 : decode cX11_clearsOf 37 = .ok (.invokevirtual 294, 3) := by decide +kernel
theorem dX11_clearsOf_40 : decode cX11_clearsOf 40 = .ok (.iload_n 2, 1) := by decide +kernel
theorem dX11_clearsOf_41 : decode cX11_clearsOf 41 = .ok (.ifCond .eq 13, 3) := by decide +kernel
theorem dX11_clearsOf_44 : decode cX11_clearsOf 44 = .ok (.iload_n 1, 1) := by decide +kernel
theorem dX11_clearsOf_45 : decode cX11_clearsOf 45 = .ok (.aload_n 0, 1) := by decide +kernel
theorem dX11_clearsOf_46 : decode cX11_clearsOf 46 = .ok (.getfield 306, 3) := by decide +kernel
theorem dX11_clearsOf_49 : decode cX11_clearsOf 49 = .ok (.isub, 1) := by decide +kernel
theorem dX11_clearsOf_50 : decode cX11_clearsOf 50 = .ok (.ineg, 1) := by decide +kernel
theorem dX11_clearsOf_51 : decode cX11_clearsOf 51 = .ok (.goto 9, 3) := by decide +kernel
theorem dX11_clearsOf_54 : decode cX11_clearsOf 54 = .ok (.iload_n 1, 1) := by decide +kernel
theorem dX11_clearsOf_55 : decode cX11_clearsOf 55 = .ok (.aload_n 0, 1) := by decide +kernel
theorem dX11_clearsOf_56 : decode cX11_clearsOf 56 = .ok (.getfield 306, 3) := by decide +kernel
theorem dX11_clearsOf_59 : decode cX11_clearsOf 59 = .ok (.isub, 1) := by decide +kernel
theorem dX11_clearsOf_60 : decode cX11_clearsOf 60 = .ok (.istore_n 3, 1) := by decide +kernel
theorem dX11_clearsOf_61 : decode cX11_clearsOf 61 = .ok (.aload_n 0, 1) := by decide +kernel
theorem dX11_clearsOf_62 : decode cX11_clearsOf 62 = .ok (.getfield 291, 3) := by decide +kernel
theorem dX11_clearsOf_65 : decode cX11_clearsOf 65 = .ok (.bipush 6, 2) := by decide +kernel
theorem dX11_clearsOf_67 : decode cX11_clearsOf 67 = .ok (.if_icmp .ne 12, 3) := by decide +kernel
theorem dX11_clearsOf_70 : decode cX11_clearsOf 70 = .ok (.iload_n 3, 1) := by decide +kernel
theorem dX11_clearsOf_71 : decode cX11_clearsOf 71 = .ok (.aload_n 0, 1) := by decide +kernel
theorem dX11_clearsOf_72 : decode cX11_clearsOf 72 = .ok (.getfield 297, 3) := by decide +kernel
theorem dX11_clearsOf_75 : decode cX11_clearsOf 75 = .ok (.ixor, 1) := by decide +kernel
theorem dX11_clearsOf_76 : decode cX11_clearsOf 76 = .ok (.goto 4, 3) := by decide +kernel
theorem dX11_clearsOf_79 : decode cX11_clearsOf 79 = .ok (.iload_n 3, 1) := by decide +kernel
theorem dX11_clearsOf_80 : decode cX11_clearsOf 80 = .ok (.ireturn, 1) := by decide +kernel
theorem dX11_plainTastes_0 : decode cX11_plainTastes 0 = .ok (.aload_n 0, 1) := by decide +kernel
theorem dX11_plainTastes_1 : decode cX11_plainTastes 1 = .ok (.bipush 13, 2) := by decide +kernel
theorem dX11_plainTastes_3 : decode cX11_plainTastes 3 = .ok (.invokevirtual 294, 3) := by decide +kernel
theorem dX11_plainTastes_6 : decode cX11_plainTastes 6 = .ok (.aload_n 0, 1) := by decide +kernel
theorem dX11_plainTastes_7 : decode cX11_plainTastes 7 = .ok (.iload_n 1, 1) := by decide +kernel
theorem dX11_plainTastes_8 : decode cX11_plainTastes 8 = .ok (.invokevirtual 309, 3) := by decide +kernel
theorem dX11_plainTastes_11 : decode cX11_plainTastes 11 = .ok (.istore_n 2, 1) := by decide +kernel
theorem dX11_plainTastes_12 : decode cX11_plainTastes 12 = .ok (.iload_n 2, 1) := by decide +kernel
theorem dX11_plainTastes_13 : decode cX11_plainTastes 13 = .ok (.aload_n 0, 1) := by decide +kernel
theorem dX11_plainTastes_14 : decode cX11_plainTastes 14 = .ok (.iload_n 1, 1) := by decide +kernel
theorem dX11_plainTastes_15 : decode cX11_plainTastes 15 = .ok (.invokevirtual 303, 3) := by decide +kernel
theorem dX11_plainTastes_18 : decode cX11_plainTastes 18 = .ok (.ixor, 1) := by decide +kernel
theorem dX11_plainTastes_19 : decode cX11_plainTastes 19 = .ok (.ireturn, 1) := by decide +kernel
theorem dX11_tastesOf_0 : decode cX11_tastesOf 0 = .ok (.aload_n 0, 1) := by decide +kernel
theorem dX11_tastesOf_1 : decode cX11_tastesOf 1 = .ok (.getfield 291, 3) := by decide +kernel
theorem dX11_tastesOf_4 : decode cX11_tastesOf 4 = .ok (.bipush 6, 2) := by decide +kernel
theorem dX11_tastesOf_6 : decode cX11_tastesOf 6 = .ok (.if_icmp .ne 23, 3) := by decide +kernel
theorem dX11_tastesOf_9 : decode cX11_tastesOf 9 = .ok (.aload_n 0, 1) := by decide +kernel
theorem dX11_tastesOf_10 : decode cX11_tastesOf 10 = .ok (.bipush 71, 2) := by decide +kernel
theorem dX11_tastesOf_12 : decode cX11_tastesOf 12 = .ok (.invokevirtual 294, 3) := by decide +kernel
theorem dX11_tastesOf_15 : decode cX11_tastesOf 15 = .ok (.aload_n 0, 1) := by decide +kernel
theorem dX11_tastesOf_16 : decode cX11_tastesOf 16 = .ok (.iload_n 1, 1) := by decide +kernel
theorem dX11_tastesOf_17 : decode cX11_tastesOf 17 = .ok (.invokevirtual 309, 3) := by decide +kernel
theorem dX11_tastesOf_20 : decode cX11_tastesOf 20 = .ok (.istore_n 2, 1) := by decide +kernel
theorem dX11_tastesOf_21 : decode cX11_tastesOf 21 = .ok (.iload_n 2, 1) := by decide +kernel
theorem dX11_tastesOf_22 : decode cX11_tastesOf 22 = .ok (.aload_n 0, 1) := by decide +kernel
theorem dX11_tastesOf_23 : decode cX11_tastesOf 23 = .ok (.iload_n 1, 1) := by decide +kernel
theorem dX11_tastesOf_24 : decode cX11_tastesOf 24 = .ok (.invokevirtual 312, 3) := by decide +kernel
theorem dX11_tastesOf_27 : decode cX11_tastesOf 27 = .ok (.isub, 1) := by decide +kernel
theorem dX11_tastesOf_28 : decode cX11_tastesOf 28 = .ok (.ireturn, 1) := by decide +kernel
theorem dX11_tastesOf_29 : decode cX11_tastesOf 29 = .ok (.aload_n 0, 1) := by decide +kernel
theorem dX11_tastesOf_30 : decode cX11_tastesOf 30 = .ok (.getfield 291, 3) := by decide +kernel
theorem dX11_tastesOf_33 : decode cX11_tastesOf 33 = .ok (.iconst 4, 1) := by decide +kernel
theorem dX11_tastesOf_34 : decode cX11_tastesOf 34 = .ok (.if_icmp .ne 23, 3) := by decide +kernel
theorem dX11_tastesOf_37 : decode cX11_tastesOf 37 = .ok (.aload_n 0, 1) := by decide +kernel
theorem dX11_tastesOf_38 : decode cX11_tastesOf 38 = .ok (.bipush 50, 2) := by decide +kernel
theorem dX11_tastesOf_40 : decode cX11_tastesOf 40 = .ok (.invokevirtual 294, 3) := by decide +kernel
theorem dX11_tastesOf_43 : decode cX11_tastesOf 43 = .ok (.aload_n 0, 1) := by decide +kernel
theorem dX11_tastesOf_44 : decode cX11_tastesOf 44 = .ok (.iload_n 1, 1) := by decide +kernel
theorem dX11_tastesOf_45 : decode cX11_tastesOf 45 = .ok (.invokevirtual 312, 3) := by decide +kernel
theorem dX11_tastesOf_48 : decode cX11_tastesOf 48 = .ok (.istore_n 2, 1) := by decide +kernel
theorem dX11_tastesOf_49 : decode cX11_tastesOf 49 = .ok (.iload_n 2, 1) := by decide +kernel
theorem dX11_tastesOf_50 : decode cX11_tastesOf 50 = .ok (.aload_n 0, 1) := by decide +kernel
theorem dX11_tastesOf_51 : decode cX11_tastesOf 51 = .ok (.iconst 2, 1) := by decide +kernel
theorem dX11_tastesOf_52 : decode cX11_tastesOf 52 = .ok (.invokevirtual 300, 3) := by decide +kernel
theorem dX11_tastesOf_55 : decode cX11_tastesOf 55 = .ok (.isub, 1) := by decide +kernel
theorem dX11_tastesOf_56 : decode cX11_tastesOf 56 = .ok (.ireturn, 1) := by decide +kernel
theorem dX11_tastesOf_57 : decode cX11_tastesOf 57 = .ok (.aload_n 0, 1) := by decide +kernel
theorem dX11_tastesOf_58 : decode cX11_tastesOf 58 = .ok (.iload_n 1, 1) := by decide +kernel
theorem dX11_tastesOf_59 : decode cX11_tastesOf 59 = .ok (.invokevirtual 312, 3) := by decide +kernel
theorem dX11_tastesOf_62 : decode cX11_tastesOf 62 = .ok (.ireturn, 1) := by decide +kernel
theorem dX11_voice_0 : decode cX11_voice 0 = .ok (.aload_n 0, 1) := by decide +kernel
theorem dX11_voice_1 : decode cX11_voice 1 = .ok (.iload_n 1, 1) := by decide +kernel
theorem dX11_voice_2 : decode cX11_voice 2 = .ok (.invokevirtual 215, 3) := by decide +kernel
theorem dX11_voice_5 : decode cX11_voice 5 = .ok (.ifCond .eq 12, 3) := by decide +kernel
theorem dX11_voice_8 : decode cX11_voice 8 = .ok (.iload_n 2, 1) := by decide +kernel
theorem dX11_voice_9 : decode cX11_voice 9 = .ok (.iconst 0, 1) := by decide +kernel
theorem dX11_voice_10 : decode cX11_voice 10 = .ok (.iconst 3, 1) := by decide +kernel
theorem dX11_voice_11 : decode cX11_voice 11 = .ok (.invokestatic 70, 3) := by decide +kernel
theorem dX11_voice_14 : decode cX11_voice 14 = .ok (.ifCond .ne 10, 3) := by decide +kernel
theorem dX11_voice_17 : decode cX11_voice 17 = .ok (.aload_n 0, 1) := by decide +kernel
theorem dX11_voice_18 : decode cX11_voice 18 = .ok (.ldc 74, 2) := by decide +kernel
theorem dX11_voice_20 : decode cX11_voice 20 = .ok (.invokevirtual 75, 3) := by decide +kernel
theorem dX11_voice_23 : decode cX11_voice 23 = .ok (.ireturn, 1) := by decide +kernel
theorem dX11_voice_24 : decode cX11_voice 24 = .ok (.aload_n 0, 1) := by decide +kernel
theorem dX11_voice_25 : decode cX11_voice 25 = .ok (.iconst 0, 1) := by decide +kernel
theorem dX11_voice_26 : decode cX11_voice 26 = .ok (.putfield 288, 3) := by decide +kernel
theorem dX11_voice_29 : decode cX11_voice 29 = .ok (.aload_n 0, 1) := by decide +kernel
theorem dX11_voice_30 : decode cX11_voice 30 = .ok (.aload_n 0, 1) := by decide +kernel
theorem dX11_voice_31 : decode cX11_voice 31 = .ok (.iload_n 1, 1) := by decide +kernel
theorem dX11_voice_32 : decode cX11_voice 32 = .ok (.iconst 0, 1) := by decide +kernel
theorem dX11_voice_33 : decode cX11_voice 33 = .ok (.invokevirtual 193, 3) := by decide +kernel
theorem dX11_voice_36 : decode cX11_voice 36 = .ok (.putfield 291, 3) := by decide +kernel
theorem dX11_voice_39 : decode cX11_voice 39 = .ok (.aload_n 0, 1) := by decide +kernel
theorem dX11_voice_40 : decode cX11_voice 40 = .ok (.iload_n 1, 1) := by decide +kernel
theorem dX11_voice_41 : decode cX11_voice 41 = .ok (.putfield 297, 3) := by decide +kernel
theorem dX11_voice_44 : decode cX11_voice 44 = .ok (.aload_n 0, 1) := by decide +kernel
theorem dX11_voice_45 : decode cX11_voice 45 = .ok (.aload_n 0, 1) := by decide +kernel
theorem dX11_voice_46 : decode cX11_voice 46 = .ok (.iload_n 1, 1) := by decide +kernel
theorem dX11_voice_47 : decode cX11_voice 47 = .ok (.iconst 1, 1) := by decide +kernel
theorem dX11_voice_48 : decode cX11_voice 48 = .ok (.invokevirtual 193, 3) := by decide +kernel
theorem dX11_voice_51 : decode cX11_voice 51 = .ok (.putfield 306, 3) := by decide +kernel
theorem dX11_voice_54 : decode cX11_voice 54 = .ok (.iload_n 2, 1) := by decide +kernel
theorem dX11_voice_55 : decode cX11_voice 55 = .ok (.ifCond .ne 11, 3) := by decide +kernel
theorem dX11_voice_58 : decode cX11_voice 58 = .ok (.aload_n 0, 1) := by decide +kernel
theorem dX11_voice_59 : decode cX11_voice 59 = .ok (.iload_n 3, 1) := by decide +kernel
theorem dX11_voice_60 : decode cX11_voice 60 = .ok (.invokevirtual 300, 3) := by decide +kernel
theorem dX11_voice_63 : decode cX11_voice 63 = .ok (.goto 34, 3) := by decide +kernel
theorem dX11_voice_66 : decode cX11_voice 66 = .ok (.iload_n 2, 1) := by decide +kernel
theorem dX11_voice_67 : decode cX11_voice 67 = .ok (.iconst 1, 1) := by decide +kernel
theorem dX11_voice_68 : decode cX11_voice 68 = .ok (.if_icmp .ne 11, 3) := by decide +kernel
theorem dX11_voice_71 : decode cX11_voice 71 = .ok (.aload_n 0, 1) := by decide +kernel
theorem dX11_voice_72 : decode cX11_voice 72 = .ok (.iload_n 3, 1) := by decide +kernel
theorem dX11_voice_73 : decode cX11_voice 73 = .ok (.invokevirtual 309, 3) := by decide +kernel
theorem dX11_voice_76 : decode cX11_voice 76 = .ok (.goto 21, 3) := by decide +kernel
theorem dX11_voice_79 : decode cX11_voice 79 = .ok (.iload_n 2, 1) := by decide +kernel
theorem dX11_voice_80 : decode cX11_voice 80 = .ok (.iconst 2, 1) := by decide +kernel
theorem dX11_voice_81 : decode cX11_voice 81 = .ok (.if_icmp .ne 11, 3) := by decide +kernel
theorem dX11_voice_84 : decode cX11_voice 84 = .ok (.aload_n 0, 1) := by decide +kernel
theorem dX11_voice_85 : decode cX11_voice 85 = .ok (.iload_n 3, 1) := by decide +kernel
theorem dX11_voice_86 : decode cX11_voice 86 = .ok (.invokevirtual 303, 3) := by decide +kernel
theorem dX11_voice_89 : decode cX11_voice 89 = .ok (.goto 8, 3) := by decide +kernel
theorem dX11_voice_92 : decode cX11_voice 92 = .ok (.aload_n 0, 1) := by decide +kernel
theorem dX11_voice_93 : decode cX11_voice 93 = .ok (.iload_n 3, 1) := by decide +kernel
theorem dX11_voice_94 : decode cX11_voice 94 = .ok (.invokevirtual 315, 3) := by decide +kernel
theorem dX11_voice_97 : decode cX11_voice 97 = .ok (.ireturn, 1) := by decide +kernel
theorem dX11_trace_0 : decode cX11_trace 0 = .ok (.iload_n 1, 1) := by decide +kernel
theorem dX11_trace_1 : decode cX11_trace 1 = .ok (.iconst 0, 1) := by decide +kernel
theorem dX11_trace_2 : decode cX11_trace 2 = .ok (.aload_n 0, 1) := by decide +kernel
theorem dX11_trace_3 : decode cX11_trace 3 = .ok (.getfield 288, 3) := by decide +kernel
theorem dX11_trace_6 : decode cX11_trace 6 = .ok (.iconst 1, 1) := by decide +kernel
theorem dX11_trace_7 : decode cX11_trace 7 = .ok (.isub, 1) := by decide +kernel
theorem dX11_trace_8 : decode cX11_trace 8 = .ok (.invokestatic 70, 3) := by decide +kernel
theorem dX11_trace_11 : decode cX11_trace 11 = .ok (.ifCond .eq 12, 3) := by decide +kernel
theorem dX11_trace_14 : decode cX11_trace 14 = .ok (.aload_n 0, 1) := by decide +kernel
theorem dX11_trace_15 : decode cX11_trace 15 = .ok (.getfield 41, 3) := by decide +kernel
theorem dX11_trace_18 : decode cX11_trace 18 = .ok (.iload_n 1, 1) := by decide +kernel
theorem dX11_trace_19 : decode cX11_trace 19 = .ok (.iaload, 1) := by decide +kernel
theorem dX11_trace_20 : decode cX11_trace 20 = .ok (.goto 10, 3) := by decide +kernel
theorem dX11_trace_23 : decode cX11_trace 23 = .ok (.aload_n 0, 1) := by decide +kernel
theorem dX11_trace_24 : decode cX11_trace 24 = .ok (.ldc_w 259, 3) := by decide +kernel
theorem dX11_trace_27 : decode cX11_trace 27 = .ok (.invokevirtual 75, 3) := by decide +kernel
theorem dX11_trace_30 : decode cX11_trace 30 = .ok (.ireturn, 1) := by decide +kernel
theorem dX11_isSheet_0 : decode cX11_isSheet 0 = .ok (.iload_n 0, 1) := by decide +kernel
theorem dX11_isSheet_1 : decode cX11_isSheet 1 = .ok (.iconst 0, 1) := by decide +kernel
theorem dX11_isSheet_2 : decode cX11_isSheet 2 = .ok (.iconst 3, 1) := by decide +kernel
theorem dX11_isSheet_3 : decode cX11_isSheet 3 = .ok (.invokestatic 70, 3) := by decide +kernel
theorem dX11_isSheet_6 : decode cX11_isSheet 6 = .ok (.ireturn, 1) := by decide +kernel
theorem dX11_sheet_0 : decode cX11_sheet 0 = .ok (.iload_n 1, 1) := by decide +kernel
theorem dX11_sheet_1 : decode cX11_sheet 1 = .ok (.invokestatic 276, 3) := by decide +kernel
theorem dX11_sheet_4 : decode cX11_sheet 4 = .ok (.ifCond .eq 25, 3) := by decide +kernel
theorem dX11_sheet_7 : decode cX11_sheet 7 = .ok (.iload_n 2, 1) := by decide +kernel
theorem dX11_sheet_8 : decode cX11_sheet 8 = .ok (.ifCond .eq 28, 3) := by decide +kernel
theorem dX11_sheet_11 : decode cX11_sheet 11 = .ok (.iload_n 2, 1) := by decide +kernel
theorem dX11_sheet_12 : decode cX11_sheet 12 = .ok (.bipush 8, 2) := by decide +kernel
theorem dX11_sheet_14 : decode cX11_sheet 14 = .ok (.if_icmp .eq 22, 3) := by decide +kernel
theorem dX11_sheet_17 : decode cX11_sheet 17 = .ok (.iload_n 2, 1) := by decide +kernel
theorem dX11_sheet_18 : decode cX11_sheet 18 = .ok (.bipush 16, 2) := by decide +kernel
theorem dX11_sheet_20 : decode cX11_sheet 20 = .ok (.if_icmp .eq 16, 3) := by decide +kernel
theorem dX11_sheet_23 : decode cX11_sheet 23 = .ok (.iload_n 2, 1) := by decide +kernel
theorem dX11_sheet_24 : decode cX11_sheet 24 = .ok (.bipush 32, 2) := by decide +kernel
theorem dX11_sheet_26 : decode cX11_sheet 26 = .ok (.if_icmp .eq 10, 3) := by decide +kernel
theorem dX11_sheet_29 : decode cX11_sheet 29 = .ok (.aload_n 0, 1) := by decide +kernel
theorem dX11_sheet_30 : decode cX11_sheet 30 = .ok (.ldc 74, 2) := by decide +kernel
theorem dX11_sheet_32 : decode cX11_sheet 32 = .ok (.invokevirtual 75, 3) := by decide +kernel
theorem dX11_sheet_35 : decode cX11_sheet 35 = .ok (.ireturn, 1) := by decide +kernel
theorem dX11_sheet_36 : decode cX11_sheet 36 = .ok (.iload_n 2, 1) := by decide +kernel
theorem dX11_sheet_37 : decode cX11_sheet 37 = .ok (.ifCond .eq 14, 3) := by decide +kernel
theorem dX11_sheet_40 : decode cX11_sheet 40 = .ok (.iload_n 3, 1) := by decide +kernel
theorem dX11_sheet_41 : decode cX11_sheet 41 = .ok (.ifCond .ge 10, 3) := by decide +kernel
theorem dX11_sheet_44 : decode cX11_sheet 44 = .ok (.aload_n 0, 1) := by decide +kernel
theorem dX11_sheet_45 : decode cX11_sheet 45 = .ok (.ldc 165, 2) := by decide +kernel
theorem dX11_sheet_47 : decode cX11_sheet 47 = .ok (.invokevirtual 75, 3) := by decide +kernel
theorem dX11_sheet_50 : decode cX11_sheet 50 = .ok (.ireturn, 1) := by decide +kernel
theorem dX11_sheet_51 : decode cX11_sheet 51 = .ok (.iload_n 2, 1) := by decide +kernel
theorem dX11_sheet_52 : decode cX11_sheet 52 = .ok (.ifCond .eq 16, 3) := by decide +kernel
theorem dX11_sheet_55 : decode cX11_sheet 55 = .ok (.iload_n 3, 1) := by decide +kernel
theorem dX11_sheet_56 : decode cX11_sheet 56 = .ok (.bipush 40, 2) := by decide +kernel
theorem dX11_sheet_58 : decode cX11_sheet 58 = .ok (.if_icmp .le 10, 3) := by decide +kernel
theorem dX11_sheet_61 : decode cX11_sheet 61 = .ok (.aload_n 0, 1) := by decide +kernel
theorem dX11_sheet_62 : decode cX11_sheet 62 = .ok (.ldc 74, 2) := by decide +kernel
theorem dX11_sheet_64 : decode cX11_sheet 64 = .ok (.invokevirtual 75, 3) := by decide +kernel
theorem dX11_sheet_67 : decode cX11_sheet 67 = .ok (.ireturn, 1) := by decide +kernel
theorem dX11_sheet_68 : decode cX11_sheet 68 = .ok (.aload_n 0, 1) := by decide +kernel
theorem dX11_sheet_69 : decode cX11_sheet 69 = .ok (.getfield 44, 3) := by decide +kernel
theorem dX11_sheet_72 : decode cX11_sheet 72 = .ok (.iload_n 1, 1) := by decide +kernel
theorem dX11_sheet_73 : decode cX11_sheet 73 = .ok (.iload_n 2, 1) := by decide +kernel
theorem dX11_sheet_74 : decode cX11_sheet 74 = .ok (.iastore, 1) := by decide +kernel
theorem dX11_sheet_75 : decode cX11_sheet 75 = .ok (.aload_n 0, 1) := by decide +kernel
theorem dX11_sheet_76 : decode cX11_sheet 76 = .ok (.getfield 47, 3) := by decide +kernel
theorem dX11_sheet_79 : decode cX11_sheet 79 = .ok (.iload_n 1, 1) := by decide +kernel
theorem dX11_sheet_80 : decode cX11_sheet 80 = .ok (.iload_n 2, 1) := by decide +kernel
theorem dX11_sheet_81 : decode cX11_sheet 81 = .ok (.ifCond .ne 7, 3) := by decide +kernel
theorem dX11_sheet_84 : decode cX11_sheet 84 = .ok (.iconst 0, 1) := by decide +kernel
theorem dX11_sheet_85 : decode cX11_sheet 85 = .ok (.goto 4, 3) := by decide +kernel
theorem dX11_sheet_88 : decode cX11_sheet 88 = .ok (.iload_n 3, 1) := by decide +kernel
theorem dX11_sheet_89 : decode cX11_sheet 89 = .ok (.iastore, 1) := by decide +kernel
theorem dX11_sheet_90 : decode cX11_sheet 90 = .ok (.iconst 0, 1) := by decide +kernel
theorem dX11_sheet_91 : decode cX11_sheet 91 = .ok (.istore 4, 2) := by decide +kernel
theorem dX11_sheet_93 : decode cX11_sheet 93 = .ok (.iload 4, 2) := by decide +kernel
theorem dX11_sheet_95 : decode cX11_sheet 95 = .ok (.bipush 40, 2) := by decide +kernel
theorem dX11_sheet_97 : decode cX11_sheet 97 = .ok (.if_icmp .ge 22, 3) := by decide +kernel
theorem dX11_sheet_100 : decode cX11_sheet 100 = .ok (.aload_n 0, 1) := by decide +kernel
theorem dX11_sheet_101 : decode cX11_sheet 101 = .ok (.getfield 50, 3) := by decide +kernel
theorem dX11_sheet_104 : decode cX11_sheet 104 = .ok (.bipush 40, 2) := by decide +kernel
theorem dX11_sheet_106 : decode cX11_sheet 106 = .ok (.iload_n 1, 1) := by decide +kernel
theorem dX11_sheet_107 : decode cX11_sheet 107 = .ok (.imul, 1) := by decide +kernel
theorem dX11_sheet_108 : decode cX11_sheet 108 = .ok (.iload 4, 2) := by decide +kernel
theorem dX11_sheet_110 : decode cX11_sheet 110 = .ok (.iadd, 1) := by decide +kernel
theorem dX11_sheet_111 : decode cX11_sheet 111 = .ok (.iconst 0, 1) := by decide +kernel
theorem dX11_sheet_112 : decode cX11_sheet 112 = .ok (.iastore, 1) := by decide +kernel
theorem dX11_sheet_113 : decode cX11_sheet 113 = .ok (.iinc 4 1, 3) := by decide +kernel
theorem dX11_sheet_116 : decode cX11_sheet 116 = .ok (.goto (-23), 3) := by decide +kernel
theorem dX11_sheet_119 : decode cX11_sheet 119 = .ok (.iconst 1, 1) := by decide +kernel
theorem dX11_sheet_120 : decode cX11_sheet 120 = .ok (.ireturn, 1) := by decide +kernel
theorem dX11_put_0 : decode cX11_put 0 = .ok (.iload_n 1, 1) := by decide +kernel
theorem dX11_put_1 : decode cX11_put 1 = .ok (.invokestatic 276, 3) := by decide +kernel
theorem dX11_put_4 : decode cX11_put 4 = .ok (.ifCond .ne 10, 3) := by decide +kernel
theorem dX11_put_7 : decode cX11_put 7 = .ok (.aload_n 0, 1) := by decide +kernel
theorem dX11_put_8 : decode cX11_put 8 = .ok (.ldc 74, 2) := by decide +kernel
theorem dX11_put_10 : decode cX11_put 10 = .ok (.invokevirtual 75, 3) := by decide +kernel
theorem dX11_put_13 : decode cX11_put 13 = .ok (.ireturn, 1) := by decide +kernel
theorem dX11_put_14 : decode cX11_put 14 = .ok (.aload_n 0, 1) := by decide +kernel
theorem dX11_put_15 : decode cX11_put 15 = .ok (.getfield 44, 3) := by decide +kernel
theorem dX11_put_18 : decode cX11_put 18 = .ok (.iload_n 1, 1) := by decide +kernel
theorem dX11_put_19 : decode cX11_put 19 = .ok (.iaload, 1) := by decide +kernel
theorem dX11_put_20 : decode cX11_put 20 = .ok (.ifCond .ne 11, 3) := by decide +kernel
theorem dX11_put_23 : decode cX11_put 23 = .ok (.aload_n 0, 1) := by decide +kernel
theorem dX11_put_24 : decode cX11_put 24 = .ok (.ldc_w 259, 3) := by decide +kernel
theorem dX11_put_27 : decode cX11_put 27 = .ok (.invokevirtual 75, 3) := by decide +kernel
theorem dX11_put_30 : decode cX11_put 30 = .ok (.ireturn, 1) := by decide +kernel
theorem dX11_put_31 : decode cX11_put 31 = .ok (.iload_n 2, 1) := by decide +kernel
theorem dX11_put_32 : decode cX11_put 32 = .ok (.iconst 0, 1) := by decide +kernel
theorem dX11_put_33 : decode cX11_put 33 = .ok (.aload_n 0, 1) := by decide +kernel
theorem dX11_put_34 : decode cX11_put 34 = .ok (.getfield 47, 3) := by decide +kernel
theorem dX11_put_37 : decode cX11_put 37 = .ok (.iload_n 1, 1) := by decide +kernel
theorem dX11_put_38 : decode cX11_put 38 = .ok (.iaload, 1) := by decide +kernel
theorem dX11_put_39 : decode cX11_put 39 = .ok (.iconst 1, 1) := by decide +kernel
theorem dX11_put_40 : decode cX11_put 40 = .ok (.isub, 1) := by decide +kernel
theorem dX11_put_41 : decode cX11_put 41 = .ok (.invokestatic 70, 3) := by decide +kernel
theorem dX11_put_44 : decode cX11_put 44 = .ok (.ifCond .ne 10, 3) := by decide +kernel
theorem dX11_put_47 : decode cX11_put 47 = .ok (.aload_n 0, 1) := by decide +kernel
theorem dX11_put_48 : decode cX11_put 48 = .ok (.ldc 74, 2) := by decide +kernel
theorem dX11_put_50 : decode cX11_put 50 = .ok (.invokevirtual 75, 3) := by decide +kernel
theorem dX11_put_53 : decode cX11_put 53 = .ok (.ireturn, 1) := by decide +kernel
theorem dX11_put_54 : decode cX11_put 54 = .ok (.aload_n 0, 1) := by decide +kernel
theorem dX11_put_55 : decode cX11_put 55 = .ok (.getfield 50, 3) := by decide +kernel
theorem dX11_put_58 : decode cX11_put 58 = .ok (.bipush 40, 2) := by decide +kernel
theorem dX11_put_60 : decode cX11_put 60 = .ok (.iload_n 1, 1) := by decide +kernel
theorem dX11_put_61 : decode cX11_put 61 = .ok (.imul, 1) := by decide +kernel
theorem dX11_put_62 : decode cX11_put 62 = .ok (.iload_n 2, 1) := by decide +kernel
theorem dX11_put_63 : decode cX11_put 63 = .ok (.iadd, 1) := by decide +kernel
theorem dX11_put_64 : decode cX11_put 64 = .ok (.aload_n 0, 1) := by decide +kernel
theorem dX11_put_65 : decode cX11_put 65 = .ok (.getfield 44, 3) := by decide +kernel
theorem dX11_put_68 : decode cX11_put 68 = .ok (.iload_n 1, 1) := by decide +kernel
theorem dX11_put_69 : decode cX11_put 69 = .ok (.iaload, 1) := by decide +kernel
theorem dX11_put_70 : decode cX11_put 70 = .ok (.bipush 8, 2) := by decide +kernel
theorem dX11_put_72 : decode cX11_put 72 = .ok (.if_icmp .ne 8, 3) := by decide +kernel
theorem dX11_put_75 : decode cX11_put 75 = .ok (.iload_n 3, 1) := by decide +kernel
theorem dX11_put_76 : decode cX11_put 76 = .ok (.i2b, 1) := by decide +kernel
theorem dX11_put_77 : decode cX11_put 77 = .ok (.goto 20, 3) := by decide +kernel
theorem dX11_put_80 : decode cX11_put 80 = .ok (.aload_n 0, 1) := by decide +kernel
theorem dX11_put_81 : decode cX11_put 81 = .ok (.getfield 44, 3) := by decide +kernel
theorem dX11_put_84 : decode cX11_put 84 = .ok (.iload_n 1, 1) := by decide +kernel
theorem dX11_put_85 : decode cX11_put 85 = .ok (.iaload, 1) := by decide +kernel
theorem dX11_put_86 : decode cX11_put 86 = .ok (.bipush 16, 2) := by decide +kernel
theorem dX11_put_88 : decode cX11_put 88 = .ok (.if_icmp .ne 8, 3) := by decide +kernel
theorem dX11_put_91 : decode cX11_put 91 = .ok (.iload_n 3, 1) := by decide +kernel
theorem dX11_put_92 : decode cX11_put 92 = .ok (.i2s, 1) := by decide +kernel
theorem dX11_put_93 : decode cX11_put 93 = .ok (.goto 4, 3) := by decide +kernel
theorem dX11_put_96 : decode cX11_put 96 = .ok (.iload_n 3, 1) := by decide +kernel
theorem dX11_put_97 : decode cX11_put 97 = .ok (.iastore, 1) := by decide +kernel
theorem dX11_put_98 : decode cX11_put 98 = .ok (.iconst 1, 1) := by decide +kernel
theorem dX11_put_99 : decode cX11_put 99 = .ok (.ireturn, 1) := by decide +kernel
theorem dX11_move_0 : decode cX11_move 0 = .ok (.iload_n 1, 1) := by decide +kernel
theorem dX11_move_1 : decode cX11_move 1 = .ok (.invokestatic 276, 3) := by decide +kernel
theorem dX11_move_4 : decode cX11_move 4 = .ok (.ifCond .eq 10, 3) := by decide +kernel
theorem dX11_move_7 : decode cX11_move 7 = .ok (.iload_n 3, 1) := by decide +kernel
theorem dX11_move_8 : decode cX11_move 8 = .ok (.invokestatic 276, 3) := by decide +kernel
theorem dX11_move_11 : decode cX11_move 11 = .ok (.ifCond .ne 10, 3) := by decide +kernel
theorem dX11_move_14 : decode cX11_move 14 = .ok (.aload_n 0, 1) := by decide +kernel
theorem dX11_move_15 : decode cX11_move 15 = .ok (.ldc 74, 2) := by decide +kernel
theorem dX11_move_17 : decode cX11_move 17 = .ok (.invokevirtual 75, 3) := by decide +kernel
theorem dX11_move_20 : decode cX11_move 20 = .ok (.ireturn, 1) := by decide +kernel
theorem dX11_move_21 : decode cX11_move 21 = .ok (.aload_n 0, 1) := by decide +kernel
theorem dX11_move_22 : decode cX11_move 22 = .ok (.getfield 44, 3) := by decide +kernel
theorem dX11_move_25 : decode cX11_move 25 = .ok (.iload_n 1, 1) := by decide +kernel
theorem dX11_move_26 : decode cX11_move 26 = .ok (.iaload, 1) := by decide +kernel
theorem dX11_move_27 : decode cX11_move 27 = .ok (.ifCond .eq 12, 3) := by decide +kernel
theorem dX11_move_30 : decode cX11_move 30 = .ok (.aload_n 0, 1) := by decide +kernel
theorem dX11_move_31 : decode cX11_move 31 = .ok (.getfield 44, 3) := by decide +kernel
theorem dX11_move_34 : decode cX11_move 34 = .ok (.iload_n 3, 1) := by decide +kernel
theorem dX11_move_35 : decode cX11_move 35 = .ok (.iaload, 1) := by decide +kernel
theorem dX11_move_36 : decode cX11_move 36 = .ok (.ifCond .ne 11, 3) := by decide +kernel
theorem dX11_move_39 : decode cX11_move 39 = .ok (.aload_n 0, 1) := by decide +kernel
theorem dX11_move_40 : decode cX11_move 40 = .ok (.ldc_w 259, 3) := by decide +kernel
theorem dX11_move_43 : decode cX11_move 43 = .ok (.invokevirtual 75, 3) := by decide +kernel
theorem dX11_move_46 : decode cX11_move 46 = .ok (.ireturn, 1) := by decide +kernel
theorem dX11_move_47 : decode cX11_move 47 = .ok (.aload_n 0, 1) := by decide +kernel
theorem dX11_move_48 : decode cX11_move 48 = .ok (.getfield 44, 3) := by decide +kernel
theorem dX11_move_51 : decode cX11_move 51 = .ok (.iload_n 1, 1) := by decide +kernel
theorem dX11_move_52 : decode cX11_move 52 = .ok (.iaload, 1) := by decide +kernel
theorem dX11_move_53 : decode cX11_move 53 = .ok (.aload_n 0, 1) := by decide +kernel
theorem dX11_move_54 : decode cX11_move 54 = .ok (.getfield 44, 3) := by decide +kernel
theorem dX11_move_57 : decode cX11_move 57 = .ok (.iload_n 3, 1) := by decide +kernel
theorem dX11_move_58 : decode cX11_move 58 = .ok (.iaload, 1) := by decide +kernel
theorem dX11_move_59 : decode cX11_move 59 = .ok (.if_icmp .eq 10, 3) := by decide +kernel
theorem dX11_move_62 : decode cX11_move 62 = .ok (.aload_n 0, 1) := by decide +kernel
theorem dX11_move_63 : decode cX11_move 63 = .ok (.ldc 224, 2) := by decide +kernel
theorem dX11_move_65 : decode cX11_move 65 = .ok (.invokevirtual 75, 3) := by decide +kernel
theorem dX11_move_68 : decode cX11_move 68 = .ok (.ireturn, 1) := by decide +kernel
theorem dX11_move_69 : decode cX11_move 69 = .ok (.iload 5, 2) := by decide +kernel
theorem dX11_move_71 : decode cX11_move 71 = .ok (.ifCond .lt 47, 3) := by decide +kernel
theorem dX11_move_74 : decode cX11_move 74 = .ok (.iload_n 2, 1) := by decide +kernel
theorem dX11_move_75 : decode cX11_move 75 = .ok (.ifCond .lt 43, 3) := by decide +kernel
theorem dX11_move_78 : decode cX11_move 78 = .ok (.iload 4, 2) := by decide +kernel
theorem dX11_move_80 : decode cX11_move 80 = .ok (.ifCond .lt 38, 3) := by decide +kernel
theorem dX11_move_83 : decode cX11_move 83 = .ok (.iload_n 2, 1) := by decide +kernel
theorem dX11_move_84 : decode cX11_move 84 = .ok (.i2l, 1) := by decide +kernel
theorem dX11_move_85 : decode cX11_move 85 = .ok (.iload 5, 2) := by decide +kernel
theorem dX11_move_87 : decode cX11_move 87 = .ok (.i2l, 1) := by decide +kernel
theorem dX11_move_88 : decode cX11_move 88 = .ok (.ladd, 1) := by decide +kernel
theorem dX11_move_89 : decode cX11_move 89 = .ok (.aload_n 0, 1) := by decide +kernel
theorem dX11_move_90 : decode cX11_move 90 = .ok (.getfield 47, 3) := by decide +kernel
theorem dX11_move_93 : decode cX11_move 93 = .ok (.iload_n 1, 1) := by decide +kernel
theorem dX11_move_94 : decode cX11_move 94 = .ok (.iaload, 1) := by decide +kernel
theorem dX11_move_95 : decode cX11_move 95 = .ok (.i2l, 1) := by decide +kernel
theorem dX11_move_96 : decode cX11_move 96 = .ok (.lcmp, 1) := by decide +kernel
theorem dX11_move_97 : decode cX11_move 97 = .ok (.ifCond .gt 21, 3) := by decide +kernel
theorem dX11_move_100 : decode cX11_move 100 = .ok (.iload 4, 2) := by decide +kernel
theorem dX11_move_102 : decode cX11_move 102 = .ok (.i2l, 1) := by decide +kernel
theorem dX11_move_103 : decode cX11_move 103 = .ok (.iload 5, 2) := by decide +kernel
theorem dX11_move_105 : decode cX11_move 105 = .ok (.i2l, 1) := by decide +kernel
theorem dX11_move_106 : decode cX11_move 106 = .ok (.ladd, 1) := by decide +kernel
theorem dX11_move_107 : decode cX11_move 107 = .ok (.aload_n 0, 1) := by decide +kernel
theorem dX11_move_108 : decode cX11_move 108 = .ok (.getfield 47, 3) := by decide +kernel
theorem dX11_move_111 : decode cX11_move 111 = .ok (.iload_n 3, 1) := by decide +kernel
theorem dX11_move_112 : decode cX11_move 112 = .ok (.iaload, 1) := by decide +kernel
theorem dX11_move_113 : decode cX11_move 113 = .ok (.i2l, 1) := by decide +kernel
theorem dX11_move_114 : decode cX11_move 114 = .ok (.lcmp, 1) := by decide +kernel
theorem dX11_move_115 : decode cX11_move 115 = .ok (.ifCond .le 10, 3) := by decide +kernel
theorem dX11_move_118 : decode cX11_move 118 = .ok (.aload_n 0, 1) := by decide +kernel
theorem dX11_move_119 : decode cX11_move 119 = .ok (.ldc 74, 2) := by decide +kernel
theorem dX11_move_121 : decode cX11_move 121 = .ok (.invokevirtual 75, 3) := by decide +kernel
theorem dX11_move_124 : decode cX11_move 124 = .ok (.ireturn, 1) := by decide +kernel
theorem dX11_move_125 : decode cX11_move 125 = .ok (.iconst 0, 1) := by decide +kernel
theorem dX11_move_126 : decode cX11_move 126 = .ok (.istore 6, 2) := by decide +kernel
theorem dX11_move_128 : decode cX11_move 128 = .ok (.iload 6, 2) := by decide +kernel
theorem dX11_move_130 : decode cX11_move 130 = .ok (.iload 5, 2) := by decide +kernel
theorem dX11_move_132 : decode cX11_move 132 = .ok (.if_icmp .ge 30, 3) := by decide +kernel
theorem dX11_move_135 : decode cX11_move 135 = .ok (.aload_n 0, 1) := by decide +kernel
theorem dX11_move_136 : decode cX11_move 136 = .ok (.getfield 53, 3) := by decide +kernel
theorem dX11_move_139 : decode cX11_move 139 = .ok (.iload 6, 2) := by decide +kernel
theorem dX11_move_141 : decode cX11_move 141 = .ok (.aload_n 0, 1) := by decide +kernel
theorem dX11_move_142 : decode cX11_move 142 = .ok (.getfield 50, 3) := by decide +kernel
theorem dX11_move_145 : decode cX11_move 145 = .ok (.bipush 40, 2) := by decide +kernel
theorem dX11_move_147 : decode cX11_move 147 = .ok (.iload_n 1, 1) := by decide +kernel
theorem dX11_move_148 : decode cX11_move 148 = .ok (.imul, 1) := by decide +kernel
theorem dX11_move_149 : decode cX11_move 149 = .ok (.iload_n 2, 1) := by decide +kernel
theorem dX11_move_150 : decode cX11_move 150 = .ok (.iadd, 1) := by decide +kernel
theorem dX11_move_151 : decode cX11_move 151 = .ok (.iload 6, 2) := by decide +kernel
theorem dX11_move_153 : decode cX11_move 153 = .ok (.iadd, 1) := by decide +kernel
theorem dX11_move_154 : decode cX11_move 154 = .ok (.iaload, 1) := by decide +kernel
theorem dX11_move_155 : decode cX11_move 155 = .ok (.iastore, 1) := by decide +kernel
theorem dX11_move_156 : decode cX11_move 156 = .ok (.iinc 6 1, 3) := by decide +kernel
theorem dX11_move_159 : decode cX11_move 159 = .ok (.goto (-31), 3) := by decide +kernel
theorem dX11_move_162 : decode cX11_move 162 = .ok (.iconst 0, 1) := by decide +kernel
theorem dX11_move_163 : decode cX11_move 163 = .ok (.istore 6, 2) := by decide +kernel
theorem dX11_move_165 : decode cX11_move 165 = .ok (.iload 6, 2) := by decide +kernel
theorem dX11_move_167 : decode cX11_move 167 = .ok (.iload 5, 2) := by decide +kernel
theorem dX11_move_169 : decode cX11_move 169 = .ok (.if_icmp .ge 31, 3) := by decide +kernel
theorem dX11_move_172 : decode cX11_move 172 = .ok (.aload_n 0, 1) := by decide +kernel
theorem dX11_move_173 : decode cX11_move 173 = .ok (.getfield 50, 3) := by decide +kernel
theorem dX11_move_176 : decode cX11_move 176 = .ok (.bipush 40, 2) := by decide +kernel
theorem dX11_move_178 : decode cX11_move 178 = .ok (.iload_n 3, 1) := by decide +kernel
theorem dX11_move_179 : decode cX11_move 179 = .ok (.imul, 1) := by decide +kernel
theorem dX11_move_180 : decode cX11_move 180 = .ok (.iload 4, 2) := by decide +kernel
theorem dX11_move_182 : decode cX11_move 182 = .ok (.iadd, 1) := by decide +kernel
theorem dX11_move_183 : decode cX11_move 183 = .ok (.iload 6, 2) := by decide +kernel
theorem dX11_move_185 : decode cX11_move 185 = .ok (.iadd, 1) := by decide +kernel
theorem dX11_move_186 : decode cX11_move 186 = .ok (.aload_n 0, 1) := by decide +kernel
theorem dX11_move_187 : decode cX11_move 187 = .ok (.getfield 53, 3) := by decide +kernel
theorem dX11_move_190 : decode cX11_move 190 = .ok (.iload 6, 2) := by decide +kernel
theorem dX11_move_192 : decode cX11_move 192 = .ok (.iaload, 1) := by decide +kernel
theorem dX11_move_193 : decode cX11_move 193 = .ok (.iastore, 1) := by decide +kernel
theorem dX11_move_194 : decode cX11_move 194 = .ok (.iinc 6 1, 3) := by decide +kernel
theorem dX11_move_197 : decode cX11_move 197 = .ok (.goto (-32), 3) := by decide +kernel
theorem dX11_move_200 : decode cX11_move 200 = .ok (.iload 5, 2) := by decide +kernel
theorem dX11_move_202 : decode cX11_move 202 = .ok (.ireturn, 1) := by decide +kernel
theorem dX11_palates_0 : decode cX11_palates 0 = .ok (.iload_n 1, 1) := by decide +kernel
theorem dX11_palates_1 : decode cX11_palates 1 = .ok (.invokestatic 276, 3) := by decide +kernel
theorem dX11_palates_4 : decode cX11_palates 4 = .ok (.ifCond .ne 10, 3) := by decide +kernel
theorem dX11_palates_7 : decode cX11_palates 7 = .ok (.aload_n 0, 1) := by decide +kernel
theorem dX11_palates_8 : decode cX11_palates 8 = .ok (.ldc 74, 2) := by decide +kernel
theorem dX11_palates_10 : decode cX11_palates 10 = .ok (.invokevirtual 75, 3) := by decide +kernel
theorem dX11_palates_13 : decode cX11_palates 13 = .ok (.ireturn, 1) := by decide +kernel
theorem dX11_palates_14 : decode cX11_palates 14 = .ok (.aload_n 0, 1) := by decide +kernel
theorem dX11_palates_15 : decode cX11_palates 15 = .ok (.getfield 44, 3) := by decide +kernel
theorem dX11_palates_18 : decode cX11_palates 18 = .ok (.iload_n 1, 1) := by decide +kernel
theorem dX11_palates_19 : decode cX11_palates 19 = .ok (.iaload, 1) := by decide +kernel
theorem dX11_palates_20 : decode cX11_palates 20 = .ok (.ifCond .ne 11, 3) := by decide +kernel
theorem dX11_palates_23 : decode cX11_palates 23 = .ok (.aload_n 0, 1) := by decide +kernel
theorem dX11_palates_24 : decode cX11_palates 24 = .ok (.ldc_w 259, 3) := by decide +kernel
theorem dX11_palates_27 : decode cX11_palates 27 = .ok (.invokevirtual 75, 3) := by decide +kernel
theorem dX11_palates_30 : decode cX11_palates 30 = .ok (.ireturn, 1) := by decide +kernel
theorem dX11_palates_31 : decode cX11_palates 31 = .ok (.iconst 0, 1) := by decide +kernel
theorem dX11_palates_32 : decode cX11_palates 32 = .ok (.istore_n 2, 1) := by decide +kernel
theorem dX11_palates_33 : decode cX11_palates 33 = .ok (.iload_n 2, 1) := by decide +kernel
theorem dX11_palates_34 : decode cX11_palates 34 = .ok (.aload_n 0, 1) := by decide +kernel
theorem dX11_palates_35 : decode cX11_palates 35 = .ok (.getfield 47, 3) := by decide +kernel
theorem dX11_palates_38 : decode cX11_palates 38 = .ok (.iload_n 1, 1) := by decide +kernel
theorem dX11_palates_39 : decode cX11_palates 39 = .ok (.iaload, 1) := by decide +kernel
theorem dX11_palates_40 : decode cX11_palates 40 = .ok (.if_icmp .ge 55, 3) := by decide +kernel
theorem dX11_palates_43 : decode cX11_palates 43 = .ok (.aload_n 0, 1) := by decide +kernel
theorem dX11_palates_44 : decode cX11_palates 44 = .ok (.iload_n 2, 1) := by decide +kernel
theorem dX11_palates_45 : decode cX11_palates 45 = .ok (.invokevirtual 228, 3) := by decide +kernel
theorem dX11_palates_48 : decode cX11_palates 48 = .ok (.ifCond .eq 47, 3) := by decide +kernel
theorem dX11_palates_51 : decode cX11_palates 51 = .ok (.aload_n 0, 1) := by decide +kernel
theorem dX11_palates_52 : decode cX11_palates 52 = .ok (.getfield 50, 3) := by decide +kernel
theorem dX11_palates_55 : decode cX11_palates 55 = .ok (.bipush 40, 2) := by decide +kernel
theorem dX11_palates_57 : decode cX11_palates 57 = .ok (.iload_n 1, 1) := by decide +kernel
theorem dX11_palates_58 : decode cX11_palates 58 = .ok (.imul, 1) := by decide +kernel
theorem dX11_palates_59 : decode cX11_palates 59 = .ok (.iload_n 2, 1) := by decide +kernel
theorem dX11_palates_60 : decode cX11_palates 60 = .ok (.iadd, 1) := by decide +kernel
theorem dX11_palates_61 : decode cX11_palates 61 = .ok (.iaload, 1) := by decide +kernel
theorem dX11_palates_62 : decode cX11_palates 62 = .ok (.invokestatic 184, 3) := by decide +kernel
theorem dX11_palates_65 : decode cX11_palates 65 = .ok (.ifCond .eq 30, 3) := by decide +kernel
theorem dX11_palates_68 : decode cX11_palates 68 = .ok (.aload_n 0, 1) := by decide +kernel
theorem dX11_palates_69 : decode cX11_palates 69 = .ok (.getfield 9, 3) := by decide +kernel
theorem dX11_palates_72 : decode cX11_palates 72 = .ok (.iload_n 2, 1) := by decide +kernel
theorem dX11_palates_73 : decode cX11_palates 73 = .ok (.iconst 1, 1) := by decide +kernel
theorem dX11_palates_74 : decode cX11_palates 74 = .ok (.invokestatic 162, 3) := by decide +kernel
theorem dX11_palates_77 : decode cX11_palates 77 = .ok (.aload_n 0, 1) := by decide +kernel
theorem dX11_palates_78 : decode cX11_palates 78 = .ok (.getfield 50, 3) := by decide +kernel
theorem dX11_palates_81 : decode cX11_palates 81 = .ok (.bipush 40, 2) := by decide +kernel
theorem dX11_palates_83 : decode cX11_palates 83 = .ok (.iload_n 1, 1) := by decide +kernel
theorem dX11_palates_84 : decode cX11_palates 84 = .ok (.imul, 1) := by decide +kernel
theorem dX11_palates_85 : decode cX11_palates 85 = .ok (.iload_n 2, 1) := by decide +kernel
theorem dX11_palates_86 : decode cX11_palates 86 = .ok (.iadd, 1) := by decide +kernel
theorem dX11_palates_87 : decode cX11_palates 87 = .ok (.iaload, 1) := by decide +kernel
theorem dX11_palates_88 : decode cX11_palates 88 = .ok (.iastore, 1) := by decide +kernel
theorem dX11_palates_89 : decode cX11_palates 89 = .ok (.iinc 2 1, 3) := by decide +kernel
theorem dX11_palates_92 : decode cX11_palates 92 = .ok (.goto (-59), 3) := by decide +kernel
theorem dX11_palates_95 : decode cX11_palates 95 = .ok (.iload_n 2, 1) := by decide +kernel
theorem dX11_palates_96 : decode cX11_palates 96 = .ok (.ireturn, 1) := by decide +kernel
theorem dX11_judge_0 : decode cX11_judge 0 = .ok (.iload_n 1, 1) := by decide +kernel
theorem dX11_judge_1 : decode cX11_judge 1 = .ok (.invokestatic 276, 3) := by decide +kernel
theorem dX11_judge_4 : decode cX11_judge 4 = .ok (.ifCond .ne 10, 3) := by decide +kernel
theorem dX11_judge_7 : decode cX11_judge 7 = .ok (.aload_n 0, 1) := by decide +kernel
theorem dX11_judge_8 : decode cX11_judge 8 = .ok (.ldc 74, 2) := by decide +kernel
theorem dX11_judge_10 : decode cX11_judge 10 = .ok (.invokevirtual 75, 3) := by decide +kernel
theorem dX11_judge_13 : decode cX11_judge 13 = .ok (.ireturn, 1) := by decide +kernel
theorem dX11_judge_14 : decode cX11_judge 14 = .ok (.aload_n 0, 1) := by decide +kernel
theorem dX11_judge_15 : decode cX11_judge 15 = .ok (.getfield 44, 3) := by decide +kernel
theorem dX11_judge_18 : decode cX11_judge 18 = .ok (.iload_n 1, 1) := by decide +kernel
theorem dX11_judge_19 : decode cX11_judge 19 = .ok (.iaload, 1) := by decide +kernel
theorem dX11_judge_20 : decode cX11_judge 20 = .ok (.ifCond .ne 11, 3) := by decide +kernel
theorem dX11_judge_23 : decode cX11_judge 23 = .ok (.aload_n 0, 1) := by decide +kernel
theorem dX11_judge_24 : decode cX11_judge 24 = .ok (.ldc_w 259, 3) := by decide +kernel
theorem dX11_judge_27 : decode cX11_judge 27 = .ok (.invokevirtual 75, 3) := by decide +kernel
theorem dX11_judge_30 : decode cX11_judge 30 = .ok (.ireturn, 1) := by decide +kernel
theorem dX11_judge_31 : decode cX11_judge 31 = .ok (.iconst 0, 1) := by decide +kernel
theorem dX11_judge_32 : decode cX11_judge 32 = .ok (.istore_n 2, 1) := by decide +kernel
theorem dX11_judge_33 : decode cX11_judge 33 = .ok (.iload_n 2, 1) := by decide +kernel
theorem dX11_judge_34 : decode cX11_judge 34 = .ok (.aload_n 0, 1) := by decide +kernel
theorem dX11_judge_35 : decode cX11_judge 35 = .ok (.getfield 47, 3) := by decide +kernel
theorem dX11_judge_38 : decode cX11_judge 38 = .ok (.iload_n 1, 1) := by decide +kernel
theorem dX11_judge_39 : decode cX11_judge 39 = .ok (.iaload, 1) := by decide +kernel
theorem dX11_judge_40 : decode cX11_judge 40 = .ok (.if_icmp .ge 37, 3) := by decide +kernel
theorem dX11_judge_43 : decode cX11_judge 43 = .ok (.aload_n 0, 1) := by decide +kernel
theorem dX11_judge_44 : decode cX11_judge 44 = .ok (.iload_n 2, 1) := by decide +kernel
theorem dX11_judge_45 : decode cX11_judge 45 = .ok (.invokevirtual 215, 3) := by decide +kernel
theorem dX11_judge_48 : decode cX11_judge 48 = .ok (.ifCond .eq 29, 3) := by decide +kernel
theorem dX11_judge_51 : decode cX11_judge 51 = .ok (.aload_n 0, 1) := by decide +kernel
theorem dX11_judge_52 : decode cX11_judge 52 = .ok (.getfield 50, 3) := by decide +kernel
theorem dX11_judge_55 : decode cX11_judge 55 = .ok (.bipush 40, 2) := by decide +kernel
theorem dX11_judge_57 : decode cX11_judge 57 = .ok (.iload_n 1, 1) := by decide +kernel
theorem dX11_judge_58 : decode cX11_judge 58 = .ok (.imul, 1) := by decide +kernel
