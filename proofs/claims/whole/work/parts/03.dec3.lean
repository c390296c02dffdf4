theorem dX10_tell_33 : decode cX10_tell 33 = .ok (.getfield 10, 3) := by decide +kernel
theorem dX10_tell_36 : decode cX10_tell 36 = .ok (.getfield 332, 3) := by decide +kernel
theorem dX10_tell_39 : decode cX10_tell 39 = .ok (.invokevirtual 211, 3) := by decide +kernel
theorem dX10_tell_42 : decode cX10_tell 42 = .ok (.ireturn, 1) := by decide +kernel
theorem dX10_check_0 : decode cX10_check 0 = .ok (.iconst 0, 1) := by decide +kernel
theorem dX10_check_1 : decode cX10_check 1 = .ok (.istore_n 1, 1) := by decide +kernel
theorem dX10_check_2 : decode cX10_check 2 = .ok (.iconst 0, 1) := by decide +kernel
theorem dX10_check_3 : decode cX10_check 3 = .ok (.istore_n 2, 1) := by decide +kernel
theorem dX10_check_4 : decode cX10_check 4 = .ok (.iload_n 2, 1) := by decide +kernel
theorem dX10_check_5 : decode cX10_check 5 = .ok (.aload_n 0, 1) := by decide +kernel
theorem dX10_check_6 : decode cX10_check 6 = .ok (.getfield 10, 3) := by decide +kernel
theorem dX10_check_9 : decode cX10_check 9 = .ok (.getfield 332, 3) := by decide +kernel
theorem dX10_check_12 : decode cX10_check 12 = .ok (.invokevirtual 211, 3) := by decide +kernel
theorem dX10_check_15 : decode cX10_check 15 = .ok (.if_icmp .ge 48, 3) := by decide +kernel
theorem dX10_check_18 : decode cX10_check 18 = .ok (.iload_n 1, 1) := by decide +kernel
theorem dX10_check_19 : decode cX10_check 19 = .ok (.ifCond .ne 44, 3) := by decide +kernel
theorem dX10_check_22 : decode cX10_check 22 = .ok (.aload_n 0, 1) := by decide +kernel
theorem dX10_check_23 : decode cX10_check 23 = .ok (.getfield 10, 3) := by decide +kernel
theorem dX10_check_26 : decode cX10_check 26 = .ok (.iload_n 2, 1) := by decide +kernel
theorem dX10_check_27 : decode cX10_check 27 = .ok (.iconst 1, 1) := by decide +kernel
theorem dX10_check_28 : decode cX10_check 28 = .ok (.iadd, 1) := by decide +kernel
theorem dX10_check_29 : decode cX10_check 29 = .ok (.invokevirtual 260, 3) := by decide +kernel
theorem dX10_check_32 : decode cX10_check 32 = .ok (.aload_n 0, 1) := by decide +kernel
theorem dX10_check_33 : decode cX10_check 33 = .ok (.getfield 10, 3) := by decide +kernel
theorem dX10_check_36 : decode cX10_check 36 = .ok (.getfield 332, 3) := by decide +kernel
theorem dX10_check_39 : decode cX10_check 39 = .ok (.iload_n 2, 1) := by decide +kernel
theorem dX10_check_40 : decode cX10_check 40 = .ok (.invokevirtual 108, 3) := by decide +kernel
theorem dX10_check_43 : decode cX10_check 43 = .ok (.aload_n 0, 1) := by decide +kernel
theorem dX10_check_44 : decode cX10_check 44 = .ok (.getfield 10, 3) := by decide +kernel
theorem dX10_check_47 : decode cX10_check 47 = .ok (.getfield 335, 3) := by decide +kernel
theorem dX10_check_50 : decode cX10_check 50 = .ok (.if_icmp .eq 7, 3) := by decide +kernel
theorem dX10_check_53 : decode cX10_check 53 = .ok (.iconst 1, 1) := by decide +kernel
theorem dX10_check_54 : decode cX10_check 54 = .ok (.iload_n 2, 1) := by decide +kernel
theorem dX10_check_55 : decode cX10_check 55 = .ok (.iadd, 1) := by decide +kernel
theorem dX10_check_56 : decode cX10_check 56 = .ok (.istore_n 1, 1) := by decide +kernel
theorem dX10_check_57 : decode cX10_check 57 = .ok (.iinc 2 1, 3) := by decide +kernel
theorem dX10_check_60 : decode cX10_check 60 = .ok (.goto (-56), 3) := by decide +kernel
theorem dX10_check_63 : decode cX10_check 63 = .ok (.aload_n 0, 1) := by decide +kernel
theorem dX10_check_64 : decode cX10_check 64 = .ok (.getfield 10, 3) := by decide +kernel
theorem dX10_check_67 : decode cX10_check 67 = .ok (.getfield 332, 3) := by decide +kernel
theorem dX10_check_70 : decode cX10_check 70 = .ok (.invokevirtual 222, 3) := by decide +kernel
theorem dX10_check_73 : decode cX10_check 73 = .ok (.iload_n 1, 1) := by decide +kernel
theorem dX10_check_74 : decode cX10_check 74 = .ok (.ireturn, 1) := by decide +kernel
theorem dX10_count_0 : decode cX10_count 0 = .ok (.iload_n 1, 1) := by decide +kernel
theorem dX10_count_1 : decode cX10_count 1 = .ok (.tableswitch 201 0 12 #[67, 75, 86, 97, 108, 116, 124, 135, 146, 160, 171, 182, 193], 67) := by decide +kernel
theorem dX10_count_68 : decode cX10_count 68 = .ok (.aload_n 0, 1) := by decide +kernel
theorem dX10_count_69 : decode cX10_count 69 = .ok (.getfield 10, 3) := by decide +kernel
theorem dX10_count_72 : decode cX10_count 72 = .ok (.getfield 91, 3) := by decide +kernel
theorem dX10_count_75 : decode cX10_count 75 = .ok (.ireturn, 1) := by decide +kernel
theorem dX10_count_76 : decode cX10_count 76 = .ok (.aload_n 0, 1) := by decide +kernel
theorem dX10_count_77 : decode cX10_count 77 = .ok (.getfield 10, 3) := by decide +kernel
theorem dX10_count_80 : decode cX10_count 80 = .ok (.getfield 67, 3) := by decide +kernel
theorem dX10_count_83 : decode cX10_count 83 = .ok (.invokevirtual 71, 3) := by decide +kernel
theorem dX10_count_86 : decode cX10_count 86 = .ok (.ireturn, 1) := by decide +kernel
theorem dX10_count_87 : decode cX10_count 87 = .ok (.aload_n 0, 1) := by decide +kernel
theorem dX10_count_88 : decode cX10_count 88 = .ok (.getfield 10, 3) := by decide +kernel
theorem dX10_count_91 : decode cX10_count 91 = .ok (.getfield 77, 3) := by decide +kernel
theorem dX10_count_94 : decode cX10_count 94 = .ok (.invokevirtual 81, 3) := by decide +kernel
theorem dX10_count_97 : decode cX10_count 97 = .ok (.ireturn, 1) := by decide +kernel
theorem dX10_count_98 : decode cX10_count 98 = .ok (.aload_n 0, 1) := by decide +kernel
theorem dX10_count_99 : decode cX10_count 99 = .ok (.getfield 10, 3) := by decide +kernel
theorem dX10_count_102 : decode cX10_count 102 = .ok (.getfield 84, 3) := by decide +kernel
theorem dX10_count_105 : decode cX10_count 105 = .ok (.invokevirtual 88, 3) := by decide +kernel
theorem dX10_count_108 : decode cX10_count 108 = .ok (.ireturn, 1) := by decide +kernel
theorem dX10_count_109 : decode cX10_count 109 = .ok (.aload_n 0, 1) := by decide +kernel
theorem dX10_count_110 : decode cX10_count 110 = .ok (.getfield 10, 3) := by decide +kernel
theorem dX10_count_113 : decode cX10_count 113 = .ok (.getfield 243, 3) := by decide +kernel
theorem dX10_count_116 : decode cX10_count 116 = .ok (.ireturn, 1) := by decide +kernel
theorem dX10_count_117 : decode cX10_count 117 = .ok (.aload_n 0, 1) := by decide +kernel
theorem dX10_count_118 : decode cX10_count 118 = .ok (.getfield 10, 3) := by decide +kernel
theorem dX10_count_121 : decode cX10_count 121 = .ok (.getfield 128, 3) := by decide +kernel
theorem dX10_count_124 : decode cX10_count 124 = .ok (.ireturn, 1) := by decide +kernel
theorem dX10_count_125 : decode cX10_count 125 = .ok (.aload_n 0, 1) := by decide +kernel
theorem dX10_count_126 : decode cX10_count 126 = .ok (.getfield 10, 3) := by decide +kernel
theorem dX10_count_129 : decode cX10_count 129 = .ok (.getfield 67, 3) := by decide +kernel
theorem dX10_count_132 : decode cX10_count 132 = .ok (.getfield 117, 3) := by decide +kernel
theorem dX10_count_135 : decode cX10_count 135 = .ok (.ireturn, 1) := by decide +kernel
theorem dX10_count_136 : decode cX10_count 136 = .ok (.aload_n 0, 1) := by decide +kernel
theorem dX10_count_137 : decode cX10_count 137 = .ok (.getfield 10, 3) := by decide +kernel
theorem dX10_count_140 : decode cX10_count 140 = .ok (.getfield 77, 3) := by decide +kernel
theorem dX10_count_143 : decode cX10_count 143 = .ok (.invokevirtual 338, 3) := by decide +kernel
theorem dX10_count_146 : decode cX10_count 146 = .ok (.ireturn, 1) := by decide +kernel
theorem dX10_count_147 : decode cX10_count 147 = .ok (.aload_n 0, 1) := by decide +kernel
theorem dX10_count_148 : decode cX10_count 148 = .ok (.getfield 10, 3) := by decide +kernel
theorem dX10_count_151 : decode cX10_count 151 = .ok (.getfield 77, 3) := by decide +kernel
theorem dX10_count_154 : decode cX10_count 154 = .ok (.invokevirtual 249, 3) := by decide +kernel
theorem dX10_count_157 : decode cX10_count 157 = .ok (.invokestatic 252, 3) := by decide +kernel
theorem dX10_count_160 : decode cX10_count 160 = .ok (.ireturn, 1) := by decide +kernel
theorem dX10_count_161 : decode cX10_count 161 = .ok (.aload_n 0, 1) := by decide +kernel
theorem dX10_count_162 : decode cX10_count 162 = .ok (.getfield 10, 3) := by decide +kernel
theorem dX10_count_165 : decode cX10_count 165 = .ok (.getfield 208, 3) := by decide +kernel
theorem dX10_count_168 : decode cX10_count 168 = .ok (.invokevirtual 211, 3) := by decide +kernel
theorem dX10_count_171 : decode cX10_count 171 = .ok (.ireturn, 1) := by decide +kernel
theorem dX10_count_172 : decode cX10_count 172 = .ok (.aload_n 0, 1) := by decide +kernel
theorem dX10_count_173 : decode cX10_count 173 = .ok (.getfield 10, 3) := by decide +kernel
theorem dX10_count_176 : decode cX10_count 176 = .ok (.getfield 332, 3) := by decide +kernel
theorem dX10_count_179 : decode cX10_count 179 = .ok (.invokevirtual 211, 3) := by decide +kernel
theorem dX10_count_182 : decode cX10_count 182 = .ok (.ireturn, 1) := by decide +kernel
theorem dX10_count_183 : decode cX10_count 183 = .ok (.aload_n 0, 1) := by decide +kernel
theorem dX10_count_184 : decode cX10_count 184 = .ok (.getfield 29, 3) := by decide +kernel
theorem dX10_count_187 : decode cX10_count 187 = .ok (.getfield 304, 3) := by decide +kernel
theorem dX10_count_190 : decode cX10_count 190 = .ok (.invokevirtual 211, 3) := by decide +kernel
theorem dX10_count_193 : decode cX10_count 193 = .ok (.ireturn, 1) := by decide +kernel
theorem dX10_count_194 : decode cX10_count 194 = .ok (.aload_n 0, 1) := by decide +kernel
theorem dX10_count_195 : decode cX10_count 195 = .ok (.getfield 10, 3) := by decide +kernel
theorem dX10_count_198 : decode cX10_count 198 = .ok (.getfield 297, 3) := by decide +kernel
theorem dX10_count_201 : decode cX10_count 201 = .ok (.ireturn, 1) := by decide +kernel
theorem dX10_count_202 : decode cX10_count 202 = .ok (.aload_n 0, 1) := by decide +kernel
theorem dX10_count_203 : decode cX10_count 203 = .ok (.iconst 1, 1) := by decide +kernel
theorem dX10_count_204 : decode cX10_count 204 = .ok (.invokevirtual 63, 3) := by decide +kernel
theorem dX10_count_207 : decode cX10_count 207 = .ok (.ireturn, 1) := by decide +kernel
theorem dX10_told_0 : decode cX10_told 0 = .ok (.iload_n 1, 1) := by decide +kernel
theorem dX10_told_1 : decode cX10_told 1 = .ok (.iconst 1, 1) := by decide +kernel
theorem dX10_told_2 : decode cX10_told 2 = .ok (.iconst 5, 1) := by decide +kernel
theorem dX10_told_3 : decode cX10_told 3 = .ok (.invokestatic 59, 3) := by decide +kernel
theorem dX10_told_6 : decode cX10_told 6 = .ok (.ifCond .ne 9, 3) := by decide +kernel
theorem dX10_told_9 : decode cX10_told 9 = .ok (.aload_n 0, 1) := by decide +kernel
theorem dX10_told_10 : decode cX10_told 10 = .ok (.iconst 1, 1) := by decide +kernel
theorem dX10_told_11 : decode cX10_told 11 = .ok (.invokevirtual 63, 3) := by decide +kernel
theorem dX10_told_14 : decode cX10_told 14 = .ok (.ireturn, 1) := by decide +kernel
theorem dX10_told_15 : decode cX10_told 15 = .ok (.aload_n 0, 1) := by decide +kernel
theorem dX10_told_16 : decode cX10_told 16 = .ok (.getfield 48, 3) := by decide +kernel
theorem dX10_told_19 : decode cX10_told 19 = .ok (.iload_n 1, 1) := by decide +kernel
theorem dX10_told_20 : decode cX10_told 20 = .ok (.invokevirtual 108, 3) := by decide +kernel
theorem dX10_told_23 : decode cX10_told 23 = .ok (.ireturn, 1) := by decide +kernel
theorem dX10_error_0 : decode cX10_error 0 = .ok (.aload_n 0, 1) := by decide +kernel
theorem dX10_error_1 : decode cX10_error 1 = .ok (.getfield 48, 3) := by decide +kernel
theorem dX10_error_4 : decode cX10_error 4 = .ok (.iload_n 1, 1) := by decide +kernel
theorem dX10_error_5 : decode cX10_error 5 = .ok (.aload_n 0, 1) := by decide +kernel
theorem dX10_error_6 : decode cX10_error 6 = .ok (.getfield 48, 3) := by decide +kernel
theorem dX10_error_9 : decode cX10_error 9 = .ok (.iload_n 1, 1) := by decide +kernel
theorem dX10_error_10 : decode cX10_error 10 = .ok (.invokevirtual 108, 3) := by decide +kernel
theorem dX10_error_13 : decode cX10_error 13 = .ok (.iconst 1, 1) := by decide +kernel
theorem dX10_error_14 : decode cX10_error 14 = .ok (.iadd, 1) := by decide +kernel
theorem dX10_error_15 : decode cX10_error 15 = .ok (.invokevirtual 175, 3) := by decide +kernel
theorem dX10_error_18 : decode cX10_error 18 = .ok (.ldc_w 341, 3) := by decide +kernel
theorem dX10_error_21 : decode cX10_error 21 = .ok (.iload_n 1, 1) := by decide +kernel
theorem dX10_error_22 : decode cX10_error 22 = .ok (.isub, 1) := by decide +kernel
theorem dX10_error_23 : decode cX10_error 23 = .ok (.ireturn, 1) := by decide +kernel
theorem dX10_sheetAt_0 : decode cX10_sheetAt 0 = .ok (.iload_n 1, 1) := by decide +kernel
theorem dX10_sheetAt_1 : decode cX10_sheetAt 1 = .ok (.ifCond .lt 21, 3) := by decide +kernel
theorem dX10_sheetAt_4 : decode cX10_sheetAt 4 = .ok (.iload_n 1, 1) := by decide +kernel
theorem dX10_sheetAt_5 : decode cX10_sheetAt 5 = .ok (.aload_n 0, 1) := by decide +kernel
theorem dX10_sheetAt_6 : decode cX10_sheetAt 6 = .ok (.getfield 35, 3) := by decide +kernel
theorem dX10_sheetAt_9 : decode cX10_sheetAt 9 = .ok (.arraylength, 1) := by decide +kernel
theorem dX10_sheetAt_10 : decode cX10_sheetAt 10 = .ok (.if_icmp .ge 12, 3) := by decide +kernel
theorem dX10_sheetAt_13 : decode cX10_sheetAt 13 = .ok (.aload_n 0, 1) := by decide +kernel
theorem dX10_sheetAt_14 : decode cX10_sheetAt 14 = .ok (.getfield 35, 3) := by decide +kernel
theorem dX10_sheetAt_17 : decode cX10_sheetAt 17 = .ok (.iload_n 1, 1) := by decide +kernel
theorem dX10_sheetAt_18 : decode cX10_sheetAt 18 = .ok (.aaload, 1) := by decide +kernel
theorem dX10_sheetAt_19 : decode cX10_sheetAt 19 = .ok (.goto 4, 3) := by decide +kernel
theorem dX10_sheetAt_22 : decode cX10_sheetAt 22 = .ok (.aconst_null, 1) := by decide +kernel
theorem dX10_sheetAt_23 : decode cX10_sheetAt 23 = .ok (.areturn, 1) := by decide +kernel
theorem dX10_mayBeOfOne_0 : decode cX10_mayBeOfOne 0 = .ok (.iload_n 1, 1) := by decide +kernel
theorem dX10_mayBeOfOne_1 : decode cX10_mayBeOfOne 1 = .ok (.ifCond .ne 12, 3) := by decide +kernel
theorem dX10_mayBeOfOne_4 : decode cX10_mayBeOfOne 4 = .ok (.aload_n 0, 1) := by decide +kernel
theorem dX10_mayBeOfOne_5 : decode cX10_mayBeOfOne 5 = .ok (.getfield 10, 3) := by decide +kernel
theorem dX10_mayBeOfOne_8 : decode cX10_mayBeOfOne 8 = .ok (.iload_n 2, 1) := by decide +kernel
theorem dX10_mayBeOfOne_9 : decode cX10_mayBeOfOne 9 = .ok (.invokevirtual 94, 3) := by decide +kernel
theorem dX10_mayBeOfOne_12 : decode cX10_mayBeOfOne 12 = .ok (.ireturn, 1) := by decide +kernel
theorem dX10_mayBeOfOne_13 : decode cX10_mayBeOfOne 13 = .ok (.iload_n 1, 1) := by decide +kernel
theorem dX10_mayBeOfOne_14 : decode cX10_mayBeOfOne 14 = .ok (.iconst 1, 1) := by decide +kernel
theorem dX10_mayBeOfOne_15 : decode cX10_mayBeOfOne 15 = .ok (.if_icmp .ne 13, 3) := by decide +kernel
theorem dX10_mayBeOfOne_18 : decode cX10_mayBeOfOne 18 = .ok (.iload_n 2, 1) := by decide +kernel
theorem dX10_mayBeOfOne_19 : decode cX10_mayBeOfOne 19 = .ok (.iconst 0, 1) := by decide +kernel
theorem dX10_mayBeOfOne_20 : decode cX10_mayBeOfOne 20 = .ok (.bipush 99, 2) := by decide +kernel
theorem dX10_mayBeOfOne_22 : decode cX10_mayBeOfOne 22 = .ok (.invokestatic 59, 3) := by decide +kernel
theorem dX10_mayBeOfOne_25 : decode cX10_mayBeOfOne 25 = .ok (.goto 17, 3) := by decide +kernel
theorem dX10_mayBeOfOne_28 : decode cX10_mayBeOfOne 28 = .ok (.aload_n 0, 1) := by decide +kernel
theorem dX10_mayBeOfOne_29 : decode cX10_mayBeOfOne 29 = .ok (.getfield 10, 3) := by decide +kernel
theorem dX10_mayBeOfOne_32 : decode cX10_mayBeOfOne 32 = .ok (.getfield 77, 3) := by decide +kernel
theorem dX10_mayBeOfOne_35 : decode cX10_mayBeOfOne 35 = .ok (.invokevirtual 81, 3) := by decide +kernel
theorem dX10_mayBeOfOne_38 : decode cX10_mayBeOfOne 38 = .ok (.iload_n 2, 1) := by decide +kernel
theorem dX10_mayBeOfOne_39 : decode cX10_mayBeOfOne 39 = .ok (.invokestatic 274, 3) := by decide +kernel
theorem dX10_mayBeOfOne_42 : decode cX10_mayBeOfOne 42 = .ok (.ireturn, 1) := by decide +kernel
theorem dX10_hinders_0 : decode cX10_hinders 0 = .ok (.iload_n 1, 1) := by decide +kernel
theorem dX10_hinders_1 : decode cX10_hinders 1 = .ok (.aload_n 0, 1) := by decide +kernel
theorem dX10_hinders_2 : decode cX10_hinders 2 = .ok (.getfield 10, 3) := by decide +kernel
theorem dX10_hinders_5 : decode cX10_hinders 5 = .ok (.getfield 67, 3) := by decide +kernel
theorem dX10_hinders_8 : decode cX10_hinders 8 = .ok (.getfield 117, 3) := by decide +kernel
theorem dX10_hinders_11 : decode cX10_hinders 11 = .ok (.iand, 1) := by decide +kernel
theorem dX10_hinders_12 : decode cX10_hinders 12 = .ok (.ifCond .eq 5, 3) := by decide +kernel
theorem dX10_hinders_15 : decode cX10_hinders 15 = .ok (.iconst 0, 1) := by decide +kernel
theorem dX10_hinders_16 : decode cX10_hinders 16 = .ok (.ireturn, 1) := by decide +kernel
theorem dX10_hinders_17 : decode cX10_hinders 17 = .ok (.aload_n 0, 1) := by decide +kernel
theorem dX10_hinders_18 : decode cX10_hinders 18 = .ok (.getfield 10, 3) := by decide +kernel
theorem dX10_hinders_21 : decode cX10_hinders 21 = .ok (.iload_n 3, 1) := by decide +kernel
theorem dX10_hinders_22 : decode cX10_hinders 22 = .ok (.invokevirtual 138, 3) := by decide +kernel
theorem dX10_hinders_25 : decode cX10_hinders 25 = .ok (.astore 5, 2) := by decide +kernel
theorem dX10_hinders_27 : decode cX10_hinders 27 = .ok (.aload_n 0, 1) := by decide +kernel
theorem dX10_hinders_28 : decode cX10_hinders 28 = .ok (.getfield 10, 3) := by decide +kernel
theorem dX10_hinders_31 : decode cX10_hinders 31 = .ok (.aload 5, 2) := by decide +kernel
theorem dX10_hinders_33 : decode cX10_hinders 33 = .ok (.aload_n 0, 1) := by decide +kernel
theorem dX10_hinders_34 : decode cX10_hinders 34 = .ok (.getfield 10, 3) := by decide +kernel
theorem dX10_hinders_37 : decode cX10_hinders 37 = .ok (.getfield 128, 3) := by decide +kernel
theorem dX10_hinders_40 : decode cX10_hinders 40 = .ok (.aload_n 0, 1) := by decide +kernel
theorem dX10_hinders_41 : decode cX10_hinders 41 = .ok (.getfield 10, 3) := by decide +kernel
theorem dX10_hinders_44 : decode cX10_hinders 44 = .ok (.getfield 67, 3) := by decide +kernel
theorem dX10_hinders_47 : decode cX10_hinders 47 = .ok (.getfield 117, 3) := by decide +kernel
theorem dX10_hinders_50 : decode cX10_hinders 50 = .ok (.iload_n 1, 1) := by decide +kernel
theorem dX10_hinders_51 : decode cX10_hinders 51 = .ok (.ior, 1) := by decide +kernel
theorem dX10_hinders_52 : decode cX10_hinders 52 = .ok (.iload 4, 2) := by decide +kernel
theorem dX10_hinders_54 : decode cX10_hinders 54 = .ok (.invokevirtual 277, 3) := by decide +kernel
theorem dX10_hinders_57 : decode cX10_hinders 57 = .ok (.aload 5, 2) := by decide +kernel
theorem dX10_hinders_59 : decode cX10_hinders 59 = .ok (.getfield 166, 3) := by decide +kernel
theorem dX10_hinders_62 : decode cX10_hinders 62 = .ok (.iload_n 2, 1) := by decide +kernel
theorem dX10_hinders_63 : decode cX10_hinders 63 = .ok (.invokestatic 120, 3) := by decide +kernel
theorem dX10_hinders_66 : decode cX10_hinders 66 = .ok (.ifCond .ne 7, 3) := by decide +kernel
theorem dX10_hinders_69 : decode cX10_hinders 69 = .ok (.iconst 1, 1) := by decide +kernel
theorem dX10_hinders_70 : decode cX10_hinders 70 = .ok (.goto 4, 3) := by decide +kernel
theorem dX10_hinders_73 : decode cX10_hinders 73 = .ok (.iconst 0, 1) := by decide +kernel
theorem dX10_hinders_74 : decode cX10_hinders 74 = .ok (.ireturn, 1) := by decide +kernel
theorem dX10_within_0 : decode cX10_within 0 = .ok (.iload_n 0, 1) := by decide +kernel
theorem dX10_within_1 : decode cX10_within 1 = .ok (.iload_n 1, 1) := by decide +kernel
theorem dX10_within_2 : decode cX10_within 2 = .ok (.if_icmp .lt 12, 3) := by decide +kernel
theorem dX10_within_5 : decode cX10_within 5 = .ok (.iload_n 0, 1) := by decide +kernel
theorem dX10_within_6 : decode cX10_within 6 = .ok (.iload_n 2, 1) := by decide +kernel
theorem dX10_within_7 : decode cX10_within 7 = .ok (.if_icmp .gt 7, 3) := by decide +kernel
theorem dX10_within_10 : decode cX10_within 10 = .ok (.iconst 1, 1) := by decide +kernel
theorem dX10_within_11 : decode cX10_within 11 = .ok (.goto 4, 3) := by decide +kernel
theorem dX10_within_14 : decode cX10_within 14 = .ok (.iconst 0, 1) := by decide +kernel
theorem dX10_within_15 : decode cX10_within 15 = .ok (.ireturn, 1) := by decide +kernel
theorem dX10_isKindAndDigit_0 : decode cX10_isKindAndDigit 0 = .ok (.iload_n 0, 1) := by decide +kernel
theorem dX10_isKindAndDigit_1 : decode cX10_isKindAndDigit 1 = .ok (.iconst 0, 1) := by decide +kernel
theorem dX10_isKindAndDigit_2 : decode cX10_isKindAndDigit 2 = .ok (.bipush 69, 2) := by decide +kernel
theorem dX10_isKindAndDigit_4 : decode cX10_isKindAndDigit 4 = .ok (.invokestatic 59, 3) := by decide +kernel
theorem dX10_isKindAndDigit_7 : decode cX10_isKindAndDigit 7 = .ok (.ireturn, 1) := by decide +kernel
theorem dX10_isSetOf_0 : decode cX10_isSetOf 0 = .ok (.iload_n 1, 1) := by decide +kernel
theorem dX10_isSetOf_1 : decode cX10_isSetOf 1 = .ok (.ifCond .lt 14, 3) := by decide +kernel
theorem dX10_isSetOf_4 : decode cX10_isSetOf 4 = .ok (.iload_n 1, 1) := by decide +kernel
theorem dX10_isSetOf_5 : decode cX10_isSetOf 5 = .ok (.iconst 1, 1) := by decide +kernel
theorem dX10_isSetOf_6 : decode cX10_isSetOf 6 = .ok (.iload_n 0, 1) := by decide +kernel
theorem dX10_isSetOf_7 : decode cX10_isSetOf 7 = .ok (.ishl, 1) := by decide +kernel
theorem dX10_isSetOf_8 : decode cX10_isSetOf 8 = .ok (.if_icmp .ge 7, 3) := by decide +kernel
theorem dX10_isSetOf_11 : decode cX10_isSetOf 11 = .ok (.iconst 1, 1) := by decide +kernel
theorem dX10_isSetOf_12 : decode cX10_isSetOf 12 = .ok (.goto 4, 3) := by decide +kernel
theorem dX10_isSetOf_15 : decode cX10_isSetOf 15 = .ok (.iconst 0, 1) := by decide +kernel
theorem dX10_isSetOf_16 : decode cX10_isSetOf 16 = .ok (.ireturn, 1) := by decide +kernel
theorem dX10_inSet_0 : decode cX10_inSet 0 = .ok (.iload_n 0, 1) := by decide +kernel
theorem dX10_inSet_1 : decode cX10_inSet 1 = .ok (.iload_n 1, 1) := by decide +kernel
theorem dX10_inSet_2 : decode cX10_inSet 2 = .ok (.ishr, 1) := by decide +kernel
theorem dX10_inSet_3 : decode cX10_inSet 3 = .ok (.iconst 1, 1) := by decide +kernel
theorem dX10_inSet_4 : decode cX10_inSet 4 = .ok (.iand, 1) := by decide +kernel
theorem dX10_inSet_5 : decode cX10_inSet 5 = .ok (.ireturn, 1) := by decide +kernel
theorem dX10_withMember_0 : decode cX10_withMember 0 = .ok (.iload_n 2, 1) := by decide +kernel
theorem dX10_withMember_1 : decode cX10_withMember 1 = .ok (.ifCond .eq 11, 3) := by decide +kernel
theorem dX10_withMember_4 : decode cX10_withMember 4 = .ok (.iload_n 0, 1) := by decide +kernel
theorem dX10_withMember_5 : decode cX10_withMember 5 = .ok (.iconst 1, 1) := by decide +kernel
theorem dX10_withMember_6 : decode cX10_withMember 6 = .ok (.iload_n 1, 1) := by decide +kernel
theorem dX10_withMember_7 : decode cX10_withMember 7 = .ok (.ishl, 1) := by decide +kernel
theorem dX10_withMember_8 : decode cX10_withMember 8 = .ok (.ior, 1) := by decide +kernel
theorem dX10_withMember_9 : decode cX10_withMember 9 = .ok (.goto 10, 3) := by decide +kernel
theorem dX10_withMember_12 : decode cX10_withMember 12 = .ok (.iload_n 0, 1) := by decide +kernel
theorem dX10_withMember_13 : decode cX10_withMember 13 = .ok (.iconst 1, 1) := by decide +kernel
theorem dX10_withMember_14 : decode cX10_withMember 14 = .ok (.iload_n 1, 1) := by decide +kernel
theorem dX10_withMember_15 : decode cX10_withMember 15 = .ok (.ishl, 1) := by decide +kernel
theorem dX10_withMember_16 : decode cX10_withMember 16 = .ok (.iconst (-1), 1) := by decide +kernel
theorem dX10_withMember_17 : decode cX10_withMember 17 = .ok (.ixor, 1) := by decide +kernel
theorem dX10_withMember_18 : decode cX10_withMember 18 = .ok (.iand, 1) := by decide +kernel
theorem dX10_withMember_19 : decode cX10_withMember 19 = .ok (.ireturn, 1) := by decide +kernel
theorem dX10_commonDivisor_0 : decode cX10_commonDivisor 0 = .ok (.iload_n 0, 1) := by decide +kernel
theorem dX10_commonDivisor_1 : decode cX10_commonDivisor 1 = .ok (.iload_n 1, 1) := by decide +kernel
theorem dX10_commonDivisor_2 : decode cX10_commonDivisor 2 = .ok (.invokestatic 342, 3) := by decide +kernel
theorem dX10_commonDivisor_5 : decode cX10_commonDivisor 5 = .ok (.istore_n 2, 1) := by decide +kernel
theorem dX10_commonDivisor_6 : decode cX10_commonDivisor 6 = .ok (.iload_n 2, 1) := by decide +kernel
theorem dX10_commonDivisor_7 : decode cX10_commonDivisor 7 = .ok (.iconst 1, 1) := by decide +kernel
theorem dX10_commonDivisor_8 : decode cX10_commonDivisor 8 = .ok (.if_icmp .le 23, 3) := by decide +kernel
theorem dX10_commonDivisor_11 : decode cX10_commonDivisor 11 = .ok (.iload_n 0, 1) := by decide +kernel
theorem dX10_commonDivisor_12 : decode cX10_commonDivisor 12 = .ok (.iload_n 2, 1) := by decide +kernel
theorem dX10_commonDivisor_13 : decode cX10_commonDivisor 13 = .ok (.irem, 1) := by decide +kernel
theorem dX10_commonDivisor_14 : decode cX10_commonDivisor 14 = .ok (.ifCond .ne 11, 3) := by decide +kernel
theorem dX10_commonDivisor_17 : decode cX10_commonDivisor 17 = .ok (.iload_n 1, 1) := by decide +kernel
theorem dX10_commonDivisor_18 : decode cX10_commonDivisor 18 = .ok (.iload_n 2, 1) := by decide +kernel
theorem dX10_commonDivisor_19 : decode cX10_commonDivisor 19 = .ok (.irem, 1) := by decide +kernel
theorem dX10_commonDivisor_20 : decode cX10_commonDivisor 20 = .ok (.ifCond .ne 5, 3) := by decide +kernel
theorem dX10_commonDivisor_23 : decode cX10_commonDivisor 23 = .ok (.iload_n 2, 1) := by decide +kernel
theorem dX10_commonDivisor_24 : decode cX10_commonDivisor 24 = .ok (.ireturn, 1) := by decide +kernel
theorem dX10_commonDivisor_25 : decode cX10_commonDivisor 25 = .ok (.iinc 2 (-1), 3) := by decide +kernel
theorem dX10_commonDivisor_28 : decode cX10_commonDivisor 28 = .ok (.goto (-22), 3) := by decide +kernel
theorem dX10_commonDivisor_31 : decode cX10_commonDivisor 31 = .ok (.iconst 1, 1) := by decide +kernel
theorem dX10_commonDivisor_32 : decode cX10_commonDivisor 32 = .ok (.ireturn, 1) := by decide +kernel
theorem dX11_init_0 : decode cX11_init 0 = .ok (.aload_n 0, 1) := by decide +kernel
theorem dX11_init_1 : decode cX11_init 1 = .ok (.invokespecial 3, 3) := by decide +kernel
theorem dX11_init_4 : decode cX11_init 4 = .ok (.aload_n 0, 1) := by decide +kernel
theorem dX11_init_5 : decode cX11_init 5 = .ok (.sipush 273, 3) := by decide +kernel
theorem dX11_init_8 : decode cX11_init 8 = .ok (.newarray .int, 2) := by decide +kernel
theorem dX11_init_10 : decode cX11_init 10 = .ok (.putfield 9, 3) := by decide +kernel
theorem dX11_init_13 : decode cX11_init 13 = .ok (.aload_n 0, 1) := by decide +kernel
theorem dX11_init_14 : decode cX11_init 14 = .ok (.sipush 273, 3) := by decide +kernel
theorem dX11_init_17 : decode cX11_init 17 = .ok (.newarray .int, 2) := by decide +kernel
theorem dX11_init_19 : decode cX11_init 19 = .ok (.putfield 13, 3) := by decide +kernel
theorem dX11_init_22 : decode cX11_init 22 = .ok (.aload_n 0, 1) := by decide +kernel
theorem dX11_init_23 : decode cX11_init 23 = .ok (.sipush 273, 3) := by decide +kernel
theorem dX11_init_26 : decode cX11_init 26 = .ok (.newarray .int, 2) := by decide +kernel
theorem dX11_init_28 : decode cX11_init 28 = .ok (.putfield 16, 3) := by decide +kernel
theorem dX11_init_31 : decode cX11_init 31 = .ok (.aload_n 0, 1) := by decide +kernel
theorem dX11_init_32 : decode cX11_init 32 = .ok (.bipush 6, 2) := by decide +kernel
theorem dX11_init_34 : decode cX11_init 34 = .ok (.newarray .int, 2) := by decide +kernel
theorem dX11_init_36 : decode cX11_init 36 = .ok (.putfield 19, 3) := by decide +kernel
theorem dX11_init_39 : decode cX11_init 39 = .ok (.aload_n 0, 1) := by decide +kernel
theorem dX11_init_40 : decode cX11_init 40 = .ok (.iconst 2, 1) := by decide +kernel
theorem dX11_init_41 : decode cX11_init 41 = .ok (.anewarray 22, 3) := by decide +kernel
theorem dX11_init_44 : decode cX11_init 44 = .ok (.dup, 1) := by decide +kernel
theorem dX11_init_45 : decode cX11_init 45 = .ok (.iconst 0, 1) := by decide +kernel
theorem dX11_init_46 : decode cX11_init 46 = .ok (.ldc 24, 2) := by decide +kernel
theorem dX11_init_48 : decode cX11_init 48 = .ok (.aastore, 1) := by decide +kernel
theorem dX11_init_49 : decode cX11_init 49 = .ok (.dup, 1) := by decide +kernel
theorem dX11_init_50 : decode cX11_init 50 = .ok (.iconst 1, 1) := by decide +kernel
theorem dX11_init_51 : decode cX11_init 51 = .ok (.ldc 26, 2) := by decide +kernel
theorem dX11_init_53 : decode cX11_init 53 = .ok (.aastore, 1) := by decide +kernel
theorem dX11_init_54 : decode cX11_init 54 = .ok (.putfield 28, 3) := by decide +kernel
theorem dX11_init_57 : decode cX11_init 57 = .ok (.aload_n 0, 1) := by decide +kernel
theorem dX11_init_58 : decode cX11_init 58 = .ok (.bipush 60, 2) := by decide +kernel
theorem dX11_init_60 : decode cX11_init 60 = .ok (.newarray .int, 2) := by decide +kernel
theorem dX11_init_62 : decode cX11_init 62 = .ok (.putfield 32, 3) := by decide +kernel
theorem dX11_init_65 : decode cX11_init 65 = .ok (.aload_n 0, 1) := by decide +kernel
theorem dX11_init_66 : decode cX11_init 66 = .ok (.iconst 4, 1) := by decide +kernel
theorem dX11_init_67 : decode cX11_init 67 = .ok (.newarray .int, 2) := by decide +kernel
theorem dX11_init_69 : decode cX11_init 69 = .ok (.putfield 35, 3) := by decide +kernel
theorem dX11_init_72 : decode cX11_init 72 = .ok (.aload_n 0, 1) := by decide +kernel
theorem dX11_init_73 : decode cX11_init 73 = .ok (.bipush 60, 2) := by decide +kernel
theorem dX11_init_75 : decode cX11_init 75 = .ok (.newarray .int, 2) := by decide +kernel
theorem dX11_init_77 : decode cX11_init 77 = .ok (.putfield 38, 3) := by decide +kernel
theorem dX11_init_80 : decode cX11_init 80 = .ok (.aload_n 0, 1) := by decide +kernel
theorem dX11_init_81 : decode cX11_init 81 = .ok (.bipush 40, 2) := by decide +kernel
theorem dX11_init_83 : decode cX11_init 83 = .ok (.newarray .int, 2) := by decide +kernel
theorem dX11_init_85 : decode cX11_init 85 = .ok (.putfield 41, 3) := by decide +kernel
theorem dX11_init_88 : decode cX11_init 88 = .ok (.aload_n 0, 1) := by decide +kernel
theorem dX11_init_89 : decode cX11_init 89 = .ok (.iconst 4, 1) := by decide +kernel
theorem dX11_init_90 : decode cX11_init 90 = .ok (.newarray .int, 2) := by decide +kernel
theorem dX11_init_92 : decode cX11_init 92 = .ok (.putfield 44, 3) := by decide +kernel
theorem dX11_init_95 : decode cX11_init 95 = .ok (.aload_n 0, 1) := by decide +kernel
theorem dX11_init_96 : decode cX11_init 96 = .ok (.iconst 4, 1) := by decide +kernel
theorem dX11_init_97 : decode cX11_init 97 = .ok (.newarray .int, 2) := by decide +kernel
theorem dX11_init_99 : decode cX11_init 99 = .ok (.putfield 47, 3) := by decide +kernel
theorem dX11_init_102 : decode cX11_init 102 = .ok (.aload_n 0, 1) := by decide +kernel
theorem dX11_init_103 : decode cX11_init 103 = .ok (.sipush 160, 3) := by decide +kernel
theorem dX11_init_106 : decode cX11_init 106 = .ok (.newarray .int, 2) := by decide +kernel
theorem dX11_init_108 : decode cX11_init 108 = .ok (.putfield 50, 3) := by decide +kernel
theorem dX11_init_111 : decode cX11_init 111 = .ok (.aload_n 0, 1) := by decide +kernel
theorem dX11_init_112 : decode cX11_init 112 = .ok (.bipush 40, 2) := by decide +kernel
theorem dX11_init_114 : decode cX11_init 114 = .ok (.newarray .int, 2) := by decide +kernel
theorem dX11_init_116 : decode cX11_init 116 = .ok (.putfield 53, 3) := by decide +kernel
theorem dX11_init_119 : decode cX11_init 119 = .ok (.aload_n 0, 1) := by decide +kernel
theorem dX11_init_120 : decode cX11_init 120 = .ok (.getfield 9, 3) := by decide +kernel
theorem dX11_init_123 : decode cX11_init 123 = .ok (.bipush 6, 2) := by decide +kernel
theorem dX11_init_125 : decode cX11_init 125 = .ok (.iconst 1, 1) := by decide +kernel
theorem dX11_init_126 : decode cX11_init 126 = .ok (.iastore, 1) := by decide +kernel
theorem dX11_init_127 : decode cX11_init 127 = .ok (.aload_n 0, 1) := by decide +kernel
theorem dX11_init_128 : decode cX11_init 128 = .ok (.getfield 9, 3) := by decide +kernel
theorem dX11_init_131 : decode cX11_init 131 = .ok (.iconst 1, 1) := by decide +kernel
theorem dX11_init_132 : decode cX11_init 132 = .ok (.iconst 4, 1) := by decide +kernel
theorem dX11_init_133 : decode cX11_init 133 = .ok (.iastore, 1) := by decide +kernel
theorem dX11_init_134 : decode cX11_init 134 = .ok (.return_, 1) := by decide +kernel
theorem dX11_finding_0 : decode cX11_finding 0 = .ok (.aload_n 0, 1) := by decide +kernel
theorem dX11_finding_1 : decode cX11_finding 1 = .ok (.getfield 19, 3) := by decide +kernel
theorem dX11_finding_4 : decode cX11_finding 4 = .ok (.ldc 56, 2) := by decide +kernel
theorem dX11_finding_6 : decode cX11_finding 6 = .ok (.iload_n 1, 1) := by decide +kernel
theorem dX11_finding_7 : decode cX11_finding 7 = .ok (.isub, 1) := by decide +kernel
theorem dX11_finding_8 : decode cX11_finding 8 = .ok (.dup2, 1) := by decide +kernel
theorem dX11_finding_9 : decode cX11_finding 9 = .ok (.iaload, 1) := by decide +kernel
theorem dX11_finding_10 : decode cX11_finding 10 = .ok (.iconst 1, 1) := by decide +kernel
theorem dX11_finding_11 : decode cX11_finding 11 = .ok (.iadd, 1) := by decide +kernel
theorem dX11_finding_12 : decode cX11_finding 12 = .ok (.iastore, 1) := by decide +kernel
theorem dX11_finding_13 : decode cX11_finding 13 = .ok (.iload_n 1, 1) := by decide +kernel
theorem dX11_finding_14 : decode cX11_finding 14 = .ok (.ireturn, 1) := by decide +kernel
theorem dX11_within_0 : decode cX11_within 0 = .ok (.iload_n 0, 1) := by decide +kernel
theorem dX11_within_1 : decode cX11_within 1 = .ok (.iload_n 1, 1) := by decide +kernel
theorem dX11_within_2 : decode cX11_within 2 = .ok (.if_icmp .lt 12, 3) := by decide +kernel
theorem dX11_within_5 : decode cX11_within 5 = .ok (.iload_n 0, 1) := by decide +kernel
theorem dX11_within_6 : decode cX11_within 6 = .ok (.iload_n 2, 1) := by decide +kernel
theorem dX11_within_7 : decode cX11_within 7 = .ok (.if_icmp .gt 7, 3) := by decide +kernel
theorem dX11_within_10 : decode cX11_within 10 = .ok (.iconst 1, 1) := by decide +kernel
theorem dX11_within_11 : decode cX11_within 11 = .ok (.goto 4, 3) := by decide +kernel
theorem dX11_within_14 : decode cX11_within 14 = .ok (.iconst 0, 1) := by decide +kernel
theorem dX11_within_15 : decode cX11_within 15 = .ok (.ireturn, 1) := by decide +kernel
theorem dX11_held_0 : decode cX11_held 0 = .ok (.iload_n 1, 1) := by decide +kernel
theorem dX11_held_1 : decode cX11_held 1 = .ok (.iload_n 2, 1) := by decide +kernel
theorem dX11_held_2 : decode cX11_held 2 = .ok (.iload_n 0, 1) := by decide +kernel
theorem dX11_held_3 : decode cX11_held 3 = .ok (.invokestatic 57, 3) := by decide +kernel
theorem dX11_held_6 : decode cX11_held 6 = .ok (.invokestatic 63, 3) := by decide +kernel
theorem dX11_held_9 : decode cX11_held 9 = .ok (.ireturn, 1) := by decide +kernel
theorem dX11_copy_0 : decode cX11_copy 0 = .ok (.iconst 0, 1) := by decide +kernel
theorem dX11_copy_1 : decode cX11_copy 1 = .ok (.istore_n 2, 1) := by decide +kernel
theorem dX11_copy_2 : decode cX11_copy 2 = .ok (.iload_n 2, 1) := by decide +kernel
theorem dX11_copy_3 : decode cX11_copy 3 = .ok (.sipush 273, 3) := by decide +kernel
theorem dX11_copy_6 : decode cX11_copy 6 = .ok (.if_icmp .ge 15, 3) := by decide +kernel
theorem dX11_copy_9 : decode cX11_copy 9 = .ok (.aload_n 1, 1) := by decide +kernel
theorem dX11_copy_10 : decode cX11_copy 10 = .ok (.iload_n 2, 1) := by decide +kernel
theorem dX11_copy_11 : decode cX11_copy 11 = .ok (.aload_n 0, 1) := by decide +kernel
theorem dX11_copy_12 : decode cX11_copy 12 = .ok (.iload_n 2, 1) := by decide +kernel
theorem dX11_copy_13 : decode cX11_copy 13 = .ok (.iaload, 1) := by decide +kernel
theorem dX11_copy_14 : decode cX11_copy 14 = .ok (.iastore, 1) := by decide +kernel
theorem dX11_copy_15 : decode cX11_copy 15 = .ok (.iinc 2 1, 3) := by decide +kernel
theorem dX11_copy_18 : decode cX11_copy 18 = .ok (.goto (-16), 3) := by decide +kernel
theorem dX11_copy_21 : decode cX11_copy 21 = .ok (.return_, 1) := by decide +kernel
theorem dX11_turn_0 : decode cX11_turn 0 = .ok (.aload_n 0, 1) := by decide +kernel
theorem dX11_turn_1 : decode cX11_turn 1 = .ok (.getfield 9, 3) := by decide +kernel
theorem dX11_turn_4 : decode cX11_turn 4 = .ok (.iload_n 1, 1) := by decide +kernel
theorem dX11_turn_5 : decode cX11_turn 5 = .ok (.iaload, 1) := by decide +kernel
theorem dX11_turn_6 : decode cX11_turn 6 = .ok (.istore_n 3, 1) := by decide +kernel
theorem dX11_turn_7 : decode cX11_turn 7 = .ok (.aload_n 0, 1) := by decide +kernel
theorem dX11_turn_8 : decode cX11_turn 8 = .ok (.getfield 9, 3) := by decide +kernel
theorem dX11_turn_11 : decode cX11_turn 11 = .ok (.iload_n 1, 1) := by decide +kernel
theorem dX11_turn_12 : decode cX11_turn 12 = .ok (.iload_n 2, 1) := by decide +kernel
theorem dX11_turn_13 : decode cX11_turn 13 = .ok (.iastore, 1) := by decide +kernel
theorem dX11_turn_14 : decode cX11_turn 14 = .ok (.iload_n 3, 1) := by decide +kernel
theorem dX11_turn_15 : decode cX11_turn 15 = .ok (.ireturn, 1) := by decide +kernel
theorem dX11_putBack_0 : decode cX11_putBack 0 = .ok (.aload_n 0, 1) := by decide +kernel
theorem dX11_putBack_1 : decode cX11_putBack 1 = .ok (.getfield 16, 3) := by decide +kernel
theorem dX11_putBack_4 : decode cX11_putBack 4 = .ok (.aload_n 0, 1) := by decide +kernel
theorem dX11_putBack_5 : decode cX11_putBack 5 = .ok (.getfield 9, 3) := by decide +kernel
theorem dX11_putBack_8 : decode cX11_putBack 8 = .ok (.invokestatic 66, 3) := by decide +kernel
theorem dX11_putBack_11 : decode cX11_putBack 11 = .ok (.iload_n 1, 1) := by decide +kernel
theorem dX11_putBack_12 : decode cX11_putBack 12 = .ok (.ireturn, 1) := by decide +kernel
theorem dX11_feed_0 : decode cX11_feed 0 = .ok (.iload_n 3, 1) := by decide +kernel
theorem dX11_feed_1 : decode cX11_feed 1 = .ok (.iconst 1, 1) := by decide +kernel
theorem dX11_feed_2 : decode cX11_feed 2 = .ok (.bipush 8, 2) := by decide +kernel
theorem dX11_feed_4 : decode cX11_feed 4 = .ok (.invokestatic 70, 3) := by decide +kernel
theorem dX11_feed_7 : decode cX11_feed 7 = .ok (.ifCond .ne 10, 3) := by decide +kernel
theorem dX11_feed_10 : decode cX11_feed 10 = .ok (.aload_n 0, 1) := by decide +kernel
theorem dX11_feed_11 : decode cX11_feed 11 = .ok (.ldc 74, 2) := by decide +kernel
theorem dX11_feed_13 : decode cX11_feed 13 = .ok (.invokevirtual 75, 3) := by decide +kernel
theorem dX11_feed_16 : decode cX11_feed 16 = .ok (.ireturn, 1) := by decide +kernel
theorem dX11_feed_17 : decode cX11_feed 17 = .ok (.aload_n 0, 1) := by decide +kernel
theorem dX11_feed_18 : decode cX11_feed 18 = .ok (.getfield 9, 3) := by decide +kernel
theorem dX11_feed_21 : decode cX11_feed 21 = .ok (.bipush 7, 2) := by decide +kernel
theorem dX11_feed_23 : decode cX11_feed 23 = .ok (.iaload, 1) := by decide +kernel
theorem dX11_feed_24 : decode cX11_feed 24 = .ok (.iload_n 3, 1) := by decide +kernel
theorem dX11_feed_25 : decode cX11_feed 25 = .ok (.iadd, 1) := by decide +kernel
theorem dX11_feed_26 : decode cX11_feed 26 = .ok (.bipush 50, 2) := by decide +kernel
theorem dX11_feed_28 : decode cX11_feed 28 = .ok (.if_icmp .le 10, 3) := by decide +kernel
theorem dX11_feed_31 : decode cX11_feed 31 = .ok (.aload_n 0, 1) := by decide +kernel
theorem dX11_feed_32 : decode cX11_feed 32 = .ok (.ldc 79, 2) := by decide +kernel
theorem dX11_feed_34 : decode cX11_feed 34 = .ok (.invokevirtual 75, 3) := by decide +kernel
theorem dX11_feed_37 : decode cX11_feed 37 = .ok (.ireturn, 1) := by decide +kernel
theorem dX11_feed_38 : decode cX11_feed 38 = .ok (.iconst 0, 1) := by decide +kernel
theorem dX11_feed_39 : decode cX11_feed 39 = .ok (.istore 4, 2) := by decide +kernel
theorem dX11_feed_41 : decode cX11_feed 41 = .ok (.iload 4, 2) := by decide +kernel
theorem dX11_feed_43 : decode cX11_feed 43 = .ok (.iload_n 3, 1) := by decide +kernel
theorem dX11_feed_44 : decode cX11_feed 44 = .ok (.if_icmp .ge 47, 3) := by decide +kernel
theorem dX11_feed_47 : decode cX11_feed 47 = .ok (.aload_n 0, 1) := by decide +kernel
theorem dX11_feed_48 : decode cX11_feed 48 = .ok (.getfield 9, 3) := by decide +kernel
theorem dX11_feed_51 : decode cX11_feed 51 = .ok (.bipush 99, 2) := by decide +kernel
theorem dX11_feed_53 : decode cX11_feed 53 = .ok (.aload_n 0, 1) := by decide +kernel
theorem dX11_feed_54 : decode cX11_feed 54 = .ok (.getfield 9, 3) := by decide +kernel
theorem dX11_feed_57 : decode cX11_feed 57 = .ok (.bipush 7, 2) := by decide +kernel
theorem dX11_feed_59 : decode cX11_feed 59 = .ok (.iaload, 1) := by decide +kernel
theorem dX11_feed_60 : decode cX11_feed 60 = .ok (.iadd, 1) := by decide +kernel
theorem dX11_feed_61 : decode cX11_feed 61 = .ok (.lload_n 1, 1) := by decide +kernel
theorem dX11_feed_62 : decode cX11_feed 62 = .ok (.bipush 8, 2) := by decide +kernel
theorem dX11_feed_64 : decode cX11_feed 64 = .ok (.iload 4, 2) := by decide +kernel
theorem dX11_feed_66 : decode cX11_feed 66 = .ok (.imul, 1) := by decide +kernel
theorem dX11_feed_67 : decode cX11_feed 67 = .ok (.lshr, 1) := by decide +kernel
theorem dX11_feed_68 : decode cX11_feed 68 = .ok (.ldc2_w 80, 3) := by decide +kernel
theorem dX11_feed_71 : decode cX11_feed 71 = .ok (.land, 1) := by decide +kernel
theorem dX11_feed_72 : decode cX11_feed 72 = .ok (.l2i, 1) := by decide +kernel
theorem dX11_feed_73 : decode cX11_feed 73 = .ok (.iastore, 1) := by decide +kernel
theorem dX11_feed_74 : decode cX11_feed 74 = .ok (.aload_n 0, 1) := by decide +kernel
theorem dX11_feed_75 : decode cX11_feed 75 = .ok (.getfield 9, 3) := by decide +kernel
theorem dX11_feed_78 : decode cX11_feed 78 = .ok (.bipush 7, 2) := by decide +kernel
theorem dX11_feed_80 : decode cX11_feed 80 = .ok (.dup2, 1) := by decide +kernel
theorem dX11_feed_81 : decode cX11_feed 81 = .ok (.iaload, 1) := by decide +kernel
theorem dX11_feed_82 : decode cX11_feed 82 = .ok (.iconst 1, 1) := by decide +kernel
theorem dX11_feed_83 : decode cX11_feed 83 = .ok (.iadd, 1) := by decide +kernel
theorem dX11_feed_84 : decode cX11_feed 84 = .ok (.iastore, 1) := by decide +kernel
theorem dX11_feed_85 : decode cX11_feed 85 = .ok (.iinc 4 1, 3) := by decide +kernel
theorem dX11_feed_88 : decode cX11_feed 88 = .ok (.goto (-47), 3) := by decide +kernel
theorem dX11_feed_91 : decode cX11_feed 91 = .ok (.aload_n 0, 1) := by decide +kernel
theorem dX11_feed_92 : decode cX11_feed 92 = .ok (.getfield 9, 3) := by decide +kernel
theorem dX11_feed_95 : decode cX11_feed 95 = .ok (.bipush 7, 2) := by decide +kernel
theorem dX11_feed_97 : decode cX11_feed 97 = .ok (.iaload, 1) := by decide +kernel
theorem dX11_feed_98 : decode cX11_feed 98 = .ok (.ireturn, 1) := by decide +kernel
theorem dX11_here_0 : decode cX11_here 0 = .ok (.aload_n 0, 1) := by decide +kernel
theorem dX11_here_1 : decode cX11_here 1 = .ok (.getfield 82, 3) := by decide +kernel
theorem dX11_here_4 : decode cX11_here 4 = .ok (.ifCond .ne 32, 3) := by decide +kernel
theorem dX11_here_7 : decode cX11_here 7 = .ok (.aload_n 0, 1) := by decide +kernel
theorem dX11_here_8 : decode cX11_here 8 = .ok (.getfield 86, 3) := by decide +kernel
theorem dX11_here_11 : decode cX11_here 11 = .ok (.aload_n 0, 1) := by decide +kernel
theorem dX11_here_12 : decode cX11_here 12 = .ok (.getfield 9, 3) := by decide +kernel
theorem dX11_here_15 : decode cX11_here 15 = .ok (.bipush 7, 2) := by decide +kernel
theorem dX11_here_17 : decode cX11_here 17 = .ok (.iaload, 1) := by decide +kernel
theorem dX11_here_18 : decode cX11_here 18 = .ok (.if_icmp .ge 18, 3) := by decide +kernel
theorem dX11_here_21 : decode cX11_here 21 = .ok (.aload_n 0, 1) := by decide +kernel
theorem dX11_here_22 : decode cX11_here 22 = .ok (.getfield 9, 3) := by decide +kernel
theorem dX11_here_25 : decode cX11_here 25 = .ok (.bipush 99, 2) := by decide +kernel
theorem dX11_here_27 : decode cX11_here 27 = .ok (.aload_n 0, 1) := by decide +kernel
theorem dX11_here_28 : decode cX11_here 28 = .ok (.getfield 86, 3) := by decide +kernel
theorem dX11_here_31 : decode cX11_here 31 = .ok (.iadd, 1) := by decide +kernel
theorem dX11_here_32 : decode cX11_here 32 = .ok (.iaload, 1) := by decide +kernel
theorem dX11_here_33 : decode cX11_here 33 = .ok (.goto 4, 3) := by decide +kernel
theorem dX11_here_36 : decode cX11_here 36 = .ok (.iconst (-1), 1) := by decide +kernel
theorem dX11_here_37 : decode cX11_here 37 = .ok (.ireturn, 1) := by decide +kernel
theorem dX11_takes_0 : decode cX11_takes 0 = .ok (.aload_n 0, 1) := by decide +kernel
theorem dX11_takes_1 : decode cX11_takes 1 = .ok (.invokevirtual 90, 3) := by decide +kernel
theorem dX11_takes_4 : decode cX11_takes 4 = .ok (.iload_n 1, 1) := by decide +kernel
theorem dX11_takes_5 : decode cX11_takes 5 = .ok (.if_icmp .ne 7, 3) := by decide +kernel
theorem dX11_takes_8 : decode cX11_takes 8 = .ok (.iconst 1, 1) := by decide +kernel
theorem dX11_takes_9 : decode cX11_takes 9 = .ok (.goto 4, 3) := by decide +kernel
theorem dX11_takes_12 : decode cX11_takes 12 = .ok (.iconst 0, 1) := by decide +kernel
theorem dX11_takes_13 : decode cX11_takes 13 = .ok (.istore_n 2, 1) := by decide +kernel
theorem dX11_takes_14 : decode cX11_takes 14 = .ok (.aload_n 0, 1) := by decide +kernel
theorem dX11_takes_15 : decode cX11_takes 15 = .ok (.dup, 1) := by decide +kernel
theorem dX11_takes_16 : decode cX11_takes 16 = .ok (.getfield 86, 3) := by decide +kernel
theorem dX11_takes_19 : decode cX11_takes 19 = .ok (.iload_n 2, 1) := by decide +kernel
theorem dX11_takes_20 : decode cX11_takes 20 = .ok (.ifCond .eq 7, 3) := by decide +kernel
theorem dX11_takes_23 : decode cX11_takes 23 = .ok (.iconst 1, 1) := by decide +kernel
theorem dX11_takes_24 : decode cX11_takes 24 = .ok (.goto 4, 3) := by decide +kernel
theorem dX11_takes_27 : decode cX11_takes 27 = .ok (.iconst 0, 1) := by decide +kernel
theorem dX11_takes_28 : decode cX11_takes 28 = .ok (.iadd, 1) := by decide +kernel
theorem dX11_takes_29 : decode cX11_takes 29 = .ok (.putfield 86, 3) := by decide +kernel
theorem dX11_takes_32 : decode cX11_takes 32 = .ok (.iload_n 2, 1) := by decide +kernel
theorem dX11_takes_33 : decode cX11_takes 33 = .ok (.ireturn, 1) := by decide +kernel
theorem dX11_codes_0 : decode cX11_codes 0 = .ok (.aload_n 0, 1) := by decide +kernel
theorem dX11_codes_1 : decode cX11_codes 1 = .ok (.getfield 82, 3) := by decide +kernel
theorem dX11_codes_4 : decode cX11_codes 4 = .ok (.ifCond .ne 23, 3) := by decide +kernel
theorem dX11_codes_7 : decode cX11_codes 7 = .ok (.aload_n 0, 1) := by decide +kernel
theorem dX11_codes_8 : decode cX11_codes 8 = .ok (.getfield 32, 3) := by decide +kernel
theorem dX11_codes_11 : decode cX11_codes 11 = .ok (.aload_n 0, 1) := by decide +kernel
theorem dX11_codes_12 : decode cX11_codes 12 = .ok (.getfield 94, 3) := by decide +kernel
theorem dX11_codes_15 : decode cX11_codes 15 = .ok (.iload_n 1, 1) := by decide +kernel
theorem dX11_codes_16 : decode cX11_codes 16 = .ok (.iastore, 1) := by decide +kernel
theorem dX11_codes_17 : decode cX11_codes 17 = .ok (.aload_n 0, 1) := by decide +kernel
theorem dX11_codes_18 : decode cX11_codes 18 = .ok (.dup, 1) := by decide +kernel
theorem dX11_codes_19 : decode cX11_codes 19 = .ok (.getfield 94, 3) := by decide +kernel
theorem dX11_codes_22 : decode cX11_codes 22 = .ok (.iconst 1, 1) := by decide +kernel
theorem dX11_codes_23 : decode cX11_codes 23 = .ok (.iadd, 1) := by decide +kernel
theorem dX11_codes_24 : decode cX11_codes 24 = .ok (.putfield 94, 3) := by decide +kernel
theorem dX11_codes_27 : decode cX11_codes 27 = .ok (.return_, 1) := by decide +kernel
theorem dX11_either_0 : decode cX11_either 0 = .ok (.aload_n 0, 1) := by decide +kernel
theorem dX11_either_1 : decode cX11_either 1 = .ok (.invokevirtual 97, 3) := by decide +kernel
theorem dX11_either_4 : decode cX11_either 4 = .ok (.aload_n 0, 1) := by decide +kernel
theorem dX11_either_5 : decode cX11_either 5 = .ok (.bipush 124, 2) := by decide +kernel
theorem dX11_either_7 : decode cX11_either 7 = .ok (.invokevirtual 100, 3) := by decide +kernel
theorem dX11_either_10 : decode cX11_either 10 = .ok (.ifCond .eq 17, 3) := by decide +kernel
theorem dX11_either_13 : decode cX11_either 13 = .ok (.aload_n 0, 1) := by decide +kernel
theorem dX11_either_14 : decode cX11_either 14 = .ok (.invokevirtual 97, 3) := by decide +kernel
theorem dX11_either_17 : decode cX11_either 17 = .ok (.aload_n 0, 1) := by decide +kernel
theorem dX11_either_18 : decode cX11_either 18 = .ok (.sipush 20000, 3) := by decide +kernel
theorem dX11_either_21 : decode cX11_either 21 = .ok (.invokevirtual 104, 3) := by decide +kernel
theorem dX11_either_24 : decode cX11_either 24 = .ok (.goto (-20), 3) := by decide +kernel
theorem dX11_either_27 : decode cX11_either 27 = .ok (.return_, 1) := by decide +kernel
theorem dX11_both_0 : decode cX11_both 0 = .ok (.aload_n 0, 1) := by decide +kernel
theorem dX11_both_1 : decode cX11_both 1 = .ok (.invokevirtual 108, 3) := by decide +kernel
theorem dX11_both_4 : decode cX11_both 4 = .ok (.aload_n 0, 1) := by decide +kernel
theorem dX11_both_5 : decode cX11_both 5 = .ok (.bipush 38, 2) := by decide +kernel
theorem dX11_both_7 : decode cX11_both 7 = .ok (.invokevirtual 100, 3) := by decide +kernel
theorem dX11_both_10 : decode cX11_both 10 = .ok (.ifCond .eq 17, 3) := by decide +kernel
theorem dX11_both_13 : decode cX11_both 13 = .ok (.aload_n 0, 1) := by decide +kernel
theorem dX11_both_14 : decode cX11_both 14 = .ok (.invokevirtual 108, 3) := by decide +kernel
theorem dX11_both_17 : decode cX11_both 17 = .ok (.aload_n 0, 1) := by decide +kernel
theorem dX11_both_18 : decode cX11_both 18 = .ok (.sipush 20001, 3) := by decide +kernel
theorem dX11_both_21 : decode cX11_both 21 = .ok (.invokevirtual 104, 3) := by decide +kernel
theorem dX11_both_24 : decode cX11_both 24 = .ok (.goto (-20), 3) := by decide +kernel
theorem dX11_both_27 : decode cX11_both 27 = .ok (.return_, 1) := by decide +kernel
theorem dX11_compared_0 : decode cX11_compared 0 = .ok (.aload_n 0, 1) := by decide +kernel
theorem dX11_compared_1 : decode cX11_compared 1 = .ok (.invokevirtual 111, 3) := by decide +kernel
theorem dX11_compared_4 : decode cX11_compared 4 = .ok (.aload_n 0, 1) := by decide +kernel
theorem dX11_compared_5 : decode cX11_compared 5 = .ok (.bipush 60, 2) := by decide +kernel
theorem dX11_compared_7 : decode cX11_compared 7 = .ok (.invokevirtual 100, 3) := by decide +kernel
theorem dX11_compared_10 : decode cX11_compared 10 = .ok (.ifCond .eq 9, 3) := by decide +kernel
theorem dX11_compared_13 : decode cX11_compared 13 = .ok (.sipush 20002, 3) := by decide +kernel
theorem dX11_compared_16 : decode cX11_compared 16 = .ok (.goto 34, 3) := by decide +kernel
theorem dX11_compared_19 : decode cX11_compared 19 = .ok (.aload_n 0, 1) := by decide +kernel
theorem dX11_compared_20 : decode cX11_compared 20 = .ok (.bipush 61, 2) := by decide +kernel
theorem dX11_compared_22 : decode cX11_compared 22 = .ok (.invokevirtual 100, 3) := by decide +kernel
theorem dX11_compared_25 : decode cX11_compared 25 = .ok (.ifCond .eq 9, 3) := by decide +kernel
theorem dX11_compared_28 : decode cX11_compared 28 = .ok (.sipush 20003, 3) := by decide +kernel
theorem dX11_compared_31 : decode cX11_compared 31 = .ok (.goto 19, 3) := by decide +kernel
theorem dX11_compared_34 : decode cX11_compared 34 = .ok (.aload_n 0, 1) := by decide +kernel
theorem dX11_compared_35 : decode cX11_compared 35 = .ok (.bipush 62, 2) := by decide +kernel
theorem dX11_compared_37 : decode cX11_compared 37 = .ok (.invokevirtual 100, 3) := by decide +kernel
theorem dX11_compared_40 : decode cX11_compared 40 = .ok (.ifCond .eq 9, 3) := by decide +kernel
theorem dX11_compared_43 : decode cX11_compared 43 = .ok (.sipush 20004, 3) := by decide +kernel
theorem dX11_compared_46 : decode cX11_compared 46 = .ok (.goto 4, 3) := by decide +kernel
theorem dX11_compared_49 : decode cX11_compared 49 = .ok (.iconst 0, 1) := by decide +kernel
theorem dX11_compared_50 : decode cX11_compared 50 = .ok (.istore_n 1, 1) := by decide +kernel
theorem dX11_compared_51 : decode cX11_compared 51 = .ok (.iload_n 1, 1) := by decide +kernel
theorem dX11_compared_52 : decode cX11_compared 52 = .ok (.ifCond .le 12, 3) := by decide +kernel
theorem dX11_compared_55 : decode cX11_compared 55 = .ok (.aload_n 0, 1) := by decide +kernel
theorem dX11_compared_56 : decode cX11_compared 56 = .ok (.invokevirtual 111, 3) := by decide +kernel
theorem dX11_compared_59 : decode cX11_compared 59 = .ok (.aload_n 0, 1) := by decide +kernel
theorem dX11_compared_60 : decode cX11_compared 60 = .ok (.iload_n 1, 1) := by decide +kernel
theorem dX11_compared_61 : decode cX11_compared 61 = .ok (.invokevirtual 104, 3) := by decide +kernel
theorem dX11_compared_64 : decode cX11_compared 64 = .ok (.return_, 1) := by decide +kernel
theorem dX11_sum_0 : decode cX11_sum 0 = .ok (.aload_n 0, 1) := by decide +kernel
theorem dX11_sum_1 : decode cX11_sum 1 = .ok (.invokevirtual 114, 3) := by decide +kernel
theorem dX11_sum_4 : decode cX11_sum 4 = .ok (.aload_n 0, 1) := by decide +kernel
theorem dX11_sum_5 : decode cX11_sum 5 = .ok (.bipush 43, 2) := by decide +kernel
theorem dX11_sum_7 : decode cX11_sum 7 = .ok (.invokevirtual 100, 3) := by decide +kernel
theorem dX11_sum_10 : decode cX11_sum 10 = .ok (.ifCond .eq 9, 3) := by decide +kernel
theorem dX11_sum_13 : decode cX11_sum 13 = .ok (.sipush 20005, 3) := by decide +kernel
theorem dX11_sum_16 : decode cX11_sum 16 = .ok (.goto 19, 3) := by decide +kernel
theorem dX11_sum_19 : decode cX11_sum 19 = .ok (.aload_n 0, 1) := by decide +kernel
theorem dX11_sum_20 : decode cX11_sum 20 = .ok (.bipush 45, 2) := by decide +kernel
theorem dX11_sum_22 : decode cX11_sum 22 = .ok (.invokevirtual 100, 3) := by decide +kernel
theorem dX11_sum_25 : decode cX11_sum 25 = .ok (.ifCond .eq 9, 3) := by decide +kernel
theorem dX11_sum_28 : decode cX11_sum 28 = .ok (.sipush 20006, 3) := by decide +kernel
theorem dX11_sum_31 : decode cX11_sum 31 = .ok (.goto 4, 3) := by decide +kernel
theorem dX11_sum_34 : decode cX11_sum 34 = .ok (.iconst 0, 1) := by decide +kernel
theorem dX11_sum_35 : decode cX11_sum 35 = .ok (.istore_n 1, 1) := by decide +kernel
theorem dX11_sum_36 : decode cX11_sum 36 = .ok (.iload_n 1, 1) := by decide +kernel
theorem dX11_sum_37 : decode cX11_sum 37 = .ok (.ifCond .le 47, 3) := by decide +kernel
theorem dX11_sum_40 : decode cX11_sum 40 = .ok (.aload_n 0, 1) := by decide +kernel
theorem dX11_sum_41 : decode cX11_sum 41 = .ok (.invokevirtual 114, 3) := by decide +kernel
theorem dX11_sum_44 : decode cX11_sum 44 = .ok (.aload_n 0, 1) := by decide +kernel
theorem dX11_sum_45 : decode cX11_sum 45 = .ok (.iload_n 1, 1) := by decide +kernel
theorem dX11_sum_46 : decode cX11_sum 46 = .ok (.invokevirtual 104, 3) := by decide +kernel
theorem dX11_sum_49 : decode cX11_sum 49 = .ok (.aload_n 0, 1) := by decide +kernel
theorem dX11_sum_50 : decode cX11_sum 50 = .ok (.bipush 43, 2) := by decide +kernel
theorem dX11_sum_52 : decode cX11_sum 52 = .ok (.invokevirtual 100, 3) := by decide +kernel
theorem dX11_sum_55 : decode cX11_sum 55 = .ok (.ifCond .eq 9, 3) := by decide +kernel
theorem dX11_sum_58 : decode cX11_sum 58 = .ok (.sipush 20005, 3) := by decide +kernel
theorem dX11_sum_61 : decode cX11_sum 61 = .ok (.goto 19, 3) := by decide +kernel
theorem dX11_sum_64 : decode cX11_sum 64 = .ok (.aload_n 0, 1) := by decide +kernel
theorem dX11_sum_65 : decode cX11_sum 65 = .ok (.bipush 45, 2) := by decide +kernel
theorem dX11_sum_67 : decode cX11_sum 67 = .ok (.invokevirtual 100, 3) := by decide +kernel
theorem dX11_sum_70 : decode cX11_sum 70 = .ok (.ifCond .eq 9, 3) := by decide +kernel
theorem dX11_sum_73 : decode cX11_sum 73 = .ok (.sipush 20006, 3) := by decide +kernel
theorem dX11_sum_76 : decode cX11_sum 76 = .ok (.goto 4, 3) := by decide +kernel
theorem dX11_sum_79 : decode cX11_sum 79 = .ok (.iconst 0, 1) := by decide +kernel
theorem dX11_sum_80 : decode cX11_sum 80 = .ok (.istore_n 1, 1) := by decide +kernel
theorem dX11_sum_81 : decode cX11_sum 81 = .ok (.goto (-45), 3) := by decide +kernel
theorem dX11_sum_84 : decode cX11_sum 84 = .ok (.return_, 1) := by decide +kernel
theorem dX11_product_0 : decode cX11_product 0 = .ok (.aload_n 0, 1) := by decide +kernel
theorem dX11_product_1 : decode cX11_product 1 = .ok (.invokevirtual 117, 3) := by decide +kernel
theorem dX11_product_4 : decode cX11_product 4 = .ok (.aload_n 0, 1) := by decide +kernel
theorem dX11_product_5 : decode cX11_product 5 = .ok (.bipush 42, 2) := by decide +kernel
theorem dX11_product_7 : decode cX11_product 7 = .ok (.invokevirtual 100, 3) := by decide +kernel
theorem dX11_product_10 : decode cX11_product 10 = .ok (.ifCond .eq 9, 3) := by decide +kernel
theorem dX11_product_13 : decode cX11_product 13 = .ok (.sipush 20007, 3) := by decide +kernel
theorem dX11_product_16 : decode cX11_product 16 = .ok (.goto 34, 3) := by decide +kernel
theorem dX11_product_19 : decode cX11_product 19 = .ok (.aload_n 0, 1) := by decide +kernel
theorem dX11_product_20 : decode cX11_product 20 = .ok (.bipush 47, 2) := by decide +kernel
theorem dX11_product_22 : decode cX11_product 22 = .ok (.invokevirtual 100, 3) := by decide +kernel
theorem dX11_product_25 : decode cX11_product 25 = .ok (.ifCond .eq 9, 3) := by decide +kernel
theorem dX11_product_28 : decode cX11_product 28 = .ok (.sipush 20008, 3) := by decide +kernel
theorem dX11_product_31 : decode cX11_product 31 = .ok (.goto 19, 3) := by decide +kernel
theorem dX11_product_34 : decode cX11_product 34 = .ok (.aload_n 0, 1) := by decide +kernel
theorem dX11_product_35 : decode cX11_product 35 = .ok (.bipush 37, 2) := by decide +kernel
theorem dX11_product_37 : decode cX11_product 37 = .ok (.invokevirtual 100, 3) := by decide +kernel
theorem dX11_product_40 : decode cX11_product 40 = .ok (.ifCond .eq 9, 3) := by decide +kernel
theorem dX11_product_43 : decode cX11_product 43 = .ok (.sipush 20009, 3) := by decide +kernel
theorem dX11_product_46 : decode cX11_product 46 = .ok (.goto 4, 3) := by decide +kernel
theorem dX11_product_49 : decode cX11_product 49 = .ok (.iconst 0, 1) := by decide +kernel
theorem dX11_product_50 : decode cX11_product 50 = .ok (.istore_n 1, 1) := by decide +kernel
theorem dX11_product_51 : decode cX11_product 51 = .ok (.iload_n 1, 1) := by decide +kernel
theorem dX11_product_52 : decode cX11_product 52 = .ok (.ifCond .le 62, 3) := by decide +kernel
theorem dX11_product_55 : decode cX11_product 55 = .ok (.aload_n 0, 1) := by decide +kernel
theorem dX11_product_56 : decode cX11_product 56 = .ok (.invokevirtual 117, 3) := by decide +kernel
theorem dX11_product_59 : decode cX11_product 59 = .ok (.aload_n 0, 1) := by decide +kernel
theorem dX11_product_60 : decode cX11_product 60 = .ok (.iload_n 1, 1) := by decide +kernel
theorem dX11_product_61 : decode cX11_product 61 = .ok (.invokevirtual 104, 3) := by decide +kernel
theorem dX11_product_64 : decode cX11_product 64 = .ok (.aload_n 0, 1) := by decide +kernel
theorem dX11_product_65 : decode cX11_product 65 = .ok (.bipush 42, 2) := by decide +kernel
theorem dX11_product_67 : decode cX11_product 67 = .ok (.invokevirtual 100, 3) := by decide +kernel
theorem dX11_product_70 : decode cX11_product 70 = .ok (.ifCond .eq 9, 3) := by decide +kernel
theorem dX11_product_73 : decode cX11_product 73 = .ok (.sipush 20007, 3) := by decide +kernel
theorem dX11_product_76 : decode cX11_product 76 = .ok (.goto 34, 3) := by decide +kernel
theorem dX11_product_79 : decode cX11_product 79 = .ok (.aload_n 0, 1) := by decide +kernel
theorem dX11_product_80 : decode cX11_product 80 = .ok (.bipush 47, 2) := by decide +kernel
theorem dX11_product_82 : decode cX11_product 82 = .ok (.invokevirtual 100, 3) := by decide +kernel
theorem dX11_product_85 : decode cX11_product 85 = .ok (.ifCond .eq 9, 3) := by decide +kernel
theorem dX11_product_88 : decode cX11_product 88 = .ok (.sipush 20008, 3) := by decide +kernel
theorem dX11_product_91 : decode cX11_product 91 = .ok (.goto 19, 3) := by decide +kernel
theorem dX11_product_94 : decode cX11_product 94 = .ok (.aload_n 0, 1) := by decide +kernel
theorem dX11_product_95 : decode cX11_product 95 = .ok (.bipush 37, 2) := by decide +kernel
theorem dX11_product_97 : decode cX11_product 97 = .ok (.invokevirtual 100, 3) := by decide +kernel
theorem dX11_product_100 : decode cX11_product 100 = .ok (.ifCond .eq 9, 3) := by decide +kernel
theorem dX11_product_103 : decode cX11_product 103 = .ok (.sipush 20009, 3) := by decide +kernel
theorem dX11_product_106 : decode cX11_product 106 = .ok (.goto 4, 3) := by decide +kernel
theorem dX11_product_109 : decode cX11_product 109 = .ok (.iconst 0, 1) := by decide +kernel
theorem dX11_product_110 : decode cX11_product 110 = .ok (.istore_n 1, 1) := by decide +kernel
theorem dX11_product_111 : decode cX11_product 111 = .ok (.goto (-60), 3) := by decide +kernel
theorem dX11_product_114 : decode cX11_product 114 = .ok (.return_, 1) := by decide +kernel
theorem dX11_nameOf_0 : decode cX11_nameOf 0 = .ok (.iconst (-1), 1) := by decide +kernel
theorem dX11_nameOf_1 : decode cX11_nameOf 1 = .ok (.istore_n 2, 1) := by decide +kernel
theorem dX11_nameOf_2 : decode cX11_nameOf 2 = .ok (.iconst 0, 1) := by decide +kernel
theorem dX11_nameOf_3 : decode cX11_nameOf 3 = .ok (.istore_n 3, 1) := by decide +kernel
theorem dX11_nameOf_4 : decode cX11_nameOf 4 = .ok (.iload_n 3, 1) := by decide +kernel
theorem dX11_nameOf_5 : decode cX11_nameOf 5 = .ok (.aload_n 0, 1) := by decide +kernel
theorem dX11_nameOf_6 : decode cX11_nameOf 6 = .ok (.getfield 28, 3) := by decide +kernel
theorem dX11_nameOf_9 : decode cX11_nameOf 9 = .ok (.aload_n 0, 1) := by decide +kernel
theorem dX11_nameOf_10 : decode cX11_nameOf 10 = .ok (.getfield 120, 3) := by decide +kernel
theorem dX11_nameOf_13 : decode cX11_nameOf 13 = .ok (.aaload, 1) := by decide +kernel
theorem dX11_nameOf_14 : decode cX11_nameOf 14 = .ok (.invokevirtual 123, 3) := by decide +kernel
theorem dX11_nameOf_17 : decode cX11_nameOf 17 = .ok (.if_icmp .ge 32, 3) := by decide +kernel
theorem dX11_nameOf_20 : decode cX11_nameOf 20 = .ok (.aload_n 0, 1) := by decide +kernel
theorem dX11_nameOf_21 : decode cX11_nameOf 21 = .ok (.getfield 28, 3) := by decide +kernel
theorem dX11_nameOf_24 : decode cX11_nameOf 24 = .ok (.aload_n 0, 1) := by decide +kernel
theorem dX11_nameOf_25 : decode cX11_nameOf 25 = .ok (.getfield 120, 3) := by decide +kernel
theorem dX11_nameOf_28 : decode cX11_nameOf 28 = .ok (.aaload, 1) := by decide +kernel
theorem dX11_nameOf_29 : decode cX11_nameOf 29 = .ok (.iload_n 3, 1) := by decide +kernel
theorem dX11_nameOf_30 : decode cX11_nameOf 30 = .ok (.invokevirtual 126, 3) := by decide +kernel
theorem dX11_nameOf_33 : decode cX11_nameOf 33 = .ok (.iload_n 1, 1) := by decide +kernel
theorem dX11_nameOf_34 : decode cX11_nameOf 34 = .ok (.if_icmp .ne 7, 3) := by decide +kernel
theorem dX11_nameOf_37 : decode cX11_nameOf 37 = .ok (.iload_n 3, 1) := by decide +kernel
theorem dX11_nameOf_38 : decode cX11_nameOf 38 = .ok (.goto 4, 3) := by decide +kernel
theorem dX11_nameOf_41 : decode cX11_nameOf 41 = .ok (.iload_n 2, 1) := by decide +kernel
theorem dX11_nameOf_42 : decode cX11_nameOf 42 = .ok (.istore_n 2, 1) := by decide +kernel
theorem dX11_nameOf_43 : decode cX11_nameOf 43 = .ok (.iinc 3 1, 3) := by decide +kernel
theorem dX11_nameOf_46 : decode cX11_nameOf 46 = .ok (.goto (-42), 3) := by decide +kernel
theorem dX11_nameOf_49 : decode cX11_nameOf 49 = .ok (.iload_n 2, 1) := by decide +kernel
theorem dX11_nameOf_50 : decode cX11_nameOf 50 = .ok (.ireturn, 1) := by decide +kernel
theorem dX11_one_0 : decode cX11_one 0 = .ok (.aload_n 0, 1) := by decide +kernel
theorem dX11_one_1 : decode cX11_one 1 = .ok (.invokevirtual 90, 3) := by decide +kernel
theorem dX11_one_4 : decode cX11_one 4 = .ok (.istore_n 1, 1) := by decide +kernel
theorem dX11_one_5 : decode cX11_one 5 = .ok (.iload_n 1, 1) := by decide +kernel
theorem dX11_one_6 : decode cX11_one 6 = .ok (.bipush 33, 2) := by decide +kernel
theorem dX11_one_8 : decode cX11_one 8 = .ok (.if_icmp .eq 9, 3) := by decide +kernel
theorem dX11_one_11 : decode cX11_one 11 = .ok (.iload_n 1, 1) := by decide +kernel
theorem dX11_one_12 : decode cX11_one 12 = .ok (.bipush 40, 2) := by decide +kernel
theorem dX11_one_14 : decode cX11_one 14 = .ok (.if_icmp .ne 102, 3) := by decide +kernel
theorem dX11_one_17 : decode cX11_one 17 = .ok (.aload_n 0, 1) := by decide +kernel
theorem dX11_one_18 : decode cX11_one 18 = .ok (.aload_n 0, 1) := by decide +kernel
theorem dX11_one_19 : decode cX11_one 19 = .ok (.getfield 130, 3) := by decide +kernel
theorem dX11_one_22 : decode cX11_one 22 = .ok (.iconst 5, 1) := by decide +kernel
theorem dX11_one_23 : decode cX11_one 23 = .ok (.if_icmp .ne 7, 3) := by decide +kernel
theorem dX11_one_26 : decode cX11_one 26 = .ok (.iconst 1, 1) := by decide +kernel
theorem dX11_one_27 : decode cX11_one 27 = .ok (.goto 4, 3) := by decide +kernel
theorem dX11_one_30 : decode cX11_one 30 = .ok (.iconst 0, 1) := by decide +kernel
theorem dX11_one_31 : decode cX11_one 31 = .ok (.putfield 82, 3) := by decide +kernel
theorem dX11_one_34 : decode cX11_one 34 = .ok (.aload_n 0, 1) := by decide +kernel
theorem dX11_one_35 : decode cX11_one 35 = .ok (.getfield 82, 3) := by decide +kernel
theorem dX11_one_38 : decode cX11_one 38 = .ok (.ifCond .ne 209, 3) := by decide +kernel
theorem dX11_one_41 : decode cX11_one 41 = .ok (.aload_n 0, 1) := by decide +kernel
theorem dX11_one_42 : decode cX11_one 42 = .ok (.dup, 1) := by decide +kernel
theorem dX11_one_43 : decode cX11_one 43 = .ok (.getfield 130, 3) := by decide +kernel
theorem dX11_one_46 : decode cX11_one 46 = .ok (.iconst 1, 1) := by decide +kernel
theorem dX11_one_47 : decode cX11_one 47 = .ok (.iadd, 1) := by decide +kernel
theorem dX11_one_48 : decode cX11_one 48 = .ok (.putfield 130, 3) := by decide +kernel
theorem dX11_one_51 : decode cX11_one 51 = .ok (.aload_n 0, 1) := by decide +kernel
theorem dX11_one_52 : decode cX11_one 52 = .ok (.dup, 1) := by decide +kernel
theorem dX11_one_53 : decode cX11_one 53 = .ok (.getfield 86, 3) := by decide +kernel
theorem dX11_one_56 : decode cX11_one 56 = .ok (.iconst 1, 1) := by decide +kernel
theorem dX11_one_57 : decode cX11_one 57 = .ok (.iadd, 1) := by decide +kernel
theorem dX11_one_58 : decode cX11_one 58 = .ok (.putfield 86, 3) := by decide +kernel
theorem dX11_one_61 : decode cX11_one 61 = .ok (.iload_n 1, 1) := by decide +kernel
theorem dX11_one_62 : decode cX11_one 62 = .ok (.bipush 33, 2) := by decide +kernel
theorem dX11_one_64 : decode cX11_one 64 = .ok (.if_icmp .ne 17, 3) := by decide +kernel
theorem dX11_one_67 : decode cX11_one 67 = .ok (.aload_n 0, 1) := by decide +kernel
theorem dX11_one_68 : decode cX11_one 68 = .ok (.invokevirtual 117, 3) := by decide +kernel
theorem dX11_one_71 : decode cX11_one 71 = .ok (.aload_n 0, 1) := by decide +kernel
theorem dX11_one_72 : decode cX11_one 72 = .ok (.sipush 20010, 3) := by decide +kernel
theorem dX11_one_75 : decode cX11_one 75 = .ok (.invokevirtual 104, 3) := by decide +kernel
theorem dX11_one_78 : decode cX11_one 78 = .ok (.goto 25, 3) := by decide +kernel
theorem dX11_one_81 : decode cX11_one 81 = .ok (.aload_n 0, 1) := by decide +kernel
theorem dX11_one_82 : decode cX11_one 82 = .ok (.invokevirtual 133, 3) := by decide +kernel
theorem dX11_one_85 : decode cX11_one 85 = .ok (.aload_n 0, 1) := by decide +kernel
theorem dX11_one_86 : decode cX11_one 86 = .ok (.aload_n 0, 1) := by decide +kernel
theorem dX11_one_87 : decode cX11_one 87 = .ok (.bipush 41, 2) := by decide +kernel
theorem dX11_one_89 : decode cX11_one 89 = .ok (.invokevirtual 100, 3) := by decide +kernel
theorem dX11_one_92 : decode cX11_one 92 = .ok (.ifCond .ne 7, 3) := by decide +kernel
theorem dX11_one_95 : decode cX11_one 95 = .ok (.iconst 1, 1) := by decide +kernel
theorem dX11_one_96 : decode cX11_one 96 = .ok (.goto 4, 3) := by decide +kernel
theorem dX11_one_99 : decode cX11_one 99 = .ok (.iconst 0, 1) := by decide +kernel
theorem dX11_one_100 : decode cX11_one 100 = .ok (.putfield 82, 3) := by decide +kernel
theorem dX11_one_103 : decode cX11_one 103 = .ok (.aload_n 0, 1) := by decide +kernel
theorem dX11_one_104 : decode cX11_one 104 = .ok (.dup, 1) := by decide +kernel
theorem dX11_one_105 : decode cX11_one 105 = .ok (.getfield 130, 3) := by decide +kernel
theorem dX11_one_108 : decode cX11_one 108 = .ok (.iconst 1, 1) := by decide +kernel
theorem dX11_one_109 : decode cX11_one 109 = .ok (.isub, 1) := by decide +kernel
theorem dX11_one_110 : decode cX11_one 110 = .ok (.putfield 130, 3) := by decide +kernel
theorem dX11_one_113 : decode cX11_one 113 = .ok (.goto 134, 3) := by decide +kernel
theorem dX11_one_116 : decode cX11_one 116 = .ok (.iload_n 1, 1) := by decide +kernel
theorem dX11_one_117 : decode cX11_one 117 = .ok (.bipush 48, 2) := by decide +kernel
theorem dX11_one_119 : decode cX11_one 119 = .ok (.bipush 57, 2) := by decide +kernel
theorem dX11_one_121 : decode cX11_one 121 = .ok (.invokestatic 70, 3) := by decide +kernel
theorem dX11_one_124 : decode cX11_one 124 = .ok (.ifCond .eq 63, 3) := by decide +kernel
theorem dX11_one_127 : decode cX11_one 127 = .ok (.iconst 0, 1) := by decide +kernel
theorem dX11_one_128 : decode cX11_one 128 = .ok (.istore_n 2, 1) := by decide +kernel
theorem dX11_one_129 : decode cX11_one 129 = .ok (.iconst 0, 1) := by decide +kernel
theorem dX11_one_130 : decode cX11_one 130 = .ok (.istore_n 3, 1) := by decide +kernel
theorem dX11_one_131 : decode cX11_one 131 = .ok (.iload_n 3, 1) := by decide +kernel
theorem dX11_one_132 : decode cX11_one 132 = .ok (.iconst 4, 1) := by decide +kernel
theorem dX11_one_133 : decode cX11_one 133 = .ok (.if_icmp .ge 46, 3) := by decide +kernel
theorem dX11_one_136 : decode cX11_one 136 = .ok (.aload_n 0, 1) := by decide +kernel
theorem dX11_one_137 : decode cX11_one 137 = .ok (.invokevirtual 90, 3) := by decide +kernel
theorem dX11_one_140 : decode cX11_one 140 = .ok (.bipush 48, 2) := by decide +kernel
theorem dX11_one_142 : decode cX11_one 142 = .ok (.bipush 57, 2) := by decide +kernel
theorem dX11_one_144 : decode cX11_one 144 = .ok (.invokestatic 70, 3) := by decide +kernel
theorem dX11_one_147 : decode cX11_one 147 = .ok (.ifCond .eq 32, 3) := by decide +kernel
theorem dX11_one_150 : decode cX11_one 150 = .ok (.bipush 10, 2) := by decide +kernel
theorem dX11_one_152 : decode cX11_one 152 = .ok (.iload_n 2, 1) := by decide +kernel
theorem dX11_one_153 : decode cX11_one 153 = .ok (.imul, 1) := by decide +kernel
theorem dX11_one_154 : decode cX11_one 154 = .ok (.aload_n 0, 1) := by decide +kernel
theorem dX11_one_155 : decode cX11_one 155 = .ok (.invokevirtual 90, 3) := by decide +kernel
theorem dX11_one_158 : decode cX11_one 158 = .ok (.iadd, 1) := by decide +kernel
theorem dX11_one_159 : decode cX11_one 159 = .ok (.bipush 48, 2) := by decide +kernel
theorem dX11_one_161 : decode cX11_one 161 = .ok (.isub, 1) := by decide +kernel
theorem dX11_one_162 : decode cX11_one 162 = .ok (.istore_n 2, 1) := by decide +kernel
theorem dX11_one_163 : decode cX11_one 163 = .ok (.aload_n 0, 1) := by decide +kernel
theorem dX11_one_164 : decode cX11_one 164 = .ok (.dup, 1) := by decide +kernel
theorem dX11_one_165 : decode cX11_one 165 = .ok (.getfield 86, 3) := by decide +kernel
theorem dX11_one_168 : decode cX11_one 168 = .ok (.iconst 1, 1) := by decide +kernel
theorem dX11_one_169 : decode cX11_one 169 = .ok (.iadd, 1) := by decide +kernel
theorem dX11_one_170 : decode cX11_one 170 = .ok (.putfield 86, 3) := by decide +kernel
theorem dX11_one_173 : decode cX11_one 173 = .ok (.iinc 3 1, 3) := by decide +kernel
theorem dX11_one_176 : decode cX11_one 176 = .ok (.goto (-45), 3) := by decide +kernel
theorem dX11_one_179 : decode cX11_one 179 = .ok (.aload_n 0, 1) := by decide +kernel
theorem dX11_one_180 : decode cX11_one 180 = .ok (.iload_n 2, 1) := by decide +kernel
theorem dX11_one_181 : decode cX11_one 181 = .ok (.invokevirtual 104, 3) := by decide +kernel
theorem dX11_one_184 : decode cX11_one 184 = .ok (.goto 63, 3) := by decide +kernel
theorem dX11_one_187 : decode cX11_one 187 = .ok (.iload_n 1, 1) := by decide +kernel
theorem dX11_one_188 : decode cX11_one 188 = .ok (.ifCond .ge 7, 3) := by decide +kernel
theorem dX11_one_191 : decode cX11_one 191 = .ok (.iconst (-1), 1) := by decide +kernel
theorem dX11_one_192 : decode cX11_one 192 = .ok (.goto 8, 3) := by decide +kernel
theorem dX11_one_195 : decode cX11_one 195 = .ok (.aload_n 0, 1) := by decide +kernel
theorem dX11_one_196 : decode cX11_one 196 = .ok (.iload_n 1, 1) := by decide +kernel
theorem dX11_one_197 : decode cX11_one 197 = .ok (.invokevirtual 136, 3) := by decide +kernel
theorem dX11_one_200 : decode cX11_one 200 = .ok (.istore_n 2, 1) := by decide +kernel
theorem dX11_one_201 : decode cX11_one 201 = .ok (.aload_n 0, 1) := by decide +kernel
theorem dX11_one_202 : decode cX11_one 202 = .ok (.aload_n 0, 1) := by decide +kernel
theorem dX11_one_203 : decode cX11_one 203 = .ok (.getfield 82, 3) := by decide +kernel
theorem dX11_one_206 : decode cX11_one 206 = .ok (.ifCond .ne 7, 3) := by decide +kernel
theorem dX11_one_209 : decode cX11_one 209 = .ok (.iload_n 2, 1) := by decide +kernel
theorem dX11_one_210 : decode cX11_one 210 = .ok (.ifCond .ge 7, 3) := by decide +kernel
theorem dX11_one_213 : decode cX11_one 213 = .ok (.iconst 1, 1) := by decide +kernel
theorem dX11_one_214 : decode cX11_one 214 = .ok (.goto 4, 3) := by decide +kernel
theorem dX11_one_217 : decode cX11_one 217 = .ok (.iconst 0, 1) := by decide +kernel
theorem dX11_one_218 : decode cX11_one 218 = .ok (.putfield 82, 3) := by decide +kernel
theorem dX11_one_221 : decode cX11_one 221 = .ok (.aload_n 0, 1) := by decide +kernel
theorem dX11_one_222 : decode cX11_one 222 = .ok (.getfield 82, 3) := by decide +kernel
theorem dX11_one_225 : decode cX11_one 225 = .ok (.ifCond .ne 22, 3) := by decide +kernel
theorem dX11_one_228 : decode cX11_one 228 = .ok (.aload_n 0, 1) := by decide +kernel
theorem dX11_one_229 : decode cX11_one 229 = .ok (.sipush 10000, 3) := by decide +kernel
theorem dX11_one_232 : decode cX11_one 232 = .ok (.iload_n 2, 1) := by decide +kernel
theorem dX11_one_233 : decode cX11_one 233 = .ok (.iadd, 1) := by decide +kernel
theorem dX11_one_234 : decode cX11_one 234 = .ok (.invokevirtual 104, 3) := by decide +kernel
theorem dX11_one_237 : decode cX11_one 237 = .ok (.aload_n 0, 1) := by decide +kernel
theorem dX11_one_238 : decode cX11_one 238 = .ok (.dup, 1) := by decide +kernel
theorem dX11_one_239 : decode cX11_one 239 = .ok (.getfield 86, 3) := by decide +kernel
theorem dX11_one_242 : decode cX11_one 242 = .ok (.iconst 1, 1) := by decide +kernel
theorem dX11_one_243 : decode cX11_one 243 = .ok (.iadd, 1) := by decide +kernel
theorem dX11_one_244 : decode cX11_one 244 = .ok (.putfield 86, 3) := by decide +kernel
theorem dX11_one_247 : decode cX11_one 247 = .ok (.return_, 1) := by decide +kernel
theorem dX11_text_0 : decode cX11_text 0 = .ok (.iload_n 1, 1) := by decide +kernel
theorem dX11_text_1 : decode cX11_text 1 = .ok (.iconst 0, 1) := by decide +kernel
theorem dX11_text_2 : decode cX11_text 2 = .ok (.iconst 1, 1) := by decide +kernel
theorem dX11_text_3 : decode cX11_text 3 = .ok (.invokestatic 70, 3) := by decide +kernel
theorem dX11_text_6 : decode cX11_text 6 = .ok (.ifCond .ne 10, 3) := by decide +kernel
theorem dX11_text_9 : decode cX11_text 9 = .ok (.aload_n 0, 1) := by decide +kernel
theorem dX11_text_10 : decode cX11_text 10 = .ok (.ldc 74, 2) := by decide +kernel
theorem dX11_text_12 : decode cX11_text 12 = .ok (.invokevirtual 75, 3) := by decide +kernel
theorem dX11_text_15 : decode cX11_text 15 = .ok (.ireturn, 1) := by decide +kernel
theorem dX11_text_16 : decode cX11_text 16 = .ok (.aload_n 0, 1) := by decide +kernel
theorem dX11_text_17 : decode cX11_text 17 = .ok (.iload_n 1, 1) := by decide +kernel
theorem dX11_text_18 : decode cX11_text 18 = .ok (.putfield 120, 3) := by decide +kernel
theorem dX11_text_21 : decode cX11_text 21 = .ok (.aload_n 0, 1) := by decide +kernel
theorem dX11_text_22 : decode cX11_text 22 = .ok (.iconst 0, 1) := by decide +kernel
theorem dX11_text_23 : decode cX11_text 23 = .ok (.putfield 86, 3) := by decide +kernel
theorem dX11_text_26 : decode cX11_text 26 = .ok (.aload_n 0, 1) := by decide +kernel
theorem dX11_text_27 : decode cX11_text 27 = .ok (.iconst 0, 1) := by decide +kernel
theorem dX11_text_28 : decode cX11_text 28 = .ok (.putfield 130, 3) := by decide +kernel
theorem dX11_text_31 : decode cX11_text 31 = .ok (.aload_n 0, 1) := by decide +kernel
theorem dX11_text_32 : decode cX11_text 32 = .ok (.iconst 0, 1) := by decide +kernel
theorem dX11_text_33 : decode cX11_text 33 = .ok (.putfield 82, 3) := by decide +kernel
theorem dX11_text_36 : decode cX11_text 36 = .ok (.aload_n 0, 1) := by decide +kernel
theorem dX11_text_37 : decode cX11_text 37 = .ok (.iconst 0, 1) := by decide +kernel
theorem dX11_text_38 : decode cX11_text 38 = .ok (.putfield 94, 3) := by decide +kernel
theorem dX11_text_41 : decode cX11_text 41 = .ok (.aload_n 0, 1) := by decide +kernel
theorem dX11_text_42 : decode cX11_text 42 = .ok (.invokevirtual 133, 3) := by decide +kernel
theorem dX11_text_45 : decode cX11_text 45 = .ok (.aload_n 0, 1) := by decide +kernel
theorem dX11_text_46 : decode cX11_text 46 = .ok (.aload_n 0, 1) := by decide +kernel
theorem dX11_text_47 : decode cX11_text 47 = .ok (.getfield 82, 3) := by decide +kernel
theorem dX11_text_50 : decode cX11_text 50 = .ok (.ifCond .ne 17, 3) := by decide +kernel
theorem dX11_text_53 : decode cX11_text 53 = .ok (.aload_n 0, 1) := by decide +kernel
theorem dX11_text_54 : decode cX11_text 54 = .ok (.getfield 86, 3) := by decide +kernel
theorem dX11_text_57 : decode cX11_text 57 = .ok (.aload_n 0, 1) := by decide +kernel
theorem dX11_text_58 : decode cX11_text 58 = .ok (.getfield 9, 3) := by decide +kernel
theorem dX11_text_61 : decode cX11_text 61 = .ok (.bipush 7, 2) := by decide +kernel
theorem dX11_text_63 : decode cX11_text 63 = .ok (.iaload, 1) := by decide +kernel
theorem dX11_text_64 : decode cX11_text 64 = .ok (.if_icmp .ge 7, 3) := by decide +kernel
theorem dX11_text_67 : decode cX11_text 67 = .ok (.iconst 1, 1) := by decide +kernel
theorem dX11_text_68 : decode cX11_text 68 = .ok (.goto 4, 3) := by decide +kernel
theorem dX11_text_71 : decode cX11_text 71 = .ok (.iconst 0, 1) := by decide +kernel
theorem dX11_text_72 : decode cX11_text 72 = .ok (.putfield 82, 3) := by decide +kernel
theorem dX11_text_75 : decode cX11_text 75 = .ok (.aload_n 0, 1) := by decide +kernel
theorem dX11_text_76 : decode cX11_text 76 = .ok (.getfield 9, 3) := by decide +kernel
theorem dX11_text_79 : decode cX11_text 79 = .ok (.bipush 7, 2) := by decide +kernel
theorem dX11_text_81 : decode cX11_text 81 = .ok (.iconst 0, 1) := by decide +kernel
theorem dX11_text_82 : decode cX11_text 82 = .ok (.iastore, 1) := by decide +kernel
theorem dX11_text_83 : decode cX11_text 83 = .ok (.aload_n 0, 1) := by decide +kernel
theorem dX11_text_84 : decode cX11_text 84 = .ok (.getfield 82, 3) := by decide +kernel
theorem dX11_text_87 : decode cX11_text 87 = .ok (.ifCond .eq 11, 3) := by decide +kernel
theorem dX11_text_90 : decode cX11_text 90 = .ok (.bipush (-10), 2) := by decide +kernel
theorem dX11_text_92 : decode cX11_text 92 = .ok (.aload_n 0, 1) := by decide +kernel
theorem dX11_text_93 : decode cX11_text 93 = .ok (.getfield 86, 3) := by decide +kernel
theorem dX11_text_96 : decode cX11_text 96 = .ok (.isub, 1) := by decide +kernel
theorem dX11_text_97 : decode cX11_text 97 = .ok (.ireturn, 1) := by decide +kernel
theorem dX11_text_98 : decode cX11_text 98 = .ok (.aload_n 0, 1) := by decide +kernel
theorem dX11_text_99 : decode cX11_text 99 = .ok (.getfield 9, 3) := by decide +kernel
theorem dX11_text_102 : decode cX11_text 102 = .ok (.sipush 169, 3) := by decide +kernel
theorem dX11_text_105 : decode cX11_text 105 = .ok (.bipush 52, 2) := by decide +kernel
theorem dX11_text_107 : decode cX11_text 107 = .ok (.aload_n 0, 1) := by decide +kernel
theorem dX11_text_108 : decode cX11_text 108 = .ok (.getfield 120, 3) := by decide +kernel
theorem dX11_text_111 : decode cX11_text 111 = .ok (.imul, 1) := by decide +kernel
theorem dX11_text_112 : decode cX11_text 112 = .ok (.iadd, 1) := by decide +kernel
theorem dX11_text_113 : decode cX11_text 113 = .ok (.aload_n 0, 1) := by decide +kernel
theorem dX11_text_114 : decode cX11_text 114 = .ok (.getfield 94, 3) := by decide +kernel
theorem dX11_text_117 : decode cX11_text 117 = .ok (.iastore, 1) := by decide +kernel
theorem dX11_text_118 : decode cX11_text 118 = .ok (.iconst 0, 1) := by decide +kernel
theorem dX11_text_119 : decode cX11_text 119 = .ok (.istore_n 2, 1) := by decide +kernel
theorem dX11_text_120 : decode cX11_text 120 = .ok (.iload_n 2, 1) := by decide +kernel
theorem dX11_text_121 : decode cX11_text 121 = .ok (.aload_n 0, 1) := by decide +kernel
theorem dX11_text_122 : decode cX11_text 122 = .ok (.getfield 94, 3) := by decide +kernel
theorem dX11_text_125 : decode cX11_text 125 = .ok (.if_icmp .ge 35, 3) := by decide +kernel
theorem dX11_text_128 : decode cX11_text 128 = .ok (.aload_n 0, 1) := by decide +kernel
theorem dX11_text_129 : decode cX11_text 129 = .ok (.getfield 9, 3) := by decide +kernel
theorem dX11_text_132 : decode cX11_text 132 = .ok (.sipush 169, 3) := by decide +kernel
theorem dX11_text_135 : decode cX11_text 135 = .ok (.bipush 52, 2) := by decide +kernel
theorem dX11_text_137 : decode cX11_text 137 = .ok (.aload_n 0, 1) := by decide +kernel
theorem dX11_text_138 : decode cX11_text 138 = .ok (.getfield 120, 3) := by decide +kernel
theorem dX11_text_141 : decode cX11_text 141 = .ok (.imul, 1) := by decide +kernel
theorem dX11_text_142 : decode cX11_text 142 = .ok (.iadd, 1) := by decide +kernel
theorem dX11_text_143 : decode cX11_text 143 = .ok (.iconst 1, 1) := by decide +kernel
theorem dX11_text_144 : decode cX11_text 144 = .ok (.iadd, 1) := by decide +kernel
theorem dX11_text_145 : decode cX11_text 145 = .ok (.iload_n 2, 1) := by decide +kernel
theorem dX11_text_146 : decode cX11_text 146 = .ok (.iadd, 1) := by decide +kernel
theorem dX11_text_147 : decode cX11_text 147 = .ok (.aload_n 0, 1) := by decide +kernel
theorem dX11_text_148 : decode cX11_text 148 = .ok (.getfield 32, 3) := by decide +kernel
theorem dX11_text_151 : decode cX11_text 151 = .ok (.iload_n 2, 1) := by decide +kernel
theorem dX11_text_152 : decode cX11_text 152 = .ok (.iaload, 1) := by decide +kernel
theorem dX11_text_153 : decode cX11_text 153 = .ok (.iastore, 1) := by decide +kernel
theorem dX11_text_154 : decode cX11_text 154 = .ok (.iinc 2 1, 3) := by decide +kernel
theorem dX11_text_157 : decode cX11_text 157 = .ok (.goto (-37), 3) := by decide +kernel
theorem dX11_text_160 : decode cX11_text 160 = .ok (.iconst 1, 1) := by decide +kernel
theorem dX11_text_161 : decode cX11_text 161 = .ok (.ireturn, 1) := by decide +kernel
theorem dX11_done_0 : decode cX11_done 0 = .ok (.iload_n 0, 1) := by decide +kernel
theorem dX11_done_1 : decode cX11_done 1 = .ok (.tableswitch 136 20000 20008 #[51, 65, 79, 90, 101, 112, 116, 120, 124], 51) := by decide +kernel
theorem dX11_done_52 : decode cX11_done 52 = .ok (.iload_n 1, 1) := by decide +kernel
theorem dX11_done_53 : decode cX11_done 53 = .ok (.ifCond .ne 7, 3) := by decide +kernel
theorem dX11_done_56 : decode cX11_done 56 = .ok (.iload_n 2, 1) := by decide +kernel
theorem dX11_done_57 : decode cX11_done 57 = .ok (.ifCond .eq 7, 3) := by decide +kernel
theorem dX11_done_60 : decode cX11_done 60 = .ok (.iconst 1, 1) := by decide +kernel
theorem dX11_done_61 : decode cX11_done 61 = .ok (.goto 4, 3) := by decide +kernel
theorem dX11_done_64 : decode cX11_done 64 = .ok (.iconst 0, 1) := by decide +kernel
theorem dX11_done_65 : decode cX11_done 65 = .ok (.ireturn, 1) := by decide +kernel
theorem dX11_done_66 : decode cX11_done 66 = .ok (.iload_n 1, 1) := by decide +kernel
theorem dX11_done_67 : decode cX11_done 67 = .ok (.ifCond .eq 11, 3) := by decide +kernel
theorem dX11_done_70 : decode cX11_done 70 = .ok (.iload_n 2, 1) := by decide +kernel
theorem dX11_done_71 : decode cX11_done 71 = .ok (.ifCond .eq 7, 3) := by decide +kernel
theorem dX11_done_74 : decode cX11_done 74 = .ok (.iconst 1, 1) := by decide +kernel
theorem dX11_done_75 : decode cX11_done 75 = .ok (.goto 4, 3) := by decide +kernel
theorem dX11_done_78 : decode cX11_done 78 = .ok (.iconst 0, 1) := by decide +kernel
theorem dX11_done_79 : decode cX11_done 79 = .ok (.ireturn, 1) := by decide +kernel
theorem dX11_done_80 : decode cX11_done 80 = .ok (.iload_n 1, 1) := by decide +kernel
theorem dX11_done_81 : decode cX11_done 81 = .ok (.iload_n 2, 1) := by decide +kernel
theorem dX11_done_82 : decode cX11_done 82 = .ok (.if_icmp .ge 7, 3) := by decide +kernel
theorem dX11_done_85 : decode cX11_done 85 = .ok (.iconst 1, 1) := by decide +kernel
theorem dX11_done_86 : decode cX11_done 86 = .ok (.goto 4, 3) := by decide +kernel
theorem dX11_done_89 : decode cX11_done 89 = .ok (.iconst 0, 1) := by decide +kernel
theorem dX11_done_90 : decode cX11_done 90 = .ok (.ireturn, 1) := by decide +kernel
theorem dX11_done_91 : decode cX11_done 91 = .ok (.iload_n 1, 1) := by decide +kernel
theorem dX11_done_92 : decode cX11_done 92 = .ok (.iload_n 2, 1) := by decide +kernel
theorem dX11_done_93 : decode cX11_done 93 = .ok (.if_icmp .ne 7, 3) := by decide +kernel
theorem dX11_done_96 : decode cX11_done 96 = .ok (.iconst 1, 1) := by decide +kernel
theorem dX11_done_97 : decode cX11_done 97 = .ok (.goto 4, 3) := by decide +kernel
theorem dX11_done_100 : decode cX11_done 100 = .ok (.iconst 0, 1) := by decide +kernel
theorem dX11_done_101 : decode cX11_done 101 = .ok (.ireturn, 1) := by decide +kernel
theorem dX11_done_102 : decode cX11_done 102 = .ok (.iload_n 1, 1) := by decide +kernel
theorem dX11_done_103 : decode cX11_done 103 = .ok (.iload_n 2, 1) := by decide +kernel
theorem dX11_done_104 : decode cX11_done 104 = .ok (.if_icmp .le 7, 3) := by decide +kernel
theorem dX11_done_107 : decode cX11_done 107 = .ok (.iconst 1, 1) := by decide +kernel
theorem dX11_done_108 : decode cX11_done 108 = .ok (.goto 4, 3) := by decide +kernel
theorem dX11_done_111 : decode cX11_done 111 = .ok (.iconst 0, 1) := by decide +kernel
theorem dX11_done_112 : decode cX11_done 112 = .ok (.ireturn, 1) := by decide +kernel
theorem dX11_done_113 : decode cX11_done 113 = .ok (.iload_n 1, 1) := by decide +kernel
theorem dX11_done_114 : decode cX11_done 114 = .ok (.iload_n 2, 1) := by decide +kernel
theorem dX11_done_115 : decode cX11_done 115 = .ok (.iadd, 1) := by decide +kernel
theorem dX11_done_116 : decode cX11_done 116 = .ok (.ireturn, 1) := by decide +kernel
theorem dX11_done_117 : decode cX11_done 117 = .ok (.iload_n 1, 1) := by decide +kernel
theorem dX11_done_118 : decode cX11_done 118 = .ok (.iload_n 2, 1) := by decide +kernel
theorem dX11_done_119 : decode cX11_done 119 = .ok (.isub, 1) := by decide +kernel
theorem dX11_done_120 : decode cX11_done 120 = .ok (.ireturn, 1) := by decide +kernel
theorem dX11_done_121 : decode cX11_done 121 = .ok (.iload_n 1, 1) := by decide +kernel
theorem dX11_done_122 : decode cX11_done 122 = .ok (.iload_n 2, 1) := by decide +kernel
theorem dX11_done_123 : decode cX11_done 123 = .ok (.imul, 1) := by decide +kernel
theorem dX11_done_124 : decode cX11_done 124 = .ok (.ireturn, 1) := by decide +kernel
theorem dX11_done_125 : decode cX11_done 125 = .ok (.iload_n 2, 1) := by decide +kernel
theorem dX11_done_126 : decode cX11_done 126 = .ok (.ifCond .ne 7, 3) := by decide +kernel
theorem dX11_done_129 : decode cX11_done 129 = .ok (.iconst 0, 1) := by decide +kernel
theorem dX11_done_130 : decode cX11_done 130 = .ok (.goto 6, 3) := by decide +kernel
theorem dX11_done_133 : decode cX11_done 133 = .ok (.iload_n 1, 1) := by decide +kernel
theorem dX11_done_134 : decode cX11_done 134 = .ok (.iload_n 2, 1) := by decide +kernel
theorem dX11_done_135 : decode cX11_done 135 = .ok (.idiv, 1) := by decide +kernel
theorem dX11_done_136 : decode cX11_done 136 = .ok (.ireturn, 1) := by decide +kernel
theorem dX11_done_137 : decode cX11_done 137 = .ok (.iload_n 2, 1) := by decide +kernel
theorem dX11_done_138 : decode cX11_done 138 = .ok (.ifCond .ne 7, 3) := by decide +kernel
theorem dX11_done_141 : decode cX11_done 141 = .ok (.iconst 0, 1) := by decide +kernel
theorem dX11_done_142 : decode cX11_done 142 = .ok (.goto 6, 3) := by decide +kernel
theorem dX11_done_145 : decode cX11_done 145 = .ok (.iload_n 1, 1) := by decide +kernel
theorem dX11_done_146 : decode cX11_done 146 = .ok (.iload_n 2, 1) := by decide +kernel
theorem dX11_done_147 : decode cX11_done 147 = .ok (.irem, 1) := by decide +kernel
theorem dX11_done_148 : decode cX11_done 148 = .ok (.ireturn, 1) := by decide +kernel
theorem dX11_worked_0 : decode cX11_worked 0 = .ok (.iconst 0, 1) := by decide +kernel
theorem dX11_worked_1 : decode cX11_worked 1 = .ok (.istore_n 2, 1) := by decide +kernel
theorem dX11_worked_2 : decode cX11_worked 2 = .ok (.iload_n 1, 1) := by decide +kernel
theorem dX11_worked_3 : decode cX11_worked 3 = .ok (.istore_n 3, 1) := by decide +kernel
theorem dX11_worked_4 : decode cX11_worked 4 = .ok (.iload_n 3, 1) := by decide +kernel
theorem dX11_worked_5 : decode cX11_worked 5 = .ok (.iload_n 1, 1) := by decide +kernel
theorem dX11_worked_6 : decode cX11_worked 6 = .ok (.aload_n 0, 1) := by decide +kernel
theorem dX11_worked_7 : decode cX11_worked 7 = .ok (.getfield 9, 3) := by decide +kernel
theorem dX11_worked_10 : decode cX11_worked 10 = .ok (.iload_n 1, 1) := by decide +kernel
theorem dX11_worked_11 : decode cX11_worked 11 = .ok (.iconst 1, 1) := by decide +kernel
theorem dX11_worked_12 : decode cX11_worked 12 = .ok (.isub, 1) := by decide +kernel
theorem dX11_worked_13 : decode cX11_worked 13 = .ok (.iaload, 1) := by decide +kernel
theorem dX11_worked_14 : decode cX11_worked 14 = .ok (.iadd, 1) := by decide +kernel
theorem dX11_worked_15 : decode cX11_worked 15 = .ok (.if_icmp .ge 126, 3) := by decide +kernel
theorem dX11_worked_18 : decode cX11_worked 18 = .ok (.aload_n 0, 1) := by decide +kernel
theorem dX11_worked_19 : decode cX11_worked 19 = .ok (.getfield 9, 3) := by decide +kernel
theorem dX11_worked_22 : decode cX11_worked 22 = .ok (.iload_n 3, 1) := by decide +kernel
theorem dX11_worked_23 : decode cX11_worked 23 = .ok (.iaload, 1) := by decide +kernel
theorem dX11_worked_24 : decode cX11_worked 24 = .ok (.istore 4, 2) := by decide +kernel
theorem dX11_worked_26 : decode cX11_worked 26 = .ok (.iload 4, 2) := by decide +kernel
theorem dX11_worked_28 : decode cX11_worked 28 = .ok (.sipush 20000, 3) := by decide +kernel
theorem dX11_worked_31 : decode cX11_worked 31 = .ok (.if_icmp .ge 39, 3) := by decide +kernel
theorem dX11_worked_34 : decode cX11_worked 34 = .ok (.aload_n 0, 1) := by decide +kernel
theorem dX11_worked_35 : decode cX11_worked 35 = .ok (.getfield 38, 3) := by decide +kernel
theorem dX11_worked_38 : decode cX11_worked 38 = .ok (.iload_n 2, 1) := by decide +kernel
theorem dX11_worked_39 : decode cX11_worked 39 = .ok (.iload 4, 2) := by decide +kernel
theorem dX11_worked_41 : decode cX11_worked 41 = .ok (.sipush 10000, 3) := by decide +kernel
theorem dX11_worked_44 : decode cX11_worked 44 = .ok (.if_icmp .ge 8, 3) := by decide +kernel
theorem dX11_worked_47 : decode cX11_worked 47 = .ok (.iload 4, 2) := by decide +kernel
theorem dX11_worked_49 : decode cX11_worked 49 = .ok (.goto 14, 3) := by decide +kernel
theorem dX11_worked_52 : decode cX11_worked 52 = .ok (.aload_n 0, 1) := by decide +kernel
theorem dX11_worked_53 : decode cX11_worked 53 = .ok (.getfield 35, 3) := by decide +kernel
theorem dX11_worked_56 : decode cX11_worked 56 = .ok (.iload 4, 2) := by decide +kernel
theorem dX11_worked_58 : decode cX11_worked 58 = .ok (.sipush 10000, 3) := by decide +kernel
theorem dX11_worked_61 : decode cX11_worked 61 = .ok (.isub, 1) := by decide +kernel
theorem dX11_worked_62 : decode cX11_worked 62 = .ok (.iaload, 1) := by decide +kernel
theorem dX11_worked_63 : decode cX11_worked 63 = .ok (.iastore, 1) := by decide +kernel
theorem dX11_worked_64 : decode cX11_worked 64 = .ok (.iinc 2 1, 3) := by decide +kernel
theorem dX11_worked_67 : decode cX11_worked 67 = .ok (.goto 68, 3) := by decide +kernel
theorem dX11_worked_70 : decode cX11_worked 70 = .ok (.iload 4, 2) := by decide +kernel
theorem dX11_worked_72 : decode cX11_worked 72 = .ok (.sipush 20010, 3) := by decide +kernel
theorem dX11_worked_75 : decode cX11_worked 75 = .ok (.if_icmp .ne 30, 3) := by decide +kernel
theorem dX11_worked_78 : decode cX11_worked 78 = .ok (.aload_n 0, 1) := by decide +kernel
theorem dX11_worked_79 : decode cX11_worked 79 = .ok (.getfield 38, 3) := by decide +kernel
theorem dX11_worked_82 : decode cX11_worked 82 = .ok (.iload_n 2, 1) := by decide +kernel
theorem dX11_worked_83 : decode cX11_worked 83 = .ok (.iconst 1, 1) := by decide +kernel
theorem dX11_worked_84 : decode cX11_worked 84 = .ok (.isub, 1) := by decide +kernel
theorem dX11_worked_85 : decode cX11_worked 85 = .ok (.aload_n 0, 1) := by decide +kernel
theorem dX11_worked_86 : decode cX11_worked 86 = .ok (.getfield 38, 3) := by decide +kernel
theorem dX11_worked_89 : decode cX11_worked 89 = .ok (.iload_n 2, 1) := by decide +kernel
theorem dX11_worked_90 : decode cX11_worked 90 = .ok (.iconst 1, 1) := by decide +kernel
theorem dX11_worked_91 : decode cX11_worked 91 = .ok (.isub, 1) := by decide +kernel
theorem dX11_worked_92 : decode cX11_worked 92 = .ok (.iaload, 1) := by decide +kernel
theorem dX11_worked_93 : decode cX11_worked 93 = .ok (.ifCond .ne 7, 3) := by decide +kernel
theorem dX11_worked_96 : decode cX11_worked 96 = .ok (.iconst 1, 1) := by decide +kernel
theorem dX11_worked_97 : decode cX11_worked 97 = .ok (.goto 4, 3) := by decide +kernel
theorem dX11_worked_100 : decode cX11_worked 100 = .ok (.iconst 0, 1) := by decide +kernel
theorem dX11_worked_101 : decode cX11_worked 101 = .ok (.iastore, 1) := by decide +kernel
theorem dX11_worked_102 : decode cX11_worked 102 = .ok (.goto 33, 3) := by decide +kernel
theorem dX11_worked_105 : decode cX11_worked 105 = .ok (.iinc 2 (-1), 3) := by decide +kernel
theorem dX11_worked_108 : decode cX11_worked 108 = .ok (.aload_n 0, 1) := by decide +kernel
theorem dX11_worked_109 : decode cX11_worked 109 = .ok (.getfield 38, 3) := by decide +kernel
theorem dX11_worked_112 : decode cX11_worked 112 = .ok (.iload_n 2, 1) := by decide +kernel
theorem dX11_worked_113 : decode cX11_worked 113 = .ok (.iconst 1, 1) := by decide +kernel
theorem dX11_worked_114 : decode cX11_worked 114 = .ok (.isub, 1) := by decide +kernel
theorem dX11_worked_115 : decode cX11_worked 115 = .ok (.iload 4, 2) := by decide +kernel
theorem dX11_worked_117 : decode cX11_worked 117 = .ok (.aload_n 0, 1) := by decide +kernel
theorem dX11_worked_118 : decode cX11_worked 118 = .ok (.getfield 38, 3) := by decide +kernel
theorem dX11_worked_121 : decode cX11_worked 121 = .ok (.iload_n 2, 1) := by decide +kernel
theorem dX11_worked_122 : decode cX11_worked 122 = .ok (.iconst 1, 1) := by decide +kernel
theorem dX11_worked_123 : decode cX11_worked 123 = .ok (.isub, 1) := by decide +kernel
theorem dX11_worked_124 : decode cX11_worked 124 = .ok (.iaload, 1) := by decide +kernel
theorem dX11_worked_125 : decode cX11_worked 125 = .ok (.aload_n 0, 1) := by decide +kernel
theorem dX11_worked_126 : decode cX11_worked 126 = .ok (.getfield 38, 3) := by decide +kernel
theorem dX11_worked_129 : decode cX11_worked 129 = .ok (.iload_n 2, 1) := by decide +kernel
theorem dX11_worked_130 : decode cX11_worked 130 = .ok (.iaload, 1) := by decide +kernel
theorem dX11_worked_131 : decode cX11_worked 131 = .ok (.invokestatic 139, 3) := by decide +kernel
theorem dX11_worked_134 : decode cX11_worked 134 = .ok (.iastore, 1) := by decide +kernel
theorem dX11_worked_135 : decode cX11_worked 135 = .ok (.iinc 3 1, 3) := by decide +kernel
theorem dX11_worked_138 : decode cX11_worked 138 = .ok (.goto (-134), 3) := by decide +kernel
theorem dX11_worked_141 : decode cX11_worked 141 = .ok (.aload_n 0, 1) := by decide +kernel
theorem dX11_worked_142 : decode cX11_worked 142 = .ok (.getfield 38, 3) := by decide +kernel
theorem dX11_worked_145 : decode cX11_worked 145 = .ok (.iconst 0, 1) := by decide +kernel
theorem dX11_worked_146 : decode cX11_worked 146 = .ok (.iaload, 1) := by decide +kernel
theorem dX11_worked_147 : decode cX11_worked 147 = .ok (.ireturn, 1) := by decide +kernel
theorem dX11_hasText_0 : decode cX11_hasText 0 = .ok (.aload_n 0, 1) := by decide +kernel
theorem dX11_hasText_1 : decode cX11_hasText 1 = .ok (.getfield 9, 3) := by decide +kernel
theorem dX11_hasText_4 : decode cX11_hasText 4 = .ok (.sipush 169, 3) := by decide +kernel
theorem dX11_hasText_7 : decode cX11_hasText 7 = .ok (.bipush 52, 2) := by decide +kernel
theorem dX11_hasText_9 : decode cX11_hasText 9 = .ok (.iload_n 1, 1) := by decide +kernel
theorem dX11_hasText_10 : decode cX11_hasText 10 = .ok (.imul, 1) := by decide +kernel
theorem dX11_hasText_11 : decode cX11_hasText 11 = .ok (.iadd, 1) := by decide +kernel
theorem dX11_hasText_12 : decode cX11_hasText 12 = .ok (.iaload, 1) := by decide +kernel
theorem dX11_hasText_13 : decode cX11_hasText 13 = .ok (.ifCond .le 7, 3) := by decide +kernel
theorem dX11_hasText_16 : decode cX11_hasText 16 = .ok (.iconst 1, 1) := by decide +kernel
theorem dX11_hasText_17 : decode cX11_hasText 17 = .ok (.goto 4, 3) := by decide +kernel
theorem dX11_hasText_20 : decode cX11_hasText 20 = .ok (.iconst 0, 1) := by decide +kernel
theorem dX11_hasText_21 : decode cX11_hasText 21 = .ok (.ireturn, 1) := by decide +kernel
theorem dX11_given_0 : decode cX11_given 0 = .ok (.aload_n 0, 1) := by decide +kernel
theorem dX11_given_1 : decode cX11_given 1 = .ok (.getfield 35, 3) := by decide +kernel
theorem dX11_given_4 : decode cX11_given 4 = .ok (.iconst 0, 1) := by decide +kernel
theorem dX11_given_5 : decode cX11_given 5 = .ok (.iload_n 2, 1) := by decide +kernel
theorem dX11_given_6 : decode cX11_given 6 = .ok (.iastore, 1) := by decide +kernel
theorem dX11_given_7 : decode cX11_given 7 = .ok (.aload_n 0, 1) := by decide +kernel
theorem dX11_given_8 : decode cX11_given 8 = .ok (.getfield 35, 3) := by decide +kernel
theorem dX11_given_11 : decode cX11_given 11 = .ok (.iconst 1, 1) := by decide +kernel
theorem dX11_given_12 : decode cX11_given 12 = .ok (.iload_n 3, 1) := by decide +kernel
theorem dX11_given_13 : decode cX11_given 13 = .ok (.iastore, 1) := by decide +kernel
theorem dX11_given_14 : decode cX11_given 14 = .ok (.aload_n 0, 1) := by decide +kernel
theorem dX11_given_15 : decode cX11_given 15 = .ok (.getfield 35, 3) := by decide +kernel
theorem dX11_given_18 : decode cX11_given 18 = .ok (.iconst 2, 1) := by decide +kernel
theorem dX11_given_19 : decode cX11_given 19 = .ok (.iload 4, 2) := by decide +kernel
theorem dX11_given_21 : decode cX11_given 21 = .ok (.iastore, 1) := by decide +kernel
theorem dX11_given_22 : decode cX11_given 22 = .ok (.iload_n 1, 1) := by decide +kernel
theorem dX11_given_23 : decode cX11_given 23 = .ok (.ifCond .ne 12, 3) := by decide +kernel
theorem dX11_given_26 : decode cX11_given 26 = .ok (.iconst 1, 1) := by decide +kernel
theorem dX11_given_27 : decode cX11_given 27 = .ok (.iload 4, 2) := by decide +kernel
theorem dX11_given_29 : decode cX11_given 29 = .ok (.iconst 2, 1) := by decide +kernel
theorem dX11_given_30 : decode cX11_given 30 = .ok (.idiv, 1) := by decide +kernel
theorem dX11_given_31 : decode cX11_given 31 = .ok (.iadd, 1) := by decide +kernel
theorem dX11_given_32 : decode cX11_given 32 = .ok (.goto 4, 3) := by decide +kernel
theorem dX11_given_35 : decode cX11_given 35 = .ok (.iconst 1, 1) := by decide +kernel
theorem dX11_given_36 : decode cX11_given 36 = .ok (.istore 5, 2) := by decide +kernel
theorem dX11_given_38 : decode cX11_given 38 = .ok (.aload_n 0, 1) := by decide +kernel
theorem dX11_given_39 : decode cX11_given 39 = .ok (.iload_n 1, 1) := by decide +kernel
theorem dX11_given_40 : decode cX11_given 40 = .ok (.invokevirtual 143, 3) := by decide +kernel
theorem dX11_given_43 : decode cX11_given 43 = .ok (.ifCond .eq 20, 3) := by decide +kernel
theorem dX11_given_46 : decode cX11_given 46 = .ok (.aload_n 0, 1) := by decide +kernel
theorem dX11_given_47 : decode cX11_given 47 = .ok (.sipush 169, 3) := by decide +kernel
theorem dX11_given_50 : decode cX11_given 50 = .ok (.bipush 52, 2) := by decide +kernel
theorem dX11_given_52 : decode cX11_given 52 = .ok (.iload_n 1, 1) := by decide +kernel
theorem dX11_given_53 : decode cX11_given 53 = .ok (.imul, 1) := by decide +kernel
theorem dX11_given_54 : decode cX11_given 54 = .ok (.iadd, 1) := by decide +kernel
theorem dX11_given_55 : decode cX11_given 55 = .ok (.iconst 1, 1) := by decide +kernel
theorem dX11_given_56 : decode cX11_given 56 = .ok (.iadd, 1) := by decide +kernel
theorem dX11_given_57 : decode cX11_given 57 = .ok (.invokevirtual 146, 3) := by decide +kernel
theorem dX11_given_60 : decode cX11_given 60 = .ok (.goto 5, 3) := by decide +kernel
theorem dX11_given_63 : decode cX11_given 63 = .ok (.iload 5, 2) := by decide +kernel
theorem dX11_given_65 : decode cX11_given 65 = .ok (.iconst 0, 1) := by decide +kernel
theorem dX11_given_66 : decode cX11_given 66 = .ok (.iload_n 1, 1) := by decide +kernel
theorem dX11_given_67 : decode cX11_given 67 = .ok (.ifCond .ne 8, 3) := by decide +kernel
theorem dX11_given_70 : decode cX11_given 70 = .ok (.bipush 99, 2) := by decide +kernel
theorem dX11_given_72 : decode cX11_given 72 = .ok (.goto 4, 3) := by decide +kernel
theorem dX11_given_75 : decode cX11_given 75 = .ok (.iconst 1, 1) := by decide +kernel
theorem dX11_given_76 : decode cX11_given 76 = .ok (.invokestatic 149, 3) := by decide +kernel
theorem dX11_given_79 : decode cX11_given 79 = .ok (.ireturn, 1) := by decide +kernel
theorem dX11_law_0 : decode cX11_law 0 = .ok (.iload_n 1, 1) := by decide +kernel
theorem dX11_law_1 : decode cX11_law 1 = .ok (.iconst 0, 1) := by decide +kernel
theorem dX11_law_2 : decode cX11_law 2 = .ok (.iconst 1, 1) := by decide +kernel
theorem dX11_law_3 : decode cX11_law 3 = .ok (.invokestatic 70, 3) := by decide +kernel
theorem dX11_law_6 : decode cX11_law 6 = .ok (.ifCond .eq 15, 3) := by decide +kernel
theorem dX11_law_9 : decode cX11_law 9 = .ok (.aload_n 0, 1) := by decide +kernel
theorem dX11_law_10 : decode cX11_law 10 = .ok (.iload_n 1, 1) := by decide +kernel
theorem dX11_law_11 : decode cX11_law 11 = .ok (.iload_n 2, 1) := by decide +kernel
theorem dX11_law_12 : decode cX11_law 12 = .ok (.iload_n 3, 1) := by decide +kernel
theorem dX11_law_13 : decode cX11_law 13 = .ok (.iload 4, 2) := by decide +kernel
theorem dX11_law_15 : decode cX11_law 15 = .ok (.invokevirtual 152, 3) := by decide +kernel
theorem dX11_law_18 : decode cX11_law 18 = .ok (.goto 9, 3) := by decide +kernel
theorem dX11_law_21 : decode cX11_law 21 = .ok (.aload_n 0, 1) := by decide +kernel
theorem dX11_law_22 : decode cX11_law 22 = .ok (.ldc 74, 2) := by decide +kernel
theorem dX11_law_24 : decode cX11_law 24 = .ok (.invokevirtual 75, 3) := by decide +kernel
theorem dX11_law_27 : decode cX11_law 27 = .ok (.ireturn, 1) := by decide +kernel
theorem dX11_hasBit_0 : decode cX11_hasBit 0 = .ok (.iload_n 0, 1) := by decide +kernel
theorem dX11_hasBit_1 : decode cX11_hasBit 1 = .ok (.iload_n 1, 1) := by decide +kernel
theorem dX11_hasBit_2 : decode cX11_hasBit 2 = .ok (.ishr, 1) := by decide +kernel
theorem dX11_hasBit_3 : decode cX11_hasBit 3 = .ok (.iconst 1, 1) := by decide +kernel
theorem dX11_hasBit_4 : decode cX11_hasBit 4 = .ok (.iand, 1) := by decide +kernel
theorem dX11_hasBit_5 : decode cX11_hasBit 5 = .ok (.iconst 1, 1) := by decide +kernel
theorem dX11_hasBit_6 : decode cX11_hasBit 6 = .ok (.if_icmp .ne 7, 3) := by decide +kernel
theorem dX11_hasBit_9 : decode cX11_hasBit 9 = .ok (.iconst 1, 1) := by decide +kernel
theorem dX11_hasBit_10 : decode cX11_hasBit 10 = .ok (.goto 4, 3) := by decide +kernel
theorem dX11_hasBit_13 : decode cX11_hasBit 13 = .ok (.iconst 0, 1) := by decide +kernel
theorem dX11_hasBit_14 : decode cX11_hasBit 14 = .ok (.ireturn, 1) := by decide +kernel
theorem dX11_bits_0 : decode cX11_bits 0 = .ok (.iconst 0, 1) := by decide +kernel
theorem dX11_bits_1 : decode cX11_bits 1 = .ok (.istore_n 1, 1) := by decide +kernel
theorem dX11_bits_2 : decode cX11_bits 2 = .ok (.iload_n 0, 1) := by decide +kernel
theorem dX11_bits_3 : decode cX11_bits 3 = .ok (.istore_n 2, 1) := by decide +kernel
theorem dX11_bits_4 : decode cX11_bits 4 = .ok (.iload_n 2, 1) := by decide +kernel
theorem dX11_bits_5 : decode cX11_bits 5 = .ok (.ifCond .eq 15, 3) := by decide +kernel
theorem dX11_bits_8 : decode cX11_bits 8 = .ok (.iinc 1 1, 3) := by decide +kernel
theorem dX11_bits_11 : decode cX11_bits 11 = .ok (.iload_n 2, 1) := by decide +kernel
theorem dX11_bits_12 : decode cX11_bits 12 = .ok (.iload_n 2, 1) := by decide +kernel
theorem dX11_bits_13 : decode cX11_bits 13 = .ok (.iconst 1, 1) := by decide +kernel
theorem dX11_bits_14 : decode cX11_bits 14 = .ok (.isub, 1) := by decide +kernel
theorem dX11_bits_15 : decode cX11_bits 15 = .ok (.iand, 1) := by decide +kernel
theorem dX11_bits_16 : decode cX11_bits 16 = .ok (.istore_n 2, 1) := by decide +kernel
theorem dX11_bits_17 : decode cX11_bits 17 = .ok (.goto (-13), 3) := by decide +kernel
theorem dX11_bits_20 : decode cX11_bits 20 = .ok (.iload_n 1, 1) := by decide +kernel
theorem dX11_bits_21 : decode cX11_bits 21 = .ok (.ireturn, 1) := by decide +kernel
theorem dX11_isWell_0 : decode cX11_isWell 0 = .ok (.iload_n 1, 1) := by decide +kernel
theorem dX11_isWell_1 : decode cX11_isWell 1 = .ok (.iconst 0, 1) := by decide +kernel
theorem dX11_isWell_2 : decode cX11_isWell 2 = .ok (.aload_n 0, 1) := by decide +kernel
theorem dX11_isWell_3 : decode cX11_isWell 3 = .ok (.getfield 9, 3) := by decide +kernel
theorem dX11_isWell_6 : decode cX11_isWell 6 = .ok (.iconst 1, 1) := by decide +kernel
theorem dX11_isWell_7 : decode cX11_isWell 7 = .ok (.iaload, 1) := by decide +kernel
theorem dX11_isWell_8 : decode cX11_isWell 8 = .ok (.iconst 1, 1) := by decide +kernel
theorem dX11_isWell_9 : decode cX11_isWell 9 = .ok (.isub, 1) := by decide +kernel
theorem dX11_isWell_10 : decode cX11_isWell 10 = .ok (.invokestatic 70, 3) := by decide +kernel
theorem dX11_isWell_13 : decode cX11_isWell 13 = .ok (.ireturn, 1) := by decide +kernel
theorem dX11_isWay_0 : decode cX11_isWay 0 = .ok (.iload_n 1, 1) := by decide +kernel
theorem dX11_isWay_1 : decode cX11_isWay 1 = .ok (.iconst 0, 1) := by decide +kernel
theorem dX11_isWay_2 : decode cX11_isWay 2 = .ok (.aload_n 0, 1) := by decide +kernel
theorem dX11_isWay_3 : decode cX11_isWay 3 = .ok (.getfield 9, 3) := by decide +kernel
theorem dX11_isWay_6 : decode cX11_isWay 6 = .ok (.iconst 2, 1) := by decide +kernel
theorem dX11_isWay_7 : decode cX11_isWay 7 = .ok (.iaload, 1) := by decide +kernel
theorem dX11_isWay_8 : decode cX11_isWay 8 = .ok (.iconst 1, 1) := by decide +kernel
theorem dX11_isWay_9 : decode cX11_isWay 9 = .ok (.isub, 1) := by decide +kernel
theorem dX11_isWay_10 : decode cX11_isWay 10 = .ok (.invokestatic 70, 3) := by decide +kernel
theorem dX11_isWay_13 : decode cX11_isWay 13 = .ok (.ireturn, 1) := by decide +kernel
theorem dX11_isSaying_0 : decode cX11_isSaying 0 = .ok (.iload_n 1, 1) := by decide +kernel
theorem dX11_isSaying_1 : decode cX11_isSaying 1 = .ok (.iconst 0, 1) := by decide +kernel
theorem dX11_isSaying_2 : decode cX11_isSaying 2 = .ok (.aload_n 0, 1) := by decide +kernel
theorem dX11_isSaying_3 : decode cX11_isSaying 3 = .ok (.getfield 9, 3) := by decide +kernel
theorem dX11_isSaying_6 : decode cX11_isSaying 6 = .ok (.iconst 3, 1) := by decide +kernel
theorem dX11_isSaying_7 : decode cX11_isSaying 7 = .ok (.iaload, 1) := by decide +kernel
theorem dX11_isSaying_8 : decode cX11_isSaying 8 = .ok (.iconst 1, 1) := by decide +kernel
theorem dX11_isSaying_9 : decode cX11_isSaying 9 = .ok (.isub, 1) := by decide +kernel
theorem dX11_isSaying_10 : decode cX11_isSaying 10 = .ok (.invokestatic 70, 3) := by decide +kernel
theorem dX11_isSaying_13 : decode cX11_isSaying 13 = .ok (.ireturn, 1) := by decide +kernel
theorem dX11_isOne_0 : decode cX11_isOne 0 = .ok (.iload_n 1, 1) := by decide +kernel
theorem dX11_isOne_1 : decode cX11_isOne 1 = .ok (.iconst 0, 1) := by decide +kernel
theorem dX11_isOne_2 : decode cX11_isOne 2 = .ok (.aload_n 0, 1) := by decide +kernel
theorem dX11_isOne_3 : decode cX11_isOne 3 = .ok (.getfield 9, 3) := by decide +kernel
theorem dX11_isOne_6 : decode cX11_isOne 6 = .ok (.iconst 4, 1) := by decide +kernel
theorem dX11_isOne_7 : decode cX11_isOne 7 = .ok (.iaload, 1) := by decide +kernel
theorem dX11_isOne_8 : decode cX11_isOne 8 = .ok (.iconst 1, 1) := by decide +kernel
theorem dX11_isOne_9 : decode cX11_isOne 9 = .ok (.isub, 1) := by decide +kernel
theorem dX11_isOne_10 : decode cX11_isOne 10 = .ok (.invokestatic 70, 3) := by decide +kernel
theorem dX11_isOne_13 : decode cX11_isOne 13 = .ok (.ireturn, 1) := by decide +kernel
theorem dX11_isStrength_0 : decode cX11_isStrength 0 = .ok (.iload_n 0, 1) := by decide +kernel
theorem dX11_isStrength_1 : decode cX11_isStrength 1 = .ok (.iconst 0, 1) := by decide +kernel
theorem dX11_isStrength_2 : decode cX11_isStrength 2 = .ok (.bipush 99, 2) := by decide +kernel
theorem dX11_isStrength_4 : decode cX11_isStrength 4 = .ok (.invokestatic 70, 3) := by decide +kernel
theorem dX11_isStrength_7 : decode cX11_isStrength 7 = .ok (.ireturn, 1) := by decide +kernel
theorem dX11_wayAt_0 : decode cX11_wayAt 0 = .ok (.bipush 9, 2) := by decide +kernel
theorem dX11_wayAt_2 : decode cX11_wayAt 2 = .ok (.iconst 4, 1) := by decide +kernel
theorem dX11_wayAt_3 : decode cX11_wayAt 3 = .ok (.iload_n 0, 1) := by decide +kernel
theorem dX11_wayAt_4 : decode cX11_wayAt 4 = .ok (.imul, 1) := by decide +kernel
theorem dX11_wayAt_5 : decode cX11_wayAt 5 = .ok (.iadd, 1) := by decide +kernel
theorem dX11_wayAt_6 : decode cX11_wayAt 6 = .ok (.iload_n 1, 1) := by decide +kernel
theorem dX11_wayAt_7 : decode cX11_wayAt 7 = .ok (.iadd, 1) := by decide +kernel
theorem dX11_wayAt_8 : decode cX11_wayAt 8 = .ok (.ireturn, 1) := by decide +kernel
theorem dX11_wayIs_0 : decode cX11_wayIs 0 = .ok (.aload_n 0, 1) := by decide +kernel
theorem dX11_wayIs_1 : decode cX11_wayIs 1 = .ok (.getfield 9, 3) := by decide +kernel
theorem dX11_wayIs_4 : decode cX11_wayIs 4 = .ok (.iload_n 1, 1) := by decide +kernel
theorem dX11_wayIs_5 : decode cX11_wayIs 5 = .ok (.iload_n 2, 1) := by decide +kernel
theorem dX11_wayIs_6 : decode cX11_wayIs 6 = .ok (.invokestatic 156, 3) := by decide +kernel
theorem dX11_wayIs_9 : decode cX11_wayIs 9 = .ok (.iaload, 1) := by decide +kernel
theorem dX11_wayIs_10 : decode cX11_wayIs 10 = .ok (.ireturn, 1) := by decide +kernel
theorem dX11_sayingAt_0 : decode cX11_sayingAt 0 = .ok (.bipush 41, 2) := by decide +kernel
theorem dX11_sayingAt_2 : decode cX11_sayingAt 2 = .ok (.iconst 5, 1) := by decide +kernel
theorem dX11_sayingAt_3 : decode cX11_sayingAt 3 = .ok (.iload_n 0, 1) := by decide +kernel
theorem dX11_sayingAt_4 : decode cX11_sayingAt 4 = .ok (.imul, 1) := by decide +kernel
theorem dX11_sayingAt_5 : decode cX11_sayingAt 5 = .ok (.iadd, 1) := by decide +kernel
theorem dX11_sayingAt_6 : decode cX11_sayingAt 6 = .ok (.iload_n 1, 1) := by decide +kernel
theorem dX11_sayingAt_7 : decode cX11_sayingAt 7 = .ok (.iadd, 1) := by decide +kernel
theorem dX11_sayingAt_8 : decode cX11_sayingAt 8 = .ok (.ireturn, 1) := by decide +kernel
theorem dX11_sayingIs_0 : decode cX11_sayingIs 0 = .ok (.aload_n 0, 1) := by decide +kernel
theorem dX11_sayingIs_1 : decode cX11_sayingIs 1 = .ok (.getfield 9, 3) := by decide +kernel
theorem dX11_sayingIs_4 : decode cX11_sayingIs 4 = .ok (.iload_n 1, 1) := by decide +kernel
theorem dX11_sayingIs_5 : decode cX11_sayingIs 5 = .ok (.iload_n 2, 1) := by decide +kernel
theorem dX11_sayingIs_6 : decode cX11_sayingIs 6 = .ok (.invokestatic 159, 3) := by decide +kernel
theorem dX11_sayingIs_9 : decode cX11_sayingIs 9 = .ok (.iaload, 1) := by decide +kernel
theorem dX11_sayingIs_10 : decode cX11_sayingIs 10 = .ok (.ireturn, 1) := by decide +kernel
theorem dX11_folkAt_0 : decode cX11_folkAt 0 = .ok (.bipush 81, 2) := by decide +kernel
theorem dX11_folkAt_2 : decode cX11_folkAt 2 = .ok (.iconst 3, 1) := by decide +kernel
theorem dX11_folkAt_3 : decode cX11_folkAt 3 = .ok (.iload_n 0, 1) := by decide +kernel
theorem dX11_folkAt_4 : decode cX11_folkAt 4 = .ok (.imul, 1) := by decide +kernel
theorem dX11_folkAt_5 : decode cX11_folkAt 5 = .ok (.iadd, 1) := by decide +kernel
theorem dX11_folkAt_6 : decode cX11_folkAt 6 = .ok (.iload_n 1, 1) := by decide +kernel
theorem dX11_folkAt_7 : decode cX11_folkAt 7 = .ok (.iadd, 1) := by decide +kernel
theorem dX11_folkAt_8 : decode cX11_folkAt 8 = .ok (.ireturn, 1) := by decide +kernel
theorem dX11_folkIs_0 : decode cX11_folkIs 0 = .ok (.aload_n 0, 1) := by decide +kernel
theorem dX11_folkIs_1 : decode cX11_folkIs 1 = .ok (.getfield 9, 3) := by decide +kernel
theorem dX11_folkIs_4 : decode cX11_folkIs 4 = .ok (.iload_n 1, 1) := by decide +kernel
theorem dX11_folkIs_5 : decode cX11_folkIs 5 = .ok (.iload_n 2, 1) := by decide +kernel
theorem dX11_folkIs_6 : decode cX11_folkIs 6 = .ok (.invokestatic 162, 3) := by decide +kernel
theorem dX11_folkIs_9 : decode cX11_folkIs 9 = .ok (.iaload, 1) := by decide +kernel
theorem dX11_folkIs_10 : decode cX11_folkIs 10 = .ok (.ireturn, 1) := by decide +kernel
theorem dX11_wells_0 : decode cX11_wells 0 = .ok (.iload_n 1, 1) := by decide +kernel
theorem dX11_wells_1 : decode cX11_wells 1 = .ok (.iconst 2, 1) := by decide +kernel
theorem dX11_wells_2 : decode cX11_wells 2 = .ok (.bipush 8, 2) := by decide +kernel
theorem dX11_wells_4 : decode cX11_wells 4 = .ok (.invokestatic 70, 3) := by decide +kernel
theorem dX11_wells_7 : decode cX11_wells 7 = .ok (.ifCond .ne 10, 3) := by decide +kernel
theorem dX11_wells_10 : decode cX11_wells 10 = .ok (.aload_n 0, 1) := by decide +kernel
theorem dX11_wells_11 : decode cX11_wells 11 = .ok (.ldc 74, 2) := by decide +kernel
theorem dX11_wells_13 : decode cX11_wells 13 = .ok (.invokevirtual 75, 3) := by decide +kernel
theorem dX11_wells_16 : decode cX11_wells 16 = .ok (.ireturn, 1) := by decide +kernel
theorem dX11_wells_17 : decode cX11_wells 17 = .ok (.aload_n 0, 1) := by decide +kernel
theorem dX11_wells_18 : decode cX11_wells 18 = .ok (.getfield 9, 3) := by decide +kernel
theorem dX11_wells_21 : decode cX11_wells 21 = .ok (.iconst 2, 1) := by decide +kernel
theorem dX11_wells_22 : decode cX11_wells 22 = .ok (.iaload, 1) := by decide +kernel
theorem dX11_wells_23 : decode cX11_wells 23 = .ok (.aload_n 0, 1) := by decide +kernel
theorem dX11_wells_24 : decode cX11_wells 24 = .ok (.getfield 9, 3) := by decide +kernel
theorem dX11_wells_27 : decode cX11_wells 27 = .ok (.iconst 3, 1) := by decide +kernel
theorem dX11_wells_28 : decode cX11_wells 28 = .ok (.iaload, 1) := by decide +kernel
theorem dX11_wells_29 : decode cX11_wells 29 = .ok (.iadd, 1) := by decide +kernel
theorem dX11_wells_30 : decode cX11_wells 30 = .ok (.aload_n 0, 1) := by decide +kernel
theorem dX11_wells_31 : decode cX11_wells 31 = .ok (.getfield 9, 3) := by decide +kernel
theorem dX11_wells_34 : decode cX11_wells 34 = .ok (.iconst 4, 1) := by decide +kernel
theorem dX11_wells_35 : decode cX11_wells 35 = .ok (.iaload, 1) := by decide +kernel
theorem dX11_wells_36 : decode cX11_wells 36 = .ok (.iadd, 1) := by decide +kernel
theorem dX11_wells_37 : decode cX11_wells 37 = .ok (.ifCond .le 12, 3) := by decide +kernel
theorem dX11_wells_40 : decode cX11_wells 40 = .ok (.aload_n 0, 1) := by decide +kernel
theorem dX11_wells_41 : decode cX11_wells 41 = .ok (.ldc 165, 2) := by decide +kernel
theorem dX11_wells_43 : decode cX11_wells 43 = .ok (.invokevirtual 75, 3) := by decide +kernel
theorem dX11_wells_46 : decode cX11_wells 46 = .ok (.goto 9, 3) := by decide +kernel
theorem dX11_wells_49 : decode cX11_wells 49 = .ok (.aload_n 0, 1) := by decide +kernel
theorem dX11_wells_50 : decode cX11_wells 50 = .ok (.iconst 1, 1) := by decide +kernel
theorem dX11_wells_51 : decode cX11_wells 51 = .ok (.iload_n 1, 1) := by decide +kernel
theorem dX11_wells_52 : decode cX11_wells 52 = .ok (.invokevirtual 166, 3) := by decide +kernel
theorem dX11_wells_55 : decode cX11_wells 55 = .ok (.ireturn, 1) := by decide +kernel
theorem dX11_wayComes_0 : decode cX11_wayComes 0 = .ok (.aload_n 0, 1) := by decide +kernel
theorem dX11_wayComes_1 : decode cX11_wayComes 1 = .ok (.getfield 9, 3) := by decide +kernel
theorem dX11_wayComes_4 : decode cX11_wayComes 4 = .ok (.iconst 2, 1) := by decide +kernel
theorem dX11_wayComes_5 : decode cX11_wayComes 5 = .ok (.iaload, 1) := by decide +kernel
theorem dX11_wayComes_6 : decode cX11_wayComes 6 = .ok (.istore 4, 2) := by decide +kernel
theorem dX11_wayComes_8 : decode cX11_wayComes 8 = .ok (.aload_n 0, 1) := by decide +kernel
theorem dX11_wayComes_9 : decode cX11_wayComes 9 = .ok (.getfield 9, 3) := by decide +kernel
theorem dX11_wayComes_12 : decode cX11_wayComes 12 = .ok (.iload 4, 2) := by decide +kernel
theorem dX11_wayComes_14 : decode cX11_wayComes 14 = .ok (.iconst 0, 1) := by decide +kernel
theorem dX11_wayComes_15 : decode cX11_wayComes 15 = .ok (.invokestatic 156, 3) := by decide +kernel
theorem dX11_wayComes_18 : decode cX11_wayComes 18 = .ok (.iload_n 1, 1) := by decide +kernel
theorem dX11_wayComes_19 : decode cX11_wayComes 19 = .ok (.iastore, 1) := by decide +kernel
theorem dX11_wayComes_20 : decode cX11_wayComes 20 = .ok (.aload_n 0, 1) := by decide +kernel
theorem dX11_wayComes_21 : decode cX11_wayComes 21 = .ok (.getfield 9, 3) := by decide +kernel
theorem dX11_wayComes_24 : decode cX11_wayComes 24 = .ok (.iload 4, 2) := by decide +kernel
theorem dX11_wayComes_26 : decode cX11_wayComes 26 = .ok (.iconst 1, 1) := by decide +kernel
theorem dX11_wayComes_27 : decode cX11_wayComes 27 = .ok (.invokestatic 156, 3) := by decide +kernel
theorem dX11_wayComes_30 : decode cX11_wayComes 30 = .ok (.iload_n 2, 1) := by decide +kernel
theorem dX11_wayComes_31 : decode cX11_wayComes 31 = .ok (.iastore, 1) := by decide +kernel
theorem dX11_wayComes_32 : decode cX11_wayComes 32 = .ok (.aload_n 0, 1) := by decide +kernel
theorem dX11_wayComes_33 : decode cX11_wayComes 33 = .ok (.getfield 9, 3) := by decide +kernel
theorem dX11_wayComes_36 : decode cX11_wayComes 36 = .ok (.iload 4, 2) := by decide +kernel
theorem dX11_wayComes_38 : decode cX11_wayComes 38 = .ok (.iconst 2, 1) := by decide +kernel
theorem dX11_wayComes_39 : decode cX11_wayComes 39 = .ok (.invokestatic 156, 3) := by decide +kernel
theorem dX11_wayComes_42 : decode cX11_wayComes 42 = .ok (.iload_n 3, 1) := by decide +kernel
theorem dX11_wayComes_43 : decode cX11_wayComes 43 = .ok (.iastore, 1) := by decide +kernel
theorem dX11_wayComes_44 : decode cX11_wayComes 44 = .ok (.aload_n 0, 1) := by decide +kernel
theorem dX11_wayComes_45 : decode cX11_wayComes 45 = .ok (.getfield 9, 3) := by decide +kernel
theorem dX11_wayComes_48 : decode cX11_wayComes 48 = .ok (.iload 4, 2) := by decide +kernel
theorem dX11_wayComes_50 : decode cX11_wayComes 50 = .ok (.iconst 3, 1) := by decide +kernel
theorem dX11_wayComes_51 : decode cX11_wayComes 51 = .ok (.invokestatic 156, 3) := by decide +kernel
theorem dX11_wayComes_54 : decode cX11_wayComes 54 = .ok (.iconst 0, 1) := by decide +kernel
theorem dX11_wayComes_55 : decode cX11_wayComes 55 = .ok (.iastore, 1) := by decide +kernel
theorem dX11_wayComes_56 : decode cX11_wayComes 56 = .ok (.aload_n 0, 1) := by decide +kernel
theorem dX11_wayComes_57 : decode cX11_wayComes 57 = .ok (.getfield 9, 3) := by decide +kernel
theorem dX11_wayComes_60 : decode cX11_wayComes 60 = .ok (.iconst 2, 1) := by decide +kernel
theorem dX11_wayComes_61 : decode cX11_wayComes 61 = .ok (.dup2, 1) := by decide +kernel
theorem dX11_wayComes_62 : decode cX11_wayComes 62 = .ok (.iaload, 1) := by decide +kernel
theorem dX11_wayComes_63 : decode cX11_wayComes 63 = .ok (.iconst 1, 1) := by decide +kernel
theorem dX11_wayComes_64 : decode cX11_wayComes 64 = .ok (.iadd, 1) := by decide +kernel
theorem dX11_wayComes_65 : decode cX11_wayComes 65 = .ok (.iastore, 1) := by decide +kernel
theorem dX11_wayComes_66 : decode cX11_wayComes 66 = .ok (.iload 4, 2) := by decide +kernel
theorem dX11_wayComes_68 : decode cX11_wayComes 68 = .ok (.ireturn, 1) := by decide +kernel
theorem dX11_way_0 : decode cX11_way 0 = .ok (.aload_n 0, 1) := by decide +kernel
theorem dX11_way_1 : decode cX11_way 1 = .ok (.iload_n 1, 1) := by decide +kernel
theorem dX11_way_2 : decode cX11_way 2 = .ok (.invokevirtual 169, 3) := by decide +kernel
theorem dX11_way_5 : decode cX11_way 5 = .ok (.ifCond .eq 26, 3) := by decide +kernel
theorem dX11_way_8 : decode cX11_way 8 = .ok (.aload_n 0, 1) := by decide +kernel
theorem dX11_way_9 : decode cX11_way 9 = .ok (.iload_n 2, 1) := by decide +kernel
theorem dX11_way_10 : decode cX11_way 10 = .ok (.invokevirtual 169, 3) := by decide +kernel
theorem dX11_way_13 : decode cX11_way 13 = .ok (.ifCond .eq 18, 3) := by decide +kernel
theorem dX11_way_16 : decode cX11_way 16 = .ok (.iload_n 1, 1) := by decide +kernel
theorem dX11_way_17 : decode cX11_way 17 = .ok (.iload_n 2, 1) := by decide +kernel
theorem dX11_way_18 : decode cX11_way 18 = .ok (.if_icmp .eq 13, 3) := by decide +kernel
theorem dX11_way_21 : decode cX11_way 21 = .ok (.iload_n 3, 1) := by decide +kernel
theorem dX11_way_22 : decode cX11_way 22 = .ok (.iconst 1, 1) := by decide +kernel
theorem dX11_way_23 : decode cX11_way 23 = .ok (.bipush 9, 2) := by decide +kernel
theorem dX11_way_25 : decode cX11_way 25 = .ok (.invokestatic 70, 3) := by decide +kernel
theorem dX11_way_28 : decode cX11_way 28 = .ok (.ifCond .ne 10, 3) := by decide +kernel
theorem dX11_way_31 : decode cX11_way 31 = .ok (.aload_n 0, 1) := by decide +kernel
theorem dX11_way_32 : decode cX11_way 32 = .ok (.ldc 74, 2) := by decide +kernel
theorem dX11_way_34 : decode cX11_way 34 = .ok (.invokevirtual 75, 3) := by decide +kernel
theorem dX11_way_37 : decode cX11_way 37 = .ok (.ireturn, 1) := by decide +kernel
theorem dX11_way_38 : decode cX11_way 38 = .ok (.aload_n 0, 1) := by decide +kernel
theorem dX11_way_39 : decode cX11_way 39 = .ok (.getfield 9, 3) := by decide +kernel
theorem dX11_way_42 : decode cX11_way 42 = .ok (.iconst 2, 1) := by decide +kernel
theorem dX11_way_43 : decode cX11_way 43 = .ok (.iaload, 1) := by decide +kernel
theorem dX11_way_44 : decode cX11_way 44 = .ok (.bipush 8, 2) := by decide +kernel
theorem dX11_way_46 : decode cX11_way 46 = .ok (.if_icmp .ne 12, 3) := by decide +kernel
theorem dX11_way_49 : decode cX11_way 49 = .ok (.aload_n 0, 1) := by decide +kernel
theorem dX11_way_50 : decode cX11_way 50 = .ok (.ldc 79, 2) := by decide +kernel
theorem dX11_way_52 : decode cX11_way 52 = .ok (.invokevirtual 75, 3) := by decide +kernel
theorem dX11_way_55 : decode cX11_way 55 = .ok (.goto 10, 3) := by decide +kernel
theorem dX11_way_58 : decode cX11_way 58 = .ok (.aload_n 0, 1) := by decide +kernel
theorem dX11_way_59 : decode cX11_way 59 = .ok (.iload_n 1, 1) := by decide +kernel
theorem dX11_way_60 : decode cX11_way 60 = .ok (.iload_n 2, 1) := by decide +kernel
theorem dX11_way_61 : decode cX11_way 61 = .ok (.iload_n 3, 1) := by decide +kernel
theorem dX11_way_62 : decode cX11_way 62 = .ok (.invokevirtual 172, 3) := by decide +kernel
theorem dX11_way_65 : decode cX11_way 65 = .ok (.ireturn, 1) := by decide +kernel
theorem dX11_ofWay_0 : decode cX11_ofWay 0 = .ok (.aload_n 0, 1) := by decide +kernel
theorem dX11_ofWay_1 : decode cX11_ofWay 1 = .ok (.iload_n 1, 1) := by decide +kernel
theorem dX11_ofWay_2 : decode cX11_ofWay 2 = .ok (.invokevirtual 175, 3) := by decide +kernel
theorem dX11_ofWay_5 : decode cX11_ofWay 5 = .ok (.ifCond .eq 21, 3) := by decide +kernel
theorem dX11_ofWay_8 : decode cX11_ofWay 8 = .ok (.iload_n 2, 1) := by decide +kernel
theorem dX11_ofWay_9 : decode cX11_ofWay 9 = .ok (.iconst 0, 1) := by decide +kernel
theorem dX11_ofWay_10 : decode cX11_ofWay 10 = .ok (.iconst 3, 1) := by decide +kernel
theorem dX11_ofWay_11 : decode cX11_ofWay 11 = .ok (.invokestatic 70, 3) := by decide +kernel
theorem dX11_ofWay_14 : decode cX11_ofWay 14 = .ok (.ifCond .eq 12, 3) := by decide +kernel
theorem dX11_ofWay_17 : decode cX11_ofWay 17 = .ok (.aload_n 0, 1) := by decide +kernel
theorem dX11_ofWay_18 : decode cX11_ofWay 18 = .ok (.iload_n 1, 1) := by decide +kernel
theorem dX11_ofWay_19 : decode cX11_ofWay 19 = .ok (.iload_n 2, 1) := by decide +kernel
theorem dX11_ofWay_20 : decode cX11_ofWay 20 = .ok (.invokevirtual 178, 3) := by decide +kernel
theorem dX11_ofWay_23 : decode cX11_ofWay 23 = .ok (.goto 9, 3) := by decide +kernel
theorem dX11_ofWay_26 : decode cX11_ofWay 26 = .ok (.aload_n 0, 1) := by decide +kernel
theorem dX11_ofWay_27 : decode cX11_ofWay 27 = .ok (.ldc 74, 2) := by decide +kernel
theorem dX11_ofWay_29 : decode cX11_ofWay 29 = .ok (.invokevirtual 75, 3) := by decide +kernel
theorem dX11_ofWay_32 : decode cX11_ofWay 32 = .ok (.ireturn, 1) := by decide +kernel
theorem dX11_stop_0 : decode cX11_stop 0 = .ok (.aload_n 0, 1) := by decide +kernel
theorem dX11_stop_1 : decode cX11_stop 1 = .ok (.iload_n 1, 1) := by decide +kernel
theorem dX11_stop_2 : decode cX11_stop 2 = .ok (.invokevirtual 175, 3) := by decide +kernel
theorem dX11_stop_5 : decode cX11_stop 5 = .ok (.ifCond .eq 25, 3) := by decide +kernel
theorem dX11_stop_8 : decode cX11_stop 8 = .ok (.iload_n 2, 1) := by decide +kernel
theorem dX11_stop_9 : decode cX11_stop 9 = .ok (.iconst 0, 1) := by decide +kernel
theorem dX11_stop_10 : decode cX11_stop 10 = .ok (.iconst 1, 1) := by decide +kernel
theorem dX11_stop_11 : decode cX11_stop 11 = .ok (.invokestatic 70, 3) := by decide +kernel
theorem dX11_stop_14 : decode cX11_stop 14 = .ok (.ifCond .eq 16, 3) := by decide +kernel
theorem dX11_stop_17 : decode cX11_stop 17 = .ok (.aload_n 0, 1) := by decide +kernel
theorem dX11_stop_18 : decode cX11_stop 18 = .ok (.iload_n 1, 1) := by decide +kernel
theorem dX11_stop_19 : decode cX11_stop 19 = .ok (.iconst 3, 1) := by decide +kernel
theorem dX11_stop_20 : decode cX11_stop 20 = .ok (.invokestatic 156, 3) := by decide +kernel
theorem dX11_stop_23 : decode cX11_stop 23 = .ok (.iload_n 2, 1) := by decide +kernel
theorem dX11_stop_24 : decode cX11_stop 24 = .ok (.invokevirtual 166, 3) := by decide +kernel
theorem dX11_stop_27 : decode cX11_stop 27 = .ok (.goto 9, 3) := by decide +kernel
theorem dX11_stop_30 : decode cX11_stop 30 = .ok (.aload_n 0, 1) := by decide +kernel
theorem dX11_stop_31 : decode cX11_stop 31 = .ok (.ldc 74, 2) := by decide +kernel
theorem dX11_stop_33 : decode cX11_stop 33 = .ok (.invokevirtual 75, 3) := by decide +kernel
theorem dX11_stop_36 : decode cX11_stop 36 = .ok (.ireturn, 1) := by decide +kernel
theorem dX11_rain_0 : decode cX11_rain 0 = .ok (.iload_n 1, 1) := by decide +kernel
theorem dX11_rain_1 : decode cX11_rain 1 = .ok (.iconst 0, 1) := by decide +kernel
theorem dX11_rain_2 : decode cX11_rain 2 = .ok (.bipush 9, 2) := by decide +kernel
theorem dX11_rain_4 : decode cX11_rain 4 = .ok (.invokestatic 70, 3) := by decide +kernel
theorem dX11_rain_7 : decode cX11_rain 7 = .ok (.ifCond .eq 12, 3) := by decide +kernel
theorem dX11_rain_10 : decode cX11_rain 10 = .ok (.aload_n 0, 1) := by decide +kernel
theorem dX11_rain_11 : decode cX11_rain 11 = .ok (.iconst 5, 1) := by decide +kernel
theorem dX11_rain_12 : decode cX11_rain 12 = .ok (.iload_n 1, 1) := by decide +kernel
theorem dX11_rain_13 : decode cX11_rain 13 = .ok (.invokevirtual 166, 3) := by decide +kernel
theorem dX11_rain_16 : decode cX11_rain 16 = .ok (.goto 9, 3) := by decide +kernel
theorem dX11_rain_19 : decode cX11_rain 19 = .ok (.aload_n 0, 1) := by decide +kernel
theorem dX11_rain_20 : decode cX11_rain 20 = .ok (.ldc 74, 2) := by decide +kernel
theorem dX11_rain_22 : decode cX11_rain 22 = .ok (.invokevirtual 75, 3) := by decide +kernel
theorem dX11_rain_25 : decode cX11_rain 25 = .ok (.ireturn, 1) := by decide +kernel
theorem dX11_isKindM_0 : decode cX11_isKindM 0 = .ok (.iload_n 0, 1) := by decide +kernel
theorem dX11_isKindM_1 : decode cX11_isKindM 1 = .ok (.iconst 0, 1) := by decide +kernel
theorem dX11_isKindM_2 : decode cX11_isKindM 2 = .ok (.bipush 69, 2) := by decide +kernel
theorem dX11_isKindM_4 : decode cX11_isKindM 4 = .ok (.invokestatic 70, 3) := by decide +kernel
theorem dX11_isKindM_7 : decode cX11_isKindM 7 = .ok (.ireturn, 1) := by decide +kernel
theorem dX11_sayingComes_0 : decode cX11_sayingComes 0 = .ok (.aload_n 0, 1) := by decide +kernel
theorem dX11_sayingComes_1 : decode cX11_sayingComes 1 = .ok (.getfield 9, 3) := by decide +kernel
theorem dX11_sayingComes_4 : decode cX11_sayingComes 4 = .ok (.iconst 3, 1) := by decide +kernel
theorem dX11_sayingComes_5 : decode cX11_sayingComes 5 = .ok (.iaload, 1) := by decide +kernel
theorem dX11_sayingComes_6 : decode cX11_sayingComes 6 = .ok (.istore 4, 2) := by decide +kernel
theorem dX11_sayingComes_8 : decode cX11_sayingComes 8 = .ok (.aload_n 0, 1) := by decide +kernel
theorem dX11_sayingComes_9 : decode cX11_sayingComes 9 = .ok (.getfield 9, 3) := by decide +kernel
theorem dX11_sayingComes_12 : decode cX11_sayingComes 12 = .ok (.iload 4, 2) := by decide +kernel
theorem dX11_sayingComes_14 : decode cX11_sayingComes 14 = .ok (.iconst 0, 1) := by decide +kernel
theorem dX11_sayingComes_15 : decode cX11_sayingComes 15 = .ok (.invokestatic 159, 3) := by decide +kernel
theorem dX11_sayingComes_18 : decode cX11_sayingComes 18 = .ok (.iload_n 1, 1) := by decide +kernel
theorem dX11_sayingComes_19 : decode cX11_sayingComes 19 = .ok (.bipush 10, 2) := by decide +kernel
theorem dX11_sayingComes_21 : decode cX11_sayingComes 21 = .ok (.idiv, 1) := by decide +kernel
theorem dX11_sayingComes_22 : decode cX11_sayingComes 22 = .ok (.iastore, 1) := by decide +kernel
theorem dX11_sayingComes_23 : decode cX11_sayingComes 23 = .ok (.aload_n 0, 1) := by decide +kernel
theorem dX11_sayingComes_24 : decode cX11_sayingComes 24 = .ok (.getfield 9, 3) := by decide +kernel
theorem dX11_sayingComes_27 : decode cX11_sayingComes 27 = .ok (.iload 4, 2) := by decide +kernel
theorem dX11_sayingComes_29 : decode cX11_sayingComes 29 = .ok (.iconst 1, 1) := by decide +kernel
theorem dX11_sayingComes_30 : decode cX11_sayingComes 30 = .ok (.invokestatic 159, 3) := by decide +kernel
theorem dX11_sayingComes_33 : decode cX11_sayingComes 33 = .ok (.iload_n 1, 1) := by decide +kernel
theorem dX11_sayingComes_34 : decode cX11_sayingComes 34 = .ok (.bipush 10, 2) := by decide +kernel
theorem dX11_sayingComes_36 : decode cX11_sayingComes 36 = .ok (.irem, 1) := by decide +kernel
theorem dX11_sayingComes_37 : decode cX11_sayingComes 37 = .ok (.iastore, 1) := by decide +kernel
theorem dX11_sayingComes_38 : decode cX11_sayingComes 38 = .ok (.aload_n 0, 1) := by decide +kernel
theorem dX11_sayingComes_39 : decode cX11_sayingComes 39 = .ok (.getfield 9, 3) := by decide +kernel
theorem dX11_sayingComes_42 : decode cX11_sayingComes 42 = .ok (.iload 4, 2) := by decide +kernel
theorem dX11_sayingComes_44 : decode cX11_sayingComes 44 = .ok (.iconst 2, 1) := by decide +kernel
theorem dX11_sayingComes_45 : decode cX11_sayingComes 45 = .ok (.invokestatic 159, 3) := by decide +kernel
theorem dX11_sayingComes_48 : decode cX11_sayingComes 48 = .ok (.iload_n 2, 1) := by decide +kernel
theorem dX11_sayingComes_49 : decode cX11_sayingComes 49 = .ok (.iastore, 1) := by decide +kernel
theorem dX11_sayingComes_50 : decode cX11_sayingComes 50 = .ok (.aload_n 0, 1) := by decide +kernel
theorem dX11_sayingComes_51 : decode cX11_sayingComes 51 = .ok (.getfield 9, 3) := by decide +kernel
theorem dX11_sayingComes_54 : decode cX11_sayingComes 54 = .ok (.iload 4, 2) := by decide +kernel
theorem dX11_sayingComes_56 : decode cX11_sayingComes 56 = .ok (.iconst 3, 1) := by decide +kernel
theorem dX11_sayingComes_57 : decode cX11_sayingComes 57 = .ok (.invokestatic 159, 3) := by decide +kernel
theorem dX11_sayingComes_60 : decode cX11_sayingComes 60 = .ok (.iload_n 3, 1) := by decide +kernel
theorem dX11_sayingComes_61 : decode cX11_sayingComes 61 = .ok (.iastore, 1) := by decide +kernel
theorem dX11_sayingComes_62 : decode cX11_sayingComes 62 = .ok (.aload_n 0, 1) := by decide +kernel
theorem dX11_sayingComes_63 : decode cX11_sayingComes 63 = .ok (.getfield 9, 3) := by decide +kernel
theorem dX11_sayingComes_66 : decode cX11_sayingComes 66 = .ok (.iload 4, 2) := by decide +kernel
theorem dX11_sayingComes_68 : decode cX11_sayingComes 68 = .ok (.iconst 4, 1) := by decide +kernel
theorem dX11_sayingComes_69 : decode cX11_sayingComes 69 = .ok (.invokestatic 159, 3) := by decide +kernel
theorem dX11_sayingComes_72 : decode cX11_sayingComes 72 = .ok (.iconst 0, 1) := by decide +kernel
theorem dX11_sayingComes_73 : decode cX11_sayingComes 73 = .ok (.iastore, 1) := by decide +kernel
theorem dX11_sayingComes_74 : decode cX11_sayingComes 74 = .ok (.aload_n 0, 1) := by decide +kernel
theorem dX11_sayingComes_75 : decode cX11_sayingComes 75 = .ok (.getfield 9, 3) := by decide +kernel
theorem dX11_sayingComes_78 : decode cX11_sayingComes 78 = .ok (.iconst 3, 1) := by decide +kernel
theorem dX11_sayingComes_79 : decode cX11_sayingComes 79 = .ok (.dup2, 1) := by decide +kernel
theorem dX11_sayingComes_80 : decode cX11_sayingComes 80 = .ok (.iaload, 1) := by decide +kernel
theorem dX11_sayingComes_81 : decode cX11_sayingComes 81 = .ok (.iconst 1, 1) := by decide +kernel
theorem dX11_sayingComes_82 : decode cX11_sayingComes 82 = .ok (.iadd, 1) := by decide +kernel
theorem dX11_sayingComes_83 : decode cX11_sayingComes 83 = .ok (.iastore, 1) := by decide +kernel
theorem dX11_sayingComes_84 : decode cX11_sayingComes 84 = .ok (.iload 4, 2) := by decide +kernel
theorem dX11_sayingComes_86 : decode cX11_sayingComes 86 = .ok (.ireturn, 1) := by decide +kernel
theorem dX11_call_0 : decode cX11_call 0 = .ok (.iload_n 1, 1) := by decide +kernel
theorem dX11_call_1 : decode cX11_call 1 = .ok (.invokestatic 181, 3) := by decide +kernel
theorem dX11_call_4 : decode cX11_call 4 = .ok (.ifCond .eq 18, 3) := by decide +kernel
theorem dX11_call_7 : decode cX11_call 7 = .ok (.aload_n 0, 1) := by decide +kernel
theorem dX11_call_8 : decode cX11_call 8 = .ok (.iload_n 2, 1) := by decide +kernel
theorem dX11_call_9 : decode cX11_call 9 = .ok (.invokevirtual 169, 3) := by decide +kernel
theorem dX11_call_12 : decode cX11_call 12 = .ok (.ifCond .eq 10, 3) := by decide +kernel
theorem dX11_call_15 : decode cX11_call 15 = .ok (.iload_n 3, 1) := by decide +kernel
theorem dX11_call_16 : decode cX11_call 16 = .ok (.invokestatic 184, 3) := by decide +kernel
theorem dX11_call_19 : decode cX11_call 19 = .ok (.ifCond .ne 10, 3) := by decide +kernel
theorem dX11_call_22 : decode cX11_call 22 = .ok (.aload_n 0, 1) := by decide +kernel
theorem dX11_call_23 : decode cX11_call 23 = .ok (.ldc 74, 2) := by decide +kernel
theorem dX11_call_25 : decode cX11_call 25 = .ok (.invokevirtual 75, 3) := by decide +kernel
theorem dX11_call_28 : decode cX11_call 28 = .ok (.ireturn, 1) := by decide +kernel
theorem dX11_call_29 : decode cX11_call 29 = .ok (.aload_n 0, 1) := by decide +kernel
theorem dX11_call_30 : decode cX11_call 30 = .ok (.getfield 9, 3) := by decide +kernel
theorem dX11_call_33 : decode cX11_call 33 = .ok (.iconst 3, 1) := by decide +kernel
theorem dX11_call_34 : decode cX11_call 34 = .ok (.iaload, 1) := by decide +kernel
theorem dX11_call_35 : decode cX11_call 35 = .ok (.bipush 8, 2) := by decide +kernel
theorem dX11_call_37 : decode cX11_call 37 = .ok (.if_icmp .ne 12, 3) := by decide +kernel
theorem dX11_call_40 : decode cX11_call 40 = .ok (.aload_n 0, 1) := by decide +kernel
theorem dX11_call_41 : decode cX11_call 41 = .ok (.ldc 79, 2) := by decide +kernel
theorem dX11_call_43 : decode cX11_call 43 = .ok (.invokevirtual 75, 3) := by decide +kernel
theorem dX11_call_46 : decode cX11_call 46 = .ok (.goto 10, 3) := by decide +kernel
theorem dX11_call_49 : decode cX11_call 49 = .ok (.aload_n 0, 1) := by decide +kernel
theorem dX11_call_50 : decode cX11_call 50 = .ok (.iload_n 1, 1) := by decide +kernel
theorem dX11_call_51 : decode cX11_call 51 = .ok (.iload_n 2, 1) := by decide +kernel
theorem dX11_call_52 : decode cX11_call 52 = .ok (.iload_n 3, 1) := by decide +kernel
theorem dX11_call_53 : decode cX11_call 53 = .ok (.invokevirtual 187, 3) := by decide +kernel
theorem dX11_call_56 : decode cX11_call 56 = .ok (.ireturn, 1) := by decide +kernel
theorem dX11_above_0 : decode cX11_above 0 = .ok (.iload_n 0, 1) := by decide +kernel
theorem dX11_above_1 : decode cX11_above 1 = .ok (.ifCond .ne 7, 3) := by decide +kernel
theorem dX11_above_4 : decode cX11_above 4 = .ok (.iconst (-1), 1) := by decide +kernel
theorem dX11_above_5 : decode cX11_above 5 = .ok (.goto 32, 3) := by decide +kernel
theorem dX11_above_8 : decode cX11_above 8 = .ok (.iload_n 0, 1) := by decide +kernel
theorem dX11_above_9 : decode cX11_above 9 = .ok (.iconst 4, 1) := by decide +kernel
theorem dX11_above_10 : decode cX11_above 10 = .ok (.if_icmp .ne 7, 3) := by decide +kernel
theorem dX11_above_13 : decode cX11_above 13 = .ok (.iconst 1, 1) := by decide +kernel
theorem dX11_above_14 : decode cX11_above 14 = .ok (.goto 23, 3) := by decide +kernel
theorem dX11_above_17 : decode cX11_above 17 = .ok (.iload_n 0, 1) := by decide +kernel
theorem dX11_above_18 : decode cX11_above 18 = .ok (.iconst 5, 1) := by decide +kernel
theorem dX11_above_19 : decode cX11_above 19 = .ok (.if_icmp .ne 7, 3) := by decide +kernel
theorem dX11_above_22 : decode cX11_above 22 = .ok (.iconst 2, 1) := by decide +kernel
theorem dX11_above_23 : decode cX11_above 23 = .ok (.goto 14, 3) := by decide +kernel
theorem dX11_above_26 : decode cX11_above 26 = .ok (.iload_n 0, 1) := by decide +kernel
theorem dX11_above_27 : decode cX11_above 27 = .ok (.bipush 6, 2) := by decide +kernel
theorem dX11_above_29 : decode cX11_above 29 = .ok (.if_icmp .ne 7, 3) := by decide +kernel
theorem dX11_above_32 : decode cX11_above 32 = .ok (.iconst 3, 1) := by decide +kernel
theorem dX11_above_33 : decode cX11_above 33 = .ok (.goto 4, 3) := by decide +kernel
theorem dX11_above_36 : decode cX11_above 36 = .ok (.iconst 0, 1) := by decide +kernel
theorem dX11_above_37 : decode cX11_above 37 = .ok (.ireturn, 1) := by decide +kernel
theorem dX11_isUnder_0 : decode cX11_isUnder 0 = .ok (.iload_n 0, 1) := by decide +kernel
theorem dX11_isUnder_1 : decode cX11_isUnder 1 = .ok (.istore_n 2, 1) := by decide +kernel
theorem dX11_isUnder_2 : decode cX11_isUnder 2 = .ok (.iload_n 2, 1) := by decide +kernel
theorem dX11_isUnder_3 : decode cX11_isUnder 3 = .ok (.ifCond .lt 16, 3) := by decide +kernel
theorem dX11_isUnder_6 : decode cX11_isUnder 6 = .ok (.iload_n 2, 1) := by decide +kernel
theorem dX11_isUnder_7 : decode cX11_isUnder 7 = .ok (.iload_n 1, 1) := by decide +kernel
theorem dX11_isUnder_8 : decode cX11_isUnder 8 = .ok (.if_icmp .eq 11, 3) := by decide +kernel
theorem dX11_isUnder_11 : decode cX11_isUnder 11 = .ok (.iload_n 2, 1) := by decide +kernel
theorem dX11_isUnder_12 : decode cX11_isUnder 12 = .ok (.invokestatic 190, 3) := by decide +kernel
theorem dX11_isUnder_15 : decode cX11_isUnder 15 = .ok (.istore_n 2, 1) := by decide +kernel
theorem dX11_isUnder_16 : decode cX11_isUnder 16 = .ok (.goto (-14), 3) := by decide +kernel
theorem dX11_isUnder_19 : decode cX11_isUnder 19 = .ok (.iload_n 2, 1) := by decide +kernel
theorem dX11_isUnder_20 : decode cX11_isUnder 20 = .ok (.ifCond .lt 7, 3) := by decide +kernel
theorem dX11_isUnder_23 : decode cX11_isUnder 23 = .ok (.iconst 1, 1) := by decide +kernel
theorem dX11_isUnder_24 : decode cX11_isUnder 24 = .ok (.goto 4, 3) := by decide +kernel
theorem dX11_isUnder_27 : decode cX11_isUnder 27 = .ok (.iconst 0, 1) := by decide +kernel
theorem dX11_isUnder_28 : decode cX11_isUnder 28 = .ok (.ireturn, 1) := by decide +kernel
theorem dX11_weakens_0 : decode cX11_weakens 0 = .ok (.aload_n 0, 1) := by decide +kernel
theorem dX11_weakens_1 : decode cX11_weakens 1 = .ok (.iload_n 1, 1) := by decide +kernel
theorem dX11_weakens_2 : decode cX11_weakens 2 = .ok (.iconst 1, 1) := by decide +kernel
theorem dX11_weakens_3 : decode cX11_weakens 3 = .ok (.invokevirtual 193, 3) := by decide +kernel
theorem dX11_weakens_6 : decode cX11_weakens 6 = .ok (.istore_n 2, 1) := by decide +kernel
theorem dX11_weakens_7 : decode cX11_weakens 7 = .ok (.aload_n 0, 1) := by decide +kernel
theorem dX11_weakens_8 : decode cX11_weakens 8 = .ok (.iconst 0, 1) := by decide +kernel
theorem dX11_weakens_9 : decode cX11_weakens 9 = .ok (.aload_n 0, 1) := by decide +kernel
theorem dX11_weakens_10 : decode cX11_weakens 10 = .ok (.iload_n 1, 1) := by decide +kernel
theorem dX11_weakens_11 : decode cX11_weakens 11 = .ok (.iconst 3, 1) := by decide +kernel
theorem dX11_weakens_12 : decode cX11_weakens 12 = .ok (.invokevirtual 193, 3) := by decide +kernel
theorem dX11_weakens_15 : decode cX11_weakens 15 = .ok (.iload_n 2, 1) := by decide +kernel
theorem dX11_weakens_16 : decode cX11_weakens 16 = .ok (.aload_n 0, 1) := by decide +kernel
theorem dX11_weakens_17 : decode cX11_weakens 17 = .ok (.getfield 9, 3) := by decide +kernel
theorem dX11_weakens_20 : decode cX11_weakens 20 = .ok (.iconst 5, 1) := by decide +kernel
theorem dX11_weakens_21 : decode cX11_weakens 21 = .ok (.iaload, 1) := by decide +kernel
theorem dX11_weakens_22 : decode cX11_weakens 22 = .ok (.invokevirtual 152, 3) := by decide +kernel
theorem dX11_weakens_25 : decode cX11_weakens 25 = .ok (.istore_n 3, 1) := by decide +kernel
theorem dX11_weakens_26 : decode cX11_weakens 26 = .ok (.aload_n 0, 1) := by decide +kernel
theorem dX11_weakens_27 : decode cX11_weakens 27 = .ok (.iload_n 1, 1) := by decide +kernel
theorem dX11_weakens_28 : decode cX11_weakens 28 = .ok (.iconst 0, 1) := by decide +kernel
theorem dX11_weakens_29 : decode cX11_weakens 29 = .ok (.invokevirtual 193, 3) := by decide +kernel
theorem dX11_weakens_32 : decode cX11_weakens 32 = .ok (.tableswitch 80 1 6 #[40, 64, 74, 48, 68, 76], 40) := by decide +kernel
theorem dX11_weakens_72 : decode cX11_weakens 72 = .ok (.iconst 0, 1) := by decide +kernel
theorem dX11_weakens_73 : decode cX11_weakens 73 = .ok (.iload_n 3, 1) := by decide +kernel
theorem dX11_weakens_74 : decode cX11_weakens 74 = .ok (.iconst 1, 1) := by decide +kernel
theorem dX11_weakens_75 : decode cX11_weakens 75 = .ok (.isub, 1) := by decide +kernel
theorem dX11_weakens_76 : decode cX11_weakens 76 = .ok (.invokestatic 63, 3) := by decide +kernel
theorem dX11_weakens_79 : decode cX11_weakens 79 = .ok (.ireturn, 1) := by decide +kernel
theorem dX11_weakens_80 : decode cX11_weakens 80 = .ok (.iconst 0, 1) := by decide +kernel
theorem dX11_weakens_81 : decode cX11_weakens 81 = .ok (.iconst 0, 1) := by decide +kernel
theorem dX11_weakens_82 : decode cX11_weakens 82 = .ok (.iload_n 3, 1) := by decide +kernel
theorem dX11_weakens_83 : decode cX11_weakens 83 = .ok (.iconst 1, 1) := by decide +kernel
theorem dX11_weakens_84 : decode cX11_weakens 84 = .ok (.isub, 1) := by decide +kernel
theorem dX11_weakens_85 : decode cX11_weakens 85 = .ok (.invokestatic 63, 3) := by decide +kernel
theorem dX11_weakens_88 : decode cX11_weakens 88 = .ok (.iload_n 2, 1) := by decide +kernel
theorem dX11_weakens_89 : decode cX11_weakens 89 = .ok (.iconst 3, 1) := by decide +kernel
theorem dX11_weakens_90 : decode cX11_weakens 90 = .ok (.irem, 1) := by decide +kernel
theorem dX11_weakens_91 : decode cX11_weakens 91 = .ok (.isub, 1) := by decide +kernel
theorem dX11_weakens_92 : decode cX11_weakens 92 = .ok (.invokestatic 63, 3) := by decide +kernel
theorem dX11_weakens_95 : decode cX11_weakens 95 = .ok (.ireturn, 1) := by decide +kernel
theorem dX11_weakens_96 : decode cX11_weakens 96 = .ok (.iconst 2, 1) := by decide +kernel
theorem dX11_weakens_97 : decode cX11_weakens 97 = .ok (.iload_n 3, 1) := by decide +kernel
theorem dX11_weakens_98 : decode cX11_weakens 98 = .ok (.imul, 1) := by decide +kernel
theorem dX11_weakens_99 : decode cX11_weakens 99 = .ok (.ireturn, 1) := by decide +kernel
theorem dX11_weakens_100 : decode cX11_weakens 100 = .ok (.iconst 2, 1) := by decide +kernel
theorem dX11_weakens_101 : decode cX11_weakens 101 = .ok (.iload_n 3, 1) := by decide +kernel
theorem dX11_weakens_102 : decode cX11_weakens 102 = .ok (.imul, 1) := by decide +kernel
theorem dX11_weakens_103 : decode cX11_weakens 103 = .ok (.iconst 1, 1) := by decide +kernel
theorem dX11_weakens_104 : decode cX11_weakens 104 = .ok (.iadd, 1) := by decide +kernel
theorem dX11_weakens_105 : decode cX11_weakens 105 = .ok (.ireturn, 1) := by decide +kernel
theorem dX11_weakens_106 : decode cX11_weakens 106 = .ok (.iconst 0, 1) := by decide +kernel
theorem dX11_weakens_107 : decode cX11_weakens 107 = .ok (.ireturn, 1) := by decide +kernel
theorem dX11_weakens_108 : decode cX11_weakens 108 = .ok (.iload_n 3, 1) := by decide +kernel
theorem dX11_weakens_109 : decode cX11_weakens 109 = .ok (.iconst 2, 1) := by decide +kernel
theorem dX11_weakens_110 : decode cX11_weakens 110 = .ok (.idiv, 1) := by decide +kernel
theorem dX11_weakens_111 : decode cX11_weakens 111 = .ok (.ireturn, 1) := by decide +kernel
theorem dX11_weakens_112 : decode cX11_weakens 112 = .ok (.iload_n 3, 1) := by decide +kernel
theorem dX11_weakens_113 : decode cX11_weakens 113 = .ok (.ireturn, 1) := by decide +kernel
theorem dX11_knowers_0 : decode cX11_knowers 0 = .ok (.iconst 0, 1) := by decide +kernel
theorem dX11_knowers_1 : decode cX11_knowers 1 = .ok (.istore_n 2, 1) := by decide +kernel
theorem dX11_knowers_2 : decode cX11_knowers 2 = .ok (.iconst 0, 1) := by decide +kernel
theorem dX11_knowers_3 : decode cX11_knowers 3 = .ok (.istore_n 3, 1) := by decide +kernel
theorem dX11_knowers_4 : decode cX11_knowers 4 = .ok (.iload_n 3, 1) := by decide +kernel
theorem dX11_knowers_5 : decode cX11_knowers 5 = .ok (.aload_n 0, 1) := by decide +kernel
theorem dX11_knowers_6 : decode cX11_knowers 6 = .ok (.getfield 9, 3) := by decide +kernel
theorem dX11_knowers_9 : decode cX11_knowers 9 = .ok (.iconst 4, 1) := by decide +kernel
theorem dX11_knowers_10 : decode cX11_knowers 10 = .ok (.iaload, 1) := by decide +kernel
theorem dX11_knowers_11 : decode cX11_knowers 11 = .ok (.if_icmp .ge 32, 3) := by decide +kernel
theorem dX11_knowers_14 : decode cX11_knowers 14 = .ok (.iload_n 2, 1) := by decide +kernel
theorem dX11_knowers_15 : decode cX11_knowers 15 = .ok (.aload_n 0, 1) := by decide +kernel
theorem dX11_knowers_16 : decode cX11_knowers 16 = .ok (.iload_n 3, 1) := by decide +kernel
theorem dX11_knowers_17 : decode cX11_knowers 17 = .ok (.iconst 2, 1) := by decide +kernel
theorem dX11_knowers_18 : decode cX11_knowers 18 = .ok (.invokevirtual 196, 3) := by decide +kernel
theorem dX11_knowers_21 : decode cX11_knowers 21 = .ok (.iload_n 1, 1) := by decide +kernel
theorem dX11_knowers_22 : decode cX11_knowers 22 = .ok (.invokestatic 199, 3) := by decide +kernel
theorem dX11_knowers_25 : decode cX11_knowers 25 = .ok (.ifCond .eq 9, 3) := by decide +kernel
theorem dX11_knowers_28 : decode cX11_knowers 28 = .ok (.iconst 1, 1) := by decide +kernel
theorem dX11_knowers_29 : decode cX11_knowers 29 = .ok (.iload_n 3, 1) := by decide +kernel
theorem dX11_knowers_30 : decode cX11_knowers 30 = .ok (.ishl, 1) := by decide +kernel
theorem dX11_knowers_31 : decode cX11_knowers 31 = .ok (.goto 4, 3) := by decide +kernel
theorem dX11_knowers_34 : decode cX11_knowers 34 = .ok (.iconst 0, 1) := by decide +kernel
theorem dX11_knowers_35 : decode cX11_knowers 35 = .ok (.ior, 1) := by decide +kernel
theorem dX11_knowers_36 : decode cX11_knowers 36 = .ok (.istore_n 2, 1) := by decide +kernel
theorem dX11_knowers_37 : decode cX11_knowers 37 = .ok (.iinc 3 1, 3) := by decide +kernel
theorem dX11_knowers_40 : decode cX11_knowers 40 = .ok (.goto (-36), 3) := by decide +kernel
theorem dX11_knowers_43 : decode cX11_knowers 43 = .ok (.iload_n 2, 1) := by decide +kernel
theorem dX11_knowers_44 : decode cX11_knowers 44 = .ok (.ireturn, 1) := by decide +kernel
theorem dX11_drinkers_0 : decode cX11_drinkers 0 = .ok (.iconst 0, 1) := by decide +kernel
theorem dX11_drinkers_1 : decode cX11_drinkers 1 = .ok (.istore_n 2, 1) := by decide +kernel
theorem dX11_drinkers_2 : decode cX11_drinkers 2 = .ok (.iconst 0, 1) := by decide +kernel
theorem dX11_drinkers_3 : decode cX11_drinkers 3 = .ok (.istore_n 3, 1) := by decide +kernel
theorem dX11_drinkers_4 : decode cX11_drinkers 4 = .ok (.iload_n 3, 1) := by decide +kernel
theorem dX11_drinkers_5 : decode cX11_drinkers 5 = .ok (.aload_n 0, 1) := by decide +kernel
theorem dX11_drinkers_6 : decode cX11_drinkers 6 = .ok (.getfield 9, 3) := by decide +kernel
theorem dX11_drinkers_9 : decode cX11_drinkers 9 = .ok (.iconst 4, 1) := by decide +kernel
theorem dX11_drinkers_10 : decode cX11_drinkers 10 = .ok (.iaload, 1) := by decide +kernel
theorem dX11_drinkers_11 : decode cX11_drinkers 11 = .ok (.if_icmp .ge 29, 3) := by decide +kernel
theorem dX11_drinkers_14 : decode cX11_drinkers 14 = .ok (.iload_n 2, 1) := by decide +kernel
theorem dX11_drinkers_15 : decode cX11_drinkers 15 = .ok (.aload_n 0, 1) := by decide +kernel
theorem dX11_drinkers_16 : decode cX11_drinkers 16 = .ok (.iload_n 3, 1) := by decide +kernel
theorem dX11_drinkers_17 : decode cX11_drinkers 17 = .ok (.iconst 0, 1) := by decide +kernel
theorem dX11_drinkers_18 : decode cX11_drinkers 18 = .ok (.invokevirtual 196, 3) := by decide +kernel
theorem dX11_drinkers_21 : decode cX11_drinkers 21 = .ok (.iload_n 1, 1) := by decide +kernel
theorem dX11_drinkers_22 : decode cX11_drinkers 22 = .ok (.if_icmp .ne 9, 3) := by decide +kernel
theorem dX11_drinkers_25 : decode cX11_drinkers 25 = .ok (.iconst 1, 1) := by decide +kernel
theorem dX11_drinkers_26 : decode cX11_drinkers 26 = .ok (.iload_n 3, 1) := by decide +kernel
theorem dX11_drinkers_27 : decode cX11_drinkers 27 = .ok (.ishl, 1) := by decide +kernel
theorem dX11_drinkers_28 : decode cX11_drinkers 28 = .ok (.goto 4, 3) := by decide +kernel
theorem dX11_drinkers_31 : decode cX11_drinkers 31 = .ok (.iconst 0, 1) := by decide +kernel
theorem dX11_drinkers_32 : decode cX11_drinkers 32 = .ok (.ior, 1) := by decide +kernel
theorem dX11_drinkers_33 : decode cX11_drinkers 33 = .ok (.istore_n 2, 1) := by decide +kernel
theorem dX11_drinkers_34 : decode cX11_drinkers 34 = .ok (.iinc 3 1, 3) := by decide +kernel
theorem dX11_drinkers_37 : decode cX11_drinkers 37 = .ok (.goto (-33), 3) := by decide +kernel
theorem dX11_drinkers_40 : decode cX11_drinkers 40 = .ok (.iload_n 2, 1) := by decide +kernel
theorem dX11_drinkers_41 : decode cX11_drinkers 41 = .ok (.ireturn, 1) := by decide +kernel
theorem dX11_isOpen_0 : decode cX11_isOpen 0 = .ok (.aload_n 0, 1) := by decide +kernel
theorem dX11_isOpen_1 : decode cX11_isOpen 1 = .ok (.iload_n 1, 1) := by decide +kernel
theorem dX11_isOpen_2 : decode cX11_isOpen 2 = .ok (.iconst 0, 1) := by decide +kernel
theorem dX11_isOpen_3 : decode cX11_isOpen 3 = .ok (.invokevirtual 178, 3) := by decide +kernel
theorem dX11_isOpen_6 : decode cX11_isOpen 6 = .ok (.iload_n 2, 1) := by decide +kernel
theorem dX11_isOpen_7 : decode cX11_isOpen 7 = .ok (.if_icmp .ne 16, 3) := by decide +kernel
theorem dX11_isOpen_10 : decode cX11_isOpen 10 = .ok (.aload_n 0, 1) := by decide +kernel
theorem dX11_isOpen_11 : decode cX11_isOpen 11 = .ok (.iload_n 1, 1) := by decide +kernel
theorem dX11_isOpen_12 : decode cX11_isOpen 12 = .ok (.iconst 3, 1) := by decide +kernel
theorem dX11_isOpen_13 : decode cX11_isOpen 13 = .ok (.invokevirtual 178, 3) := by decide +kernel
theorem dX11_isOpen_16 : decode cX11_isOpen 16 = .ok (.ifCond .ne 7, 3) := by decide +kernel
theorem dX11_isOpen_19 : decode cX11_isOpen 19 = .ok (.iconst 1, 1) := by decide +kernel
theorem dX11_isOpen_20 : decode cX11_isOpen 20 = .ok (.goto 4, 3) := by decide +kernel
theorem dX11_isOpen_23 : decode cX11_isOpen 23 = .ok (.iconst 0, 1) := by decide +kernel
theorem dX11_isOpen_24 : decode cX11_isOpen 24 = .ok (.ireturn, 1) := by decide +kernel
theorem dX11_goesOn_0 : decode cX11_goesOn 0 = .ok (.aload_n 0, 1) := by decide +kernel
theorem dX11_goesOn_1 : decode cX11_goesOn 1 = .ok (.iload_n 1, 1) := by decide +kernel
theorem dX11_goesOn_2 : decode cX11_goesOn 2 = .ok (.iconst 2, 1) := by decide +kernel
theorem dX11_goesOn_3 : decode cX11_goesOn 3 = .ok (.invokevirtual 193, 3) := by decide +kernel
theorem dX11_goesOn_6 : decode cX11_goesOn 6 = .ok (.istore_n 2, 1) := by decide +kernel
theorem dX11_goesOn_7 : decode cX11_goesOn 7 = .ok (.aload_n 0, 1) := by decide +kernel
theorem dX11_goesOn_8 : decode cX11_goesOn 8 = .ok (.iload_n 1, 1) := by decide +kernel
theorem dX11_goesOn_9 : decode cX11_goesOn 9 = .ok (.iconst 0, 1) := by decide +kernel
theorem dX11_goesOn_10 : decode cX11_goesOn 10 = .ok (.invokevirtual 193, 3) := by decide +kernel
theorem dX11_goesOn_13 : decode cX11_goesOn 13 = .ok (.istore_n 3, 1) := by decide +kernel
theorem dX11_goesOn_14 : decode cX11_goesOn 14 = .ok (.iconst (-1), 1) := by decide +kernel
theorem dX11_goesOn_15 : decode cX11_goesOn 15 = .ok (.istore 4, 2) := by decide +kernel
theorem dX11_goesOn_17 : decode cX11_goesOn 17 = .ok (.iconst (-1), 1) := by decide +kernel
theorem dX11_goesOn_18 : decode cX11_goesOn 18 = .ok (.istore 5, 2) := by decide +kernel
theorem dX11_goesOn_20 : decode cX11_goesOn 20 = .ok (.iconst 0, 1) := by decide +kernel
theorem dX11_goesOn_21 : decode cX11_goesOn 21 = .ok (.istore 6, 2) := by decide +kernel
theorem dX11_goesOn_23 : decode cX11_goesOn 23 = .ok (.iload 6, 2) := by decide +kernel
theorem dX11_goesOn_25 : decode cX11_goesOn 25 = .ok (.aload_n 0, 1) := by decide +kernel
theorem dX11_goesOn_26 : decode cX11_goesOn 26 = .ok (.getfield 9, 3) := by decide +kernel
theorem dX11_goesOn_29 : decode cX11_goesOn 29 = .ok (.iconst 2, 1) := by decide +kernel
theorem dX11_goesOn_30 : decode cX11_goesOn 30 = .ok (.iaload, 1) := by decide +kernel
theorem dX11_goesOn_31 : decode cX11_goesOn 31 = .ok (.if_icmp .ge 52, 3) := by decide +kernel
theorem dX11_goesOn_34 : decode cX11_goesOn 34 = .ok (.iload 4, 2) := by decide +kernel
theorem dX11_goesOn_36 : decode cX11_goesOn 36 = .ok (.ifCond .ge 18, 3) := by decide +kernel
theorem dX11_goesOn_39 : decode cX11_goesOn 39 = .ok (.aload_n 0, 1) := by decide +kernel
theorem dX11_goesOn_40 : decode cX11_goesOn 40 = .ok (.iload 6, 2) := by decide +kernel
theorem dX11_goesOn_42 : decode cX11_goesOn 42 = .ok (.iload_n 2, 1) := by decide +kernel
theorem dX11_goesOn_43 : decode cX11_goesOn 43 = .ok (.invokevirtual 203, 3) := by decide +kernel
theorem dX11_goesOn_46 : decode cX11_goesOn 46 = .ok (.ifCond .eq 8, 3) := by decide +kernel
theorem dX11_goesOn_49 : decode cX11_goesOn 49 = .ok (.iload 6, 2) := by decide +kernel
theorem dX11_goesOn_51 : decode cX11_goesOn 51 = .ok (.goto 5, 3) := by decide +kernel
theorem dX11_goesOn_54 : decode cX11_goesOn 54 = .ok (.iload 4, 2) := by decide +kernel
theorem dX11_goesOn_56 : decode cX11_goesOn 56 = .ok (.istore 4, 2) := by decide +kernel
theorem dX11_goesOn_58 : decode cX11_goesOn 58 = .ok (.aload_n 0, 1) := by decide +kernel
theorem dX11_goesOn_59 : decode cX11_goesOn 59 = .ok (.iload 6, 2) := by decide +kernel
theorem dX11_goesOn_61 : decode cX11_goesOn 61 = .ok (.iload_n 2, 1) := by decide +kernel
theorem dX11_goesOn_62 : decode cX11_goesOn 62 = .ok (.invokevirtual 203, 3) := by decide +kernel
theorem dX11_goesOn_65 : decode cX11_goesOn 65 = .ok (.ifCond .eq 8, 3) := by decide +kernel
theorem dX11_goesOn_68 : decode cX11_goesOn 68 = .ok (.iload 6, 2) := by decide +kernel
theorem dX11_goesOn_70 : decode cX11_goesOn 70 = .ok (.goto 5, 3) := by decide +kernel
theorem dX11_goesOn_73 : decode cX11_goesOn 73 = .ok (.iload 5, 2) := by decide +kernel
theorem dX11_goesOn_75 : decode cX11_goesOn 75 = .ok (.istore 5, 2) := by decide +kernel
theorem dX11_goesOn_77 : decode cX11_goesOn 77 = .ok (.iinc 6 1, 3) := by decide +kernel
theorem dX11_goesOn_80 : decode cX11_goesOn 80 = .ok (.goto (-57), 3) := by decide +kernel
theorem dX11_goesOn_83 : decode cX11_goesOn 83 = .ok (.iload_n 3, 1) := by decide +kernel
theorem dX11_goesOn_84 : decode cX11_goesOn 84 = .ok (.iconst 3, 1) := by decide +kernel
theorem dX11_goesOn_85 : decode cX11_goesOn 85 = .ok (.if_icmp .eq 24, 3) := by decide +kernel
theorem dX11_goesOn_88 : decode cX11_goesOn 88 = .ok (.iload_n 3, 1) := by decide +kernel
theorem dX11_goesOn_89 : decode cX11_goesOn 89 = .ok (.iconst 4, 1) := by decide +kernel
theorem dX11_goesOn_90 : decode cX11_goesOn 90 = .ok (.if_icmp .ne 23, 3) := by decide +kernel
theorem dX11_goesOn_93 : decode cX11_goesOn 93 = .ok (.aload_n 0, 1) := by decide +kernel
theorem dX11_goesOn_94 : decode cX11_goesOn 94 = .ok (.iload_n 2, 1) := by decide +kernel
theorem dX11_goesOn_95 : decode cX11_goesOn 95 = .ok (.invokevirtual 206, 3) := by decide +kernel
theorem dX11_goesOn_98 : decode cX11_goesOn 98 = .ok (.aload_n 0, 1) := by decide +kernel
theorem dX11_goesOn_99 : decode cX11_goesOn 99 = .ok (.iload_n 1, 1) := by decide +kernel
theorem dX11_goesOn_100 : decode cX11_goesOn 100 = .ok (.invokevirtual 209, 3) := by decide +kernel
theorem dX11_goesOn_103 : decode cX11_goesOn 103 = .ok (.iconst (-1), 1) := by decide +kernel
theorem dX11_goesOn_104 : decode cX11_goesOn 104 = .ok (.ixor, 1) := by decide +kernel
theorem dX11_goesOn_105 : decode cX11_goesOn 105 = .ok (.iand, 1) := by decide +kernel
theorem dX11_goesOn_106 : decode cX11_goesOn 106 = .ok (.ifCond .eq 7, 3) := by decide +kernel
theorem dX11_goesOn_109 : decode cX11_goesOn 109 = .ok (.iconst 1, 1) := by decide +kernel
theorem dX11_goesOn_110 : decode cX11_goesOn 110 = .ok (.goto 4, 3) := by decide +kernel
theorem dX11_goesOn_113 : decode cX11_goesOn 113 = .ok (.iconst 0, 1) := by decide +kernel
theorem dX11_goesOn_114 : decode cX11_goesOn 114 = .ok (.istore 6, 2) := by decide +kernel
theorem dX11_goesOn_116 : decode cX11_goesOn 116 = .ok (.iload 6, 2) := by decide +kernel
theorem dX11_goesOn_118 : decode cX11_goesOn 118 = .ok (.ifCond .eq 7, 3) := by decide +kernel
theorem dX11_goesOn_121 : decode cX11_goesOn 121 = .ok (.iconst (-1), 1) := by decide +kernel
theorem dX11_goesOn_122 : decode cX11_goesOn 122 = .ok (.goto 18, 3) := by decide +kernel
theorem dX11_goesOn_125 : decode cX11_goesOn 125 = .ok (.iload_n 3, 1) := by decide +kernel
theorem dX11_goesOn_126 : decode cX11_goesOn 126 = .ok (.iconst 2, 1) := by decide +kernel
theorem dX11_goesOn_127 : decode cX11_goesOn 127 = .ok (.invokestatic 212, 3) := by decide +kernel
theorem dX11_goesOn_130 : decode cX11_goesOn 130 = .ok (.ifCond .eq 8, 3) := by decide +kernel
theorem dX11_goesOn_133 : decode cX11_goesOn 133 = .ok (.iload 5, 2) := by decide +kernel
theorem dX11_goesOn_135 : decode cX11_goesOn 135 = .ok (.goto 5, 3) := by decide +kernel
theorem dX11_goesOn_138 : decode cX11_goesOn 138 = .ok (.iload 4, 2) := by decide +kernel
theorem dX11_goesOn_140 : decode cX11_goesOn 140 = .ok (.ireturn, 1) := by decide +kernel
theorem dX11_ofSaying_0 : decode cX11_ofSaying 0 = .ok (.aload_n 0, 1) := by decide +kernel
theorem dX11_ofSaying_1 : decode cX11_ofSaying 1 = .ok (.iload_n 1, 1) := by decide +kernel
theorem dX11_ofSaying_2 : decode cX11_ofSaying 2 = .ok (.invokevirtual 215, 3) := by decide +kernel
theorem dX11_ofSaying_5 : decode cX11_ofSaying 5 = .ok (.ifCond .eq 13, 3) := by decide +kernel
theorem dX11_ofSaying_8 : decode cX11_ofSaying 8 = .ok (.iload_n 2, 1) := by decide +kernel
theorem dX11_ofSaying_9 : decode cX11_ofSaying 9 = .ok (.iconst 0, 1) := by decide +kernel
theorem dX11_ofSaying_10 : decode cX11_ofSaying 10 = .ok (.bipush 7, 2) := by decide +kernel
theorem dX11_ofSaying_12 : decode cX11_ofSaying 12 = .ok (.invokestatic 70, 3) := by decide +kernel
theorem dX11_ofSaying_15 : decode cX11_ofSaying 15 = .ok (.ifCond .ne 10, 3) := by decide +kernel
theorem dX11_ofSaying_18 : decode cX11_ofSaying 18 = .ok (.aload_n 0, 1) := by decide +kernel
theorem dX11_ofSaying_19 : decode cX11_ofSaying 19 = .ok (.ldc 74, 2) := by decide +kernel
theorem dX11_ofSaying_21 : decode cX11_ofSaying 21 = .ok (.invokevirtual 75, 3) := by decide +kernel
theorem dX11_ofSaying_24 : decode cX11_ofSaying 24 = .ok (.ireturn, 1) := by decide +kernel
theorem dX11_ofSaying_25 : decode cX11_ofSaying 25 = .ok (.iload_n 2, 1) := by decide +kernel
theorem dX11_ofSaying_26 : decode cX11_ofSaying 26 = .ok (.tableswitch 44 5 7 #[26, 32, 38], 26) := by decide +kernel
theorem dX11_ofSaying_52 : decode cX11_ofSaying 52 = .ok (.aload_n 0, 1) := by decide +kernel
theorem dX11_ofSaying_53 : decode cX11_ofSaying 53 = .ok (.iload_n 1, 1) := by decide +kernel
theorem dX11_ofSaying_54 : decode cX11_ofSaying 54 = .ok (.invokevirtual 218, 3) := by decide +kernel
theorem dX11_ofSaying_57 : decode cX11_ofSaying 57 = .ok (.ireturn, 1) := by decide +kernel
theorem dX11_ofSaying_58 : decode cX11_ofSaying 58 = .ok (.aload_n 0, 1) := by decide +kernel
theorem dX11_ofSaying_59 : decode cX11_ofSaying 59 = .ok (.iload_n 1, 1) := by decide +kernel
theorem dX11_ofSaying_60 : decode cX11_ofSaying 60 = .ok (.invokevirtual 221, 3) := by decide +kernel
theorem dX11_ofSaying_63 : decode cX11_ofSaying 63 = .ok (.ireturn, 1) := by decide +kernel
theorem dX11_ofSaying_64 : decode cX11_ofSaying 64 = .ok (.aload_n 0, 1) := by decide +kernel
theorem dX11_ofSaying_65 : decode cX11_ofSaying 65 = .ok (.iload_n 1, 1) := by decide +kernel
theorem dX11_ofSaying_66 : decode cX11_ofSaying 66 = .ok (.invokevirtual 209, 3) := by decide +kernel
theorem dX11_ofSaying_69 : decode cX11_ofSaying 69 = .ok (.ireturn, 1) := by decide +kernel
theorem dX11_ofSaying_70 : decode cX11_ofSaying 70 = .ok (.aload_n 0, 1) := by decide +kernel
theorem dX11_ofSaying_71 : decode cX11_ofSaying 71 = .ok (.iload_n 1, 1) := by decide +kernel
theorem dX11_ofSaying_72 : decode cX11_ofSaying 72 = .ok (.iload_n 2, 1) := by decide +kernel
theorem dX11_ofSaying_73 : decode cX11_ofSaying 73 = .ok (.invokevirtual 193, 3) := by decide +kernel
theorem dX11_ofSaying_76 : decode cX11_ofSaying 76 = .ok (.ireturn, 1) := by decide +kernel
theorem dX11_change_0 : decode cX11_change 0 = .ok (.iload_n 2, 1) := by decide +kernel
theorem dX11_change_1 : decode cX11_change 1 = .ok (.ifCond .ne 11, 3) := by decide +kernel
theorem dX11_change_4 : decode cX11_change 4 = .ok (.aload_n 0, 1) := by decide +kernel
theorem dX11_change_5 : decode cX11_change 5 = .ok (.iload_n 3, 1) := by decide +kernel
theorem dX11_change_6 : decode cX11_change 6 = .ok (.invokevirtual 169, 3) := by decide +kernel
theorem dX11_change_9 : decode cX11_change 9 = .ok (.goto 20, 3) := by decide +kernel
theorem dX11_change_12 : decode cX11_change 12 = .ok (.iload_n 2, 1) := by decide +kernel
theorem dX11_change_13 : decode cX11_change 13 = .ok (.iconst 1, 1) := by decide +kernel
theorem dX11_change_14 : decode cX11_change 14 = .ok (.if_icmp .ne 14, 3) := by decide +kernel
theorem dX11_change_17 : decode cX11_change 17 = .ok (.iload_n 3, 1) := by decide +kernel
theorem dX11_change_18 : decode cX11_change 18 = .ok (.invokestatic 184, 3) := by decide +kernel
theorem dX11_change_21 : decode cX11_change 21 = .ok (.ifCond .eq 7, 3) := by decide +kernel
theorem dX11_change_24 : decode cX11_change 24 = .ok (.iconst 1, 1) := by decide +kernel
theorem dX11_change_25 : decode cX11_change 25 = .ok (.goto 4, 3) := by decide +kernel
