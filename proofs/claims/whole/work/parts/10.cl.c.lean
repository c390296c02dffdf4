theorem lk_X10_108 : LkV RX10 108 yX2_get cX2_get 2 (some .int) 1 := ⟨TB_p [432, 433, 434, 72, 435] (by decide +kernel) (by decide +kernel), by decide +kernel, by decide +kernel, by decide +kernel⟩
theorem lk_X10_175 : LkV RX10 175 yX2_set cX2_set 3 none 2 := ⟨TB_p [436, 437, 438, 72, 439] (by decide +kernel) (by decide +kernel), by decide +kernel, by decide +kernel, by decide +kernel⟩
def f_X10_error (a1 : Int32) (σ : St) : Option (Int32 × St) := (Option.bind (f_X2_get 98 a1 σ) fun r1 => (Option.bind (f_X2_set 98 a1 (r1.1 + 1) r1.2) fun r2 => (some (((-1000000000) - a1), r2))))
theorem w_X10_error {Y : YT} (a1 : Int32)   (σ : St) : CtE (emI FC Y) FC Y yX10_error cX10_error 2 (some .int) 1 [Rf Y 0, .int a1] σ (f_X10_error a1 σ) := by
  refine Ct.ofG (by decide) (Nat.le_of_ble_eq_true rfl) (fun X C0 => ?_)
  have C : Cx FC Y X cX10_error 2 RX10 (some .int) 1 (0, 0) := C0
  show G FC Y X 2 (emI FC Y) (0, 0) (0, 0) 0 [(0, Rf Y 0), (1, .int a1)] [] (RepS FC Y σ) (f_X10_error a1 σ)
  rw [f_X10_error]
  refine q_aload_n C 0 dX10_error_0 rfl ?_
  refine gf_X10_48 C skC_0 dX10_error_1 ?_
  refine q_iload_n C 1 dX10_error_4 rfl ?_
  refine q_aload_n C 0 dX10_error_5 rfl ?_
  refine gf_X10_48 C skC_0 dX10_error_6 ?_
  refine q_iload_n C 1 dX10_error_9 rfl ?_
  refine q_cVI C lk_X10_108 (w_X2_get (Y := Y) 98 a1 skC_98 σ) (Nat.le_of_ble_eq_true rfl) rfl skC_98 (ltC skC_98 rfl) recv_2 (rest := [.int a1, Rf Y 98]) rfl rfl (Nat.le_of_ble_eq_true rfl) dX10_error_10 (fun r1 => ?_)
  refine q_iconst C (v := 1) dX10_error_13 (by decide) ?_
  refine q_iadd C dX10_error_14 ?_
  refine q_cVV C lk_X10_175 (w_X2_set (Y := Y) 98 a1 (r1.1 + 1) skC_98 r1.2) (Nat.le_of_ble_eq_true rfl) rfl skC_98 (ltC skC_98 rfl) recv_2 (rest := []) rfl rfl (Nat.le_of_ble_eq_true rfl) dX10_error_15 (fun r2 => ?_)
  refine q_ldcw C (v := (-1000000000)) (TB_of (List.mem_of_getElem? (i := 440) (by decide +kernel)) rfl) dX10_error_18 ?_
  refine q_iload_n C 1 dX10_error_21 rfl ?_
  refine q_isub C dX10_error_22 ?_
  exact q_ireti C rfl dX10_error_23
theorem lk_X10_59 : LkS RX10 59 yX10_within cX10_within 3 (some .boolean) 3 := ⟨TB_p [425, 426, 69, 427] (by decide +kernel) (by decide +kernel), by decide +kernel, by decide +kernel, by decide +kernel⟩
theorem lk_X10_71 : LkV RX10 71 yX9_size cX9_size 1 (some .int) 0 := ⟨TB_p [441, 442, 443, 71, 444] (by decide +kernel) (by decide +kernel), by decide +kernel, by decide +kernel, by decide +kernel⟩
theorem lk_X10_63 : LkV RX10 63 yX10_error cX10_error 2 (some .int) 1 := ⟨TB_p [428, 430, 0, 69, 431] (by decide +kernel) (by decide +kernel), by decide +kernel, by decide +kernel, by decide +kernel⟩
theorem lk_X10_81 : LkV RX10 81 yX4_size cX4_size 1 (some .int) 0 := ⟨TB_p [449, 450, 451, 74, 452] (by decide +kernel) (by decide +kernel), by decide +kernel, by decide +kernel, by decide +kernel⟩
theorem lk_X10_88 : LkV RX10 88 yX0_size cX0_size 1 (some .int) 0 := ⟨TB_p [454, 455, 456, 75, 457] (by decide +kernel) (by decide +kernel), by decide +kernel, by decide +kernel, by decide +kernel⟩
def f_X10_wells (a1 : Int32) (σ : St) : Option (Int32 × St) := (Option.bind (f_X10_within a1 2 8 σ) fun r1 => (if r1.1 = 0 then (Option.bind (f_X10_error 1 r1.2) fun r9 => (some (r9.1, r9.2))) else (Option.bind (f_X9_size r1.2) fun r2 => (if 0 < r2.1 then (Option.bind (f_X10_error 3 r2.2) fun r3 => (some (r3.1, r3.2))) else (Option.bind (f_X4_size r2.2) fun r4 => (if 0 < r4.1 then (Option.bind (f_X10_error 3 r4.2) fun r5 => (some (r5.1, r5.2))) else (Option.bind (f_X0_size r4.2) fun r6 => (if r6.1 ≤ 0 then (Bst (up r6.2 1 0 a1) fun s7 => (some ((r6.2 1 0), s7))) else (Option.bind (f_X10_error 3 r6.2) fun r8 => (some (r8.1, r8.2)))))))))))
theorem w_X10_wells {Y : YT} (a1 : Int32)   (σ : St) : CtE (emI FC Y) FC Y yX10_wells cX10_wells 3 (some .int) 2 [Rf Y 0, .int a1] σ (f_X10_wells a1 σ) := by
  refine Ct.ofG (by decide) (Nat.le_of_ble_eq_true rfl) (fun X C0 => ?_)
  have C : Cx FC Y X cX10_wells 3 RX10 (some .int) 2 (0, 0) := C0
  show G FC Y X 3 (emI FC Y) (0, 0) (0, 0) 0 [(0, Rf Y 0), (1, .int a1)] [] (RepS FC Y σ) (f_X10_wells a1 σ)
  rw [f_X10_wells]
  refine q_iload_n C 1 dX10_wells_0 rfl ?_
  refine q_iconst C (v := 2) dX10_wells_1 (by decide) ?_
  refine q_bipush C (v := 8) dX10_wells_2 (by decide) ?_
  refine q_cSI C lk_X10_59 (w_X10_within (Y := Y) a1 2 8 σ) (Nat.le_of_ble_eq_true rfl) rfl (rest := []) rfl rfl (Nat.le_of_ble_eq_true rfl) dX10_wells_4 (fun r1 => ?_)
  refine q_if_ne C 16 dX10_wells_7 rfl (fun _ => ?_) (fun _ => ?_)
  · refine q_aload_n C 0 dX10_wells_16 rfl ?_
    refine gf_X10_10 C skC_0 dX10_wells_17 ?_
    refine gf_X10_67 C skC_1 dX10_wells_20 ?_
    refine q_cVI C lk_X10_71 (w_X9_size (Y := Y) r1.2) (Nat.le_of_ble_eq_true rfl) rfl skC_2 (ltC skC_2 rfl) recv_9 (rest := []) rfl rfl (Nat.le_of_ble_eq_true rfl) dX10_wells_23 (fun r2 => ?_)
    refine q_if_gt C 55 dX10_wells_26 rfl (fun _ => ?_) (fun _ => ?_)
    · refine q_aload_n C 0 dX10_wells_55 rfl ?_
      refine q_iconst C (v := 3) dX10_wells_56 (by decide) ?_
      refine q_cVI C lk_X10_63 (w_X10_error (Y := Y) 3 r2.2) (Nat.le_of_ble_eq_true rfl) rfl skC_0 (ltC skC_0 rfl) recv_10 (rest := []) rfl rfl (Nat.le_of_ble_eq_true rfl) dX10_wells_57 (fun r3 => ?_)
      exact q_ireti C rfl dX10_wells_60
    refine q_aload_n C 0 dX10_wells_29 rfl ?_
    refine gf_X10_10 C skC_0 dX10_wells_30 ?_
    refine gf_X10_77 C skC_1 dX10_wells_33 ?_
    refine q_cVI C lk_X10_81 (w_X4_size (Y := Y) r2.2) (Nat.le_of_ble_eq_true rfl) rfl skC_9 (ltC skC_9 rfl) recv_4 (rest := []) rfl rfl (Nat.le_of_ble_eq_true rfl) dX10_wells_36 (fun r4 => ?_)
    refine q_if_gt C 55 dX10_wells_39 rfl (fun _ => ?_) (fun _ => ?_)
    · refine q_aload_n C 0 dX10_wells_55 rfl ?_
      refine q_iconst C (v := 3) dX10_wells_56 (by decide) ?_
      refine q_cVI C lk_X10_63 (w_X10_error (Y := Y) 3 r4.2) (Nat.le_of_ble_eq_true rfl) rfl skC_0 (ltC skC_0 rfl) recv_10 (rest := []) rfl rfl (Nat.le_of_ble_eq_true rfl) dX10_wells_57 (fun r5 => ?_)
      exact q_ireti C rfl dX10_wells_60
    refine q_aload_n C 0 dX10_wells_42 rfl ?_
    refine gf_X10_10 C skC_0 dX10_wells_43 ?_
    refine gf_X10_84 C skC_1 dX10_wells_46 ?_
    refine q_cVI C lk_X10_88 (w_X0_size (Y := Y) r4.2) (Nat.le_of_ble_eq_true rfl) rfl skC_22 (ltC skC_22 rfl) recv_0 (rest := []) rfl rfl (Nat.le_of_ble_eq_true rfl) dX10_wells_49 (fun r6 => ?_)
    refine q_if_le C 61 dX10_wells_52 rfl (fun _ => ?_) (fun _ => ?_)
    · refine q_aload_n C 0 dX10_wells_61 rfl ?_
      refine gf_X10_10 C skC_0 dX10_wells_62 ?_
      refine gf_X10_91 C skC_1 dX10_wells_65 ?_
      refine q_istore_n C [(2, .int (r6.2 1 0)), (0, Rf Y 0), (1, .int a1)] dX10_wells_68 rfl rfl ?_
      refine q_aload_n C 1 dX10_wells_69 rfl ?_
      refine gf_X10_10 C skC_0 dX10_wells_70 ?_
      refine q_iload_n C 2 dX10_wells_73 rfl ?_
      refine pf_X10_91 C skC_1 dX10_wells_74 (fun s7 => ?_)
      refine q_iload_n C 0 dX10_wells_77 rfl ?_
      exact q_ireti C rfl dX10_wells_78
    refine q_aload_n C 0 dX10_wells_55 rfl ?_
    refine q_iconst C (v := 3) dX10_wells_56 (by decide) ?_
    refine q_cVI C lk_X10_63 (w_X10_error (Y := Y) 3 r6.2) (Nat.le_of_ble_eq_true rfl) rfl skC_0 (ltC skC_0 rfl) recv_10 (rest := []) rfl rfl (Nat.le_of_ble_eq_true rfl) dX10_wells_57 (fun r8 => ?_)
    exact q_ireti C rfl dX10_wells_60
  refine q_aload_n C 0 dX10_wells_10 rfl ?_
  refine q_iconst C (v := 1) dX10_wells_11 (by decide) ?_
  refine q_cVI C lk_X10_63 (w_X10_error (Y := Y) 1 r1.2) (Nat.le_of_ble_eq_true rfl) rfl skC_0 (ltC skC_0 rfl) recv_10 (rest := []) rfl rfl (Nat.le_of_ble_eq_true rfl) dX10_wells_12 (fun r9 => ?_)
  exact q_ireti C rfl dX10_wells_15
theorem lk_X10_94 : LkV RX10 94 yX7_isWell cX7_isWell 2 (some .boolean) 1 := ⟨TB_p [463, 464, 465, 70, 466] (by decide +kernel) (by decide +kernel), by decide +kernel, by decide +kernel, by decide +kernel⟩
theorem lk_X10_98 : LkV RX10 98 yX9_add cX9_add 4 none 3 := ⟨TB_p [468, 469, 470, 71, 471] (by decide +kernel) (by decide +kernel), by decide +kernel, by decide +kernel, by decide +kernel⟩
def f_X10_way (a1 : Int32) (a2 : Int32) (a3 : Int32) (σ : St) : Option (Int32 × St) := (Option.bind (f_X7_isWell a1 σ) fun r1 => (if r1.1 = 0 then (Option.bind (f_X10_error 1 r1.2) fun r2 => (some (r2.1, r2.2))) else (Option.bind (f_X7_isWell a2 r1.2) fun r3 => (if r3.1 = 0 then (Option.bind (f_X10_error 1 r3.2) fun r4 => (some (r4.1, r4.2))) else (if a1 = a2 then (Option.bind (f_X10_error 1 r3.2) fun r5 => (some (r5.1, r5.2))) else (Option.bind (f_X10_within a3 1 9 r3.2) fun r6 => (if r6.1 = 0 then (Option.bind (f_X10_error 1 r6.2) fun r11 => (some (r11.1, r11.2))) else (Option.bind (f_X9_size r6.2) fun r7 => (if r7.1 < 8 then (Option.bind (f_X9_add a1 a2 a3 r7.2) fun r8 => (Option.bind (f_X9_size r8) fun r9 => (some ((r9.1 - 1), r9.2)))) else (Option.bind (f_X10_error 4 r7.2) fun r10 => (some (r10.1, r10.2))))))))))))
theorem w_X10_way {Y : YT} (a1 : Int32) (a2 : Int32) (a3 : Int32)   (σ : St) : CtE (emI FC Y) FC Y yX10_way cX10_way 4 (some .int) 2 [Rf Y 0, .int a1, .int a2, .int a3] σ (f_X10_way a1 a2 a3 σ) := by
  refine Ct.ofG (by decide) (Nat.le_of_ble_eq_true rfl) (fun X C0 => ?_)
  have C : Cx FC Y X cX10_way 4 RX10 (some .int) 2 (0, 0) := C0
  show G FC Y X 4 (emI FC Y) (0, 0) (0, 0) 0 [(0, Rf Y 0), (1, .int a1), (2, .int a2), (3, .int a3)] [] (RepS FC Y σ) (f_X10_way a1 a2 a3 σ)
  rw [f_X10_way]
  refine q_aload_n C 0 dX10_way_0 rfl ?_
  refine gf_X10_10 C skC_0 dX10_way_1 ?_
  refine q_iload_n C 1 dX10_way_4 rfl ?_
  refine q_cVI C lk_X10_94 (w_X7_isWell (Y := Y) a1 σ) (Nat.le_of_ble_eq_true rfl) rfl skC_1 (ltC skC_1 rfl) recv_7 (rest := []) rfl rfl (Nat.le_of_ble_eq_true rfl) dX10_way_5 (fun r1 => ?_)
  refine q_if_eq C 37 dX10_way_8 rfl (fun _ => ?_) (fun _ => ?_)
  · refine q_aload_n C 0 dX10_way_37 rfl ?_
    refine q_iconst C (v := 1) dX10_way_38 (by decide) ?_
    refine q_cVI C lk_X10_63 (w_X10_error (Y := Y) 1 r1.2) (Nat.le_of_ble_eq_true rfl) rfl skC_0 (ltC skC_0 rfl) recv_10 (rest := []) rfl rfl (Nat.le_of_ble_eq_true rfl) dX10_way_39 (fun r2 => ?_)
    exact q_ireti C rfl dX10_way_42
  refine q_aload_n C 0 dX10_way_11 rfl ?_
  refine gf_X10_10 C skC_0 dX10_way_12 ?_
  refine q_iload_n C 2 dX10_way_15 rfl ?_
  refine q_cVI C lk_X10_94 (w_X7_isWell (Y := Y) a2 r1.2) (Nat.le_of_ble_eq_true rfl) rfl skC_1 (ltC skC_1 rfl) recv_7 (rest := []) rfl rfl (Nat.le_of_ble_eq_true rfl) dX10_way_16 (fun r3 => ?_)
  refine q_if_eq C 37 dX10_way_19 rfl (fun _ => ?_) (fun _ => ?_)
  · refine q_aload_n C 0 dX10_way_37 rfl ?_
    refine q_iconst C (v := 1) dX10_way_38 (by decide) ?_
    refine q_cVI C lk_X10_63 (w_X10_error (Y := Y) 1 r3.2) (Nat.le_of_ble_eq_true rfl) rfl skC_0 (ltC skC_0 rfl) recv_10 (rest := []) rfl rfl (Nat.le_of_ble_eq_true rfl) dX10_way_39 (fun r4 => ?_)
    exact q_ireti C rfl dX10_way_42
  refine q_iload_n C 1 dX10_way_22 rfl ?_
  refine q_iload_n C 2 dX10_way_23 rfl ?_
  refine q_icmp_eq C 37 dX10_way_24 rfl (fun _ => ?_) (fun _ => ?_)
  · refine q_aload_n C 0 dX10_way_37 rfl ?_
    refine q_iconst C (v := 1) dX10_way_38 (by decide) ?_
    refine q_cVI C lk_X10_63 (w_X10_error (Y := Y) 1 r3.2) (Nat.le_of_ble_eq_true rfl) rfl skC_0 (ltC skC_0 rfl) recv_10 (rest := []) rfl rfl (Nat.le_of_ble_eq_true rfl) dX10_way_39 (fun r5 => ?_)
    exact q_ireti C rfl dX10_way_42
  refine q_iload_n C 3 dX10_way_27 rfl ?_
  refine q_iconst C (v := 1) dX10_way_28 (by decide) ?_
  refine q_bipush C (v := 9) dX10_way_29 (by decide) ?_
  refine q_cSI C lk_X10_59 (w_X10_within (Y := Y) a3 1 9 r3.2) (Nat.le_of_ble_eq_true rfl) rfl (rest := []) rfl rfl (Nat.le_of_ble_eq_true rfl) dX10_way_31 (fun r6 => ?_)
  refine q_if_ne C 43 dX10_way_34 rfl (fun _ => ?_) (fun _ => ?_)
  · refine q_aload_n C 0 dX10_way_43 rfl ?_
    refine gf_X10_10 C skC_0 dX10_way_44 ?_
    refine gf_X10_67 C skC_1 dX10_way_47 ?_
    refine q_cVI C lk_X10_71 (w_X9_size (Y := Y) r6.2) (Nat.le_of_ble_eq_true rfl) rfl skC_2 (ltC skC_2 rfl) recv_9 (rest := []) rfl rfl (Nat.le_of_ble_eq_true rfl) dX10_way_50 (fun r7 => ?_)
    refine q_bipush C (v := 8) dX10_way_53 (by decide) ?_
    refine q_icmp_lt C 64 dX10_way_55 rfl (fun _ => ?_) (fun _ => ?_)
    · refine q_aload_n C 0 dX10_way_64 rfl ?_
      refine gf_X10_10 C skC_0 dX10_way_65 ?_
      refine gf_X10_67 C skC_1 dX10_way_68 ?_
      refine q_iload_n C 1 dX10_way_71 rfl ?_
      refine q_iload_n C 2 dX10_way_72 rfl ?_
      refine q_iload_n C 3 dX10_way_73 rfl ?_
      refine q_cVV C lk_X10_98 (w_X9_add (Y := Y) a1 a2 a3 r7.2) (Nat.le_of_ble_eq_true rfl) rfl skC_2 (ltC skC_2 rfl) recv_9 (rest := []) rfl rfl (Nat.le_of_ble_eq_true rfl) dX10_way_74 (fun r8 => ?_)
      refine q_aload_n C 0 dX10_way_77 rfl ?_
      refine gf_X10_10 C skC_0 dX10_way_78 ?_
      refine gf_X10_67 C skC_1 dX10_way_81 ?_
      refine q_cVI C lk_X10_71 (w_X9_size (Y := Y) r8) (Nat.le_of_ble_eq_true rfl) rfl skC_2 (ltC skC_2 rfl) recv_9 (rest := []) rfl rfl (Nat.le_of_ble_eq_true rfl) dX10_way_84 (fun r9 => ?_)
      refine q_iconst C (v := 1) dX10_way_87 (by decide) ?_
      refine q_isub C dX10_way_88 ?_
      exact q_ireti C rfl dX10_way_89
    refine q_aload_n C 0 dX10_way_58 rfl ?_
    refine q_iconst C (v := 4) dX10_way_59 (by decide) ?_
    refine q_cVI C lk_X10_63 (w_X10_error (Y := Y) 4 r7.2) (Nat.le_of_ble_eq_true rfl) rfl skC_0 (ltC skC_0 rfl) recv_10 (rest := []) rfl rfl (Nat.le_of_ble_eq_true rfl) dX10_way_60 (fun r10 => ?_)
    exact q_ireti C rfl dX10_way_63
  refine q_aload_n C 0 dX10_way_37 rfl ?_
  refine q_iconst C (v := 1) dX10_way_38 (by decide) ?_
  refine q_cVI C lk_X10_63 (w_X10_error (Y := Y) 1 r6.2) (Nat.le_of_ble_eq_true rfl) rfl skC_0 (ltC skC_0 rfl) recv_10 (rest := []) rfl rfl (Nat.le_of_ble_eq_true rfl) dX10_way_39 (fun r11 => ?_)
  exact q_ireti C rfl dX10_way_42
theorem lk_X10_102 : LkV RX10 102 yX9_has cX9_has 2 (some .boolean) 1 := ⟨TB_p [477, 478, 479, 71, 480] (by decide +kernel) (by decide +kernel), by decide +kernel, by decide +kernel, by decide +kernel⟩
theorem lk_X10_120 : LkS RX10 120 yX10_inSet cX10_inSet 2 (some .int) 2 := ⟨TB_p [485, 486, 69, 487] (by decide +kernel) (by decide +kernel), by decide +kernel, by decide +kernel, by decide +kernel⟩
def f_X10_ofWay (a1 : Int32) (a2 : Int32) (σ : St) : Option (Int32 × St) := (Option.bind (f_X9_has a1 σ) fun r1 => (if r1.1 = 0 then (Option.bind (f_X10_error 1 r1.2) fun r11 => (some (r11.1, r11.2))) else (if a2 = 0 then (Option.bind (f_X2_get 3 a1 r1.2) fun r3 => (some (r3.1, r3.2))) else (if a2 = 1 then (Option.bind (f_X2_get 5 a1 r1.2) fun r5 => (some (r5.1, r5.2))) else (if a2 = 2 then (Option.bind (f_X2_get 7 a1 r1.2) fun r7 => (some (r7.1, r7.2))) else (if a2 = 3 then (Option.bind (f_X10_inSet (r1.2 2 3) a1 r1.2) fun r9 => (some (r9.1, r9.2))) else (Option.bind (f_X10_error 1 r1.2) fun r10 => (some (r10.1, r10.2)))))))))
theorem w_X10_ofWay {Y : YT} (a1 : Int32) (a2 : Int32)   (σ : St) : CtE (emI FC Y) FC Y yX10_ofWay cX10_ofWay 3 (some .int) 2 [Rf Y 0, .int a1, .int a2] σ (f_X10_ofWay a1 a2 σ) := by
  refine Ct.ofG (by decide) (Nat.le_of_ble_eq_true rfl) (fun X C0 => ?_)
  have C : Cx FC Y X cX10_ofWay 3 RX10 (some .int) 2 (0, 0) := C0
  show G FC Y X 3 (emI FC Y) (0, 0) (0, 0) 0 [(0, Rf Y 0), (1, .int a1), (2, .int a2)] [] (RepS FC Y σ) (f_X10_ofWay a1 a2 σ)
  rw [f_X10_ofWay]
  refine q_aload_n C 0 dX10_ofWay_0 rfl ?_
  refine gf_X10_10 C skC_0 dX10_ofWay_1 ?_
  refine gf_X10_67 C skC_1 dX10_ofWay_4 ?_
  refine q_iload_n C 1 dX10_ofWay_7 rfl ?_
  refine q_cVI C lk_X10_102 (w_X9_has (Y := Y) a1 σ) (Nat.le_of_ble_eq_true rfl) rfl skC_2 (ltC skC_2 rfl) recv_9 (rest := []) rfl rfl (Nat.le_of_ble_eq_true rfl) dX10_ofWay_8 (fun r1 => ?_)
  refine q_if_ne C 20 dX10_ofWay_11 rfl (fun _ => ?_) (fun _ => ?_)
  · refine q_iload_n C 2 dX10_ofWay_20 rfl ?_
    refine G.ite (fun h2 => ?_) (fun h2 => ?_)
    · refine q_tsw_in C 52 dX10_ofWay_21 h2 (by decide) (by decide) rfl rfl ?_
      refine q_aload_n C 0 dX10_ofWay_52 rfl ?_
      refine gf_X10_10 C skC_0 dX10_ofWay_53 ?_
      refine gf_X10_67 C skC_1 dX10_ofWay_56 ?_
      refine gf_X10_105 C skC_2 dX10_ofWay_59 ?_
      refine q_iload_n C 1 dX10_ofWay_62 rfl ?_
      refine q_cVI C lk_X10_108 (w_X2_get (Y := Y) 3 a1 skC_3 r1.2) (Nat.le_of_ble_eq_true rfl) rfl skC_3 (ltC skC_3 rfl) recv_2 (rest := []) rfl rfl (Nat.le_of_ble_eq_true rfl) dX10_ofWay_63 (fun r3 => ?_)
      exact q_ireti C rfl dX10_ofWay_66
    refine G.ite (fun h4 => ?_) (fun h4 => ?_)
    · refine q_tsw_in C 67 dX10_ofWay_21 h4 (by decide) (by decide) rfl rfl ?_
      refine q_aload_n C 0 dX10_ofWay_67 rfl ?_
      refine gf_X10_10 C skC_0 dX10_ofWay_68 ?_
      refine gf_X10_67 C skC_1 dX10_ofWay_71 ?_
      refine gf_X10_111 C skC_2 dX10_ofWay_74 ?_
      refine q_iload_n C 1 dX10_ofWay_77 rfl ?_
      refine q_cVI C lk_X10_108 (w_X2_get (Y := Y) 5 a1 skC_5 r1.2) (Nat.le_of_ble_eq_true rfl) rfl skC_5 (ltC skC_5 rfl) recv_2 (rest := []) rfl rfl (Nat.le_of_ble_eq_true rfl) dX10_ofWay_78 (fun r5 => ?_)
      exact q_ireti C rfl dX10_ofWay_81
    refine G.ite (fun h6 => ?_) (fun h6 => ?_)
    · refine q_tsw_in C 82 dX10_ofWay_21 h6 (by decide) (by decide) rfl rfl ?_
      refine q_aload_n C 0 dX10_ofWay_82 rfl ?_
      refine gf_X10_10 C skC_0 dX10_ofWay_83 ?_
      refine gf_X10_67 C skC_1 dX10_ofWay_86 ?_
      refine gf_X10_114 C skC_2 dX10_ofWay_89 ?_
      refine q_iload_n C 1 dX10_ofWay_92 rfl ?_
      refine q_cVI C lk_X10_108 (w_X2_get (Y := Y) 7 a1 skC_7 r1.2) (Nat.le_of_ble_eq_true rfl) rfl skC_7 (ltC skC_7 rfl) recv_2 (rest := []) rfl rfl (Nat.le_of_ble_eq_true rfl) dX10_ofWay_93 (fun r7 => ?_)
      exact q_ireti C rfl dX10_ofWay_96
    refine G.ite (fun h8 => ?_) (fun h8 => ?_)
    · refine q_tsw_in C 97 dX10_ofWay_21 h8 (by decide) (by decide) rfl rfl ?_
      refine q_aload_n C 0 dX10_ofWay_97 rfl ?_
      refine gf_X10_10 C skC_0 dX10_ofWay_98 ?_
      refine gf_X10_67 C skC_1 dX10_ofWay_101 ?_
      refine gf_X10_117 C skC_2 dX10_ofWay_104 ?_
      refine q_iload_n C 1 dX10_ofWay_107 rfl ?_
      refine q_cSI C lk_X10_120 (w_X10_inSet (Y := Y) (r1.2 2 3) a1 r1.2) (Nat.le_of_ble_eq_true rfl) rfl (rest := []) rfl rfl (Nat.le_of_ble_eq_true rfl) dX10_ofWay_108 (fun r9 => ?_)
      exact q_ireti C rfl dX10_ofWay_111
    refine q_tsw_out C 112 dX10_ofWay_21 ?_ rfl ?_
    · have hsw := sw_out 0 4 (by decide) (by decide) ⟨h2, h4, h6, h8, trivial⟩
      omega
    refine q_aload_n C 0 dX10_ofWay_112 rfl ?_
    refine q_iconst C (v := 1) dX10_ofWay_113 (by decide) ?_
    refine q_cVI C lk_X10_63 (w_X10_error (Y := Y) 1 r1.2) (Nat.le_of_ble_eq_true rfl) rfl skC_0 (ltC skC_0 rfl) recv_10 (rest := []) rfl rfl (Nat.le_of_ble_eq_true rfl) dX10_ofWay_114 (fun r10 => ?_)
    exact q_ireti C rfl dX10_ofWay_117
  refine q_aload_n C 0 dX10_ofWay_14 rfl ?_
  refine q_iconst C (v := 1) dX10_ofWay_15 (by decide) ?_
  refine q_cVI C lk_X10_63 (w_X10_error (Y := Y) 1 r1.2) (Nat.le_of_ble_eq_true rfl) rfl skC_0 (ltC skC_0 rfl) recv_10 (rest := []) rfl rfl (Nat.le_of_ble_eq_true rfl) dX10_ofWay_16 (fun r11 => ?_)
  exact q_ireti C rfl dX10_ofWay_19
theorem lk_X10_124 : LkS RX10 124 yX10_withMember cX10_withMember 3 (some .int) 3 := ⟨TB_p [492, 493, 69, 494] (by decide +kernel) (by decide +kernel), by decide +kernel, by decide +kernel, by decide +kernel⟩
def f_X10_stop (a1 : Int32) (a2 : Int32) (σ : St) : Option (Int32 × St) := (Option.bind (f_X9_has a1 σ) fun r1 => (if r1.1 = 0 then (Option.bind (f_X10_error 1 r1.2) fun r2 => (some (r2.1, r2.2))) else (Option.bind (f_X10_within a2 0 1 r1.2) fun r3 => (if r3.1 = 0 then (Option.bind (f_X10_error 1 r3.2) fun r9 => (some (r9.1, r9.2))) else (Option.bind (f_X10_inSet (r3.2 2 3) a1 r3.2) fun r4 => (if a2 = 1 then (Option.bind (f_X10_withMember (r4.2 2 3) a1 1 r4.2) fun r7 => (Bst (up r7.2 2 3 r7.1) fun s8 => (some (r4.1, s8)))) else (Option.bind (f_X10_withMember (r4.2 2 3) a1 0 r4.2) fun r5 => (Bst (up r5.2 2 3 r5.1) fun s6 => (some (r4.1, s6))))))))))
theorem w_X10_stop {Y : YT} (a1 : Int32) (a2 : Int32)   (σ : St) : CtE (emI FC Y) FC Y yX10_stop cX10_stop 4 (some .int) 2 [Rf Y 0, .int a1, .int a2] σ (f_X10_stop a1 a2 σ) := by
  refine Ct.ofG (by decide) (Nat.le_of_ble_eq_true rfl) (fun X C0 => ?_)
  have C : Cx FC Y X cX10_stop 4 RX10 (some .int) 2 (0, 0) := C0
  show G FC Y X 4 (emI FC Y) (0, 0) (0, 0) 0 [(0, Rf Y 0), (1, .int a1), (2, .int a2)] [] (RepS FC Y σ) (f_X10_stop a1 a2 σ)
  rw [f_X10_stop]
  refine q_aload_n C 0 dX10_stop_0 rfl ?_
  refine gf_X10_10 C skC_0 dX10_stop_1 ?_
  refine gf_X10_67 C skC_1 dX10_stop_4 ?_
  refine q_iload_n C 1 dX10_stop_7 rfl ?_
  refine q_cVI C lk_X10_102 (w_X9_has (Y := Y) a1 σ) (Nat.le_of_ble_eq_true rfl) rfl skC_2 (ltC skC_2 rfl) recv_9 (rest := []) rfl rfl (Nat.le_of_ble_eq_true rfl) dX10_stop_8 (fun r1 => ?_)
  refine q_if_eq C 23 dX10_stop_11 rfl (fun _ => ?_) (fun _ => ?_)
  · refine q_aload_n C 0 dX10_stop_23 rfl ?_
    refine q_iconst C (v := 1) dX10_stop_24 (by decide) ?_
    refine q_cVI C lk_X10_63 (w_X10_error (Y := Y) 1 r1.2) (Nat.le_of_ble_eq_true rfl) rfl skC_0 (ltC skC_0 rfl) recv_10 (rest := []) rfl rfl (Nat.le_of_ble_eq_true rfl) dX10_stop_25 (fun r2 => ?_)
    exact q_ireti C rfl dX10_stop_28
  refine q_iload_n C 2 dX10_stop_14 rfl ?_
  refine q_iconst C (v := 0) dX10_stop_15 (by decide) ?_
  refine q_iconst C (v := 1) dX10_stop_16 (by decide) ?_
  refine q_cSI C lk_X10_59 (w_X10_within (Y := Y) a2 0 1 r1.2) (Nat.le_of_ble_eq_true rfl) rfl (rest := []) rfl rfl (Nat.le_of_ble_eq_true rfl) dX10_stop_17 (fun r3 => ?_)
  refine q_if_ne C 29 dX10_stop_20 rfl (fun _ => ?_) (fun _ => ?_)
  · refine q_aload_n C 0 dX10_stop_29 rfl ?_
    refine gf_X10_10 C skC_0 dX10_stop_30 ?_
    refine gf_X10_67 C skC_1 dX10_stop_33 ?_
    refine gf_X10_117 C skC_2 dX10_stop_36 ?_
    refine q_iload_n C 1 dX10_stop_39 rfl ?_
    refine q_cSI C lk_X10_120 (w_X10_inSet (Y := Y) (r3.2 2 3) a1 r3.2) (Nat.le_of_ble_eq_true rfl) rfl (rest := []) rfl rfl (Nat.le_of_ble_eq_true rfl) dX10_stop_40 (fun r4 => ?_)
    refine q_istore_n C [(3, .int r4.1), (0, Rf Y 0), (1, .int a1), (2, .int a2)] dX10_stop_43 rfl rfl ?_
    refine q_aload_n C 1 dX10_stop_44 rfl ?_
    refine gf_X10_10 C skC_0 dX10_stop_45 ?_
    refine gf_X10_67 C skC_1 dX10_stop_48 ?_
    refine q_aload_n C 1 dX10_stop_51 rfl ?_
    refine gf_X10_10 C skC_0 dX10_stop_52 ?_
    refine gf_X10_67 C skC_1 dX10_stop_55 ?_
    refine gf_X10_117 C skC_2 dX10_stop_58 ?_
    refine q_iload_n C 2 dX10_stop_61 rfl ?_
    refine q_iload_n C 3 dX10_stop_62 rfl ?_
    refine q_iconst C (v := 1) dX10_stop_63 (by decide) ?_
    refine q_icmp_ne C 71 dX10_stop_64 rfl (fun _ => ?_) (fun _ => ?_)
    · refine q_iconst C (v := 0) dX10_stop_71 (by decide) ?_
      refine q_cSI C lk_X10_124 (w_X10_withMember (Y := Y) (r4.2 2 3) a1 0 r4.2) (Nat.le_of_ble_eq_true rfl) rfl (rest := [Rf Y 2]) rfl rfl (Nat.le_of_ble_eq_true rfl) dX10_stop_72 (fun r5 => ?_)
      refine pf_X10_117 C skC_2 dX10_stop_75 (fun s6 => ?_)
      refine q_iload_n C 0 dX10_stop_78 rfl ?_
      exact q_ireti C rfl dX10_stop_79
    refine q_iconst C (v := 1) dX10_stop_67 (by decide) ?_
    refine q_goto C 72 dX10_stop_68 rfl ?_
    refine q_cSI C lk_X10_124 (w_X10_withMember (Y := Y) (r4.2 2 3) a1 1 r4.2) (Nat.le_of_ble_eq_true rfl) rfl (rest := [Rf Y 2]) rfl rfl (Nat.le_of_ble_eq_true rfl) dX10_stop_72 (fun r7 => ?_)
    refine pf_X10_117 C skC_2 dX10_stop_75 (fun s8 => ?_)
    refine q_iload_n C 0 dX10_stop_78 rfl ?_
    exact q_ireti C rfl dX10_stop_79
  refine q_aload_n C 0 dX10_stop_23 rfl ?_
  refine q_iconst C (v := 1) dX10_stop_24 (by decide) ?_
  refine q_cVI C lk_X10_63 (w_X10_error (Y := Y) 1 r3.2) (Nat.le_of_ble_eq_true rfl) rfl skC_0 (ltC skC_0 rfl) recv_10 (rest := []) rfl rfl (Nat.le_of_ble_eq_true rfl) dX10_stop_25 (fun r9 => ?_)
  exact q_ireti C rfl dX10_stop_28
def f_X10_rain (a1 : Int32) (σ : St) : Option (Int32 × St) := (Option.bind (f_X10_within a1 0 9 σ) fun r1 => (if r1.1 = 0 then (Option.bind (f_X10_error 1 r1.2) fun r3 => (some (r3.1, r3.2))) else (Bst (up r1.2 1 1 a1) fun s2 => (some ((r1.2 1 1), s2)))))
theorem w_X10_rain {Y : YT} (a1 : Int32)   (σ : St) : CtE (emI FC Y) FC Y yX10_rain cX10_rain 3 (some .int) 2 [Rf Y 0, .int a1] σ (f_X10_rain a1 σ) := by
  refine Ct.ofG (by decide) (Nat.le_of_ble_eq_true rfl) (fun X C0 => ?_)
  have C : Cx FC Y X cX10_rain 3 RX10 (some .int) 2 (0, 0) := C0
  show G FC Y X 3 (emI FC Y) (0, 0) (0, 0) 0 [(0, Rf Y 0), (1, .int a1)] [] (RepS FC Y σ) (f_X10_rain a1 σ)
  rw [f_X10_rain]
  refine q_iload_n C 1 dX10_rain_0 rfl ?_
  refine q_iconst C (v := 0) dX10_rain_1 (by decide) ?_
  refine q_bipush C (v := 9) dX10_rain_2 (by decide) ?_
  refine q_cSI C lk_X10_59 (w_X10_within (Y := Y) a1 0 9 σ) (Nat.le_of_ble_eq_true rfl) rfl (rest := []) rfl rfl (Nat.le_of_ble_eq_true rfl) dX10_rain_4 (fun r1 => ?_)
  refine q_if_ne C 16 dX10_rain_7 rfl (fun _ => ?_) (fun _ => ?_)
  · refine q_aload_n C 0 dX10_rain_16 rfl ?_
    refine gf_X10_10 C skC_0 dX10_rain_17 ?_
    refine gf_X10_128 C skC_1 dX10_rain_20 ?_
    refine q_istore_n C [(2, .int (r1.2 1 1)), (0, Rf Y 0), (1, .int a1)] dX10_rain_23 rfl rfl ?_
    refine q_aload_n C 1 dX10_rain_24 rfl ?_
    refine gf_X10_10 C skC_0 dX10_rain_25 ?_
    refine q_iload_n C 2 dX10_rain_28 rfl ?_
    refine pf_X10_128 C skC_1 dX10_rain_29 (fun s2 => ?_)
    refine q_iload_n C 0 dX10_rain_32 rfl ?_
    exact q_ireti C rfl dX10_rain_33
  refine q_aload_n C 0 dX10_rain_10 rfl ?_
  refine q_iconst C (v := 1) dX10_rain_11 (by decide) ?_
  refine q_cVI C lk_X10_63 (w_X10_error (Y := Y) 1 r1.2) (Nat.le_of_ble_eq_true rfl) rfl skC_0 (ltC skC_0 rfl) recv_10 (rest := []) rfl rfl (Nat.le_of_ble_eq_true rfl) dX10_rain_12 (fun r3 => ?_)
  exact q_ireti C rfl dX10_rain_15
def f_X10_isKindAndDigit (a1 : Int32) (σ : St) : Option (Int32 × St) := (Option.bind (f_X10_within a1 0 69 σ) fun r1 => (if r1.1 = 0 ∨ r1.1 = 1 then (some (r1.1, r1.2)) else none))
theorem w_X10_isKindAndDigit {Y : YT} (a1 : Int32)   (σ : St) : CtE (emI FC Y) FC Y yX10_isKindAndDigit cX10_isKindAndDigit 1 (some .boolean) 1 [.int a1] σ (f_X10_isKindAndDigit a1 σ) := by
  refine Ct.ofG (by decide) (Nat.le_of_ble_eq_true rfl) (fun X C0 => ?_)
  have C : Cx FC Y X cX10_isKindAndDigit 1 RX10 (some .boolean) 1 (0, 0) := C0
  show G FC Y X 1 (emI FC Y) (0, 0) (0, 0) 0 [(0, .int a1)] [] (RepS FC Y σ) (f_X10_isKindAndDigit a1 σ)
  rw [f_X10_isKindAndDigit]
  refine q_iload_n C 0 dX10_isKindAndDigit_0 rfl ?_
  refine q_iconst C (v := 0) dX10_isKindAndDigit_1 (by decide) ?_
  refine q_bipush C (v := 69) dX10_isKindAndDigit_2 (by decide) ?_
  refine q_cSI C lk_X10_59 (w_X10_within (Y := Y) a1 0 69 σ) (Nat.le_of_ble_eq_true rfl) rfl (rest := []) rfl rfl (Nat.le_of_ble_eq_true rfl) dX10_isKindAndDigit_4 (fun r1 => ?_)
  exact G.ite (fun h => q_iretz C h rfl dX10_isKindAndDigit_7) (fun _ => G.none)
theorem lk_X10_131 : LkS RX10 131 yX10_isKindAndDigit cX10_isKindAndDigit 1 (some .boolean) 1 := ⟨TB_p [503, 504, 69, 505] (by decide +kernel) (by decide +kernel), by decide +kernel, by decide +kernel, by decide +kernel⟩
theorem lk_X10_134 : LkV RX10 134 yX4_add cX4_add 5 none 4 := ⟨TB_p [506, 507, 508, 74, 509] (by decide +kernel) (by decide +kernel), by decide +kernel, by decide +kernel, by decide +kernel⟩
def f_X10_call (a1 : Int32) (a2 : Int32) (a3 : Int32) (σ : St) : Option (Int32 × St) := (Option.bind (f_X10_isKindAndDigit a1 σ) fun r1 => (if r1.1 = 0 then (Option.bind (f_X10_error 1 r1.2) fun r2 => (some (r2.1, r2.2))) else (Option.bind (f_X7_isWell a2 r1.2) fun r3 => (if r3.1 = 0 then (Option.bind (f_X10_error 1 r3.2) fun r4 => (some (r4.1, r4.2))) else (Option.bind (f_X10_within a3 0 99 r3.2) fun r5 => (if r5.1 = 0 then (Option.bind (f_X10_error 1 r5.2) fun r10 => (some (r10.1, r10.2))) else (Option.bind (f_X4_size r5.2) fun r6 => (if r6.1 < 8 then (Option.bind (f_X4_add (a1 / 10) (irm a1 10) a2 a3 r6.2) fun r7 => (Option.bind (f_X4_size r7) fun r8 => (some ((r8.1 - 1), r8.2)))) else (Option.bind (f_X10_error 4 r6.2) fun r9 => (some (r9.1, r9.2)))))))))))
theorem w_X10_call {Y : YT} (a1 : Int32) (a2 : Int32) (a3 : Int32)   (σ : St) : CtE (emI FC Y) FC Y yX10_call cX10_call 4 (some .int) 2 [Rf Y 0, .int a1, .int a2, .int a3] σ (f_X10_call a1 a2 a3 σ) := by
  refine Ct.ofG (by decide) (Nat.le_of_ble_eq_true rfl) (fun X C0 => ?_)
  have C : Cx FC Y X cX10_call 4 RX10 (some .int) 2 (0, 0) := C0
  show G FC Y X 4 (emI FC Y) (0, 0) (0, 0) 0 [(0, Rf Y 0), (1, .int a1), (2, .int a2), (3, .int a3)] [] (RepS FC Y σ) (f_X10_call a1 a2 a3 σ)
  rw [f_X10_call]
  refine q_iload_n C 1 dX10_call_0 rfl ?_
  refine q_cSI C lk_X10_131 (w_X10_isKindAndDigit (Y := Y) a1 σ) (Nat.le_of_ble_eq_true rfl) rfl (rest := []) rfl rfl (Nat.le_of_ble_eq_true rfl) dX10_call_1 (fun r1 => ?_)
  refine q_if_eq C 28 dX10_call_4 rfl (fun _ => ?_) (fun _ => ?_)
  · refine q_aload_n C 0 dX10_call_28 rfl ?_
    refine q_iconst C (v := 1) dX10_call_29 (by decide) ?_
    refine q_cVI C lk_X10_63 (w_X10_error (Y := Y) 1 r1.2) (Nat.le_of_ble_eq_true rfl) rfl skC_0 (ltC skC_0 rfl) recv_10 (rest := []) rfl rfl (Nat.le_of_ble_eq_true rfl) dX10_call_30 (fun r2 => ?_)
    exact q_ireti C rfl dX10_call_33
  refine q_aload_n C 0 dX10_call_7 rfl ?_
  refine gf_X10_10 C skC_0 dX10_call_8 ?_
  refine q_iload_n C 2 dX10_call_11 rfl ?_
  refine q_cVI C lk_X10_94 (w_X7_isWell (Y := Y) a2 r1.2) (Nat.le_of_ble_eq_true rfl) rfl skC_1 (ltC skC_1 rfl) recv_7 (rest := []) rfl rfl (Nat.le_of_ble_eq_true rfl) dX10_call_12 (fun r3 => ?_)
  refine q_if_eq C 28 dX10_call_15 rfl (fun _ => ?_) (fun _ => ?_)
  · refine q_aload_n C 0 dX10_call_28 rfl ?_
    refine q_iconst C (v := 1) dX10_call_29 (by decide) ?_
    refine q_cVI C lk_X10_63 (w_X10_error (Y := Y) 1 r3.2) (Nat.le_of_ble_eq_true rfl) rfl skC_0 (ltC skC_0 rfl) recv_10 (rest := []) rfl rfl (Nat.le_of_ble_eq_true rfl) dX10_call_30 (fun r4 => ?_)
    exact q_ireti C rfl dX10_call_33
  refine q_iload_n C 3 dX10_call_18 rfl ?_
  refine q_iconst C (v := 0) dX10_call_19 (by decide) ?_
  refine q_bipush C (v := 99) dX10_call_20 (by decide) ?_
  refine q_cSI C lk_X10_59 (w_X10_within (Y := Y) a3 0 99 r3.2) (Nat.le_of_ble_eq_true rfl) rfl (rest := []) rfl rfl (Nat.le_of_ble_eq_true rfl) dX10_call_22 (fun r5 => ?_)
  refine q_if_ne C 34 dX10_call_25 rfl (fun _ => ?_) (fun _ => ?_)
  · refine q_aload_n C 0 dX10_call_34 rfl ?_
    refine gf_X10_10 C skC_0 dX10_call_35 ?_
    refine gf_X10_77 C skC_1 dX10_call_38 ?_
    refine q_cVI C lk_X10_81 (w_X4_size (Y := Y) r5.2) (Nat.le_of_ble_eq_true rfl) rfl skC_9 (ltC skC_9 rfl) recv_4 (rest := []) rfl rfl (Nat.le_of_ble_eq_true rfl) dX10_call_41 (fun r6 => ?_)
    refine q_bipush C (v := 8) dX10_call_44 (by decide) ?_
    refine q_icmp_lt C 55 dX10_call_46 rfl (fun _ => ?_) (fun _ => ?_)
    · refine q_aload_n C 0 dX10_call_55 rfl ?_
      refine gf_X10_10 C skC_0 dX10_call_56 ?_
      refine gf_X10_77 C skC_1 dX10_call_59 ?_
      refine q_iload_n C 1 dX10_call_62 rfl ?_
      refine q_bipush C (v := 10) dX10_call_63 (by decide) ?_
      refine q_idiv C dX10_call_65 (by decide) ?_
      refine q_iload_n C 1 dX10_call_66 rfl ?_
      refine q_bipush C (v := 10) dX10_call_67 (by decide) ?_
      refine q_irem C dX10_call_69 (by decide) ?_
      refine q_iload_n C 2 dX10_call_70 rfl ?_
      refine q_iload_n C 3 dX10_call_71 rfl ?_
      refine q_cVV C lk_X10_134 (w_X4_add (Y := Y) (a1 / 10) (irm a1 10) a2 a3 r6.2) (Nat.le_of_ble_eq_true rfl) rfl skC_9 (ltC skC_9 rfl) recv_4 (rest := []) rfl rfl (Nat.le_of_ble_eq_true rfl) dX10_call_72 (fun r7 => ?_)
      refine q_aload_n C 0 dX10_call_75 rfl ?_
      refine gf_X10_10 C skC_0 dX10_call_76 ?_
      refine gf_X10_77 C skC_1 dX10_call_79 ?_
      refine q_cVI C lk_X10_81 (w_X4_size (Y := Y) r7) (Nat.le_of_ble_eq_true rfl) rfl skC_9 (ltC skC_9 rfl) recv_4 (rest := []) rfl rfl (Nat.le_of_ble_eq_true rfl) dX10_call_82 (fun r8 => ?_)
      refine q_iconst C (v := 1) dX10_call_85 (by decide) ?_
      refine q_isub C dX10_call_86 ?_
      exact q_ireti C rfl dX10_call_87
    refine q_aload_n C 0 dX10_call_49 rfl ?_
    refine q_iconst C (v := 4) dX10_call_50 (by decide) ?_
    refine q_cVI C lk_X10_63 (w_X10_error (Y := Y) 4 r6.2) (Nat.le_of_ble_eq_true rfl) rfl skC_0 (ltC skC_0 rfl) recv_10 (rest := []) rfl rfl (Nat.le_of_ble_eq_true rfl) dX10_call_51 (fun r9 => ?_)
    exact q_ireti C rfl dX10_call_54
  refine q_aload_n C 0 dX10_call_28 rfl ?_
  refine q_iconst C (v := 1) dX10_call_29 (by decide) ?_
  refine q_cVI C lk_X10_63 (w_X10_error (Y := Y) 1 r5.2) (Nat.le_of_ble_eq_true rfl) rfl skC_0 (ltC skC_0 rfl) recv_10 (rest := []) rfl rfl (Nat.le_of_ble_eq_true rfl) dX10_call_30 (fun r10 => ?_)
  exact q_ireti C rfl dX10_call_33
theorem lk_X10_137 : LkV RX10 137 yX4_has cX4_has 2 (some .boolean) 1 := ⟨TB_p [515, 516, 517, 74, 518] (by decide +kernel) (by decide +kernel), by decide +kernel, by decide +kernel, by decide +kernel⟩
theorem lk_X10_138 : LkV RX10 138 yX7_thought cX7_thought 2 (some (.object "WellTold$Saying")) 1 := ⟨TB_p [520, 521, 522, 70, 523] (by decide +kernel) (by decide +kernel), by decide +kernel, by decide +kernel, by decide +kernel⟩
theorem lk_X10_159 : LkV RX10 159 yX7_weakeningOf cX7_weakeningOf 4 (some .int) 2 := ⟨TB_p [529, 530, 531, 70, 532] (by decide +kernel) (by decide +kernel), by decide +kernel, by decide +kernel, by decide +kernel⟩
theorem lk_X10_163 : LkV RX10 163 yX7_nextWayOf cX7_nextWayOf 4 (some .int) 2 := ⟨TB_p [553, 554, 555, 70, 556] (by decide +kernel) (by decide +kernel), by decide +kernel, by decide +kernel, by decide +kernel⟩
def f_X10_ofSaying (a1 : Int32) (a2 : Int32) (σ : St) : Option (Int32 × St) := (Option.bind (f_X4_has a1 σ) fun r1 => (if r1.1 = 0 then (Option.bind (f_X10_error 1 r1.2) fun r15 => (some (r15.1, r15.2))) else (Option.bind (f_X7_thought a1 r1.2) fun r2 => (if shC r2.1 = 3 then (if a2 = 0 then (some ((r2.2 r2.1 0), r2.2)) else (if a2 = 1 then (some ((r2.2 r2.1 1), r2.2)) else (if a2 = 2 then (some ((r2.2 r2.1 2), r2.2)) else (if a2 = 3 then (some ((r2.2 r2.1 3), r2.2)) else (if a2 = 4 then (some ((r2.2 r2.1 4), r2.2)) else (if a2 = 5 then (Option.bind (f_X7_weakeningOf r2.1 (r2.2 1 1) r2.2) fun r10 => (some (r10.1, r10.2))) else (if a2 = 6 then (Option.bind (f_X7_nextWayOf r2.1 (r2.2 2 3) r2.2) fun r12 => (some (r12.1, r12.2))) else (if a2 = 7 then (some ((r2.2 r2.1 5), r2.2)) else (Option.bind (f_X10_error 1 r2.2) fun r14 => (some (r14.1, r14.2))))))))))) else none))))
theorem w_X10_ofSaying {Y : YT} (a1 : Int32) (a2 : Int32)   (σ : St) : CtE (emI FC Y) FC Y yX10_ofSaying cX10_ofSaying 4 (some .int) 3 [Rf Y 0, .int a1, .int a2] σ (f_X10_ofSaying a1 a2 σ) := by
  refine Ct.ofG (by decide) (Nat.le_of_ble_eq_true rfl) (fun X C0 => ?_)
  have C : Cx FC Y X cX10_ofSaying 4 RX10 (some .int) 3 (0, 0) := C0
  show G FC Y X 4 (emI FC Y) (0, 0) (0, 0) 0 [(0, Rf Y 0), (1, .int a1), (2, .int a2)] [] (RepS FC Y σ) (f_X10_ofSaying a1 a2 σ)
  rw [f_X10_ofSaying]
  refine q_aload_n C 0 dX10_ofSaying_0 rfl ?_
  refine gf_X10_10 C skC_0 dX10_ofSaying_1 ?_
  refine gf_X10_77 C skC_1 dX10_ofSaying_4 ?_
  refine q_iload_n C 1 dX10_ofSaying_7 rfl ?_
  refine q_cVI C lk_X10_137 (w_X4_has (Y := Y) a1 σ) (Nat.le_of_ble_eq_true rfl) rfl skC_9 (ltC skC_9 rfl) recv_4 (rest := []) rfl rfl (Nat.le_of_ble_eq_true rfl) dX10_ofSaying_8 (fun r1 => ?_)
  refine q_if_ne C 20 dX10_ofSaying_11 rfl (fun _ => ?_) (fun _ => ?_)
  · refine q_aload_n C 0 dX10_ofSaying_20 rfl ?_
    refine gf_X10_10 C skC_0 dX10_ofSaying_21 ?_
    refine q_iload_n C 1 dX10_ofSaying_24 rfl ?_
    refine q_cVR C lk_X10_138 (w_X7_thought (Y := Y) a1 r1.2) (Nat.le_of_ble_eq_true rfl) rfl skC_1 (ltC skC_1 rfl) recv_7 (rest := []) rfl rfl (Nat.le_of_ble_eq_true rfl) dX10_ofSaying_25 (fun r2 => ?_)
    refine G.ite (fun h3 => ?_) (fun _ => G.none)
    refine q_astore_n C [(3, Rf Y r2.1), (0, Rf Y 0), (1, .int a1), (2, .int a2)] dX10_ofSaying_28 rfl rfl ?_
    refine q_iload_n C 3 dX10_ofSaying_29 rfl ?_
    refine G.ite (fun h4 => ?_) (fun h4 => ?_)
    · refine q_tsw_in C 76 dX10_ofSaying_30 h4 (by decide) (by decide) rfl rfl ?_
      refine q_aload_n C 0 dX10_ofSaying_76 rfl ?_
      refine gf_X10_142 C h3 dX10_ofSaying_77 ?_
      exact q_ireti C rfl dX10_ofSaying_80
    refine G.ite (fun h5 => ?_) (fun h5 => ?_)
    · refine q_tsw_in C 81 dX10_ofSaying_30 h5 (by decide) (by decide) rfl rfl ?_
      refine q_aload_n C 0 dX10_ofSaying_81 rfl ?_
      refine gf_X10_147 C h3 dX10_ofSaying_82 ?_
      exact q_ireti C rfl dX10_ofSaying_85
    refine G.ite (fun h6 => ?_) (fun h6 => ?_)
    · refine q_tsw_in C 86 dX10_ofSaying_30 h6 (by decide) (by decide) rfl rfl ?_
      refine q_aload_n C 0 dX10_ofSaying_86 rfl ?_
      refine gf_X10_150 C h3 dX10_ofSaying_87 ?_
      exact q_ireti C rfl dX10_ofSaying_90
    refine G.ite (fun h7 => ?_) (fun h7 => ?_)
    · refine q_tsw_in C 91 dX10_ofSaying_30 h7 (by decide) (by decide) rfl rfl ?_
      refine q_aload_n C 0 dX10_ofSaying_91 rfl ?_
      refine gf_X10_153 C h3 dX10_ofSaying_92 ?_
      exact q_ireti C rfl dX10_ofSaying_95
    refine G.ite (fun h8 => ?_) (fun h8 => ?_)
    · refine q_tsw_in C 96 dX10_ofSaying_30 h8 (by decide) (by decide) rfl rfl ?_
      refine q_aload_n C 0 dX10_ofSaying_96 rfl ?_
      refine gf_X10_156 C h3 dX10_ofSaying_97 ?_
      exact q_ireti C rfl dX10_ofSaying_100
    refine G.ite (fun h9 => ?_) (fun h9 => ?_)
    · refine q_tsw_in C 101 dX10_ofSaying_30 h9 (by decide) (by decide) rfl rfl ?_
      refine q_aload_n C 1 dX10_ofSaying_101 rfl ?_
      refine gf_X10_10 C skC_0 dX10_ofSaying_102 ?_
      refine q_aload_n C 0 dX10_ofSaying_105 rfl ?_
      refine q_aload_n C 1 dX10_ofSaying_106 rfl ?_
      refine gf_X10_10 C skC_0 dX10_ofSaying_107 ?_
      refine gf_X10_128 C skC_1 dX10_ofSaying_110 ?_
      refine q_cVI C lk_X10_159 (w_X7_weakeningOf (Y := Y) r2.1 (r2.2 1 1) h3 r2.2) (Nat.le_of_ble_eq_true rfl) rfl skC_1 (ltC skC_1 rfl) recv_7 (rest := []) rfl rfl (Nat.le_of_ble_eq_true rfl) dX10_ofSaying_113 (fun r10 => ?_)
      exact q_ireti C rfl dX10_ofSaying_116
    refine G.ite (fun h11 => ?_) (fun h11 => ?_)
    · refine q_tsw_in C 117 dX10_ofSaying_30 h11 (by decide) (by decide) rfl rfl ?_
      refine q_aload_n C 1 dX10_ofSaying_117 rfl ?_
      refine gf_X10_10 C skC_0 dX10_ofSaying_118 ?_
      refine q_aload_n C 0 dX10_ofSaying_121 rfl ?_
      refine q_aload_n C 1 dX10_ofSaying_122 rfl ?_
      refine gf_X10_10 C skC_0 dX10_ofSaying_123 ?_
      refine gf_X10_67 C skC_1 dX10_ofSaying_126 ?_
      refine gf_X10_117 C skC_2 dX10_ofSaying_129 ?_
      refine q_cVI C lk_X10_163 (w_X7_nextWayOf (Y := Y) r2.1 (r2.2 2 3) h3 r2.2) (Nat.le_of_ble_eq_true rfl) rfl skC_1 (ltC skC_1 rfl) recv_7 (rest := []) rfl rfl (Nat.le_of_ble_eq_true rfl) dX10_ofSaying_132 (fun r12 => ?_)
      exact q_ireti C rfl dX10_ofSaying_135
    refine G.ite (fun h13 => ?_) (fun h13 => ?_)
    · refine q_tsw_in C 136 dX10_ofSaying_30 h13 (by decide) (by decide) rfl rfl ?_
      refine q_aload_n C 0 dX10_ofSaying_136 rfl ?_
      refine gf_X10_166 C h3 dX10_ofSaying_137 ?_
      exact q_ireti C rfl dX10_ofSaying_140
    refine q_tsw_out C 141 dX10_ofSaying_30 ?_ rfl ?_
    · have hsw := sw_out 0 8 (by decide) (by decide) ⟨h4, h5, h6, h7, h8, h9, h11, h13, trivial⟩
      omega
    refine q_aload_n C 1 dX10_ofSaying_141 rfl ?_
    refine q_iconst C (v := 1) dX10_ofSaying_142 (by decide) ?_
    refine q_cVI C lk_X10_63 (w_X10_error (Y := Y) 1 r2.2) (Nat.le_of_ble_eq_true rfl) rfl skC_0 (ltC skC_0 rfl) recv_10 (rest := []) rfl rfl (Nat.le_of_ble_eq_true rfl) dX10_ofSaying_143 (fun r14 => ?_)
    exact q_ireti C rfl dX10_ofSaying_146
  refine q_aload_n C 0 dX10_ofSaying_14 rfl ?_
  refine q_iconst C (v := 1) dX10_ofSaying_15 (by decide) ?_
  refine q_cVI C lk_X10_63 (w_X10_error (Y := Y) 1 r1.2) (Nat.le_of_ble_eq_true rfl) rfl skC_0 (ltC skC_0 rfl) recv_10 (rest := []) rfl rfl (Nat.le_of_ble_eq_true rfl) dX10_ofSaying_16 (fun r15 => ?_)
  exact q_ireti C rfl dX10_ofSaying_19
def f_X10_change_L90 (v1 : Int32) (v2 : Int32) (v3 : Int32) (w0 : Nat) (σ : St) : Option (Int32 × St) := (Option.bind (f_X2_get w0 v1 σ) fun r9 => (Option.bind (f_X2_set w0 v1 v3 r9.2) fun r10 => (if v2 = 0 then (Option.bind (f_X2_set 18 v1 0 r10) fun r11 => (some (r9.1, r11))) else (some (r9.1, r10)))))
theorem w_X10_change_L90 {Y : YT} {X : XT} (C : Cx FC Y X cX10_change 6 RX10 (some .int) 2 (0, 0)) : ∀ (v1 : Int32), ∀ (v2 : Int32), ∀ (v3 : Int32), ∀ (w0 : Nat), shC w0 = 2 → ∀ (σ : St), G FC Y X 6 (emI FC Y) (0, 0) (0, 0) 90 [(0, Rf Y 0), (1, .int v1), (2, .int v2), (3, .int v3)] [Rf Y w0] (RepS FC Y σ) (f_X10_change_L90 v1 v2 v3 w0 σ) := by
  intro v1 v2 v3 w0 hw0 σ
  rw [f_X10_change_L90]
  refine q_astore C [(4, Rf Y w0), (0, Rf Y 0), (1, .int v1), (2, .int v2), (3, .int v3)] dX10_change_90 rfl rfl ?_
  refine q_aload C 0 dX10_change_92 rfl ?_
  refine q_iload_n C 2 dX10_change_94 rfl ?_
  refine q_cVI C lk_X10_108 (w_X2_get (Y := Y) w0 v1 hw0 σ) (Nat.le_of_ble_eq_true rfl) rfl hw0 (ltC hw0 rfl) recv_2 (rest := []) rfl rfl (Nat.le_of_ble_eq_true rfl) dX10_change_95 (fun r9 => ?_)
  refine q_istore C [(5, .int r9.1), (4, Rf Y w0), (0, Rf Y 0), (1, .int v1), (2, .int v2), (3, .int v3)] dX10_change_98 rfl rfl ?_
  refine q_aload C 1 dX10_change_100 rfl ?_
  refine q_iload_n C 3 dX10_change_102 rfl ?_
  refine q_iload_n C 5 dX10_change_103 rfl ?_
  refine q_cVV C lk_X10_175 (w_X2_set (Y := Y) w0 v1 v3 hw0 r9.2) (Nat.le_of_ble_eq_true rfl) rfl hw0 (ltC hw0 rfl) recv_2 (rest := []) rfl rfl (Nat.le_of_ble_eq_true rfl) dX10_change_104 (fun r10 => ?_)
  refine q_iload_n C 4 dX10_change_107 rfl ?_
  refine q_if_ne C 126 dX10_change_108 rfl (fun _ => ?_) (fun _ => ?_)
  · refine q_iload C 0 dX10_change_126 rfl ?_
    exact q_ireti C rfl dX10_change_128
  refine q_aload_n C 2 dX10_change_111 rfl ?_
  refine gf_X10_10 C skC_0 dX10_change_112 ?_
  refine gf_X10_77 C skC_1 dX10_change_115 ?_
  refine gf_X10_179 C skC_9 dX10_change_118 ?_
  refine q_iload_n C 3 dX10_change_121 rfl ?_
  refine q_iconst C (v := 0) dX10_change_122 (by decide) ?_
  refine q_cVV C lk_X10_175 (w_X2_set (Y := Y) 18 v1 0 skC_18 r10) (Nat.le_of_ble_eq_true rfl) rfl skC_18 (ltC skC_18 rfl) recv_2 (rest := []) rfl rfl (Nat.le_of_ble_eq_true rfl) dX10_change_123 (fun r11 => ?_)
  refine q_iload C 0 dX10_change_126 rfl ?_
  exact q_ireti C rfl dX10_change_128
def f_X10_change (a1 : Int32) (a2 : Int32) (a3 : Int32) (σ : St) : Option (Int32 × St) := (Option.bind (f_X4_has a1 σ) fun r1 => (if r1.1 = 0 then (Option.bind (f_X10_error 1 r1.2) fun r2 => (some (r2.1, r2.2))) else (Option.bind (f_X10_within a2 0 1 r1.2) fun r3 => (if r3.1 = 0 then (Option.bind (f_X10_error 1 r3.2) fun r8 => (some (r8.1, r8.2))) else (if a2 = 0 then (Option.bind (f_X7_isWell a3 r3.2) fun r6 => (if r6.1 = 0 then (Option.bind (f_X10_error 1 r6.2) fun r7 => (some (r7.1, r7.2))) else (if a2 = 0 then (f_X10_change_L90 a1 a2 a3 14 r6.2) else (f_X10_change_L90 a1 a2 a3 16 r6.2)))) else (Option.bind (f_X10_within a3 0 99 r3.2) fun r4 => (if r4.1 = 0 then (Option.bind (f_X10_error 1 r4.2) fun r5 => (some (r5.1, r5.2))) else (if a2 = 0 then (f_X10_change_L90 a1 a2 a3 14 r4.2) else (f_X10_change_L90 a1 a2 a3 16 r4.2)))))))))
theorem w_X10_change {Y : YT} (a1 : Int32) (a2 : Int32) (a3 : Int32)   (σ : St) : CtE (emI FC Y) FC Y yX10_change cX10_change 6 (some .int) 2 [Rf Y 0, .int a1, .int a2, .int a3] σ (f_X10_change a1 a2 a3 σ) := by
  refine Ct.ofG (by decide) (Nat.le_of_ble_eq_true rfl) (fun X C0 => ?_)
  have C : Cx FC Y X cX10_change 6 RX10 (some .int) 2 (0, 0) := C0
  show G FC Y X 6 (emI FC Y) (0, 0) (0, 0) 0 [(0, Rf Y 0), (1, .int a1), (2, .int a2), (3, .int a3)] [] (RepS FC Y σ) (f_X10_change a1 a2 a3 σ)
  rw [f_X10_change]
  refine q_aload_n C 0 dX10_change_0 rfl ?_
  refine gf_X10_10 C skC_0 dX10_change_1 ?_
  refine gf_X10_77 C skC_1 dX10_change_4 ?_
  refine q_iload_n C 1 dX10_change_7 rfl ?_
  refine q_cVI C lk_X10_137 (w_X4_has (Y := Y) a1 σ) (Nat.le_of_ble_eq_true rfl) rfl skC_9 (ltC skC_9 rfl) recv_4 (rest := []) rfl rfl (Nat.le_of_ble_eq_true rfl) dX10_change_8 (fun r1 => ?_)
  refine q_if_eq C 23 dX10_change_11 rfl (fun _ => ?_) (fun _ => ?_)
  · refine q_aload_n C 0 dX10_change_23 rfl ?_
    refine q_iconst C (v := 1) dX10_change_24 (by decide) ?_
    refine q_cVI C lk_X10_63 (w_X10_error (Y := Y) 1 r1.2) (Nat.le_of_ble_eq_true rfl) rfl skC_0 (ltC skC_0 rfl) recv_10 (rest := []) rfl rfl (Nat.le_of_ble_eq_true rfl) dX10_change_25 (fun r2 => ?_)
    exact q_ireti C rfl dX10_change_28
  refine q_iload_n C 2 dX10_change_14 rfl ?_
  refine q_iconst C (v := 0) dX10_change_15 (by decide) ?_
  refine q_iconst C (v := 1) dX10_change_16 (by decide) ?_
  refine q_cSI C lk_X10_59 (w_X10_within (Y := Y) a2 0 1 r1.2) (Nat.le_of_ble_eq_true rfl) rfl (rest := []) rfl rfl (Nat.le_of_ble_eq_true rfl) dX10_change_17 (fun r3 => ?_)
  refine q_if_ne C 29 dX10_change_20 rfl (fun _ => ?_) (fun _ => ?_)
  · refine q_iload_n C 2 dX10_change_29 rfl ?_
    refine q_if_ne C 47 dX10_change_30 rfl (fun _ => ?_) (fun _ => ?_)
    · refine q_iload_n C 3 dX10_change_47 rfl ?_
      refine q_iconst C (v := 0) dX10_change_48 (by decide) ?_
      refine q_bipush C (v := 99) dX10_change_49 (by decide) ?_
      refine q_cSI C lk_X10_59 (w_X10_within (Y := Y) a3 0 99 r3.2) (Nat.le_of_ble_eq_true rfl) rfl (rest := []) rfl rfl (Nat.le_of_ble_eq_true rfl) dX10_change_51 (fun r4 => ?_)
      refine q_if_ne C 63 dX10_change_54 rfl (fun _ => ?_) (fun _ => ?_)
      · refine q_iload_n C 2 dX10_change_63 rfl ?_
        refine q_if_ne C 80 dX10_change_64 rfl (fun _ => ?_) (fun _ => ?_)
        · refine q_aload_n C 0 dX10_change_80 rfl ?_
          refine gf_X10_10 C skC_0 dX10_change_81 ?_
          refine gf_X10_77 C skC_1 dX10_change_84 ?_
          refine gf_X10_172 C skC_9 dX10_change_87 ?_
          exact w_X10_change_L90 C a1 a2 a3 16 skC_16 r4.2
        refine q_aload_n C 0 dX10_change_67 rfl ?_
        refine gf_X10_10 C skC_0 dX10_change_68 ?_
        refine gf_X10_77 C skC_1 dX10_change_71 ?_
        refine gf_X10_169 C skC_9 dX10_change_74 ?_
        refine q_goto C 90 dX10_change_77 rfl ?_
        exact w_X10_change_L90 C a1 a2 a3 14 skC_14 r4.2
      refine q_aload_n C 0 dX10_change_57 rfl ?_
      refine q_iconst C (v := 1) dX10_change_58 (by decide) ?_
      refine q_cVI C lk_X10_63 (w_X10_error (Y := Y) 1 r4.2) (Nat.le_of_ble_eq_true rfl) rfl skC_0 (ltC skC_0 rfl) recv_10 (rest := []) rfl rfl (Nat.le_of_ble_eq_true rfl) dX10_change_59 (fun r5 => ?_)
      exact q_ireti C rfl dX10_change_62
    refine q_aload_n C 0 dX10_change_33 rfl ?_
    refine gf_X10_10 C skC_0 dX10_change_34 ?_
    refine q_iload_n C 3 dX10_change_37 rfl ?_
    refine q_cVI C lk_X10_94 (w_X7_isWell (Y := Y) a3 r3.2) (Nat.le_of_ble_eq_true rfl) rfl skC_1 (ltC skC_1 rfl) recv_7 (rest := []) rfl rfl (Nat.le_of_ble_eq_true rfl) dX10_change_38 (fun r6 => ?_)
    refine q_if_ne C 63 dX10_change_41 rfl (fun _ => ?_) (fun _ => ?_)
    · refine q_iload_n C 2 dX10_change_63 rfl ?_
      refine q_if_ne C 80 dX10_change_64 rfl (fun _ => ?_) (fun _ => ?_)
      · refine q_aload_n C 0 dX10_change_80 rfl ?_
        refine gf_X10_10 C skC_0 dX10_change_81 ?_
        refine gf_X10_77 C skC_1 dX10_change_84 ?_
        refine gf_X10_172 C skC_9 dX10_change_87 ?_
        exact w_X10_change_L90 C a1 a2 a3 16 skC_16 r6.2
      refine q_aload_n C 0 dX10_change_67 rfl ?_
      refine gf_X10_10 C skC_0 dX10_change_68 ?_
      refine gf_X10_77 C skC_1 dX10_change_71 ?_
      refine gf_X10_169 C skC_9 dX10_change_74 ?_
      refine q_goto C 90 dX10_change_77 rfl ?_
      exact w_X10_change_L90 C a1 a2 a3 14 skC_14 r6.2
    refine q_goto C 57 dX10_change_44 rfl ?_
    refine q_aload_n C 0 dX10_change_57 rfl ?_
    refine q_iconst C (v := 1) dX10_change_58 (by decide) ?_
    refine q_cVI C lk_X10_63 (w_X10_error (Y := Y) 1 r6.2) (Nat.le_of_ble_eq_true rfl) rfl skC_0 (ltC skC_0 rfl) recv_10 (rest := []) rfl rfl (Nat.le_of_ble_eq_true rfl) dX10_change_59 (fun r7 => ?_)
    exact q_ireti C rfl dX10_change_62
  refine q_aload_n C 0 dX10_change_23 rfl ?_
  refine q_iconst C (v := 1) dX10_change_24 (by decide) ?_
  refine q_cVI C lk_X10_63 (w_X10_error (Y := Y) 1 r3.2) (Nat.le_of_ble_eq_true rfl) rfl skC_0 (ltC skC_0 rfl) recv_10 (rest := []) rfl rfl (Nat.le_of_ble_eq_true rfl) dX10_change_25 (fun r8 => ?_)
  exact q_ireti C rfl dX10_change_28
def f_X10_become (a1 : Int32) (a2 : Int32) (σ : St) : Option (Int32 × St) := (Option.bind (f_X4_has a1 σ) fun r1 => (if r1.1 = 0 then (Option.bind (f_X10_error 1 r1.2) fun r2 => (some (r2.1, r2.2))) else (Option.bind (f_X10_isKindAndDigit a2 r1.2) fun r3 => (if r3.1 = 0 then (Option.bind (f_X10_error 1 r3.2) fun r7 => (some (r7.1, r7.2))) else (Option.bind (f_X2_get 10 a1 r3.2) fun r4 => (Option.bind (f_X2_set 10 a1 (a2 / 10) r4.2) fun r5 => (Option.bind (f_X2_set 12 a1 (irm a2 10) r5) fun r6 => (some (r4.1, r6)))))))))
theorem w_X10_become {Y : YT} (a1 : Int32) (a2 : Int32)   (σ : St) : CtE (emI FC Y) FC Y yX10_become cX10_become 4 (some .int) 2 [Rf Y 0, .int a1, .int a2] σ (f_X10_become a1 a2 σ) := by
  refine Ct.ofG (by decide) (Nat.le_of_ble_eq_true rfl) (fun X C0 => ?_)
  have C : Cx FC Y X cX10_become 4 RX10 (some .int) 2 (0, 0) := C0
  show G FC Y X 4 (emI FC Y) (0, 0) (0, 0) 0 [(0, Rf Y 0), (1, .int a1), (2, .int a2)] [] (RepS FC Y σ) (f_X10_become a1 a2 σ)
  rw [f_X10_become]
  refine q_aload_n C 0 dX10_become_0 rfl ?_
  refine gf_X10_10 C skC_0 dX10_become_1 ?_
  refine gf_X10_77 C skC_1 dX10_become_4 ?_
  refine q_iload_n C 1 dX10_become_7 rfl ?_
  refine q_cVI C lk_X10_137 (w_X4_has (Y := Y) a1 σ) (Nat.le_of_ble_eq_true rfl) rfl skC_9 (ltC skC_9 rfl) recv_4 (rest := []) rfl rfl (Nat.le_of_ble_eq_true rfl) dX10_become_8 (fun r1 => ?_)
  refine q_if_eq C 21 dX10_become_11 rfl (fun _ => ?_) (fun _ => ?_)
  · refine q_aload_n C 0 dX10_become_21 rfl ?_
    refine q_iconst C (v := 1) dX10_become_22 (by decide) ?_
    refine q_cVI C lk_X10_63 (w_X10_error (Y := Y) 1 r1.2) (Nat.le_of_ble_eq_true rfl) rfl skC_0 (ltC skC_0 rfl) recv_10 (rest := []) rfl rfl (Nat.le_of_ble_eq_true rfl) dX10_become_23 (fun r2 => ?_)
    exact q_ireti C rfl dX10_become_26
  refine q_iload_n C 2 dX10_become_14 rfl ?_
  refine q_cSI C lk_X10_131 (w_X10_isKindAndDigit (Y := Y) a2 r1.2) (Nat.le_of_ble_eq_true rfl) rfl (rest := []) rfl rfl (Nat.le_of_ble_eq_true rfl) dX10_become_15 (fun r3 => ?_)
  refine q_if_ne C 27 dX10_become_18 rfl (fun _ => ?_) (fun _ => ?_)
  · refine q_aload_n C 0 dX10_become_27 rfl ?_
    refine gf_X10_10 C skC_0 dX10_become_28 ?_
    refine gf_X10_77 C skC_1 dX10_become_31 ?_
    refine gf_X10_182 C skC_9 dX10_become_34 ?_
    refine q_iload_n C 1 dX10_become_37 rfl ?_
    refine q_cVI C lk_X10_108 (w_X2_get (Y := Y) 10 a1 skC_10 r3.2) (Nat.le_of_ble_eq_true rfl) rfl skC_10 (ltC skC_10 rfl) recv_2 (rest := []) rfl rfl (Nat.le_of_ble_eq_true rfl) dX10_become_38 (fun r4 => ?_)
    refine q_istore_n C [(3, .int r4.1), (0, Rf Y 0), (1, .int a1), (2, .int a2)] dX10_become_41 rfl rfl ?_
    refine q_aload_n C 1 dX10_become_42 rfl ?_
    refine gf_X10_10 C skC_0 dX10_become_43 ?_
    refine gf_X10_77 C skC_1 dX10_become_46 ?_
    refine gf_X10_182 C skC_9 dX10_become_49 ?_
    refine q_iload_n C 2 dX10_become_52 rfl ?_
    refine q_iload_n C 3 dX10_become_53 rfl ?_
    refine q_bipush C (v := 10) dX10_become_54 (by decide) ?_
    refine q_idiv C dX10_become_56 (by decide) ?_
    refine q_cVV C lk_X10_175 (w_X2_set (Y := Y) 10 a1 (a2 / 10) skC_10 r4.2) (Nat.le_of_ble_eq_true rfl) rfl skC_10 (ltC skC_10 rfl) recv_2 (rest := []) rfl rfl (Nat.le_of_ble_eq_true rfl) dX10_become_57 (fun r5 => ?_)
    refine q_aload_n C 1 dX10_become_60 rfl ?_
    refine gf_X10_10 C skC_0 dX10_become_61 ?_
    refine gf_X10_77 C skC_1 dX10_become_64 ?_
    refine gf_X10_185 C skC_9 dX10_become_67 ?_
    refine q_iload_n C 2 dX10_become_70 rfl ?_
    refine q_iload_n C 3 dX10_become_71 rfl ?_
    refine q_bipush C (v := 10) dX10_become_72 (by decide) ?_
    refine q_irem C dX10_become_74 (by decide) ?_
    refine q_cVV C lk_X10_175 (w_X2_set (Y := Y) 12 a1 (irm a2 10) skC_12 r5) (Nat.le_of_ble_eq_true rfl) rfl skC_12 (ltC skC_12 rfl) recv_2 (rest := []) rfl rfl (Nat.le_of_ble_eq_true rfl) dX10_become_75 (fun r6 => ?_)
    refine q_iload_n C 0 dX10_become_78 rfl ?_
    exact q_ireti C rfl dX10_become_79
  refine q_aload_n C 0 dX10_become_21 rfl ?_
  refine q_iconst C (v := 1) dX10_become_22 (by decide) ?_
  refine q_cVI C lk_X10_63 (w_X10_error (Y := Y) 1 r3.2) (Nat.le_of_ble_eq_true rfl) rfl skC_0 (ltC skC_0 rfl) recv_10 (rest := []) rfl rfl (Nat.le_of_ble_eq_true rfl) dX10_become_23 (fun r7 => ?_)
  exact q_ireti C rfl dX10_become_26
theorem lk_X10_188 : LkS RX10 188 yX8_isUnder cX8_isUnder 4 (some .boolean) 2 := ⟨TB_p [585, 586, 79, 587] (by decide +kernel) (by decide +kernel), by decide +kernel, by decide +kernel, by decide +kernel⟩
def f_X10_as (a1 : Int32) (a2 : Int32) (σ : St) : Option (Int32 × St) := (Option.bind (f_X4_has a1 σ) fun r1 => (if r1.1 = 0 then (Option.bind (f_X10_error 1 r1.2) fun r2 => (some (r2.1, r2.2))) else (Option.bind (f_X10_within a2 0 6 r1.2) fun r3 => (if r3.1 = 0 then (Option.bind (f_X10_error 1 r3.2) fun r8 => (some (r8.1, r8.2))) else (Option.bind (f_X2_get 10 a1 r3.2) fun r4 => (Option.bind (f_X8_isUnder r4.1 a2 r4.2) fun r5 => (if r5.1 = 0 then (Option.bind (f_X10_error 5 r5.2) fun r7 => (some (r7.1, r7.2))) else (Option.bind (f_X2_get 12 a1 r5.2) fun r6 => (some (r6.1, r6.2))))))))))
theorem w_X10_as {Y : YT} (a1 : Int32) (a2 : Int32)   (σ : St) : CtE (emI FC Y) FC Y yX10_as cX10_as 3 (some .int) 2 [Rf Y 0, .int a1, .int a2] σ (f_X10_as a1 a2 σ) := by
  refine Ct.ofG (by decide) (Nat.le_of_ble_eq_true rfl) (fun X C0 => ?_)
  have C : Cx FC Y X cX10_as 3 RX10 (some .int) 2 (0, 0) := C0
  show G FC Y X 3 (emI FC Y) (0, 0) (0, 0) 0 [(0, Rf Y 0), (1, .int a1), (2, .int a2)] [] (RepS FC Y σ) (f_X10_as a1 a2 σ)
  rw [f_X10_as]
  refine q_aload_n C 0 dX10_as_0 rfl ?_
  refine gf_X10_10 C skC_0 dX10_as_1 ?_
  refine gf_X10_77 C skC_1 dX10_as_4 ?_
  refine q_iload_n C 1 dX10_as_7 rfl ?_
  refine q_cVI C lk_X10_137 (w_X4_has (Y := Y) a1 σ) (Nat.le_of_ble_eq_true rfl) rfl skC_9 (ltC skC_9 rfl) recv_4 (rest := []) rfl rfl (Nat.le_of_ble_eq_true rfl) dX10_as_8 (fun r1 => ?_)
  refine q_if_eq C 24 dX10_as_11 rfl (fun _ => ?_) (fun _ => ?_)
  · refine q_aload_n C 0 dX10_as_24 rfl ?_
    refine q_iconst C (v := 1) dX10_as_25 (by decide) ?_
    refine q_cVI C lk_X10_63 (w_X10_error (Y := Y) 1 r1.2) (Nat.le_of_ble_eq_true rfl) rfl skC_0 (ltC skC_0 rfl) recv_10 (rest := []) rfl rfl (Nat.le_of_ble_eq_true rfl) dX10_as_26 (fun r2 => ?_)
    exact q_ireti C rfl dX10_as_29
  refine q_iload_n C 2 dX10_as_14 rfl ?_
  refine q_iconst C (v := 0) dX10_as_15 (by decide) ?_
  refine q_bipush C (v := 6) dX10_as_16 (by decide) ?_
  refine q_cSI C lk_X10_59 (w_X10_within (Y := Y) a2 0 6 r1.2) (Nat.le_of_ble_eq_true rfl) rfl (rest := []) rfl rfl (Nat.le_of_ble_eq_true rfl) dX10_as_18 (fun r3 => ?_)
  refine q_if_ne C 30 dX10_as_21 rfl (fun _ => ?_) (fun _ => ?_)
  · refine q_aload_n C 0 dX10_as_30 rfl ?_
    refine gf_X10_10 C skC_0 dX10_as_31 ?_
    refine gf_X10_77 C skC_1 dX10_as_34 ?_
    refine gf_X10_182 C skC_9 dX10_as_37 ?_
    refine q_iload_n C 1 dX10_as_40 rfl ?_
    refine q_cVI C lk_X10_108 (w_X2_get (Y := Y) 10 a1 skC_10 r3.2) (Nat.le_of_ble_eq_true rfl) rfl skC_10 (ltC skC_10 rfl) recv_2 (rest := []) rfl rfl (Nat.le_of_ble_eq_true rfl) dX10_as_41 (fun r4 => ?_)
    refine q_iload_n C 2 dX10_as_44 rfl ?_
    refine q_cSI C lk_X10_188 (w_X8_isUnder (Y := Y) r4.1 a2 r4.2) (Nat.le_of_ble_eq_true rfl) rfl (rest := []) rfl rfl (Nat.le_of_ble_eq_true rfl) dX10_as_45 (fun r5 => ?_)
    refine q_if_ne C 57 dX10_as_48 rfl (fun _ => ?_) (fun _ => ?_)
    · refine q_aload_n C 0 dX10_as_57 rfl ?_
      refine gf_X10_10 C skC_0 dX10_as_58 ?_
      refine gf_X10_77 C skC_1 dX10_as_61 ?_
      refine gf_X10_185 C skC_9 dX10_as_64 ?_
      refine q_iload_n C 1 dX10_as_67 rfl ?_
      refine q_cVI C lk_X10_108 (w_X2_get (Y := Y) 12 a1 skC_12 r5.2) (Nat.le_of_ble_eq_true rfl) rfl skC_12 (ltC skC_12 rfl) recv_2 (rest := []) rfl rfl (Nat.le_of_ble_eq_true rfl) dX10_as_68 (fun r6 => ?_)
      exact q_ireti C rfl dX10_as_71
    refine q_aload_n C 0 dX10_as_51 rfl ?_
    refine q_iconst C (v := 5) dX10_as_52 (by decide) ?_
    refine q_cVI C lk_X10_63 (w_X10_error (Y := Y) 5 r5.2) (Nat.le_of_ble_eq_true rfl) rfl skC_0 (ltC skC_0 rfl) recv_10 (rest := []) rfl rfl (Nat.le_of_ble_eq_true rfl) dX10_as_53 (fun r7 => ?_)
    exact q_ireti C rfl dX10_as_56
  refine q_aload_n C 0 dX10_as_24 rfl ?_
  refine q_iconst C (v := 1) dX10_as_25 (by decide) ?_
  refine q_cVI C lk_X10_63 (w_X10_error (Y := Y) 1 r3.2) (Nat.le_of_ble_eq_true rfl) rfl skC_0 (ltC skC_0 rfl) recv_10 (rest := []) rfl rfl (Nat.le_of_ble_eq_true rfl) dX10_as_26 (fun r8 => ?_)
  exact q_ireti C rfl dX10_as_29
theorem lk_X10_192 : LkV RX10 192 yX0_add cX0_add 3 none 2 := ⟨TB_p [597, 598, 599, 75, 600] (by decide +kernel) (by decide +kernel), by decide +kernel, by decide +kernel, by decide +kernel⟩
def f_X10_folk (a1 : Int32) (a2 : Int32) (σ : St) : Option (Int32 × St) := (Option.bind (f_X7_isWell a1 σ) fun r1 => (if r1.1 = 0 then (Option.bind (f_X10_error 1 r1.2) fun r2 => (some (r2.1, r2.2))) else (Option.bind (f_X10_within a2 0 99 r1.2) fun r3 => (if r3.1 = 0 then (Option.bind (f_X10_error 1 r3.2) fun r8 => (some (r8.1, r8.2))) else (Option.bind (f_X0_size r3.2) fun r4 => (if r4.1 < 6 then (Option.bind (f_X0_add a1 a2 r4.2) fun r5 => (Option.bind (f_X0_size r5) fun r6 => (some ((r6.1 - 1), r6.2)))) else (Option.bind (f_X10_error 4 r4.2) fun r7 => (some (r7.1, r7.2)))))))))
theorem w_X10_folk {Y : YT} (a1 : Int32) (a2 : Int32)   (σ : St) : CtE (emI FC Y) FC Y yX10_folk cX10_folk 3 (some .int) 2 [Rf Y 0, .int a1, .int a2] σ (f_X10_folk a1 a2 σ) := by
  refine Ct.ofG (by decide) (Nat.le_of_ble_eq_true rfl) (fun X C0 => ?_)
  have C : Cx FC Y X cX10_folk 3 RX10 (some .int) 2 (0, 0) := C0
  show G FC Y X 3 (emI FC Y) (0, 0) (0, 0) 0 [(0, Rf Y 0), (1, .int a1), (2, .int a2)] [] (RepS FC Y σ) (f_X10_folk a1 a2 σ)
  rw [f_X10_folk]
  refine q_aload_n C 0 dX10_folk_0 rfl ?_
  refine gf_X10_10 C skC_0 dX10_folk_1 ?_
  refine q_iload_n C 1 dX10_folk_4 rfl ?_
  refine q_cVI C lk_X10_94 (w_X7_isWell (Y := Y) a1 σ) (Nat.le_of_ble_eq_true rfl) rfl skC_1 (ltC skC_1 rfl) recv_7 (rest := []) rfl rfl (Nat.le_of_ble_eq_true rfl) dX10_folk_5 (fun r1 => ?_)
  refine q_if_eq C 21 dX10_folk_8 rfl (fun _ => ?_) (fun _ => ?_)
  · refine q_aload_n C 0 dX10_folk_21 rfl ?_
    refine q_iconst C (v := 1) dX10_folk_22 (by decide) ?_
    refine q_cVI C lk_X10_63 (w_X10_error (Y := Y) 1 r1.2) (Nat.le_of_ble_eq_true rfl) rfl skC_0 (ltC skC_0 rfl) recv_10 (rest := []) rfl rfl (Nat.le_of_ble_eq_true rfl) dX10_folk_23 (fun r2 => ?_)
    exact q_ireti C rfl dX10_folk_26
  refine q_iload_n C 2 dX10_folk_11 rfl ?_
  refine q_iconst C (v := 0) dX10_folk_12 (by decide) ?_
  refine q_bipush C (v := 99) dX10_folk_13 (by decide) ?_
  refine q_cSI C lk_X10_59 (w_X10_within (Y := Y) a2 0 99 r1.2) (Nat.le_of_ble_eq_true rfl) rfl (rest := []) rfl rfl (Nat.le_of_ble_eq_true rfl) dX10_folk_15 (fun r3 => ?_)
  refine q_if_ne C 27 dX10_folk_18 rfl (fun _ => ?_) (fun _ => ?_)
  · refine q_aload_n C 0 dX10_folk_27 rfl ?_
    refine gf_X10_10 C skC_0 dX10_folk_28 ?_
    refine gf_X10_84 C skC_1 dX10_folk_31 ?_
    refine q_cVI C lk_X10_88 (w_X0_size (Y := Y) r3.2) (Nat.le_of_ble_eq_true rfl) rfl skC_22 (ltC skC_22 rfl) recv_0 (rest := []) rfl rfl (Nat.le_of_ble_eq_true rfl) dX10_folk_34 (fun r4 => ?_)
    refine q_bipush C (v := 6) dX10_folk_37 (by decide) ?_
    refine q_icmp_lt C 48 dX10_folk_39 rfl (fun _ => ?_) (fun _ => ?_)
    · refine q_aload_n C 0 dX10_folk_48 rfl ?_
      refine gf_X10_10 C skC_0 dX10_folk_49 ?_
      refine gf_X10_84 C skC_1 dX10_folk_52 ?_
      refine q_iload_n C 1 dX10_folk_55 rfl ?_
      refine q_iload_n C 2 dX10_folk_56 rfl ?_
      refine q_cVV C lk_X10_192 (w_X0_add (Y := Y) a1 a2 r4.2) (Nat.le_of_ble_eq_true rfl) rfl skC_22 (ltC skC_22 rfl) recv_0 (rest := []) rfl rfl (Nat.le_of_ble_eq_true rfl) dX10_folk_57 (fun r5 => ?_)
      refine q_aload_n C 0 dX10_folk_60 rfl ?_
      refine gf_X10_10 C skC_0 dX10_folk_61 ?_
      refine gf_X10_84 C skC_1 dX10_folk_64 ?_
      refine q_cVI C lk_X10_88 (w_X0_size (Y := Y) r5) (Nat.le_of_ble_eq_true rfl) rfl skC_22 (ltC skC_22 rfl) recv_0 (rest := []) rfl rfl (Nat.le_of_ble_eq_true rfl) dX10_folk_67 (fun r6 => ?_)
      refine q_iconst C (v := 1) dX10_folk_70 (by decide) ?_
      refine q_isub C dX10_folk_71 ?_
      exact q_ireti C rfl dX10_folk_72
    refine q_aload_n C 0 dX10_folk_42 rfl ?_
    refine q_iconst C (v := 4) dX10_folk_43 (by decide) ?_
    refine q_cVI C lk_X10_63 (w_X10_error (Y := Y) 4 r4.2) (Nat.le_of_ble_eq_true rfl) rfl skC_0 (ltC skC_0 rfl) recv_10 (rest := []) rfl rfl (Nat.le_of_ble_eq_true rfl) dX10_folk_44 (fun r7 => ?_)
    exact q_ireti C rfl dX10_folk_47
  refine q_aload_n C 0 dX10_folk_21 rfl ?_
  refine q_iconst C (v := 1) dX10_folk_22 (by decide) ?_
  refine q_cVI C lk_X10_63 (w_X10_error (Y := Y) 1 r3.2) (Nat.le_of_ble_eq_true rfl) rfl skC_0 (ltC skC_0 rfl) recv_10 (rest := []) rfl rfl (Nat.le_of_ble_eq_true rfl) dX10_folk_23 (fun r8 => ?_)
  exact q_ireti C rfl dX10_folk_26
theorem lk_X10_194 : LkV RX10 194 yX0_has cX0_has 2 (some .boolean) 1 := ⟨TB_p [606, 607, 608, 75, 609] (by decide +kernel) (by decide +kernel), by decide +kernel, by decide +kernel, by decide +kernel⟩
theorem lk_X10_195 : LkV RX10 195 yX7_ofOne cX7_ofOne 3 (some .int) 2 := ⟨TB_p [611, 612, 613, 70, 614] (by decide +kernel) (by decide +kernel), by decide +kernel, by decide +kernel, by decide +kernel⟩
def f_X10_ofFolk (a1 : Int32) (a2 : Int32) (σ : St) : Option (Int32 × St) := (Option.bind (f_X0_has a1 σ) fun r1 => (if r1.1 = 0 then (Option.bind (f_X10_error 1 r1.2) fun r2 => (some (r2.1, r2.2))) else (Option.bind (f_X10_within a2 0 2 r1.2) fun r3 => (if r3.1 = 0 then (Option.bind (f_X10_error 1 r3.2) fun r5 => (some (r5.1, r5.2))) else (Option.bind (f_X7_ofOne a1 a2 r3.2) fun r4 => (some (r4.1, r4.2)))))))
theorem w_X10_ofFolk {Y : YT} (a1 : Int32) (a2 : Int32)   (σ : St) : CtE (emI FC Y) FC Y yX10_ofFolk cX10_ofFolk 3 (some .int) 4 [Rf Y 0, .int a1, .int a2] σ (f_X10_ofFolk a1 a2 σ) := by
  refine Ct.ofG (by decide) (Nat.le_of_ble_eq_true rfl) (fun X C0 => ?_)
  have C : Cx FC Y X cX10_ofFolk 3 RX10 (some .int) 4 (0, 0) := C0
  show G FC Y X 3 (emI FC Y) (0, 0) (0, 0) 0 [(0, Rf Y 0), (1, .int a1), (2, .int a2)] [] (RepS FC Y σ) (f_X10_ofFolk a1 a2 σ)
  rw [f_X10_ofFolk]
  refine q_aload_n C 0 dX10_ofFolk_0 rfl ?_
  refine gf_X10_10 C skC_0 dX10_ofFolk_1 ?_
  refine gf_X10_84 C skC_1 dX10_ofFolk_4 ?_
  refine q_iload_n C 1 dX10_ofFolk_7 rfl ?_
  refine q_cVI C lk_X10_194 (w_X0_has (Y := Y) a1 σ) (Nat.le_of_ble_eq_true rfl) rfl skC_22 (ltC skC_22 rfl) recv_0 (rest := []) rfl rfl (Nat.le_of_ble_eq_true rfl) dX10_ofFolk_8 (fun r1 => ?_)
  refine q_if_eq C 23 dX10_ofFolk_11 rfl (fun _ => ?_) (fun _ => ?_)
  · refine q_aload_n C 0 dX10_ofFolk_23 rfl ?_
    refine q_iconst C (v := 1) dX10_ofFolk_24 (by decide) ?_
    refine q_cVI C lk_X10_63 (w_X10_error (Y := Y) 1 r1.2) (Nat.le_of_ble_eq_true rfl) rfl skC_0 (ltC skC_0 rfl) recv_10 (rest := []) rfl rfl (Nat.le_of_ble_eq_true rfl) dX10_ofFolk_25 (fun r2 => ?_)
    exact q_ireti C rfl dX10_ofFolk_28
  refine q_iload_n C 2 dX10_ofFolk_14 rfl ?_
  refine q_iconst C (v := 0) dX10_ofFolk_15 (by decide) ?_
  refine q_iconst C (v := 2) dX10_ofFolk_16 (by decide) ?_
  refine q_cSI C lk_X10_59 (w_X10_within (Y := Y) a2 0 2 r1.2) (Nat.le_of_ble_eq_true rfl) rfl (rest := []) rfl rfl (Nat.le_of_ble_eq_true rfl) dX10_ofFolk_17 (fun r3 => ?_)
  refine q_if_ne C 29 dX10_ofFolk_20 rfl (fun _ => ?_) (fun _ => ?_)
  · refine q_aload_n C 0 dX10_ofFolk_29 rfl ?_
    refine gf_X10_10 C skC_0 dX10_ofFolk_30 ?_
    refine q_iload_n C 1 dX10_ofFolk_33 rfl ?_
    refine q_iload_n C 2 dX10_ofFolk_34 rfl ?_
    refine q_cVI C lk_X10_195 (w_X7_ofOne (Y := Y) a1 a2 r3.2) (Nat.le_of_ble_eq_true rfl) rfl skC_1 (ltC skC_1 rfl) recv_7 (rest := []) rfl rfl (Nat.le_of_ble_eq_true rfl) dX10_ofFolk_35 (fun r4 => ?_)
    exact q_ireti C rfl dX10_ofFolk_38
  refine q_aload_n C 0 dX10_ofFolk_23 rfl ?_
  refine q_iconst C (v := 1) dX10_ofFolk_24 (by decide) ?_
  refine q_cVI C lk_X10_63 (w_X10_error (Y := Y) 1 r3.2) (Nat.le_of_ble_eq_true rfl) rfl skC_0 (ltC skC_0 rfl) recv_10 (rest := []) rfl rfl (Nat.le_of_ble_eq_true rfl) dX10_ofFolk_25 (fun r5 => ?_)
  exact q_ireti C rfl dX10_ofFolk_28
def f_X10_isSetOf (a1 : Int32) (a2 : Int32) (σ : St) : Option (Int32 × St) := (if a2 < 0 then (some (0, σ)) else (if (1 <<< (a1 &&& 31)) ≤ a2 then (some (0, σ)) else (some (1, σ))))
theorem w_X10_isSetOf {Y : YT} (a1 : Int32) (a2 : Int32)   (σ : St) : CtE (emI FC Y) FC Y yX10_isSetOf cX10_isSetOf 2 (some .boolean) 0 [.int a1, .int a2] σ (f_X10_isSetOf a1 a2 σ) := by
  refine Ct.ofG (by decide) (Nat.le_of_ble_eq_true rfl) (fun X C0 => ?_)
  have C : Cx FC Y X cX10_isSetOf 2 RX10 (some .boolean) 0 (0, 0) := C0
  show G FC Y X 2 (emI FC Y) (0, 0) (0, 0) 0 [(0, .int a1), (1, .int a2)] [] (RepS FC Y σ) (f_X10_isSetOf a1 a2 σ)
  rw [f_X10_isSetOf]
  refine q_iload_n C 1 dX10_isSetOf_0 rfl ?_
  refine q_if_lt C 15 dX10_isSetOf_1 rfl (fun _ => ?_) (fun _ => ?_)
  · refine q_iconst C (v := 0) dX10_isSetOf_15 (by decide) ?_
    exact q_iretz C (by decide) rfl dX10_isSetOf_16
  refine q_iload_n C 1 dX10_isSetOf_4 rfl ?_
  refine q_iconst C (v := 1) dX10_isSetOf_5 (by decide) ?_
  refine q_iload_n C 0 dX10_isSetOf_6 rfl ?_
  refine q_ishl C dX10_isSetOf_7 ?_
  refine q_icmp_ge C 15 dX10_isSetOf_8 rfl (fun _ => ?_) (fun _ => ?_)
  · refine q_iconst C (v := 0) dX10_isSetOf_15 (by decide) ?_
    exact q_iretz C (by decide) rfl dX10_isSetOf_16
  refine q_iconst C (v := 1) dX10_isSetOf_11 (by decide) ?_
  refine q_goto C 16 dX10_isSetOf_12 rfl ?_
  exact q_iretz C (by decide) rfl dX10_isSetOf_16
theorem lk_X10_274 : LkS RX10 274 yX10_isSetOf cX10_isSetOf 2 (some .boolean) 2 := ⟨TB_p [631, 632, 69, 633] (by decide +kernel) (by decide +kernel), by decide +kernel, by decide +kernel, by decide +kernel⟩
def f_X10_mayBeOfOne (a1 : Int32) (a2 : Int32) (σ : St) : Option (Int32 × St) := (if a1 = 0 then (Option.bind (f_X7_isWell a2 σ) fun r4 => (if r4.1 = 0 ∨ r4.1 = 1 then (some (r4.1, r4.2)) else none)) else (if a1 = 1 then (Option.bind (f_X10_within a2 0 99 σ) fun r3 => (if r3.1 = 0 ∨ r3.1 = 1 then (some (r3.1, r3.2)) else none)) else (Option.bind (f_X4_size σ) fun r1 => (Option.bind (f_X10_isSetOf r1.1 a2 r1.2) fun r2 => (if r2.1 = 0 ∨ r2.1 = 1 then (some (r2.1, r2.2)) else none)))))
theorem w_X10_mayBeOfOne {Y : YT} (a1 : Int32) (a2 : Int32)   (σ : St) : CtE (emI FC Y) FC Y yX10_mayBeOfOne cX10_mayBeOfOne 3 (some .boolean) 2 [Rf Y 0, .int a1, .int a2] σ (f_X10_mayBeOfOne a1 a2 σ) := by
  refine Ct.ofG (by decide) (Nat.le_of_ble_eq_true rfl) (fun X C0 => ?_)
  have C : Cx FC Y X cX10_mayBeOfOne 3 RX10 (some .boolean) 2 (0, 0) := C0
  show G FC Y X 3 (emI FC Y) (0, 0) (0, 0) 0 [(0, Rf Y 0), (1, .int a1), (2, .int a2)] [] (RepS FC Y σ) (f_X10_mayBeOfOne a1 a2 σ)
  rw [f_X10_mayBeOfOne]
  refine q_iload_n C 1 dX10_mayBeOfOne_0 rfl ?_
  refine q_if_ne C 13 dX10_mayBeOfOne_1 rfl (fun _ => ?_) (fun _ => ?_)
  · refine q_iload_n C 1 dX10_mayBeOfOne_13 rfl ?_
    refine q_iconst C (v := 1) dX10_mayBeOfOne_14 (by decide) ?_
    refine q_icmp_ne C 28 dX10_mayBeOfOne_15 rfl (fun _ => ?_) (fun _ => ?_)
    · refine q_aload_n C 0 dX10_mayBeOfOne_28 rfl ?_
      refine gf_X10_10 C skC_0 dX10_mayBeOfOne_29 ?_
      refine gf_X10_77 C skC_1 dX10_mayBeOfOne_32 ?_
      refine q_cVI C lk_X10_81 (w_X4_size (Y := Y) σ) (Nat.le_of_ble_eq_true rfl) rfl skC_9 (ltC skC_9 rfl) recv_4 (rest := []) rfl rfl (Nat.le_of_ble_eq_true rfl) dX10_mayBeOfOne_35 (fun r1 => ?_)
      refine q_iload_n C 2 dX10_mayBeOfOne_38 rfl ?_
      refine q_cSI C lk_X10_274 (w_X10_isSetOf (Y := Y) r1.1 a2 r1.2) (Nat.le_of_ble_eq_true rfl) rfl (rest := []) rfl rfl (Nat.le_of_ble_eq_true rfl) dX10_mayBeOfOne_39 (fun r2 => ?_)
      exact G.ite (fun h => q_iretz C h rfl dX10_mayBeOfOne_42) (fun _ => G.none)
    refine q_iload_n C 2 dX10_mayBeOfOne_18 rfl ?_
    refine q_iconst C (v := 0) dX10_mayBeOfOne_19 (by decide) ?_
    refine q_bipush C (v := 99) dX10_mayBeOfOne_20 (by decide) ?_
    refine q_cSI C lk_X10_59 (w_X10_within (Y := Y) a2 0 99 σ) (Nat.le_of_ble_eq_true rfl) rfl (rest := []) rfl rfl (Nat.le_of_ble_eq_true rfl) dX10_mayBeOfOne_22 (fun r3 => ?_)
    refine q_goto C 42 dX10_mayBeOfOne_25 rfl ?_
    exact G.ite (fun h => q_iretz C h rfl dX10_mayBeOfOne_42) (fun _ => G.none)
  refine q_aload_n C 0 dX10_mayBeOfOne_4 rfl ?_
  refine gf_X10_10 C skC_0 dX10_mayBeOfOne_5 ?_
  refine q_iload_n C 2 dX10_mayBeOfOne_8 rfl ?_
  refine q_cVI C lk_X10_94 (w_X7_isWell (Y := Y) a2 σ) (Nat.le_of_ble_eq_true rfl) rfl skC_1 (ltC skC_1 rfl) recv_7 (rest := []) rfl rfl (Nat.le_of_ble_eq_true rfl) dX10_mayBeOfOne_9 (fun r4 => ?_)
  exact G.ite (fun h => q_iretz C h rfl dX10_mayBeOfOne_12) (fun _ => G.none)
theorem lk_X10_198 : LkV RX10 198 yX10_mayBeOfOne cX10_mayBeOfOne 3 (some .boolean) 2 := ⟨TB_p [627, 629, 2, 69, 630] (by decide +kernel) (by decide +kernel), by decide +kernel, by decide +kernel, by decide +kernel⟩
theorem lk_X10_205 : LkV RX10 205 yX4_learnt cX4_learnt 4 none 2 := ⟨TB_p [634, 635, 636, 74, 637] (by decide +kernel) (by decide +kernel), by decide +kernel, by decide +kernel, by decide +kernel⟩
def f_X10_drink (a1 : Int32) (a2 : Int32) (a3 : Int32) (σ : St) : Option (Int32 × St) := (Option.bind (f_X0_has a1 σ) fun r1 => (if r1.1 = 0 then (Option.bind (f_X10_error 1 r1.2) fun r2 => (some (r2.1, r2.2))) else (Option.bind (f_X10_within a2 0 2 r1.2) fun r3 => (if r3.1 = 0 then (Option.bind (f_X10_error 1 r3.2) fun r4 => (some (r4.1, r4.2))) else (Option.bind (f_X10_mayBeOfOne a2 a3 r3.2) fun r5 => (if r5.1 = 0 then (Option.bind (f_X10_error 1 r5.2) fun r10 => (some (r10.1, r10.2))) else (Option.bind (f_X7_ofOne a1 a2 r5.2) fun r6 => (if a2 = 0 then (Option.bind (f_X2_set 23 a1 a3 r6.2) fun r9 => (some (r6.1, r9))) else (if a2 = 1 then (Option.bind (f_X2_set 25 a1 a3 r6.2) fun r8 => (some (r6.1, r8))) else (Option.bind (f_X4_learnt a1 a3 r6.2) fun r7 => (some (r6.1, r7))))))))))))
theorem w_X10_drink {Y : YT} (a1 : Int32) (a2 : Int32) (a3 : Int32)   (σ : St) : CtE (emI FC Y) FC Y yX10_drink cX10_drink 5 (some .int) 4 [Rf Y 0, .int a1, .int a2, .int a3] σ (f_X10_drink a1 a2 a3 σ) := by
  refine Ct.ofG (by decide) (Nat.le_of_ble_eq_true rfl) (fun X C0 => ?_)
  have C : Cx FC Y X cX10_drink 5 RX10 (some .int) 4 (0, 0) := C0
  show G FC Y X 5 (emI FC Y) (0, 0) (0, 0) 0 [(0, Rf Y 0), (1, .int a1), (2, .int a2), (3, .int a3)] [] (RepS FC Y σ) (f_X10_drink a1 a2 a3 σ)
  rw [f_X10_drink]
  refine q_aload_n C 0 dX10_drink_0 rfl ?_
  refine gf_X10_10 C skC_0 dX10_drink_1 ?_
  refine gf_X10_84 C skC_1 dX10_drink_4 ?_
  refine q_iload_n C 1 dX10_drink_7 rfl ?_
  refine q_cVI C lk_X10_194 (w_X0_has (Y := Y) a1 σ) (Nat.le_of_ble_eq_true rfl) rfl skC_22 (ltC skC_22 rfl) recv_0 (rest := []) rfl rfl (Nat.le_of_ble_eq_true rfl) dX10_drink_8 (fun r1 => ?_)
  refine q_if_eq C 32 dX10_drink_11 rfl (fun _ => ?_) (fun _ => ?_)
  · refine q_aload_n C 0 dX10_drink_32 rfl ?_
    refine q_iconst C (v := 1) dX10_drink_33 (by decide) ?_
    refine q_cVI C lk_X10_63 (w_X10_error (Y := Y) 1 r1.2) (Nat.le_of_ble_eq_true rfl) rfl skC_0 (ltC skC_0 rfl) recv_10 (rest := []) rfl rfl (Nat.le_of_ble_eq_true rfl) dX10_drink_34 (fun r2 => ?_)
    exact q_ireti C rfl dX10_drink_37
  refine q_iload_n C 2 dX10_drink_14 rfl ?_
  refine q_iconst C (v := 0) dX10_drink_15 (by decide) ?_
  refine q_iconst C (v := 2) dX10_drink_16 (by decide) ?_
  refine q_cSI C lk_X10_59 (w_X10_within (Y := Y) a2 0 2 r1.2) (Nat.le_of_ble_eq_true rfl) rfl (rest := []) rfl rfl (Nat.le_of_ble_eq_true rfl) dX10_drink_17 (fun r3 => ?_)
  refine q_if_eq C 32 dX10_drink_20 rfl (fun _ => ?_) (fun _ => ?_)
  · refine q_aload_n C 0 dX10_drink_32 rfl ?_
    refine q_iconst C (v := 1) dX10_drink_33 (by decide) ?_
    refine q_cVI C lk_X10_63 (w_X10_error (Y := Y) 1 r3.2) (Nat.le_of_ble_eq_true rfl) rfl skC_0 (ltC skC_0 rfl) recv_10 (rest := []) rfl rfl (Nat.le_of_ble_eq_true rfl) dX10_drink_34 (fun r4 => ?_)
    exact q_ireti C rfl dX10_drink_37
  refine q_aload_n C 0 dX10_drink_23 rfl ?_
  refine q_iload_n C 2 dX10_drink_24 rfl ?_
  refine q_iload_n C 3 dX10_drink_25 rfl ?_
  refine q_cVI C lk_X10_198 (w_X10_mayBeOfOne (Y := Y) a2 a3 r3.2) (Nat.le_of_ble_eq_true rfl) rfl skC_0 (ltC skC_0 rfl) recv_10 (rest := []) rfl rfl (Nat.le_of_ble_eq_true rfl) dX10_drink_26 (fun r5 => ?_)
  refine q_if_ne C 38 dX10_drink_29 rfl (fun _ => ?_) (fun _ => ?_)
  · refine q_aload_n C 0 dX10_drink_38 rfl ?_
    refine gf_X10_10 C skC_0 dX10_drink_39 ?_
    refine q_iload_n C 1 dX10_drink_42 rfl ?_
    refine q_iload_n C 2 dX10_drink_43 rfl ?_
    refine q_cVI C lk_X10_195 (w_X7_ofOne (Y := Y) a1 a2 r5.2) (Nat.le_of_ble_eq_true rfl) rfl skC_1 (ltC skC_1 rfl) recv_7 (rest := []) rfl rfl (Nat.le_of_ble_eq_true rfl) dX10_drink_44 (fun r6 => ?_)
    refine q_istore C [(4, .int r6.1), (0, Rf Y 0), (1, .int a1), (2, .int a2), (3, .int a3)] dX10_drink_47 rfl rfl ?_
    refine q_iload_n C 3 dX10_drink_49 rfl ?_
    refine q_if_ne C 71 dX10_drink_50 rfl (fun _ => ?_) (fun _ => ?_)
    · refine q_iload_n C 3 dX10_drink_71 rfl ?_
      refine q_iconst C (v := 1) dX10_drink_72 (by decide) ?_
      refine q_icmp_ne C 94 dX10_drink_73 rfl (fun _ => ?_) (fun _ => ?_)
      · refine q_aload_n C 1 dX10_drink_94 rfl ?_
        refine gf_X10_10 C skC_0 dX10_drink_95 ?_
        refine gf_X10_77 C skC_1 dX10_drink_98 ?_
        refine q_iload_n C 2 dX10_drink_101 rfl ?_
        refine q_iload_n C 4 dX10_drink_102 rfl ?_
        refine q_cVV C lk_X10_205 (w_X4_learnt (Y := Y) a1 a3 r6.2) (Nat.le_of_ble_eq_true rfl) rfl skC_9 (ltC skC_9 rfl) recv_4 (rest := []) rfl rfl (Nat.le_of_ble_eq_true rfl) dX10_drink_103 (fun r7 => ?_)
        refine q_iload C 0 dX10_drink_106 rfl ?_
        exact q_ireti C rfl dX10_drink_108
      refine q_aload_n C 1 dX10_drink_76 rfl ?_
      refine gf_X10_10 C skC_0 dX10_drink_77 ?_
      refine gf_X10_84 C skC_1 dX10_drink_80 ?_
      refine gf_X10_202 C skC_22 dX10_drink_83 ?_
      refine q_iload_n C 2 dX10_drink_86 rfl ?_
      refine q_iload_n C 4 dX10_drink_87 rfl ?_
      refine q_cVV C lk_X10_175 (w_X2_set (Y := Y) 25 a1 a3 skC_25 r6.2) (Nat.le_of_ble_eq_true rfl) rfl skC_25 (ltC skC_25 rfl) recv_2 (rest := []) rfl rfl (Nat.le_of_ble_eq_true rfl) dX10_drink_88 (fun r8 => ?_)
      refine q_goto C 106 dX10_drink_91 rfl ?_
      refine q_iload C 0 dX10_drink_106 rfl ?_
      exact q_ireti C rfl dX10_drink_108
    refine q_aload_n C 1 dX10_drink_53 rfl ?_
    refine gf_X10_10 C skC_0 dX10_drink_54 ?_
    refine gf_X10_84 C skC_1 dX10_drink_57 ?_
    refine gf_X10_201 C skC_22 dX10_drink_60 ?_
    refine q_iload_n C 2 dX10_drink_63 rfl ?_
    refine q_iload_n C 4 dX10_drink_64 rfl ?_
    refine q_cVV C lk_X10_175 (w_X2_set (Y := Y) 23 a1 a3 skC_23 r6.2) (Nat.le_of_ble_eq_true rfl) rfl skC_23 (ltC skC_23 rfl) recv_2 (rest := []) rfl rfl (Nat.le_of_ble_eq_true rfl) dX10_drink_65 (fun r9 => ?_)
    refine q_goto C 106 dX10_drink_68 rfl ?_
    refine q_iload C 0 dX10_drink_106 rfl ?_
    exact q_ireti C rfl dX10_drink_108
  refine q_aload_n C 0 dX10_drink_32 rfl ?_
  refine q_iconst C (v := 1) dX10_drink_33 (by decide) ?_
  refine q_cVI C lk_X10_63 (w_X10_error (Y := Y) 1 r5.2) (Nat.le_of_ble_eq_true rfl) rfl skC_0 (ltC skC_0 rfl) recv_10 (rest := []) rfl rfl (Nat.le_of_ble_eq_true rfl) dX10_drink_34 (fun r10 => ?_)
  exact q_ireti C rfl dX10_drink_37
theorem lk_X10_211 : LkV RX10 211 yX2_size cX2_size 1 (some .int) 0 := ⟨TB_p [643, 446, 447, 72, 448] (by decide +kernel) (by decide +kernel), by decide +kernel, by decide +kernel, by decide +kernel⟩
theorem lk_X10_212 : LkV RX10 212 yX2_add cX2_add 2 none 1 := ⟨TB_p [644, 393, 394, 72, 395] (by decide +kernel) (by decide +kernel), by decide +kernel, by decide +kernel, by decide +kernel⟩
def f_X10_feed_L42 : Nat → Int64 → Int32 → Int32 → St → Option (Int32 × St)
  | 0, _, _, _, _ => none
  | n + 1, v1, v3, v4, σ => (if v3 ≤ v4 then (Option.bind (f_X2_size 27 σ) fun r5 => (some (r5.1, r5.2))) else (Option.bind (f_X2_add 27 ((Int64.toInt32 (lush v1 (8 * v4))) &&& 255) σ) fun r6 => ((f_X10_feed_L42 n) v1 v3 (v4 + 1) r6)))
theorem w_X10_feed_L42 {Y : YT} {X : XT} (C : Cx FC Y X cX10_feed 5 RX10 (some .int) 2 (0, 0)) : ∀ (n : Nat), ∀ (v1 : Int64), ∀ (v3 : Int32), ∀ (v4 : Int32), ∀ (σ : St), G FC Y X 5 (emI FC Y) (0, 0) (0, 0) 42 [(0, Rf Y 0), (1, .long v1), (3, .int v3), (4, .int v4)] [] (RepS FC Y σ) (f_X10_feed_L42 n v1 v3 v4 σ) := by
  intro n
  induction n with
  | zero =>
    intro v1 v3 v4 σ
    rw [f_X10_feed_L42]; exact G.none
  | succ n ih =>
    intro v1 v3 v4 σ
    rw [f_X10_feed_L42]
    refine q_iload C 3 dX10_feed_42 rfl ?_
    refine q_iload_n C 2 dX10_feed_44 rfl ?_
    refine q_icmp_ge C 76 dX10_feed_45 rfl (fun _ => ?_) (fun _ => ?_)
    · refine q_aload_n C 0 dX10_feed_76 rfl ?_
      refine gf_X10_10 C skC_0 dX10_feed_77 ?_
      refine gf_X10_208 C skC_1 dX10_feed_80 ?_
      refine q_cVI C lk_X10_211 (w_X2_size (Y := Y) 27 skC_27 σ) (Nat.le_of_ble_eq_true rfl) rfl skC_27 (ltC skC_27 rfl) recv_2 (rest := []) rfl rfl (Nat.le_of_ble_eq_true rfl) dX10_feed_83 (fun r5 => ?_)
      exact q_ireti C rfl dX10_feed_86
    refine q_aload_n C 0 dX10_feed_48 rfl ?_
    refine gf_X10_10 C skC_0 dX10_feed_49 ?_
    refine gf_X10_208 C skC_1 dX10_feed_52 ?_
    refine q_lload_n C 1 dX10_feed_55 rfl ?_
    refine q_bipush C (v := 8) dX10_feed_56 (by decide) ?_
    refine q_iload C 3 dX10_feed_58 rfl ?_
    refine q_imul C dX10_feed_60 ?_
    refine q_lushr C dX10_feed_61 ?_
    refine q_l2i C dX10_feed_62 ?_
    refine q_sipush C (v := 255) dX10_feed_63 (by decide) ?_
    refine q_iand C dX10_feed_66 ?_
    refine q_cVV C lk_X10_212 (w_X2_add (Y := Y) 27 ((Int64.toInt32 (lush v1 (8 * v4))) &&& 255) skC_27 σ) (Nat.le_of_ble_eq_true rfl) rfl skC_27 (ltC skC_27 rfl) recv_2 (rest := []) rfl rfl (Nat.le_of_ble_eq_true rfl) dX10_feed_67 (fun r6 => ?_)
    refine q_iinc C 3 [(4, .int (v4 + 1)), (0, Rf Y 0), (1, .long v1), (3, .int v3)] dX10_feed_70 rfl rfl rfl rfl ?_
    refine q_goto C 42 dX10_feed_73 rfl ?_
    refine G.sub [1, 2, 3, 0] (lv' := [(0, Rf Y 0), (1, .long v1), (3, .int v3), (4, .int (v4 + 1))]) rfl ?_
    exact ih v1 v3 (v4 + 1) r6
def f_X10_feed (a1 : Int64) (a2 : Int32) (σ : St) : Option (Int32 × St) := (Option.bind (f_X10_within a2 1 8 σ) fun r1 => (if r1.1 = 0 then (Option.bind (f_X10_error 1 r1.2) fun r4 => (some (r4.1, r4.2))) else (Option.bind (f_X2_size 27 r1.2) fun r2 => (if (r2.1 + a2) ≤ 50 then (f_X10_feed_L42 400 a1 a2 0 r2.2) else (Option.bind (f_X10_error 4 r2.2) fun r3 => (some (r3.1, r3.2)))))))
theorem w_X10_feed {Y : YT} (a1 : Int64) (a2 : Int32)   (σ : St) : CtE (emI FC Y) FC Y yX10_feed cX10_feed 5 (some .int) 2 [Rf Y 0, .long a1, .int a2] σ (f_X10_feed a1 a2 σ) := by
  refine Ct.ofG (by decide) (Nat.le_of_ble_eq_true rfl) (fun X C0 => ?_)
  have C : Cx FC Y X cX10_feed 5 RX10 (some .int) 2 (0, 0) := C0
  show G FC Y X 5 (emI FC Y) (0, 0) (0, 0) 0 [(0, Rf Y 0), (1, .long a1), (3, .int a2)] [] (RepS FC Y σ) (f_X10_feed a1 a2 σ)
  rw [f_X10_feed]
  refine q_iload_n C 2 dX10_feed_0 rfl ?_
  refine q_iconst C (v := 1) dX10_feed_1 (by decide) ?_
  refine q_bipush C (v := 8) dX10_feed_2 (by decide) ?_
  refine q_cSI C lk_X10_59 (w_X10_within (Y := Y) a2 1 8 σ) (Nat.le_of_ble_eq_true rfl) rfl (rest := []) rfl rfl (Nat.le_of_ble_eq_true rfl) dX10_feed_4 (fun r1 => ?_)
  refine q_if_ne C 16 dX10_feed_7 rfl (fun _ => ?_) (fun _ => ?_)
  · refine q_aload_n C 0 dX10_feed_16 rfl ?_
    refine gf_X10_10 C skC_0 dX10_feed_17 ?_
    refine gf_X10_208 C skC_1 dX10_feed_20 ?_
    refine q_cVI C lk_X10_211 (w_X2_size (Y := Y) 27 skC_27 r1.2) (Nat.le_of_ble_eq_true rfl) rfl skC_27 (ltC skC_27 rfl) recv_2 (rest := []) rfl rfl (Nat.le_of_ble_eq_true rfl) dX10_feed_23 (fun r2 => ?_)
    refine q_iload_n C 2 dX10_feed_26 rfl ?_
    refine q_iadd C dX10_feed_27 ?_
    refine q_bipush C (v := 50) dX10_feed_28 (by decide) ?_
    refine q_icmp_le C 39 dX10_feed_30 rfl (fun _ => ?_) (fun _ => ?_)
    · refine q_iconst C (v := 0) dX10_feed_39 (by decide) ?_
      refine q_istore C [(4, .int 0), (0, Rf Y 0), (1, .long a1), (3, .int a2)] dX10_feed_40 rfl rfl ?_
      refine G.sub [1, 2, 3, 0] (lv' := [(0, Rf Y 0), (1, .long a1), (3, .int a2), (4, .int 0)]) rfl ?_
      exact w_X10_feed_L42 C 400 a1 a2 0 r2.2
    refine q_aload_n C 0 dX10_feed_33 rfl ?_
    refine q_iconst C (v := 4) dX10_feed_34 (by decide) ?_
    refine q_cVI C lk_X10_63 (w_X10_error (Y := Y) 4 r2.2) (Nat.le_of_ble_eq_true rfl) rfl skC_0 (ltC skC_0 rfl) recv_10 (rest := []) rfl rfl (Nat.le_of_ble_eq_true rfl) dX10_feed_35 (fun r3 => ?_)
    exact q_ireti C rfl dX10_feed_38
  refine q_aload_n C 0 dX10_feed_10 rfl ?_
  refine q_iconst C (v := 1) dX10_feed_11 (by decide) ?_
  refine q_cVI C lk_X10_63 (w_X10_error (Y := Y) 1 r1.2) (Nat.le_of_ble_eq_true rfl) rfl skC_0 (ltC skC_0 rfl) recv_10 (rest := []) rfl rfl (Nat.le_of_ble_eq_true rfl) dX10_feed_12 (fun r4 => ?_)
  exact q_ireti C rfl dX10_feed_15
theorem lk_X10_218 : LkV RX10 218 yX1_faultOf cX1_faultOf 3 (some .int) 2 := ⟨TB_p [651, 652, 653, 78, 654] (by decide +kernel) (by decide +kernel), by decide +kernel, by decide +kernel, by decide +kernel⟩
theorem lk_X10_222 : LkV RX10 222 yX2_clear cX2_clear 1 none 0 := ⟨TB_p [789, 389, 390, 72, 391] (by decide +kernel) (by decide +kernel), by decide +kernel, by decide +kernel, by decide +kernel⟩
theorem lk_X10_225 : LkV RX10 225 yX7_textOf cX7_textOf 2 (some (.object "WellTold$Text")) 1 := ⟨TB_p [790, 791, 792, 70, 793] (by decide +kernel) (by decide +kernel), by decide +kernel, by decide +kernel, by decide +kernel⟩
theorem lk_X10_235 : LkV RX10 235 yX2_copyFrom cX2_copyFrom 3 none 1 := ⟨TB_p [794, 656, 657, 72, 658] (by decide +kernel) (by decide +kernel), by decide +kernel, by decide +kernel, by decide +kernel⟩
def f_X10_text_L37 (v1 : Int32) (w2 : Nat) (σ : St) : Option (Int32 × St) := (Option.bind (f_X1_faultOf 27 w2 σ) fun r3 => (Option.bind (f_X2_clear 27 r3.2) fun r4 => (if r3.1 < 0 then (Option.bind (f_X7_textOf v1 r4) fun r5 => (if shC r5.1 = 6 then (Option.bind (f_X2_copyFrom (r5.1 + 1) 88 r5.2) fun r7 => (some (1, r7))) else none)) else (some (((-10) - r3.1), r4)))))
theorem w_X10_text_L37 {Y : YT} {X : XT} (C : Cx FC Y X cX10_text 3 RX10 (some .int) 130 (0, 0)) : ∀ (v1 : Int32), ∀ (w2 : Nat), w2 < 9 → ∀ (σ : St), G FC Y X 3 (emI FC Y) (0, 0) (0, 0) 37 [(0, Rf Y 0), (1, .int v1)] [.ref (Y.2.2.1 w2), Rf Y 27, Rf Y 87] (RepS FC Y σ) (f_X10_text_L37 v1 w2 σ) := by
  intro v1 w2 hw2 σ
  rw [f_X10_text_L37]
  refine q_cVI C lk_X10_218 (w_X1_faultOf (Y := Y) 27 w2 skC_27 hw2 σ) (Nat.le_of_ble_eq_true rfl) rfl skC_87 (ltC skC_87 rfl) recv_1 (rest := []) rfl rfl (Nat.le_of_ble_eq_true rfl) dX10_text_37 (fun r3 => ?_)
  refine q_istore_n C [(2, .int r3.1), (0, Rf Y 0), (1, .int v1)] dX10_text_40 rfl rfl ?_
  refine q_aload_n C 1 dX10_text_41 rfl ?_
  refine gf_X10_10 C skC_0 dX10_text_42 ?_
  refine gf_X10_208 C skC_1 dX10_text_45 ?_
  refine q_cVV C lk_X10_222 (w_X2_clear (Y := Y) 27 skC_27 r3.2) (Nat.le_of_ble_eq_true rfl) rfl skC_27 (ltC skC_27 rfl) recv_2 (rest := []) rfl rfl (Nat.le_of_ble_eq_true rfl) dX10_text_48 (fun r4 => ?_)
  refine q_iload_n C 0 dX10_text_51 rfl ?_
  refine q_if_lt C 60 dX10_text_52 rfl (fun _ => ?_) (fun _ => ?_)
  · refine q_aload_n C 1 dX10_text_60 rfl ?_
    refine gf_X10_10 C skC_0 dX10_text_61 ?_
    refine q_iload_n C 2 dX10_text_64 rfl ?_
    refine q_cVR C lk_X10_225 (w_X7_textOf (Y := Y) v1 r4) (Nat.le_of_ble_eq_true rfl) rfl skC_1 (ltC skC_1 rfl) recv_7 (rest := []) rfl rfl (Nat.le_of_ble_eq_true rfl) dX10_text_65 (fun r5 => ?_)
    refine G.ite (fun h6 => ?_) (fun _ => G.none)
    refine gf_X10_229 C h6 dX10_text_68 ?_
    refine q_aload_n C 1 dX10_text_71 rfl ?_
    refine gf_X10_22 C skC_0 dX10_text_72 ?_
    refine gf_X10_234 C skC_87 dX10_text_75 ?_
    refine q_cVV C lk_X10_235 (w_X2_copyFrom (Y := Y) (r5.1 + 1) 88 (sf_6_0 h6) skC_88 r5.2) (Nat.le_of_ble_eq_true rfl) rfl (sf_6_0 h6) (ltC (sf_6_0 h6) rfl) recv_2 (rest := []) rfl rfl (Nat.le_of_ble_eq_true rfl) dX10_text_78 (fun r7 => ?_)
    refine q_iconst C (v := 1) dX10_text_81 (by decide) ?_
    exact q_ireti C rfl dX10_text_82
  refine q_bipush C (v := (-10)) dX10_text_55 (by decide) ?_
  refine q_iload_n C 0 dX10_text_57 rfl ?_
  refine q_isub C dX10_text_58 ?_
  exact q_ireti C rfl dX10_text_59
def f_X10_text (a1 : Int32) (σ : St) : Option (Int32 × St) := (Option.bind (f_X10_within a1 0 1 σ) fun r1 => (if r1.1 = 0 then (Option.bind (f_X10_error 1 r1.2) fun r2 => (some (r2.1, r2.2))) else (if a1 = 0 then (f_X10_text_L37 a1 1 r1.2) else (f_X10_text_L37 a1 2 r1.2))))
theorem w_X10_text {Y : YT} (a1 : Int32)   (σ : St) : CtE (emI FC Y) FC Y yX10_text cX10_text 3 (some .int) 130 [Rf Y 0, .int a1] σ (f_X10_text a1 σ) := by
  refine Ct.ofG (by decide) (Nat.le_of_ble_eq_true rfl) (fun X C0 => ?_)
  have C : Cx FC Y X cX10_text 3 RX10 (some .int) 130 (0, 0) := C0
  show G FC Y X 3 (emI FC Y) (0, 0) (0, 0) 0 [(0, Rf Y 0), (1, .int a1)] [] (RepS FC Y σ) (f_X10_text a1 σ)
  rw [f_X10_text]
  refine q_iload_n C 1 dX10_text_0 rfl ?_
  refine q_iconst C (v := 0) dX10_text_1 (by decide) ?_
  refine q_iconst C (v := 1) dX10_text_2 (by decide) ?_
  refine q_cSI C lk_X10_59 (w_X10_within (Y := Y) a1 0 1 σ) (Nat.le_of_ble_eq_true rfl) rfl (rest := []) rfl rfl (Nat.le_of_ble_eq_true rfl) dX10_text_3 (fun r1 => ?_)
  refine q_if_ne C 15 dX10_text_6 rfl (fun _ => ?_) (fun _ => ?_)
  · refine q_aload_n C 0 dX10_text_15 rfl ?_
    refine gf_X10_22 C skC_0 dX10_text_16 ?_
    refine q_aload_n C 0 dX10_text_19 rfl ?_
    refine gf_X10_10 C skC_0 dX10_text_20 ?_
    refine gf_X10_208 C skC_1 dX10_text_23 ?_
    refine q_iload_n C 1 dX10_text_26 rfl ?_
    refine q_if_ne C 35 dX10_text_27 rfl (fun _ => ?_) (fun _ => ?_)
    · refine q_ldcS C (tx := "sph") (e := 2) (by decide +kernel) dX10_text_35 ?_
      exact w_X10_text_L37 C a1 2 (Nat.le_of_ble_eq_true rfl : 2 + 1 ≤ 9) r1.2
    refine q_ldcS C (tx := "smr") (e := 1) (by decide +kernel) dX10_text_30 ?_
    refine q_goto C 37 dX10_text_32 rfl ?_
    exact w_X10_text_L37 C a1 1 (Nat.le_of_ble_eq_true rfl : 1 + 1 ≤ 9) r1.2
  refine q_aload_n C 0 dX10_text_9 rfl ?_
  refine q_iconst C (v := 1) dX10_text_10 (by decide) ?_
  refine q_cVI C lk_X10_63 (w_X10_error (Y := Y) 1 r1.2) (Nat.le_of_ble_eq_true rfl) rfl skC_0 (ltC skC_0 rfl) recv_10 (rest := []) rfl rfl (Nat.le_of_ble_eq_true rfl) dX10_text_11 (fun r2 => ?_)
  exact q_ireti C rfl dX10_text_14
theorem lk_X10_239 : LkV RX10 239 yX6_gives cX6_gives 8 (some .int) 3 := ⟨TB_p [799, 534, 535, 76, 536] (by decide +kernel) (by decide +kernel), by decide +kernel, by decide +kernel, by decide +kernel⟩
def f_X10_law (a1 : Int32) (a2 : Int32) (a3 : Int32) (a4 : Int32) (σ : St) : Option (Int32 × St) := (Option.bind (f_X10_within a1 0 1 σ) fun r1 => (if r1.1 = 0 then (Option.bind (f_X10_error 1 r1.2) fun r5 => (some (r5.1, r5.2))) else (Option.bind (f_X7_textOf a1 r1.2) fun r2 => (if shC r2.1 = 6 then (Option.bind (f_X6_gives r2.1 a2 a3 a4 r2.2) fun r4 => (some (r4.1, r4.2))) else none))))
theorem w_X10_law {Y : YT} (a1 : Int32) (a2 : Int32) (a3 : Int32) (a4 : Int32)   (σ : St) : CtE (emI FC Y) FC Y yX10_law cX10_law 5 (some .int) 2 [Rf Y 0, .int a1, .int a2, .int a3, .int a4] σ (f_X10_law a1 a2 a3 a4 σ) := by
  refine Ct.ofG (by decide) (Nat.le_of_ble_eq_true rfl) (fun X C0 => ?_)
  have C : Cx FC Y X cX10_law 5 RX10 (some .int) 2 (0, 0) := C0
  show G FC Y X 5 (emI FC Y) (0, 0) (0, 0) 0 [(0, Rf Y 0), (1, .int a1), (2, .int a2), (3, .int a3), (4, .int a4)] [] (RepS FC Y σ) (f_X10_law a1 a2 a3 a4 σ)
  rw [f_X10_law]
  refine q_iload_n C 1 dX10_law_0 rfl ?_
  refine q_iconst C (v := 0) dX10_law_1 (by decide) ?_
  refine q_iconst C (v := 1) dX10_law_2 (by decide) ?_
  refine q_cSI C lk_X10_59 (w_X10_within (Y := Y) a1 0 1 σ) (Nat.le_of_ble_eq_true rfl) rfl (rest := []) rfl rfl (Nat.le_of_ble_eq_true rfl) dX10_law_3 (fun r1 => ?_)
  refine q_if_ne C 15 dX10_law_6 rfl (fun _ => ?_) (fun _ => ?_)
  · refine q_aload_n C 0 dX10_law_15 rfl ?_
    refine gf_X10_10 C skC_0 dX10_law_16 ?_
    refine q_iload_n C 1 dX10_law_19 rfl ?_
    refine q_cVR C lk_X10_225 (w_X7_textOf (Y := Y) a1 r1.2) (Nat.le_of_ble_eq_true rfl) rfl skC_1 (ltC skC_1 rfl) recv_7 (rest := []) rfl rfl (Nat.le_of_ble_eq_true rfl) dX10_law_20 (fun r2 => ?_)
    refine G.ite (fun h3 => ?_) (fun _ => G.none)
    refine q_iload_n C 2 dX10_law_23 rfl ?_
    refine q_iload_n C 3 dX10_law_24 rfl ?_
    refine q_iload C 4 dX10_law_25 rfl ?_
    refine q_cVI C lk_X10_239 (w_X6_gives (Y := Y) r2.1 a2 a3 a4 h3 r2.2) (Nat.le_of_ble_eq_true rfl) rfl h3 (ltC h3 rfl) recv_6 (rest := []) rfl rfl (Nat.le_of_ble_eq_true rfl) dX10_law_27 (fun r4 => ?_)
    exact q_ireti C rfl dX10_law_30
  refine q_aload_n C 0 dX10_law_9 rfl ?_
  refine q_iconst C (v := 1) dX10_law_10 (by decide) ?_
  refine q_cVI C lk_X10_63 (w_X10_error (Y := Y) 1 r1.2) (Nat.le_of_ble_eq_true rfl) rfl skC_0 (ltC skC_0 rfl) recv_10 (rest := []) rfl rfl (Nat.le_of_ble_eq_true rfl) dX10_law_11 (fun r5 => ?_)
  exact q_ireti C rfl dX10_law_14
theorem lk_X10_249 : LkV RX10 249 yX4_allKnowers cX4_allKnowers 3 (some .int) 0 := ⟨TB_p [827, 828, 829, 74, 830] (by decide +kernel) (by decide +kernel), by decide +kernel, by decide +kernel, by decide +kernel⟩
theorem lk_X10_252 : LkS RX10 252 yJ6_bitCount_0f7a4 cJ6_bitCount_0f7a4 1 (some .int) 1 := ⟨TB_p [831, 832, 87, 833] (by decide +kernel) (by decide +kernel), by decide +kernel, by decide +kernel, by decide +kernel⟩
theorem lk_X10_246 : LkV RX10 246 yX7_passHour cX7_passHour 3 none 0 := ⟨TB_p [804, 805, 806, 70, 807] (by decide +kernel) (by decide +kernel), by decide +kernel, by decide +kernel, by decide +kernel⟩
def f_X10_hours_L39 : Nat → Int32 → Int32 → St → Option (Int32 × St)
  | 0, _, _, _ => none
  | n + 1, v1, v2, σ => (if v1 ≤ v2 then (Option.bind (f_X4_allKnowers σ) fun r4 => (some ((bitc r4.1), r4.2))) else (Option.bind (f_X7_passHour σ) fun r5 => ((f_X10_hours_L39 n) v1 (v2 + 1) r5)))
theorem w_X10_hours_L39 {Y : YT} {X : XT} (C : Cx FC Y X cX10_hours 3 RX10 (some .int) 5 (0, 0)) : ∀ (n : Nat), ∀ (v1 : Int32), ∀ (v2 : Int32), ∀ (σ : St), G FC Y X 3 (emI FC Y) (0, 0) (0, 0) 39 [(0, Rf Y 0), (1, .int v1), (2, .int v2)] [] (RepS FC Y σ) (f_X10_hours_L39 n v1 v2 σ) := by
  intro n
  induction n with
  | zero =>
    intro v1 v2 σ
    rw [f_X10_hours_L39]; exact G.none
  | succ n ih =>
    intro v1 v2 σ
    rw [f_X10_hours_L39]
    refine q_iload_n C 2 dX10_hours_39 rfl ?_
    refine q_iload_n C 1 dX10_hours_40 rfl ?_
    refine q_icmp_ge C 57 dX10_hours_41 rfl (fun _ => ?_) (fun _ => ?_)
    · refine q_aload_n C 0 dX10_hours_57 rfl ?_
      refine gf_X10_10 C skC_0 dX10_hours_58 ?_
      refine gf_X10_77 C skC_1 dX10_hours_61 ?_
      refine q_cVI C lk_X10_249 (w_X4_allKnowers (Y := Y) σ) (Nat.le_of_ble_eq_true rfl) rfl skC_9 (ltC skC_9 rfl) recv_4 (rest := []) rfl rfl (Nat.le_of_ble_eq_true rfl) dX10_hours_64 (fun r4 => ?_)
      refine q_bitc C lk_X10_252 (Nat.le_of_ble_eq_true rfl) (Nat.le_of_ble_eq_true rfl) dX10_hours_67 ?_
      exact q_ireti C rfl dX10_hours_70
    refine q_aload_n C 0 dX10_hours_44 rfl ?_
    refine gf_X10_10 C skC_0 dX10_hours_45 ?_
    refine q_cVV C lk_X10_246 (w_X7_passHour (Y := Y) σ) (Nat.le_of_ble_eq_true rfl) rfl skC_1 (ltC skC_1 rfl) recv_7 (rest := []) rfl rfl (Nat.le_of_ble_eq_true rfl) dX10_hours_48 (fun r5 => ?_)
    refine q_iinc C 2 [(2, .int (v2 + 1)), (0, Rf Y 0), (1, .int v1)] dX10_hours_51 rfl rfl rfl rfl ?_
    refine q_goto C 39 dX10_hours_54 rfl ?_
    refine G.sub [1, 2, 0] (lv' := [(0, Rf Y 0), (1, .int v1), (2, .int (v2 + 1))]) rfl ?_
    exact ih v1 (v2 + 1) r5
def f_X10_hours (a1 : Int32) (σ : St) : Option (Int32 × St) := (Option.bind (f_X10_within a1 1 99 σ) fun r1 => (if r1.1 = 0 then (Option.bind (f_X10_error 1 r1.2) fun r3 => (some (r3.1, r3.2))) else (if ((r1.2 1 2) + a1) ≤ 9999 then (f_X10_hours_L39 400 a1 0 r1.2) else (Option.bind (f_X10_error 3 r1.2) fun r2 => (some (r2.1, r2.2))))))
theorem w_X10_hours {Y : YT} (a1 : Int32)   (σ : St) : CtE (emI FC Y) FC Y yX10_hours cX10_hours 3 (some .int) 5 [Rf Y 0, .int a1] σ (f_X10_hours a1 σ) := by
  refine Ct.ofG (by decide) (Nat.le_of_ble_eq_true rfl) (fun X C0 => ?_)
  have C : Cx FC Y X cX10_hours 3 RX10 (some .int) 5 (0, 0) := C0
  show G FC Y X 3 (emI FC Y) (0, 0) (0, 0) 0 [(0, Rf Y 0), (1, .int a1)] [] (RepS FC Y σ) (f_X10_hours a1 σ)
  rw [f_X10_hours]
  refine q_iload_n C 1 dX10_hours_0 rfl ?_
  refine q_iconst C (v := 1) dX10_hours_1 (by decide) ?_
  refine q_bipush C (v := 99) dX10_hours_2 (by decide) ?_
  refine q_cSI C lk_X10_59 (w_X10_within (Y := Y) a1 1 99 σ) (Nat.le_of_ble_eq_true rfl) rfl (rest := []) rfl rfl (Nat.le_of_ble_eq_true rfl) dX10_hours_4 (fun r1 => ?_)
  refine q_if_ne C 16 dX10_hours_7 rfl (fun _ => ?_) (fun _ => ?_)
  · refine q_aload_n C 0 dX10_hours_16 rfl ?_
    refine gf_X10_10 C skC_0 dX10_hours_17 ?_
    refine gf_X10_243 C skC_1 dX10_hours_20 ?_
    refine q_iload_n C 1 dX10_hours_23 rfl ?_
    refine q_iadd C dX10_hours_24 ?_
    refine q_sipush C (v := 9999) dX10_hours_25 (by decide) ?_
    refine q_icmp_le C 37 dX10_hours_28 rfl (fun _ => ?_) (fun _ => ?_)
    · refine q_iconst C (v := 0) dX10_hours_37 (by decide) ?_
      refine q_istore_n C [(2, .int 0), (0, Rf Y 0), (1, .int a1)] dX10_hours_38 rfl rfl ?_
      refine G.sub [1, 2, 0] (lv' := [(0, Rf Y 0), (1, .int a1), (2, .int 0)]) rfl ?_
      exact w_X10_hours_L39 C 400 a1 0 r1.2
    refine q_aload_n C 0 dX10_hours_31 rfl ?_
    refine q_iconst C (v := 3) dX10_hours_32 (by decide) ?_
    refine q_cVI C lk_X10_63 (w_X10_error (Y := Y) 3 r1.2) (Nat.le_of_ble_eq_true rfl) rfl skC_0 (ltC skC_0 rfl) recv_10 (rest := []) rfl rfl (Nat.le_of_ble_eq_true rfl) dX10_hours_33 (fun r2 => ?_)
    exact q_ireti C rfl dX10_hours_36
  refine q_aload_n C 0 dX10_hours_10 rfl ?_
  refine q_iconst C (v := 1) dX10_hours_11 (by decide) ?_
  refine q_cVI C lk_X10_63 (w_X10_error (Y := Y) 1 r1.2) (Nat.le_of_ble_eq_true rfl) rfl skC_0 (ltC skC_0 rfl) recv_10 (rest := []) rfl rfl (Nat.le_of_ble_eq_true rfl) dX10_hours_12 (fun r3 => ?_)
  exact q_ireti C rfl dX10_hours_15
theorem lk_X10_257 : LkV RX10 257 yX7_draw cX7_draw 1 (some .int) 0 := ⟨TB_p [841, 842, 843, 70, 844] (by decide +kernel) (by decide +kernel), by decide +kernel, by decide +kernel, by decide +kernel⟩
def f_X10_loose_L39 : Nat → Int32 → Int32 → St → Option (Int32 × St)
  | 0, _, _, _ => none
  | n + 1, v1, v2, σ => (if v1 ≤ v2 then (Option.bind (f_X4_allKnowers σ) fun r4 => (some ((bitc r4.1), r4.2))) else (Option.bind (f_X7_draw σ) fun r5 => (Bst (up r5.2 1 1 (irm r5.1 10)) fun s6 => (Option.bind (f_X7_passHour s6) fun r7 => ((f_X10_loose_L39 n) v1 (v2 + 1) r7)))))
theorem w_X10_loose_L39 {Y : YT} {X : XT} (C : Cx FC Y X cX10_loose 3 RX10 (some .int) 5 (0, 0)) : ∀ (n : Nat), ∀ (v1 : Int32), ∀ (v2 : Int32), ∀ (σ : St), G FC Y X 3 (emI FC Y) (0, 0) (0, 0) 39 [(0, Rf Y 0), (1, .int v1), (2, .int v2)] [] (RepS FC Y σ) (f_X10_loose_L39 n v1 v2 σ) := by
  intro n
  induction n with
  | zero =>
    intro v1 v2 σ
    rw [f_X10_loose_L39]; exact G.none
  | succ n ih =>
    intro v1 v2 σ
    rw [f_X10_loose_L39]
    refine q_iload_n C 2 dX10_loose_39 rfl ?_
    refine q_iload_n C 1 dX10_loose_40 rfl ?_
    refine q_icmp_ge C 74 dX10_loose_41 rfl (fun _ => ?_) (fun _ => ?_)
    · refine q_aload_n C 0 dX10_loose_74 rfl ?_
      refine gf_X10_10 C skC_0 dX10_loose_75 ?_
      refine gf_X10_77 C skC_1 dX10_loose_78 ?_
      refine q_cVI C lk_X10_249 (w_X4_allKnowers (Y := Y) σ) (Nat.le_of_ble_eq_true rfl) rfl skC_9 (ltC skC_9 rfl) recv_4 (rest := []) rfl rfl (Nat.le_of_ble_eq_true rfl) dX10_loose_81 (fun r4 => ?_)
      refine q_bitc C lk_X10_252 (Nat.le_of_ble_eq_true rfl) (Nat.le_of_ble_eq_true rfl) dX10_loose_84 ?_
      exact q_ireti C rfl dX10_loose_87
    refine q_aload_n C 0 dX10_loose_44 rfl ?_
    refine gf_X10_10 C skC_0 dX10_loose_45 ?_
    refine q_aload_n C 0 dX10_loose_48 rfl ?_
    refine gf_X10_10 C skC_0 dX10_loose_49 ?_
    refine q_cVI C lk_X10_257 (w_X7_draw (Y := Y) σ) (Nat.le_of_ble_eq_true rfl) rfl skC_1 (ltC skC_1 rfl) recv_7 (rest := [Rf Y 1]) rfl rfl (Nat.le_of_ble_eq_true rfl) dX10_loose_52 (fun r5 => ?_)
    refine q_bipush C (v := 10) dX10_loose_55 (by decide) ?_
    refine q_irem C dX10_loose_57 (by decide) ?_
    refine pf_X10_128 C skC_1 dX10_loose_58 (fun s6 => ?_)
    refine q_aload_n C 0 dX10_loose_61 rfl ?_
    refine gf_X10_10 C skC_0 dX10_loose_62 ?_
    refine q_cVV C lk_X10_246 (w_X7_passHour (Y := Y) s6) (Nat.le_of_ble_eq_true rfl) rfl skC_1 (ltC skC_1 rfl) recv_7 (rest := []) rfl rfl (Nat.le_of_ble_eq_true rfl) dX10_loose_65 (fun r7 => ?_)
    refine q_iinc C 2 [(2, .int (v2 + 1)), (0, Rf Y 0), (1, .int v1)] dX10_loose_68 rfl rfl rfl rfl ?_
    refine q_goto C 39 dX10_loose_71 rfl ?_
    refine G.sub [1, 2, 0] (lv' := [(0, Rf Y 0), (1, .int v1), (2, .int (v2 + 1))]) rfl ?_
    exact ih v1 (v2 + 1) r7
def f_X10_loose (a1 : Int32) (σ : St) : Option (Int32 × St) := (Option.bind (f_X10_within a1 1 40 σ) fun r1 => (if r1.1 = 0 then (Option.bind (f_X10_error 1 r1.2) fun r3 => (some (r3.1, r3.2))) else (if ((r1.2 1 2) + a1) ≤ 9999 then (f_X10_loose_L39 400 a1 0 r1.2) else (Option.bind (f_X10_error 3 r1.2) fun r2 => (some (r2.1, r2.2))))))
theorem w_X10_loose {Y : YT} (a1 : Int32)   (σ : St) : CtE (emI FC Y) FC Y yX10_loose cX10_loose 3 (some .int) 5 [Rf Y 0, .int a1] σ (f_X10_loose a1 σ) := by
  refine Ct.ofG (by decide) (Nat.le_of_ble_eq_true rfl) (fun X C0 => ?_)
  have C : Cx FC Y X cX10_loose 3 RX10 (some .int) 5 (0, 0) := C0
  show G FC Y X 3 (emI FC Y) (0, 0) (0, 0) 0 [(0, Rf Y 0), (1, .int a1)] [] (RepS FC Y σ) (f_X10_loose a1 σ)
  rw [f_X10_loose]
  refine q_iload_n C 1 dX10_loose_0 rfl ?_
  refine q_iconst C (v := 1) dX10_loose_1 (by decide) ?_
  refine q_bipush C (v := 40) dX10_loose_2 (by decide) ?_
  refine q_cSI C lk_X10_59 (w_X10_within (Y := Y) a1 1 40 σ) (Nat.le_of_ble_eq_true rfl) rfl (rest := []) rfl rfl (Nat.le_of_ble_eq_true rfl) dX10_loose_4 (fun r1 => ?_)
  refine q_if_ne C 16 dX10_loose_7 rfl (fun _ => ?_) (fun _ => ?_)
  · refine q_aload_n C 0 dX10_loose_16 rfl ?_
    refine gf_X10_10 C skC_0 dX10_loose_17 ?_
    refine gf_X10_243 C skC_1 dX10_loose_20 ?_
    refine q_iload_n C 1 dX10_loose_23 rfl ?_
    refine q_iadd C dX10_loose_24 ?_
    refine q_sipush C (v := 9999) dX10_loose_25 (by decide) ?_
    refine q_icmp_le C 37 dX10_loose_28 rfl (fun _ => ?_) (fun _ => ?_)
    · refine q_iconst C (v := 0) dX10_loose_37 (by decide) ?_
      refine q_istore_n C [(2, .int 0), (0, Rf Y 0), (1, .int a1)] dX10_loose_38 rfl rfl ?_
      refine G.sub [1, 2, 0] (lv' := [(0, Rf Y 0), (1, .int a1), (2, .int 0)]) rfl ?_
      exact w_X10_loose_L39 C 400 a1 0 r1.2
    refine q_aload_n C 0 dX10_loose_31 rfl ?_
    refine q_iconst C (v := 3) dX10_loose_32 (by decide) ?_
    refine q_cVI C lk_X10_63 (w_X10_error (Y := Y) 3 r1.2) (Nat.le_of_ble_eq_true rfl) rfl skC_0 (ltC skC_0 rfl) recv_10 (rest := []) rfl rfl (Nat.le_of_ble_eq_true rfl) dX10_loose_33 (fun r2 => ?_)
    exact q_ireti C rfl dX10_loose_36
  refine q_aload_n C 0 dX10_loose_10 rfl ?_
  refine q_iconst C (v := 1) dX10_loose_11 (by decide) ?_
  refine q_cVI C lk_X10_63 (w_X10_error (Y := Y) 1 r1.2) (Nat.le_of_ble_eq_true rfl) rfl skC_0 (ltC skC_0 rfl) recv_10 (rest := []) rfl rfl (Nat.le_of_ble_eq_true rfl) dX10_loose_12 (fun r3 => ?_)
  exact q_ireti C rfl dX10_loose_15
theorem lk_X10_260 : LkV RX10 260 yX7_thinkAll cX7_thinkAll 4 none 1 := ⟨TB_p [850, 851, 852, 70, 853] (by decide +kernel) (by decide +kernel), by decide +kernel, by decide +kernel, by decide +kernel⟩
theorem lk_X10_266 : LkV RX10 266 yX4_knownBy cX4_knownBy 5 (some .int) 2 := ⟨TB_p [860, 617, 618, 74, 619] (by decide +kernel) (by decide +kernel), by decide +kernel, by decide +kernel, by decide +kernel⟩
def f_X10_then (a1 : Int32) (a2 : Int32) (σ : St) : Option (Int32 × St) := (Option.bind (f_X10_within a1 0 99 σ) fun r1 => (if r1.1 = 0 then (Option.bind (f_X10_error 1 r1.2) fun r2 => (some (r2.1, r2.2))) else (Option.bind (f_X0_has a2 r1.2) fun r3 => (if r3.1 = 0 then (Option.bind (f_X10_error 1 r3.2) fun r6 => (some (r6.1, r6.2))) else (Option.bind (f_X7_thinkAll a1 r3.2) fun r4 => (Option.bind (f_X4_knownBy a2 42 r4) fun r5 => (some (r5.1, r5.2))))))))
theorem w_X10_then {Y : YT} (a1 : Int32) (a2 : Int32)   (σ : St) : CtE (emI FC Y) FC Y yX10_then cX10_then 3 (some .int) 6 [Rf Y 0, .int a1, .int a2] σ (f_X10_then a1 a2 σ) := by
  refine Ct.ofG (by decide) (Nat.le_of_ble_eq_true rfl) (fun X C0 => ?_)
  have C : Cx FC Y X cX10_then 3 RX10 (some .int) 6 (0, 0) := C0
  show G FC Y X 3 (emI FC Y) (0, 0) (0, 0) 0 [(0, Rf Y 0), (1, .int a1), (2, .int a2)] [] (RepS FC Y σ) (f_X10_then a1 a2 σ)
  rw [f_X10_then]
  refine q_iload_n C 1 dX10_then_0 rfl ?_
  refine q_iconst C (v := 0) dX10_then_1 (by decide) ?_
  refine q_bipush C (v := 99) dX10_then_2 (by decide) ?_
  refine q_cSI C lk_X10_59 (w_X10_within (Y := Y) a1 0 99 σ) (Nat.le_of_ble_eq_true rfl) rfl (rest := []) rfl rfl (Nat.le_of_ble_eq_true rfl) dX10_then_4 (fun r1 => ?_)
  refine q_if_eq C 24 dX10_then_7 rfl (fun _ => ?_) (fun _ => ?_)
  · refine q_aload_n C 0 dX10_then_24 rfl ?_
    refine q_iconst C (v := 1) dX10_then_25 (by decide) ?_
    refine q_cVI C lk_X10_63 (w_X10_error (Y := Y) 1 r1.2) (Nat.le_of_ble_eq_true rfl) rfl skC_0 (ltC skC_0 rfl) recv_10 (rest := []) rfl rfl (Nat.le_of_ble_eq_true rfl) dX10_then_26 (fun r2 => ?_)
    exact q_ireti C rfl dX10_then_29
  refine q_aload_n C 0 dX10_then_10 rfl ?_
  refine gf_X10_10 C skC_0 dX10_then_11 ?_
  refine gf_X10_84 C skC_1 dX10_then_14 ?_
  refine q_iload_n C 2 dX10_then_17 rfl ?_
  refine q_cVI C lk_X10_194 (w_X0_has (Y := Y) a2 r1.2) (Nat.le_of_ble_eq_true rfl) rfl skC_22 (ltC skC_22 rfl) recv_0 (rest := []) rfl rfl (Nat.le_of_ble_eq_true rfl) dX10_then_18 (fun r3 => ?_)
  refine q_if_ne C 30 dX10_then_21 rfl (fun _ => ?_) (fun _ => ?_)
  · refine q_aload_n C 0 dX10_then_30 rfl ?_
    refine gf_X10_10 C skC_0 dX10_then_31 ?_
    refine q_iload_n C 1 dX10_then_34 rfl ?_
    refine q_cVV C lk_X10_260 (w_X7_thinkAll (Y := Y) a1 r3.2) (Nat.le_of_ble_eq_true rfl) rfl skC_1 (ltC skC_1 rfl) recv_7 (rest := []) rfl rfl (Nat.le_of_ble_eq_true rfl) dX10_then_35 (fun r4 => ?_)
    refine q_aload_n C 0 dX10_then_38 rfl ?_
    refine gf_X10_10 C skC_0 dX10_then_39 ?_
    refine gf_X10_77 C skC_1 dX10_then_42 ?_
    refine q_iload_n C 2 dX10_then_45 rfl ?_
    refine q_aload_n C 0 dX10_then_46 rfl ?_
    refine gf_X10_10 C skC_0 dX10_then_47 ?_
    refine gf_X10_263 C skC_1 dX10_then_50 ?_
    refine q_cVI C lk_X10_266 (w_X4_knownBy (Y := Y) a2 42 skC_42 r4) (Nat.le_of_ble_eq_true rfl) rfl skC_9 (ltC skC_9 rfl) recv_4 (rest := []) rfl rfl (Nat.le_of_ble_eq_true rfl) dX10_then_53 (fun r5 => ?_)
    exact q_ireti C rfl dX10_then_56
  refine q_aload_n C 0 dX10_then_24 rfl ?_
  refine q_iconst C (v := 1) dX10_then_25 (by decide) ?_
  refine q_cVI C lk_X10_63 (w_X10_error (Y := Y) 1 r3.2) (Nat.le_of_ble_eq_true rfl) rfl skC_0 (ltC skC_0 rfl) recv_10 (rest := []) rfl rfl (Nat.le_of_ble_eq_true rfl) dX10_then_26 (fun r6 => ?_)
  exact q_ireti C rfl dX10_then_29
theorem lk_X10_270 : LkV RX10 270 yX7_pass cX7_pass 6 none 4 := ⟨TB_p [865, 811, 812, 70, 813] (by decide +kernel) (by decide +kernel), by decide +kernel, by decide +kernel, by decide +kernel⟩
def f_X10_learns_L46 : Nat → Int32 → Nat → Int32 → St → Option (Int32 × St)
  | 0, _, _, _, _ => none
  | n + 1, v1, v3, v4, σ => (if 99 < v4 then (Option.bind (f_X10_error 2 σ) fun r7 => (some (r7.1, r7.2))) else (Option.bind (f_X10_inSet (σ v3 5) v1 σ) fun r8 => (if r8.1 = 1 then (some (v4, r8.2)) else (Option.bind (f_X7_pass v3 (r8.2 1 1) (r8.2 2 3) ((r8.2 1 2) + v4) r8.2) fun r9 => ((f_X10_learns_L46 n) v1 v3 (v4 + 1) r9)))))
theorem w_X10_learns_L46 {Y : YT} {X : XT} (C : Cx FC Y X cX10_learns 5 RX10 (some .int) 4 (0, 0)) : ∀ (n : Nat), ∀ (v1 : Int32), ∀ (v3 : Nat), ∀ (v4 : Int32), shC v3 = 3 → ∀ (σ : St), G FC Y X 5 (emI FC Y) (0, 0) (0, 0) 46 [(0, Rf Y 0), (1, .int v1), (3, Rf Y v3), (4, .int v4)] [] (RepS FC Y σ) (f_X10_learns_L46 n v1 v3 v4 σ) := by
  intro n
  induction n with
  | zero =>
    intro v1 v3 v4 hv3 σ
    rw [f_X10_learns_L46]; exact G.none
  | succ n ih =>
    intro v1 v3 v4 hv3 σ
    rw [f_X10_learns_L46]
    refine q_iload C 3 dX10_learns_46 rfl ?_
    refine q_bipush C (v := 99) dX10_learns_48 (by decide) ?_
    refine q_icmp_gt C 109 dX10_learns_50 rfl (fun _ => ?_) (fun _ => ?_)
    · refine q_aload_n C 0 dX10_learns_109 rfl ?_
      refine q_iconst C (v := 2) dX10_learns_110 (by decide) ?_
      refine q_cVI C lk_X10_63 (w_X10_error (Y := Y) 2 σ) (Nat.le_of_ble_eq_true rfl) rfl skC_0 (ltC skC_0 rfl) recv_10 (rest := []) rfl rfl (Nat.le_of_ble_eq_true rfl) dX10_learns_111 (fun r7 => ?_)
      exact q_ireti C rfl dX10_learns_114
    refine q_aload_n C 2 dX10_learns_53 rfl ?_
    refine gf_X10_166 C hv3 dX10_learns_54 ?_
    refine q_iload_n C 1 dX10_learns_57 rfl ?_
    refine q_cSI C lk_X10_120 (w_X10_inSet (Y := Y) (σ v3 5) v1 σ) (Nat.le_of_ble_eq_true rfl) rfl (rest := []) rfl rfl (Nat.le_of_ble_eq_true rfl) dX10_learns_58 (fun r8 => ?_)
    refine q_iconst C (v := 1) dX10_learns_61 (by decide) ?_
    refine q_icmp_ne C 68 dX10_learns_62 rfl (fun _ => ?_) (fun _ => ?_)
    · refine q_aload_n C 0 dX10_learns_68 rfl ?_
      refine gf_X10_10 C skC_0 dX10_learns_69 ?_
      refine q_aload_n C 2 dX10_learns_72 rfl ?_
      refine q_aload_n C 0 dX10_learns_73 rfl ?_
      refine gf_X10_10 C skC_0 dX10_learns_74 ?_
      refine gf_X10_128 C skC_1 dX10_learns_77 ?_
      refine q_aload_n C 0 dX10_learns_80 rfl ?_
      refine gf_X10_10 C skC_0 dX10_learns_81 ?_
      refine gf_X10_67 C skC_1 dX10_learns_84 ?_
      refine gf_X10_117 C skC_2 dX10_learns_87 ?_
      refine q_aload_n C 0 dX10_learns_90 rfl ?_
      refine gf_X10_10 C skC_0 dX10_learns_91 ?_
      refine gf_X10_243 C skC_1 dX10_learns_94 ?_
      refine q_iload C 3 dX10_learns_97 rfl ?_
      refine q_iadd C dX10_learns_99 ?_
      refine q_cVV C lk_X10_270 (w_X7_pass (Y := Y) v3 (r8.2 1 1) (r8.2 2 3) ((r8.2 1 2) + v4) hv3 r8.2) (Nat.le_of_ble_eq_true rfl) rfl skC_1 (ltC skC_1 rfl) recv_7 (rest := []) rfl rfl (Nat.le_of_ble_eq_true rfl) dX10_learns_100 (fun r9 => ?_)
      refine q_iinc C 3 [(4, .int (v4 + 1)), (0, Rf Y 0), (1, .int v1), (3, Rf Y v3)] dX10_learns_103 rfl rfl rfl rfl ?_
      refine q_goto C 46 dX10_learns_106 rfl ?_
      refine G.sub [1, 2, 3, 0] (lv' := [(0, Rf Y 0), (1, .int v1), (3, Rf Y v3), (4, .int (v4 + 1))]) rfl ?_
      exact ih v1 v3 (v4 + 1) hv3 r9
    refine q_iload C 3 dX10_learns_65 rfl ?_
    exact q_ireti C rfl dX10_learns_67
def f_X10_learns (a1 : Int32) (a2 : Int32) (σ : St) : Option (Int32 × St) := (Option.bind (f_X0_has a1 σ) fun r1 => (if r1.1 = 0 then (Option.bind (f_X10_error 1 r1.2) fun r2 => (some (r2.1, r2.2))) else (Option.bind (f_X4_has a2 r1.2) fun r3 => (if r3.1 = 0 then (Option.bind (f_X10_error 1 r3.2) fun r6 => (some (r6.1, r6.2))) else (Option.bind (f_X7_thought a2 r3.2) fun r4 => (if shC r4.1 = 3 then (f_X10_learns_L46 400 a1 r4.1 0 r4.2) else none))))))
theorem w_X10_learns {Y : YT} (a1 : Int32) (a2 : Int32)   (σ : St) : CtE (emI FC Y) FC Y yX10_learns cX10_learns 5 (some .int) 4 [Rf Y 0, .int a1, .int a2] σ (f_X10_learns a1 a2 σ) := by
  refine Ct.ofG (by decide) (Nat.le_of_ble_eq_true rfl) (fun X C0 => ?_)
  have C : Cx FC Y X cX10_learns 5 RX10 (some .int) 4 (0, 0) := C0
  show G FC Y X 5 (emI FC Y) (0, 0) (0, 0) 0 [(0, Rf Y 0), (1, .int a1), (2, .int a2)] [] (RepS FC Y σ) (f_X10_learns a1 a2 σ)
  rw [f_X10_learns]
  refine q_aload_n C 0 dX10_learns_0 rfl ?_
  refine gf_X10_10 C skC_0 dX10_learns_1 ?_
  refine gf_X10_84 C skC_1 dX10_learns_4 ?_
  refine q_iload_n C 1 dX10_learns_7 rfl ?_
  refine q_cVI C lk_X10_194 (w_X0_has (Y := Y) a1 σ) (Nat.le_of_ble_eq_true rfl) rfl skC_22 (ltC skC_22 rfl) recv_0 (rest := []) rfl rfl (Nat.le_of_ble_eq_true rfl) dX10_learns_8 (fun r1 => ?_)
  refine q_if_eq C 28 dX10_learns_11 rfl (fun _ => ?_) (fun _ => ?_)
  · refine q_aload_n C 0 dX10_learns_28 rfl ?_
    refine q_iconst C (v := 1) dX10_learns_29 (by decide) ?_
    refine q_cVI C lk_X10_63 (w_X10_error (Y := Y) 1 r1.2) (Nat.le_of_ble_eq_true rfl) rfl skC_0 (ltC skC_0 rfl) recv_10 (rest := []) rfl rfl (Nat.le_of_ble_eq_true rfl) dX10_learns_30 (fun r2 => ?_)
    exact q_ireti C rfl dX10_learns_33
  refine q_aload_n C 0 dX10_learns_14 rfl ?_
  refine gf_X10_10 C skC_0 dX10_learns_15 ?_
  refine gf_X10_77 C skC_1 dX10_learns_18 ?_
  refine q_iload_n C 2 dX10_learns_21 rfl ?_
  refine q_cVI C lk_X10_137 (w_X4_has (Y := Y) a2 r1.2) (Nat.le_of_ble_eq_true rfl) rfl skC_9 (ltC skC_9 rfl) recv_4 (rest := []) rfl rfl (Nat.le_of_ble_eq_true rfl) dX10_learns_22 (fun r3 => ?_)
  refine q_if_ne C 34 dX10_learns_25 rfl (fun _ => ?_) (fun _ => ?_)
  · refine q_aload_n C 0 dX10_learns_34 rfl ?_
    refine gf_X10_10 C skC_0 dX10_learns_35 ?_
    refine q_iload_n C 2 dX10_learns_38 rfl ?_
    refine q_cVR C lk_X10_138 (w_X7_thought (Y := Y) a2 r3.2) (Nat.le_of_ble_eq_true rfl) rfl skC_1 (ltC skC_1 rfl) recv_7 (rest := []) rfl rfl (Nat.le_of_ble_eq_true rfl) dX10_learns_39 (fun r4 => ?_)
    refine G.ite (fun h5 => ?_) (fun _ => G.none)
    refine q_astore_n C [(3, Rf Y r4.1), (0, Rf Y 0), (1, .int a1), (2, .int a2)] dX10_learns_42 rfl rfl ?_
    refine q_iconst C (v := 0) dX10_learns_43 (by decide) ?_
    refine q_istore C [(4, .int 0), (3, Rf Y r4.1), (0, Rf Y 0), (1, .int a1), (2, .int a2)] dX10_learns_44 rfl rfl ?_
    refine G.sub [2, 3, 1, 0] (lv' := [(0, Rf Y 0), (1, .int a1), (3, Rf Y r4.1), (4, .int 0)]) rfl ?_
    exact w_X10_learns_L46 C 400 a1 r4.1 0 h5 r4.2
  refine q_aload_n C 0 dX10_learns_28 rfl ?_
  refine q_iconst C (v := 1) dX10_learns_29 (by decide) ?_
  refine q_cVI C lk_X10_63 (w_X10_error (Y := Y) 1 r3.2) (Nat.le_of_ble_eq_true rfl) rfl skC_0 (ltC skC_0 rfl) recv_10 (rest := []) rfl rfl (Nat.le_of_ble_eq_true rfl) dX10_learns_30 (fun r6 => ?_)
  exact q_ireti C rfl dX10_learns_33
theorem lk_X10_277 : LkV RX10 277 yX7_passAll cX7_passAll 6 none 4 := ⟨TB_p [870, 856, 857, 70, 858] (by decide +kernel) (by decide +kernel), by decide +kernel, by decide +kernel, by decide +kernel⟩
def f_X10_calls_L84 : Nat → Int32 → Int32 → Int32 → Int32 → Int32 → Int32 → St → Option (Int32 × St)
  | 0, _, _, _, _, _, _, _ => none
  | n + 1, v1, v2, v3, v4, v5, v6, σ => (if (σ 1 0) ≤ v6 then (some (v5, σ)) else (Option.bind (f_X7_thought v1 σ) fun r12 => (if shC r12.1 = 3 then (Bst (up r12.2 r12.1 2 v6) fun s14 => (Bst (up s14 r12.1 4 0) fun s15 => (Option.bind (f_X7_passAll r12.1 (s15 1 1) (s15 2 3) v2 s15) fun r16 => (if ((r16 r12.1 5) &&& v3) = v3 then (if ((r16 r12.1 5) &&& v4) = 0 then (Option.bind (f_X10_withMember v5 v6 1 r16) fun r19 => ((f_X10_calls_L84 n) v1 v2 v3 v4 r19.1 (v6 + 1) r19.2)) else (Option.bind (f_X10_withMember v5 v6 0 r16) fun r18 => ((f_X10_calls_L84 n) v1 v2 v3 v4 r18.1 (v6 + 1) r18.2))) else (Option.bind (f_X10_withMember v5 v6 0 r16) fun r17 => ((f_X10_calls_L84 n) v1 v2 v3 v4 r17.1 (v6 + 1) r17.2)))))) else none)))
theorem w_X10_calls_L84 {Y : YT} {X : XT} (C : Cx FC Y X cX10_calls 8 RX10 (some .int) 5 (0, 0)) : ∀ (n : Nat), ∀ (v1 : Int32), ∀ (v2 : Int32), ∀ (v3 : Int32), ∀ (v4 : Int32), ∀ (v5 : Int32), ∀ (v6 : Int32), ∀ (σ : St), G FC Y X 8 (emI FC Y) (0, 0) (0, 0) 84 [(0, Rf Y 0), (1, .int v1), (2, .int v2), (3, .int v3), (4, .int v4), (5, .int v5), (6, .int v6)] [] (RepS FC Y σ) (f_X10_calls_L84 n v1 v2 v3 v4 v5 v6 σ) := by
  intro n
  induction n with
  | zero =>
    intro v1 v2 v3 v4 v5 v6 σ
    rw [f_X10_calls_L84]; exact G.none
  | succ n ih =>
    intro v1 v2 v3 v4 v5 v6 σ
    rw [f_X10_calls_L84]
    refine q_iload C 6 dX10_calls_84 rfl ?_
    refine q_aload_n C 0 dX10_calls_86 rfl ?_
    refine gf_X10_10 C skC_0 dX10_calls_87 ?_
    refine gf_X10_91 C skC_1 dX10_calls_90 ?_
    refine q_icmp_ge C 188 dX10_calls_93 rfl (fun _ => ?_) (fun _ => ?_)
    · refine q_iload C 5 dX10_calls_188 rfl ?_
      exact q_ireti C rfl dX10_calls_190
    refine q_aload_n C 0 dX10_calls_96 rfl ?_
    refine gf_X10_10 C skC_0 dX10_calls_97 ?_
    refine q_iload_n C 1 dX10_calls_100 rfl ?_
    refine q_cVR C lk_X10_138 (w_X7_thought (Y := Y) v1 σ) (Nat.le_of_ble_eq_true rfl) rfl skC_1 (ltC skC_1 rfl) recv_7 (rest := []) rfl rfl (Nat.le_of_ble_eq_true rfl) dX10_calls_101 (fun r12 => ?_)
    refine G.ite (fun h13 => ?_) (fun _ => G.none)
    refine q_astore C [(7, Rf Y r12.1), (0, Rf Y 0), (1, .int v1), (2, .int v2), (3, .int v3), (4, .int v4), (5, .int v5), (6, .int v6)] dX10_calls_104 rfl rfl ?_
    refine q_aload C 0 dX10_calls_106 rfl ?_
    refine q_iload C 7 dX10_calls_108 rfl ?_
    refine pf_X10_150 C h13 dX10_calls_110 (fun s14 => ?_)
    refine q_aload C 0 dX10_calls_113 rfl ?_
    refine q_iconst C (v := 0) dX10_calls_115 (by decide) ?_
    refine pf_X10_156 C h13 dX10_calls_116 (fun s15 => ?_)
    refine q_aload_n C 1 dX10_calls_119 rfl ?_
    refine gf_X10_10 C skC_0 dX10_calls_120 ?_
    refine q_aload C 0 dX10_calls_123 rfl ?_
    refine q_aload_n C 1 dX10_calls_125 rfl ?_
    refine gf_X10_10 C skC_0 dX10_calls_126 ?_
    refine gf_X10_128 C skC_1 dX10_calls_129 ?_
    refine q_aload_n C 1 dX10_calls_132 rfl ?_
    refine gf_X10_10 C skC_0 dX10_calls_133 ?_
    refine gf_X10_67 C skC_1 dX10_calls_136 ?_
    refine gf_X10_117 C skC_2 dX10_calls_139 ?_
    refine q_iload_n C 3 dX10_calls_142 rfl ?_
    refine q_cVV C lk_X10_277 (w_X7_passAll (Y := Y) r12.1 (s15 1 1) (s15 2 3) v2 h13 s15) (Nat.le_of_ble_eq_true rfl) rfl skC_1 (ltC skC_1 rfl) recv_7 (rest := []) rfl rfl (Nat.le_of_ble_eq_true rfl) dX10_calls_143 (fun r16 => ?_)
    refine q_iload C 6 dX10_calls_146 rfl ?_
    refine q_iload C 7 dX10_calls_148 rfl ?_
    refine q_aload C 0 dX10_calls_150 rfl ?_
    refine gf_X10_166 C h13 dX10_calls_152 ?_
    refine q_iload_n C 4 dX10_calls_155 rfl ?_
    refine q_iand C dX10_calls_156 ?_
    refine q_iload_n C 4 dX10_calls_157 rfl ?_
    refine q_icmp_ne C 176 dX10_calls_158 rfl (fun _ => ?_) (fun _ => ?_)
    · refine q_iconst C (v := 0) dX10_calls_176 (by decide) ?_
      refine q_cSI C lk_X10_124 (w_X10_withMember (Y := Y) v5 v6 0 r16) (Nat.le_of_ble_eq_true rfl) rfl (rest := []) rfl rfl (Nat.le_of_ble_eq_true rfl) dX10_calls_177 (fun r17 => ?_)
      refine q_istore C [(5, .int r17.1), (7, Rf Y r12.1), (0, Rf Y 0), (1, .int v1), (2, .int v2), (3, .int v3), (4, .int v4), (6, .int v6)] dX10_calls_180 rfl rfl ?_
      refine q_iinc C 7 [(6, .int (v6 + 1)), (5, .int r17.1), (7, Rf Y r12.1), (0, Rf Y 0), (1, .int v1), (2, .int v2), (3, .int v3), (4, .int v4)] dX10_calls_182 rfl rfl rfl rfl ?_
      refine q_goto C 84 dX10_calls_185 rfl ?_
      refine G.sub [3, 4, 5, 6, 7, 1, 0] (lv' := [(0, Rf Y 0), (1, .int v1), (2, .int v2), (3, .int v3), (4, .int v4), (5, .int r17.1), (6, .int (v6 + 1))]) rfl ?_
      exact ih v1 v2 v3 v4 r17.1 (v6 + 1) r17.2
    refine q_aload C 0 dX10_calls_161 rfl ?_
    refine gf_X10_166 C h13 dX10_calls_163 ?_
    refine q_iload C 5 dX10_calls_166 rfl ?_
    refine q_iand C dX10_calls_168 ?_
    refine q_if_ne C 176 dX10_calls_169 rfl (fun _ => ?_) (fun _ => ?_)
    · refine q_iconst C (v := 0) dX10_calls_176 (by decide) ?_
      refine q_cSI C lk_X10_124 (w_X10_withMember (Y := Y) v5 v6 0 r16) (Nat.le_of_ble_eq_true rfl) rfl (rest := []) rfl rfl (Nat.le_of_ble_eq_true rfl) dX10_calls_177 (fun r18 => ?_)
      refine q_istore C [(5, .int r18.1), (7, Rf Y r12.1), (0, Rf Y 0), (1, .int v1), (2, .int v2), (3, .int v3), (4, .int v4), (6, .int v6)] dX10_calls_180 rfl rfl ?_
      refine q_iinc C 7 [(6, .int (v6 + 1)), (5, .int r18.1), (7, Rf Y r12.1), (0, Rf Y 0), (1, .int v1), (2, .int v2), (3, .int v3), (4, .int v4)] dX10_calls_182 rfl rfl rfl rfl ?_
      refine q_goto C 84 dX10_calls_185 rfl ?_
      refine G.sub [3, 4, 5, 6, 7, 1, 0] (lv' := [(0, Rf Y 0), (1, .int v1), (2, .int v2), (3, .int v3), (4, .int v4), (5, .int r18.1), (6, .int (v6 + 1))]) rfl ?_
      exact ih v1 v2 v3 v4 r18.1 (v6 + 1) r18.2
    refine q_iconst C (v := 1) dX10_calls_172 (by decide) ?_
    refine q_goto C 177 dX10_calls_173 rfl ?_
    refine q_cSI C lk_X10_124 (w_X10_withMember (Y := Y) v5 v6 1 r16) (Nat.le_of_ble_eq_true rfl) rfl (rest := []) rfl rfl (Nat.le_of_ble_eq_true rfl) dX10_calls_177 (fun r19 => ?_)
    refine q_istore C [(5, .int r19.1), (7, Rf Y r12.1), (0, Rf Y 0), (1, .int v1), (2, .int v2), (3, .int v3), (4, .int v4), (6, .int v6)] dX10_calls_180 rfl rfl ?_
    refine q_iinc C 7 [(6, .int (v6 + 1)), (5, .int r19.1), (7, Rf Y r12.1), (0, Rf Y 0), (1, .int v1), (2, .int v2), (3, .int v3), (4, .int v4)] dX10_calls_182 rfl rfl rfl rfl ?_
    refine q_goto C 84 dX10_calls_185 rfl ?_
    refine G.sub [3, 4, 5, 6, 7, 1, 0] (lv' := [(0, Rf Y 0), (1, .int v1), (2, .int v2), (3, .int v3), (4, .int v4), (5, .int r19.1), (6, .int (v6 + 1))]) rfl ?_
    exact ih v1 v2 v3 v4 r19.1 (v6 + 1) r19.2
def f_X10_calls (a1 : Int32) (a2 : Int32) (a3 : Int32) (a4 : Int32) (σ : St) : Option (Int32 × St) := (Option.bind (f_X4_has a1 σ) fun r1 => (if r1.1 = 0 then (Option.bind (f_X10_error 1 r1.2) fun r2 => (some (r2.1, r2.2))) else (Option.bind (f_X10_within a2 0 99 r1.2) fun r3 => (if r3.1 = 0 then (Option.bind (f_X10_error 1 r3.2) fun r11 => (some (r11.1, r11.2))) else (Option.bind (f_X0_size r3.2) fun r4 => (Option.bind (f_X10_isSetOf r4.1 a3 r4.2) fun r5 => (if r5.1 = 0 then (Option.bind (f_X10_error 1 r5.2) fun r6 => (some (r6.1, r6.2))) else (Option.bind (f_X0_size r5.2) fun r7 => (Option.bind (f_X10_isSetOf r7.1 a4 r7.2) fun r8 => (if r8.1 = 0 then (Option.bind (f_X10_error 1 r8.2) fun r9 => (some (r9.1, r9.2))) else (if (a3 &&& a4) = 0 then (f_X10_calls_L84 400 a1 a2 a3 a4 0 0 r8.2) else (Option.bind (f_X10_error 1 r8.2) fun r10 => (some (r10.1, r10.2))))))))))))))
theorem w_X10_calls {Y : YT} (a1 : Int32) (a2 : Int32) (a3 : Int32) (a4 : Int32)   (σ : St) : CtE (emI FC Y) FC Y yX10_calls cX10_calls 8 (some .int) 5 [Rf Y 0, .int a1, .int a2, .int a3, .int a4] σ (f_X10_calls a1 a2 a3 a4 σ) := by
  refine Ct.ofG (by decide) (Nat.le_of_ble_eq_true rfl) (fun X C0 => ?_)
  have C : Cx FC Y X cX10_calls 8 RX10 (some .int) 5 (0, 0) := C0
  show G FC Y X 8 (emI FC Y) (0, 0) (0, 0) 0 [(0, Rf Y 0), (1, .int a1), (2, .int a2), (3, .int a3), (4, .int a4)] [] (RepS FC Y σ) (f_X10_calls a1 a2 a3 a4 σ)
  rw [f_X10_calls]
  refine q_aload_n C 0 dX10_calls_0 rfl ?_
  refine gf_X10_10 C skC_0 dX10_calls_1 ?_
  refine gf_X10_77 C skC_1 dX10_calls_4 ?_
  refine q_iload_n C 1 dX10_calls_7 rfl ?_
  refine q_cVI C lk_X10_137 (w_X4_has (Y := Y) a1 σ) (Nat.le_of_ble_eq_true rfl) rfl skC_9 (ltC skC_9 rfl) recv_4 (rest := []) rfl rfl (Nat.le_of_ble_eq_true rfl) dX10_calls_8 (fun r1 => ?_)
  refine q_if_eq C 24 dX10_calls_11 rfl (fun _ => ?_) (fun _ => ?_)
  · refine q_aload_n C 0 dX10_calls_24 rfl ?_
    refine q_iconst C (v := 1) dX10_calls_25 (by decide) ?_
    refine q_cVI C lk_X10_63 (w_X10_error (Y := Y) 1 r1.2) (Nat.le_of_ble_eq_true rfl) rfl skC_0 (ltC skC_0 rfl) recv_10 (rest := []) rfl rfl (Nat.le_of_ble_eq_true rfl) dX10_calls_26 (fun r2 => ?_)
    exact q_ireti C rfl dX10_calls_29
  refine q_iload_n C 2 dX10_calls_14 rfl ?_
  refine q_iconst C (v := 0) dX10_calls_15 (by decide) ?_
  refine q_bipush C (v := 99) dX10_calls_16 (by decide) ?_
  refine q_cSI C lk_X10_59 (w_X10_within (Y := Y) a2 0 99 r1.2) (Nat.le_of_ble_eq_true rfl) rfl (rest := []) rfl rfl (Nat.le_of_ble_eq_true rfl) dX10_calls_18 (fun r3 => ?_)
  refine q_if_ne C 30 dX10_calls_21 rfl (fun _ => ?_) (fun _ => ?_)
  · refine q_aload_n C 0 dX10_calls_30 rfl ?_
    refine gf_X10_10 C skC_0 dX10_calls_31 ?_
    refine gf_X10_84 C skC_1 dX10_calls_34 ?_
    refine q_cVI C lk_X10_88 (w_X0_size (Y := Y) r3.2) (Nat.le_of_ble_eq_true rfl) rfl skC_22 (ltC skC_22 rfl) recv_0 (rest := []) rfl rfl (Nat.le_of_ble_eq_true rfl) dX10_calls_37 (fun r4 => ?_)
    refine q_iload_n C 3 dX10_calls_40 rfl ?_
    refine q_cSI C lk_X10_274 (w_X10_isSetOf (Y := Y) r4.1 a3 r4.2) (Nat.le_of_ble_eq_true rfl) rfl (rest := []) rfl rfl (Nat.le_of_ble_eq_true rfl) dX10_calls_41 (fun r5 => ?_)
    refine q_if_eq C 72 dX10_calls_44 rfl (fun _ => ?_) (fun _ => ?_)
    · refine q_aload_n C 0 dX10_calls_72 rfl ?_
      refine q_iconst C (v := 1) dX10_calls_73 (by decide) ?_
      refine q_cVI C lk_X10_63 (w_X10_error (Y := Y) 1 r5.2) (Nat.le_of_ble_eq_true rfl) rfl skC_0 (ltC skC_0 rfl) recv_10 (rest := []) rfl rfl (Nat.le_of_ble_eq_true rfl) dX10_calls_74 (fun r6 => ?_)
      exact q_ireti C rfl dX10_calls_77
    refine q_aload_n C 0 dX10_calls_47 rfl ?_
    refine gf_X10_10 C skC_0 dX10_calls_48 ?_
    refine gf_X10_84 C skC_1 dX10_calls_51 ?_
    refine q_cVI C lk_X10_88 (w_X0_size (Y := Y) r5.2) (Nat.le_of_ble_eq_true rfl) rfl skC_22 (ltC skC_22 rfl) recv_0 (rest := []) rfl rfl (Nat.le_of_ble_eq_true rfl) dX10_calls_54 (fun r7 => ?_)
    refine q_iload C 4 dX10_calls_57 rfl ?_
    refine q_cSI C lk_X10_274 (w_X10_isSetOf (Y := Y) r7.1 a4 r7.2) (Nat.le_of_ble_eq_true rfl) rfl (rest := []) rfl rfl (Nat.le_of_ble_eq_true rfl) dX10_calls_59 (fun r8 => ?_)
    refine q_if_eq C 72 dX10_calls_62 rfl (fun _ => ?_) (fun _ => ?_)
    · refine q_aload_n C 0 dX10_calls_72 rfl ?_
      refine q_iconst C (v := 1) dX10_calls_73 (by decide) ?_
      refine q_cVI C lk_X10_63 (w_X10_error (Y := Y) 1 r8.2) (Nat.le_of_ble_eq_true rfl) rfl skC_0 (ltC skC_0 rfl) recv_10 (rest := []) rfl rfl (Nat.le_of_ble_eq_true rfl) dX10_calls_74 (fun r9 => ?_)
      exact q_ireti C rfl dX10_calls_77
    refine q_iload_n C 3 dX10_calls_65 rfl ?_
    refine q_iload C 4 dX10_calls_66 rfl ?_
    refine q_iand C dX10_calls_68 ?_
    refine q_if_eq C 78 dX10_calls_69 rfl (fun _ => ?_) (fun _ => ?_)
    · refine q_iconst C (v := 0) dX10_calls_78 (by decide) ?_
      refine q_istore C [(5, .int 0), (0, Rf Y 0), (1, .int a1), (2, .int a2), (3, .int a3), (4, .int a4)] dX10_calls_79 rfl rfl ?_
      refine q_iconst C (v := 0) dX10_calls_81 (by decide) ?_
      refine q_istore C [(6, .int 0), (5, .int 0), (0, Rf Y 0), (1, .int a1), (2, .int a2), (3, .int a3), (4, .int a4)] dX10_calls_82 rfl rfl ?_
      refine G.sub [2, 3, 4, 5, 6, 1, 0] (lv' := [(0, Rf Y 0), (1, .int a1), (2, .int a2), (3, .int a3), (4, .int a4), (5, .int 0), (6, .int 0)]) rfl ?_
      exact w_X10_calls_L84 C 400 a1 a2 a3 a4 0 0 r8.2
    refine q_aload_n C 0 dX10_calls_72 rfl ?_
    refine q_iconst C (v := 1) dX10_calls_73 (by decide) ?_
    refine q_cVI C lk_X10_63 (w_X10_error (Y := Y) 1 r8.2) (Nat.le_of_ble_eq_true rfl) rfl skC_0 (ltC skC_0 rfl) recv_10 (rest := []) rfl rfl (Nat.le_of_ble_eq_true rfl) dX10_calls_74 (fun r10 => ?_)
    exact q_ireti C rfl dX10_calls_77
  refine q_aload_n C 0 dX10_calls_24 rfl ?_
  refine q_iconst C (v := 1) dX10_calls_25 (by decide) ?_
  refine q_cVI C lk_X10_63 (w_X10_error (Y := Y) 1 r3.2) (Nat.le_of_ble_eq_true rfl) rfl skC_0 (ltC skC_0 rfl) recv_10 (rest := []) rfl rfl (Nat.le_of_ble_eq_true rfl) dX10_calls_26 (fun r11 => ?_)
  exact q_ireti C rfl dX10_calls_29
def f_X10_hinders (a1 : Int32) (a2 : Int32) (a3 : Int32) (a4 : Int32) (σ : St) : Option (Int32 × St) := (if (a1 &&& (σ 2 3)) = 0 then (Option.bind (f_X7_thought a3 σ) fun r1 => (if shC r1.1 = 3 then (Option.bind (f_X7_passAll r1.1 (r1.2 1 1) ((r1.2 2 3) ||| a1) a4 r1.2) fun r3 => (Option.bind (f_X10_inSet (r3 r1.1 5) a2 r3) fun r4 => (if r4.1 = 0 then (some (1, r4.2)) else (some (0, r4.2))))) else none)) else (some (0, σ)))
theorem w_X10_hinders {Y : YT} (a1 : Int32) (a2 : Int32) (a3 : Int32) (a4 : Int32)   (σ : St) : CtE (emI FC Y) FC Y yX10_hinders cX10_hinders 6 (some .boolean) 5 [Rf Y 0, .int a1, .int a2, .int a3, .int a4] σ (f_X10_hinders a1 a2 a3 a4 σ) := by
  refine Ct.ofG (by decide) (Nat.le_of_ble_eq_true rfl) (fun X C0 => ?_)
  have C : Cx FC Y X cX10_hinders 6 RX10 (some .boolean) 5 (0, 0) := C0
  show G FC Y X 6 (emI FC Y) (0, 0) (0, 0) 0 [(0, Rf Y 0), (1, .int a1), (2, .int a2), (3, .int a3), (4, .int a4)] [] (RepS FC Y σ) (f_X10_hinders a1 a2 a3 a4 σ)
  rw [f_X10_hinders]
  refine q_iload_n C 1 dX10_hinders_0 rfl ?_
  refine q_aload_n C 0 dX10_hinders_1 rfl ?_
  refine gf_X10_10 C skC_0 dX10_hinders_2 ?_
  refine gf_X10_67 C skC_1 dX10_hinders_5 ?_
  refine gf_X10_117 C skC_2 dX10_hinders_8 ?_
  refine q_iand C dX10_hinders_11 ?_
  refine q_if_eq C 17 dX10_hinders_12 rfl (fun _ => ?_) (fun _ => ?_)
  · refine q_aload_n C 0 dX10_hinders_17 rfl ?_
    refine gf_X10_10 C skC_0 dX10_hinders_18 ?_
    refine q_iload_n C 3 dX10_hinders_21 rfl ?_
    refine q_cVR C lk_X10_138 (w_X7_thought (Y := Y) a3 σ) (Nat.le_of_ble_eq_true rfl) rfl skC_1 (ltC skC_1 rfl) recv_7 (rest := []) rfl rfl (Nat.le_of_ble_eq_true rfl) dX10_hinders_22 (fun r1 => ?_)
    refine G.ite (fun h2 => ?_) (fun _ => G.none)
    refine q_astore C [(5, Rf Y r1.1), (0, Rf Y 0), (1, .int a1), (2, .int a2), (3, .int a3), (4, .int a4)] dX10_hinders_25 rfl rfl ?_
    refine q_aload_n C 1 dX10_hinders_27 rfl ?_
    refine gf_X10_10 C skC_0 dX10_hinders_28 ?_
    refine q_aload C 0 dX10_hinders_31 rfl ?_
    refine q_aload_n C 1 dX10_hinders_33 rfl ?_
    refine gf_X10_10 C skC_0 dX10_hinders_34 ?_
    refine gf_X10_128 C skC_1 dX10_hinders_37 ?_
    refine q_aload_n C 1 dX10_hinders_40 rfl ?_
    refine gf_X10_10 C skC_0 dX10_hinders_41 ?_
    refine gf_X10_67 C skC_1 dX10_hinders_44 ?_
    refine gf_X10_117 C skC_2 dX10_hinders_47 ?_
    refine q_iload_n C 2 dX10_hinders_50 rfl ?_
    refine q_ior C dX10_hinders_51 ?_
    refine q_iload C 5 dX10_hinders_52 rfl ?_
    refine q_cVV C lk_X10_277 (w_X7_passAll (Y := Y) r1.1 (r1.2 1 1) ((r1.2 2 3) ||| a1) a4 h2 r1.2) (Nat.le_of_ble_eq_true rfl) rfl skC_1 (ltC skC_1 rfl) recv_7 (rest := []) rfl rfl (Nat.le_of_ble_eq_true rfl) dX10_hinders_54 (fun r3 => ?_)
    refine q_aload C 0 dX10_hinders_57 rfl ?_
    refine gf_X10_166 C h2 dX10_hinders_59 ?_
    refine q_iload_n C 3 dX10_hinders_62 rfl ?_
    refine q_cSI C lk_X10_120 (w_X10_inSet (Y := Y) (r3 r1.1 5) a2 r3) (Nat.le_of_ble_eq_true rfl) rfl (rest := []) rfl rfl (Nat.le_of_ble_eq_true rfl) dX10_hinders_63 (fun r4 => ?_)
    refine q_if_ne C 73 dX10_hinders_66 rfl (fun _ => ?_) (fun _ => ?_)
    · refine q_iconst C (v := 0) dX10_hinders_73 (by decide) ?_
      exact q_iretz C (by decide) rfl dX10_hinders_74
    refine q_iconst C (v := 1) dX10_hinders_69 (by decide) ?_
    refine q_goto C 74 dX10_hinders_70 rfl ?_
    exact q_iretz C (by decide) rfl dX10_hinders_74
  refine q_iconst C (v := 0) dX10_hinders_15 (by decide) ?_
  exact q_iretz C (by decide) rfl dX10_hinders_16
theorem lk_X10_280 : LkV RX10 280 yX10_hinders cX10_hinders 6 (some .boolean) 4 := ⟨TB_p [875, 877, 11, 69, 878] (by decide +kernel) (by decide +kernel), by decide +kernel, by decide +kernel, by decide +kernel⟩
def f_X10_stops_L79 (rf61 : Int32 → Int32 → Int32 → Int32 → Int32 → St → Option (Int32 × St)) : Nat → Int32 → Int32 → Int32 → Int32 → Int32 → Int32 → St → Option (Int32 × St)
  | 0, _, _, _, _, _, _, _ => none
  | n + 1, v1, v2, v3, v4, v5, v6, σ => (if v4 ≤ v6 then (rf61 v1 v2 v3 v4 (v5 + 1) σ) else (if (bitc v6) = v5 then (Option.bind (f_X10_hinders v6 v1 v2 v3 σ) fun r10 => (if r10.1 = 0 then ((f_X10_stops_L79 rf61 n) v1 v2 v3 v4 v5 (v6 + 1) r10.2) else (some (v6, r10.2)))) else ((f_X10_stops_L79 rf61 n) v1 v2 v3 v4 v5 (v6 + 1) σ)))
theorem w_X10_stops_L79 {Y : YT} {X : XT} (C : Cx FC Y X cX10_stops 7 RX10 (some .int) 6 (0, 0)) {rf61 : Int32 → Int32 → Int32 → Int32 → Int32 → St → Option (Int32 × St)} (ih61 : ∀ (v1 : Int32), ∀ (v2 : Int32), ∀ (v3 : Int32), ∀ (v4 : Int32), ∀ (v5 : Int32), ∀ (σ : St), G FC Y X 7 (emI FC Y) (0, 0) (0, 0) 61 [(0, Rf Y 0), (1, .int v1), (2, .int v2), (3, .int v3), (4, .int v4), (5, .int v5)] [] (RepS FC Y σ) (rf61 v1 v2 v3 v4 v5 σ)) : ∀ (n : Nat), ∀ (v1 : Int32), ∀ (v2 : Int32), ∀ (v3 : Int32), ∀ (v4 : Int32), ∀ (v5 : Int32), ∀ (v6 : Int32), ∀ (σ : St), G FC Y X 7 (emI FC Y) (0, 0) (0, 0) 79 [(0, Rf Y 0), (1, .int v1), (2, .int v2), (3, .int v3), (4, .int v4), (5, .int v5), (6, .int v6)] [] (RepS FC Y σ) (f_X10_stops_L79 rf61 n v1 v2 v3 v4 v5 v6 σ) := by
  intro n
  induction n with
  | zero =>
    intro v1 v2 v3 v4 v5 v6 σ
    rw [f_X10_stops_L79]; exact G.none
  | succ n ih =>
    intro v1 v2 v3 v4 v5 v6 σ
    rw [f_X10_stops_L79]
    refine q_iload C 6 dX10_stops_79 rfl ?_
    refine q_iload C 4 dX10_stops_81 rfl ?_
    refine q_icmp_ge C 117 dX10_stops_83 rfl (fun _ => ?_) (fun _ => ?_)
    · refine q_iinc C 5 [(5, .int (v5 + 1)), (0, Rf Y 0), (1, .int v1), (2, .int v2), (3, .int v3), (4, .int v4), (6, .int v6)] dX10_stops_117 rfl rfl rfl rfl ?_
      refine q_goto C 61 dX10_stops_120 rfl ?_
      refine G.sub [1, 2, 3, 4, 5, 0] (lv' := [(0, Rf Y 0), (1, .int v1), (2, .int v2), (3, .int v3), (4, .int v4), (5, .int (v5 + 1))]) rfl ?_
      exact ih61 v1 v2 v3 v4 (v5 + 1) σ
    refine q_iload C 6 dX10_stops_86 rfl ?_
    refine q_bitc C lk_X10_252 (Nat.le_of_ble_eq_true rfl) (Nat.le_of_ble_eq_true rfl) dX10_stops_88 ?_
    refine q_iload C 5 dX10_stops_91 rfl ?_
    refine q_icmp_ne C 111 dX10_stops_93 rfl (fun _ => ?_) (fun _ => ?_)
    · refine q_iinc C 6 [(6, .int (v6 + 1)), (0, Rf Y 0), (1, .int v1), (2, .int v2), (3, .int v3), (4, .int v4), (5, .int v5)] dX10_stops_111 rfl rfl rfl rfl ?_
      refine q_goto C 79 dX10_stops_114 rfl ?_
      refine G.sub [1, 2, 3, 4, 5, 6, 0] (lv' := [(0, Rf Y 0), (1, .int v1), (2, .int v2), (3, .int v3), (4, .int v4), (5, .int v5), (6, .int (v6 + 1))]) rfl ?_
      exact ih v1 v2 v3 v4 v5 (v6 + 1) σ
    refine q_aload_n C 0 dX10_stops_96 rfl ?_
    refine q_iload C 6 dX10_stops_97 rfl ?_
    refine q_iload_n C 1 dX10_stops_99 rfl ?_
    refine q_iload_n C 2 dX10_stops_100 rfl ?_
    refine q_iload_n C 3 dX10_stops_101 rfl ?_
    refine q_cVI C lk_X10_280 (w_X10_hinders (Y := Y) v6 v1 v2 v3 σ) (Nat.le_of_ble_eq_true rfl) rfl skC_0 (ltC skC_0 rfl) recv_10 (rest := []) rfl rfl (Nat.le_of_ble_eq_true rfl) dX10_stops_102 (fun r10 => ?_)
    refine q_if_eq C 111 dX10_stops_105 rfl (fun _ => ?_) (fun _ => ?_)
    · refine q_iinc C 6 [(6, .int (v6 + 1)), (0, Rf Y 0), (1, .int v1), (2, .int v2), (3, .int v3), (4, .int v4), (5, .int v5)] dX10_stops_111 rfl rfl rfl rfl ?_
      refine q_goto C 79 dX10_stops_114 rfl ?_
      refine G.sub [1, 2, 3, 4, 5, 6, 0] (lv' := [(0, Rf Y 0), (1, .int v1), (2, .int v2), (3, .int v3), (4, .int v4), (5, .int v5), (6, .int (v6 + 1))]) rfl ?_
      exact ih v1 v2 v3 v4 v5 (v6 + 1) r10.2
    refine q_iload C 6 dX10_stops_108 rfl ?_
    exact q_ireti C rfl dX10_stops_110
def f_X10_stops_L61 : Nat → Int32 → Int32 → Int32 → Int32 → Int32 → St → Option (Int32 × St)
  | 0, _, _, _, _, _, _ => none
  | n + 1, v1, v2, v3, v4, v5, σ => (Option.bind (f_X9_size σ) fun r8 => (if r8.1 < v5 then (Option.bind (f_X10_error 2 r8.2) fun r9 => (some (r9.1, r9.2))) else (f_X10_stops_L79 (f_X10_stops_L61 n) 400 v1 v2 v3 v4 v5 0 r8.2)))
theorem w_X10_stops_L61 {Y : YT} {X : XT} (C : Cx FC Y X cX10_stops 7 RX10 (some .int) 6 (0, 0)) : ∀ (n : Nat), ∀ (v1 : Int32), ∀ (v2 : Int32), ∀ (v3 : Int32), ∀ (v4 : Int32), ∀ (v5 : Int32), ∀ (σ : St), G FC Y X 7 (emI FC Y) (0, 0) (0, 0) 61 [(0, Rf Y 0), (1, .int v1), (2, .int v2), (3, .int v3), (4, .int v4), (5, .int v5)] [] (RepS FC Y σ) (f_X10_stops_L61 n v1 v2 v3 v4 v5 σ) := by
  intro n
  induction n with
  | zero =>
    intro v1 v2 v3 v4 v5 σ
    rw [f_X10_stops_L61]; exact G.none
  | succ n ih =>
    intro v1 v2 v3 v4 v5 σ
    rw [f_X10_stops_L61]
    refine q_iload C 5 dX10_stops_61 rfl ?_
    refine q_aload_n C 0 dX10_stops_63 rfl ?_
    refine gf_X10_10 C skC_0 dX10_stops_64 ?_
    refine gf_X10_67 C skC_1 dX10_stops_67 ?_
    refine q_cVI C lk_X10_71 (w_X9_size (Y := Y) σ) (Nat.le_of_ble_eq_true rfl) rfl skC_2 (ltC skC_2 rfl) recv_9 (rest := [.int v5]) rfl rfl (Nat.le_of_ble_eq_true rfl) dX10_stops_70 (fun r8 => ?_)
    refine q_icmp_gt C 123 dX10_stops_73 rfl (fun _ => ?_) (fun _ => ?_)
    · refine q_aload_n C 0 dX10_stops_123 rfl ?_
      refine q_iconst C (v := 2) dX10_stops_124 (by decide) ?_
      refine q_cVI C lk_X10_63 (w_X10_error (Y := Y) 2 r8.2) (Nat.le_of_ble_eq_true rfl) rfl skC_0 (ltC skC_0 rfl) recv_10 (rest := []) rfl rfl (Nat.le_of_ble_eq_true rfl) dX10_stops_125 (fun r9 => ?_)
      exact q_ireti C rfl dX10_stops_128
    refine q_iconst C (v := 0) dX10_stops_76 (by decide) ?_
    refine q_istore C [(6, .int 0), (0, Rf Y 0), (1, .int v1), (2, .int v2), (3, .int v3), (4, .int v4), (5, .int v5)] dX10_stops_77 rfl rfl ?_
    refine G.sub [1, 2, 3, 4, 5, 6, 0] (lv' := [(0, Rf Y 0), (1, .int v1), (2, .int v2), (3, .int v3), (4, .int v4), (5, .int v5), (6, .int 0)]) rfl ?_
    exact w_X10_stops_L79 C (rf61 := (f_X10_stops_L61 n)) ih 400 v1 v2 v3 v4 v5 0 r8.2
def f_X10_stops (a1 : Int32) (a2 : Int32) (a3 : Int32) (σ : St) : Option (Int32 × St) := (Option.bind (f_X0_has a1 σ) fun r1 => (if r1.1 = 0 then (Option.bind (f_X10_error 1 r1.2) fun r2 => (some (r2.1, r2.2))) else (Option.bind (f_X4_has a2 r1.2) fun r3 => (if r3.1 = 0 then (Option.bind (f_X10_error 1 r3.2) fun r4 => (some (r4.1, r4.2))) else (Option.bind (f_X10_within a3 0 10 r3.2) fun r5 => (if r5.1 = 0 then (Option.bind (f_X10_error 1 r5.2) fun r7 => (some (r7.1, r7.2))) else (Option.bind (f_X9_size r5.2) fun r6 => (f_X10_stops_L61 400 a1 a2 a3 (1 <<< (r6.1 &&& 31)) 0 r6.2))))))))
theorem w_X10_stops {Y : YT} (a1 : Int32) (a2 : Int32) (a3 : Int32)   (σ : St) : CtE (emI FC Y) FC Y yX10_stops cX10_stops 7 (some .int) 6 [Rf Y 0, .int a1, .int a2, .int a3] σ (f_X10_stops a1 a2 a3 σ) := by
  refine Ct.ofG (by decide) (Nat.le_of_ble_eq_true rfl) (fun X C0 => ?_)
  have C : Cx FC Y X cX10_stops 7 RX10 (some .int) 6 (0, 0) := C0
  show G FC Y X 7 (emI FC Y) (0, 0) (0, 0) 0 [(0, Rf Y 0), (1, .int a1), (2, .int a2), (3, .int a3)] [] (RepS FC Y σ) (f_X10_stops a1 a2 a3 σ)
  rw [f_X10_stops]
  refine q_aload_n C 0 dX10_stops_0 rfl ?_
  refine gf_X10_10 C skC_0 dX10_stops_1 ?_
  refine gf_X10_84 C skC_1 dX10_stops_4 ?_
  refine q_iload_n C 1 dX10_stops_7 rfl ?_
  refine q_cVI C lk_X10_194 (w_X0_has (Y := Y) a1 σ) (Nat.le_of_ble_eq_true rfl) rfl skC_22 (ltC skC_22 rfl) recv_0 (rest := []) rfl rfl (Nat.le_of_ble_eq_true rfl) dX10_stops_8 (fun r1 => ?_)
  refine q_if_eq C 38 dX10_stops_11 rfl (fun _ => ?_) (fun _ => ?_)
  · refine q_aload_n C 0 dX10_stops_38 rfl ?_
    refine q_iconst C (v := 1) dX10_stops_39 (by decide) ?_
    refine q_cVI C lk_X10_63 (w_X10_error (Y := Y) 1 r1.2) (Nat.le_of_ble_eq_true rfl) rfl skC_0 (ltC skC_0 rfl) recv_10 (rest := []) rfl rfl (Nat.le_of_ble_eq_true rfl) dX10_stops_40 (fun r2 => ?_)
    exact q_ireti C rfl dX10_stops_43
  refine q_aload_n C 0 dX10_stops_14 rfl ?_
  refine gf_X10_10 C skC_0 dX10_stops_15 ?_
  refine gf_X10_77 C skC_1 dX10_stops_18 ?_
  refine q_iload_n C 2 dX10_stops_21 rfl ?_
  refine q_cVI C lk_X10_137 (w_X4_has (Y := Y) a2 r1.2) (Nat.le_of_ble_eq_true rfl) rfl skC_9 (ltC skC_9 rfl) recv_4 (rest := []) rfl rfl (Nat.le_of_ble_eq_true rfl) dX10_stops_22 (fun r3 => ?_)
  refine q_if_eq C 38 dX10_stops_25 rfl (fun _ => ?_) (fun _ => ?_)
  · refine q_aload_n C 0 dX10_stops_38 rfl ?_
    refine q_iconst C (v := 1) dX10_stops_39 (by decide) ?_
    refine q_cVI C lk_X10_63 (w_X10_error (Y := Y) 1 r3.2) (Nat.le_of_ble_eq_true rfl) rfl skC_0 (ltC skC_0 rfl) recv_10 (rest := []) rfl rfl (Nat.le_of_ble_eq_true rfl) dX10_stops_40 (fun r4 => ?_)
    exact q_ireti C rfl dX10_stops_43
  refine q_iload_n C 3 dX10_stops_28 rfl ?_
  refine q_iconst C (v := 0) dX10_stops_29 (by decide) ?_
  refine q_bipush C (v := 10) dX10_stops_30 (by decide) ?_
  refine q_cSI C lk_X10_59 (w_X10_within (Y := Y) a3 0 10 r3.2) (Nat.le_of_ble_eq_true rfl) rfl (rest := []) rfl rfl (Nat.le_of_ble_eq_true rfl) dX10_stops_32 (fun r5 => ?_)
  refine q_if_ne C 44 dX10_stops_35 rfl (fun _ => ?_) (fun _ => ?_)
  · refine q_iconst C (v := 1) dX10_stops_44 (by decide) ?_
    refine q_aload_n C 0 dX10_stops_45 rfl ?_
    refine gf_X10_10 C skC_0 dX10_stops_46 ?_
    refine gf_X10_67 C skC_1 dX10_stops_49 ?_
    refine q_cVI C lk_X10_71 (w_X9_size (Y := Y) r5.2) (Nat.le_of_ble_eq_true rfl) rfl skC_2 (ltC skC_2 rfl) recv_9 (rest := [.int 1]) rfl rfl (Nat.le_of_ble_eq_true rfl) dX10_stops_52 (fun r6 => ?_)
    refine q_ishl C dX10_stops_55 ?_
    refine q_istore C [(4, .int (1 <<< (r6.1 &&& 31))), (0, Rf Y 0), (1, .int a1), (2, .int a2), (3, .int a3)] dX10_stops_56 rfl rfl ?_
    refine q_iconst C (v := 0) dX10_stops_58 (by decide) ?_
    refine q_istore C [(5, .int 0), (4, .int (1 <<< (r6.1 &&& 31))), (0, Rf Y 0), (1, .int a1), (2, .int a2), (3, .int a3)] dX10_stops_59 rfl rfl ?_
    refine G.sub [2, 3, 4, 5, 1, 0] (lv' := [(0, Rf Y 0), (1, .int a1), (2, .int a2), (3, .int a3), (4, .int (1 <<< (r6.1 &&& 31))), (5, .int 0)]) rfl ?_
    exact w_X10_stops_L61 C 400 a1 a2 a3 (1 <<< (r6.1 &&& 31)) 0 r6.2
  refine q_aload_n C 0 dX10_stops_38 rfl ?_
  refine q_iconst C (v := 1) dX10_stops_39 (by decide) ?_
  refine q_cVI C lk_X10_63 (w_X10_error (Y := Y) 1 r5.2) (Nat.le_of_ble_eq_true rfl) rfl skC_0 (ltC skC_0 rfl) recv_10 (rest := []) rfl rfl (Nat.le_of_ble_eq_true rfl) dX10_stops_40 (fun r7 => ?_)
  exact q_ireti C rfl dX10_stops_43
def f_X10_sheetAt (a1 : Int32) (σ : St) : Option (Nat × St) := (if a1 < 0 then (some (0, σ)) else (if 4 ≤ a1 then (some (0, σ)) else (if inb a1 4 = true then (some ((100 + 3 * a1.toNatClampNeg), σ)) else none)))
theorem w_X10_sheetAt {Y : YT} (a1 : Int32)   (σ : St) : CtE (emN FC Y) FC Y yX10_sheetAt cX10_sheetAt 2 (some (.object "WellTold$Sheet")) 0 [Rf Y 0, .int a1] σ (f_X10_sheetAt a1 σ) := by
  refine Ct.ofG (by decide) (Nat.le_of_ble_eq_true rfl) (fun X C0 => ?_)
  have C : Cx FC Y X cX10_sheetAt 2 RX10 (some (.object "WellTold$Sheet")) 0 (0, 0) := C0
  show G FC Y X 2 (emN FC Y) (0, 0) (0, 0) 0 [(0, Rf Y 0), (1, .int a1)] [] (RepS FC Y σ) (f_X10_sheetAt a1 σ)
  rw [f_X10_sheetAt]
  refine q_iload_n C 1 dX10_sheetAt_0 rfl ?_
  refine q_if_lt C 22 dX10_sheetAt_1 rfl (fun _ => ?_) (fun _ => ?_)
  · refine q_null C dX10_sheetAt_22 ?_
    exact q_aret C (nrf_ref Y _) rfl dX10_sheetAt_23
  refine q_iload_n C 1 dX10_sheetAt_4 rfl ?_
  refine q_aload_n C 0 dX10_sheetAt_5 rfl ?_
  refine gf_X10_35 C skC_0 dX10_sheetAt_6 ?_
  refine q_alen4 C skC_95 (ltC skC_95 rfl) dX10_sheetAt_9 ?_
  refine q_icmp_ge C 22 dX10_sheetAt_10 rfl (fun _ => ?_) (fun _ => ?_)
  · refine q_null C dX10_sheetAt_22 ?_
    exact q_aret C (nrf_ref Y _) rfl dX10_sheetAt_23
  refine q_aload_n C 0 dX10_sheetAt_13 rfl ?_
  refine gf_X10_35 C skC_0 dX10_sheetAt_14 ?_
  refine q_iload_n C 1 dX10_sheetAt_17 rfl ?_
  refine q_aald4 C skC_95 (ltC skC_95 rfl) dX10_sheetAt_18 (fun h1 => ?_)
  refine q_goto C 23 dX10_sheetAt_19 rfl ?_
  refine q_aret_nz C (by omega) rfl dX10_sheetAt_23
theorem lk_X10_284 : LkV RX10 284 yX10_sheetAt cX10_sheetAt 2 (some (.object "WellTold$Sheet")) 1 := ⟨TB_p [883, 885, 12, 69, 886] (by decide +kernel) (by decide +kernel), by decide +kernel, by decide +kernel, by decide +kernel⟩
theorem lk_X10_288 : LkV RX10 288 yX5_tellsOf cX5_tellsOf 2 (some .boolean) 1 := ⟨TB_p [887, 888, 889, 80, 890] (by decide +kernel) (by decide +kernel), by decide +kernel, by decide +kernel, by decide +kernel⟩
theorem lk_X10_291 : LkV RX10 291 yX5_fits cX5_fits 4 (some .boolean) 1 := ⟨TB_p [896, 897, 898, 80, 899] (by decide +kernel) (by decide +kernel), by decide +kernel, by decide +kernel, by decide +kernel⟩
def f_X10_who_L63 : Nat → Nat → Int32 → Int32 → St → Option (Int32 × St)
  | 0, _, _, _, _ => none
  | n + 1, v3, v4, v5, σ => (Option.bind (f_X2_size 42 σ) fun r11 => (if r11.1 ≤ v5 then (some (v4, r11.2)) else (if v3 = 0 then none else (Option.bind (f_X2_get 42 v5 r11.2) fun r13 => (Option.bind (f_X5_fits v3 r13.1 r13.2) fun r14 => (Option.bind (f_X10_withMember v4 v5 r14.1 r14.2) fun r15 => ((f_X10_who_L63 n) v3 r15.1 (v5 + 1) r15.2)))))))
theorem w_X10_who_L63 {Y : YT} {X : XT} (C : Cx FC Y X cX10_who 6 RX10 (some .int) 6 (0, 0)) : ∀ (n : Nat), ∀ (v3 : Nat), ∀ (v4 : Int32), ∀ (v5 : Int32), v3 = 0 ∨ shC v3 = 5 → ∀ (σ : St), G FC Y X 6 (emI FC Y) (0, 0) (0, 0) 63 [(0, Rf Y 0), (3, nrf Y v3), (4, .int v4), (5, .int v5)] [] (RepS FC Y σ) (f_X10_who_L63 n v3 v4 v5 σ) := by
  intro n
  induction n with
  | zero =>
    intro v3 v4 v5 hv3 σ
    rw [f_X10_who_L63]; exact G.none
  | succ n ih =>
    intro v3 v4 v5 hv3 σ
    rw [f_X10_who_L63]
    refine q_iload C 3 dX10_who_63 rfl ?_
    refine q_aload_n C 0 dX10_who_65 rfl ?_
    refine gf_X10_10 C skC_0 dX10_who_66 ?_
    refine gf_X10_263 C skC_1 dX10_who_69 ?_
    refine q_cVI C lk_X10_211 (w_X2_size (Y := Y) 42 skC_42 σ) (Nat.le_of_ble_eq_true rfl) rfl skC_42 (ltC skC_42 rfl) recv_2 (rest := [.int v5]) rfl rfl (Nat.le_of_ble_eq_true rfl) dX10_who_72 (fun r11 => ?_)
    refine q_icmp_ge C 109 dX10_who_75 rfl (fun _ => ?_) (fun _ => ?_)
    · refine q_iload C 2 dX10_who_109 rfl ?_
      exact q_ireti C rfl dX10_who_111
    refine q_iload C 2 dX10_who_78 rfl ?_
    refine q_iload C 3 dX10_who_80 rfl ?_
    refine q_aloadz_n C 1 dX10_who_82 rfl ?_
    refine G.ite (fun _ => G.none) (fun h12 => ?_)
    refine G.nonnull h12 ?_
    refine q_aload_n C 0 dX10_who_83 rfl ?_
    refine gf_X10_10 C skC_0 dX10_who_84 ?_
    refine gf_X10_263 C skC_1 dX10_who_87 ?_
    refine q_iload C 3 dX10_who_90 rfl ?_
    refine q_cVI C lk_X10_108 (w_X2_get (Y := Y) 42 v5 skC_42 r11.2) (Nat.le_of_ble_eq_true rfl) rfl skC_42 (ltC skC_42 rfl) recv_2 (rest := [Rf Y v3, .int v5, .int v4]) rfl rfl (Nat.le_of_ble_eq_true rfl) dX10_who_92 (fun r13 => ?_)
    refine q_cVI C lk_X10_291 (w_X5_fits (Y := Y) v3 r13.1 (hv3.resolve_left h12) r13.2) (Nat.le_of_ble_eq_true rfl) rfl (hv3.resolve_left h12) (ltC (hv3.resolve_left h12) rfl) recv_5 (rest := [.int v5, .int v4]) rfl rfl (Nat.le_of_ble_eq_true rfl) dX10_who_95 (fun r14 => ?_)
    refine q_cSI C lk_X10_124 (w_X10_withMember (Y := Y) v4 v5 r14.1 r14.2) (Nat.le_of_ble_eq_true rfl) rfl (rest := []) rfl rfl (Nat.le_of_ble_eq_true rfl) dX10_who_98 (fun r15 => ?_)
    refine q_istore C [(4, .int r15.1), (0, Rf Y 0), (3, nrf Y v3), (5, .int v5)] dX10_who_101 rfl (by show (4, _) :: fil1 4 _ = _; simp [nrf_cat]) ?_
    refine q_iinc C 3 [(5, .int (v5 + 1)), (4, .int r15.1), (0, Rf Y 0), (3, nrf Y v3)] dX10_who_103 rfl rfl rfl rfl ?_
    refine q_goto C 63 dX10_who_106 rfl ?_
    refine G.sub [2, 3, 1, 0] (lv' := [(0, Rf Y 0), (3, nrf Y v3), (4, .int r15.1), (5, .int (v5 + 1))]) rfl ?_
    exact ih v3 r15.1 (v5 + 1) hv3 r15.2
def f_X10_who (a1 : Int32) (a2 : Int32) (σ : St) : Option (Int32 × St) := (Option.bind (f_X10_sheetAt a1 σ) fun r1 => (if r1.1 = 0 ∨ shC r1.1 = 5 then (if r1.1 = 0 then (Option.bind (f_X10_error 1 r1.2) fun r4 => (some (r4.1, r4.2))) else (Option.bind (f_X10_within a2 0 99 r1.2) fun r5 => (if r5.1 = 0 then (Option.bind (f_X10_error 1 r5.2) fun r10 => (some (r10.1, r10.2))) else (Option.bind (f_X0_size r5.2) fun r6 => (Option.bind (f_X5_tellsOf r1.1 r6.1 r6.2) fun r7 => (if r7.1 = 0 then (Option.bind (f_X10_error 2 r7.2) fun r9 => (some (r9.1, r9.2))) else (Option.bind (f_X7_thinkAll a2 r7.2) fun r8 => (f_X10_who_L63 400 r1.1 0 0 r8)))))))) else none))
theorem w_X10_who {Y : YT} (a1 : Int32) (a2 : Int32)   (σ : St) : CtE (emI FC Y) FC Y yX10_who cX10_who 6 (some .int) 6 [Rf Y 0, .int a1, .int a2] σ (f_X10_who a1 a2 σ) := by
  refine Ct.ofG (by decide) (Nat.le_of_ble_eq_true rfl) (fun X C0 => ?_)
  have C : Cx FC Y X cX10_who 6 RX10 (some .int) 6 (0, 0) := C0
  show G FC Y X 6 (emI FC Y) (0, 0) (0, 0) 0 [(0, Rf Y 0), (1, .int a1), (2, .int a2)] [] (RepS FC Y σ) (f_X10_who a1 a2 σ)
  rw [f_X10_who]
  refine q_aload_n C 0 dX10_who_0 rfl ?_
  refine q_iload_n C 1 dX10_who_1 rfl ?_
  refine q_cVN C lk_X10_284 (w_X10_sheetAt (Y := Y) a1 σ) (Nat.le_of_ble_eq_true rfl) rfl skC_0 (ltC skC_0 rfl) recv_10 (rest := []) rfl rfl (Nat.le_of_ble_eq_true rfl) dX10_who_2 (fun r1 => ?_)
  refine G.ite (fun h2 => ?_) (fun _ => G.none)
  refine q_astorez_n C [(3, nrf Y r1.1), (0, Rf Y 0), (1, .int a1), (2, .int a2)] dX10_who_5 rfl rfl ?_
  refine q_aloadz_n C 0 dX10_who_6 rfl ?_
  refine q_ifnull C 20 dX10_who_7 rfl (fun _ => ?_) (fun h3 => ?_)
  · refine q_aload_n C 1 dX10_who_20 rfl ?_
    refine q_iconst C (v := 1) dX10_who_21 (by decide) ?_
    refine q_cVI C lk_X10_63 (w_X10_error (Y := Y) 1 r1.2) (Nat.le_of_ble_eq_true rfl) rfl skC_0 (ltC skC_0 rfl) recv_10 (rest := []) rfl rfl (Nat.le_of_ble_eq_true rfl) dX10_who_22 (fun r4 => ?_)
    exact q_ireti C rfl dX10_who_25
  refine q_iload_n C 3 dX10_who_10 rfl ?_
  refine q_iconst C (v := 0) dX10_who_11 (by decide) ?_
  refine q_bipush C (v := 99) dX10_who_12 (by decide) ?_
  refine q_cSI C lk_X10_59 (w_X10_within (Y := Y) a2 0 99 r1.2) (Nat.le_of_ble_eq_true rfl) rfl (rest := []) rfl rfl (Nat.le_of_ble_eq_true rfl) dX10_who_14 (fun r5 => ?_)
  refine q_if_ne C 26 dX10_who_17 rfl (fun _ => ?_) (fun _ => ?_)
  · refine q_aloadz_n C 0 dX10_who_26 rfl ?_
    refine G.nonnull h3 ?_
    refine q_aload_n C 1 dX10_who_27 rfl ?_
    refine gf_X10_10 C skC_0 dX10_who_28 ?_
    refine gf_X10_84 C skC_1 dX10_who_31 ?_
    refine q_cVI C lk_X10_88 (w_X0_size (Y := Y) r5.2) (Nat.le_of_ble_eq_true rfl) rfl skC_22 (ltC skC_22 rfl) recv_0 (rest := [Rf Y r1.1]) rfl rfl (Nat.le_of_ble_eq_true rfl) dX10_who_34 (fun r6 => ?_)
    refine q_cVI C lk_X10_288 (w_X5_tellsOf (Y := Y) r1.1 r6.1 (h2.resolve_left h3) r6.2) (Nat.le_of_ble_eq_true rfl) rfl (h2.resolve_left h3) (ltC (h2.resolve_left h3) rfl) recv_5 (rest := []) rfl rfl (Nat.le_of_ble_eq_true rfl) dX10_who_37 (fun r7 => ?_)
    refine q_if_ne C 49 dX10_who_40 rfl (fun _ => ?_) (fun _ => ?_)
    · refine q_aload_n C 1 dX10_who_49 rfl ?_
      refine gf_X10_10 C skC_0 dX10_who_50 ?_
      refine q_iload_n C 3 dX10_who_53 rfl ?_
      refine q_cVV C lk_X10_260 (w_X7_thinkAll (Y := Y) a2 r7.2) (Nat.le_of_ble_eq_true rfl) rfl skC_1 (ltC skC_1 rfl) recv_7 (rest := []) rfl rfl (Nat.le_of_ble_eq_true rfl) dX10_who_54 (fun r8 => ?_)
      refine q_iconst C (v := 0) dX10_who_57 (by decide) ?_
      refine q_istore C [(4, .int 0), (3, nrf Y r1.1), (0, Rf Y 0), (1, .int a1), (2, .int a2)] dX10_who_58 rfl (by show (4, _) :: fil1 4 _ = _; simp [nrf_cat]) ?_
      refine q_iconst C (v := 0) dX10_who_60 (by decide) ?_
      refine q_istore C [(5, .int 0), (4, .int 0), (3, nrf Y r1.1), (0, Rf Y 0), (1, .int a1), (2, .int a2)] dX10_who_61 rfl rfl ?_
      refine G.sub [3, 2, 1, 0] (lv' := [(0, Rf Y 0), (3, nrf Y r1.1), (4, .int 0), (5, .int 0)]) rfl ?_
      exact w_X10_who_L63 C 400 r1.1 0 0 h2 r8
    refine q_aload_n C 1 dX10_who_43 rfl ?_
    refine q_iconst C (v := 2) dX10_who_44 (by decide) ?_
    refine q_cVI C lk_X10_63 (w_X10_error (Y := Y) 2 r7.2) (Nat.le_of_ble_eq_true rfl) rfl skC_0 (ltC skC_0 rfl) recv_10 (rest := []) rfl rfl (Nat.le_of_ble_eq_true rfl) dX10_who_45 (fun r9 => ?_)
    exact q_ireti C rfl dX10_who_48
  refine q_aload_n C 1 dX10_who_20 rfl ?_
  refine q_iconst C (v := 1) dX10_who_21 (by decide) ?_
  refine q_cVI C lk_X10_63 (w_X10_error (Y := Y) 1 r5.2) (Nat.le_of_ble_eq_true rfl) rfl skC_0 (ltC skC_0 rfl) recv_10 (rest := []) rfl rfl (Nat.le_of_ble_eq_true rfl) dX10_who_22 (fun r10 => ?_)
  exact q_ireti C rfl dX10_who_25
def f_X10_loud_L86 : Nat → Int32 → Int32 → Int32 → Nat → Int32 → Int32 → Int32 → St → Option (Int32 × St)
  | 0, _, _, _, _, _, _, _, _ => none
  | n + 1, v2, v3, v4, v5, v6, v7, v8, σ => (if v8 < 0 then (if v4 = 0 then (some (v6, σ)) else (if 0 ≤ v7 then (some (v7, σ)) else (Option.bind (f_X10_error 2 σ) fun r14 => (some (r14.1, r14.2))))) else (Option.bind (f_X7_thought v2 σ) fun r15 => (if shC r15.1 = 3 then (Bst (up r15.2 r15.1 3 v8) fun s17 => (Option.bind (f_X7_passAll r15.1 (s17 1 1) (s17 2 3) v3 s17) fun r18 => (if v5 = 0 then none else (Option.bind (f_X5_fits v5 (r18 r15.1 5) r18) fun r20 => (if r20.1 = 0 then ((f_X10_loud_L86 n) v2 v3 v4 v5 v6 v7 (v8 + (-1)) r20.2) else ((f_X10_loud_L86 n) v2 v3 v4 v5 (v6 + 1) v8 (v8 + (-1)) r20.2)))))) else none)))
theorem w_X10_loud_L86 {Y : YT} {X : XT} (C : Cx FC Y X cX10_loud 10 RX10 (some .int) 5 (0, 0)) : ∀ (n : Nat), ∀ (v2 : Int32), ∀ (v3 : Int32), ∀ (v4 : Int32), ∀ (v5 : Nat), ∀ (v6 : Int32), ∀ (v7 : Int32), ∀ (v8 : Int32), v5 = 0 ∨ shC v5 = 5 → ∀ (σ : St), G FC Y X 10 (emI FC Y) (0, 0) (0, 0) 86 [(0, Rf Y 0), (2, .int v2), (3, .int v3), (4, .int v4), (5, nrf Y v5), (6, .int v6), (7, .int v7), (8, .int v8)] [] (RepS FC Y σ) (f_X10_loud_L86 n v2 v3 v4 v5 v6 v7 v8 σ) := by
  intro n
  induction n with
  | zero =>
    intro v2 v3 v4 v5 v6 v7 v8 hv5 σ
    rw [f_X10_loud_L86]; exact G.none
  | succ n ih =>
    intro v2 v3 v4 v5 v6 v7 v8 hv5 σ
    rw [f_X10_loud_L86]
    refine q_iload C 7 dX10_loud_86 rfl ?_
    refine q_if_lt C 161 dX10_loud_88 rfl (fun _ => ?_) (fun _ => ?_)
    · refine q_iload C 3 dX10_loud_161 rfl ?_
      refine q_if_ne C 169 dX10_loud_163 rfl (fun _ => ?_) (fun _ => ?_)
      · refine q_iload C 6 dX10_loud_169 rfl ?_
        refine q_if_ge C 182 dX10_loud_171 rfl (fun _ => ?_) (fun _ => ?_)
        · refine q_iload C 6 dX10_loud_182 rfl ?_
          exact q_ireti C rfl dX10_loud_184
        refine q_aload_n C 0 dX10_loud_174 rfl ?_
        refine q_iconst C (v := 2) dX10_loud_175 (by decide) ?_
        refine q_cVI C lk_X10_63 (w_X10_error (Y := Y) 2 σ) (Nat.le_of_ble_eq_true rfl) rfl skC_0 (ltC skC_0 rfl) recv_10 (rest := []) rfl rfl (Nat.le_of_ble_eq_true rfl) dX10_loud_176 (fun r14 => ?_)
        refine q_goto C 184 dX10_loud_179 rfl ?_
        exact q_ireti C rfl dX10_loud_184
      refine q_iload C 5 dX10_loud_166 rfl ?_
      exact q_ireti C rfl dX10_loud_168
    refine q_aload_n C 0 dX10_loud_91 rfl ?_
    refine gf_X10_10 C skC_0 dX10_loud_92 ?_
    refine q_iload_n C 1 dX10_loud_95 rfl ?_
    refine q_cVR C lk_X10_138 (w_X7_thought (Y := Y) v2 σ) (Nat.le_of_ble_eq_true rfl) rfl skC_1 (ltC skC_1 rfl) recv_7 (rest := []) rfl rfl (Nat.le_of_ble_eq_true rfl) dX10_loud_96 (fun r15 => ?_)
    refine G.ite (fun h16 => ?_) (fun _ => G.none)
    refine q_astore C [(9, Rf Y r15.1), (0, Rf Y 0), (2, .int v2), (3, .int v3), (4, .int v4), (5, nrf Y v5), (6, .int v6), (7, .int v7), (8, .int v8)] dX10_loud_99 rfl rfl ?_
    refine q_aload C 0 dX10_loud_101 rfl ?_
    refine q_iload C 8 dX10_loud_103 rfl ?_
    refine pf_X10_153 C h16 dX10_loud_105 (fun s17 => ?_)
    refine q_aload_n C 1 dX10_loud_108 rfl ?_
    refine gf_X10_10 C skC_0 dX10_loud_109 ?_
    refine q_aload C 0 dX10_loud_112 rfl ?_
    refine q_aload_n C 1 dX10_loud_114 rfl ?_
    refine gf_X10_10 C skC_0 dX10_loud_115 ?_
    refine gf_X10_128 C skC_1 dX10_loud_118 ?_
    refine q_aload_n C 1 dX10_loud_121 rfl ?_
    refine gf_X10_10 C skC_0 dX10_loud_122 ?_
    refine gf_X10_67 C skC_1 dX10_loud_125 ?_
    refine gf_X10_117 C skC_2 dX10_loud_128 ?_
    refine q_iload_n C 3 dX10_loud_131 rfl ?_
    refine q_cVV C lk_X10_277 (w_X7_passAll (Y := Y) r15.1 (s17 1 1) (s17 2 3) v3 h16 s17) (Nat.le_of_ble_eq_true rfl) rfl skC_1 (ltC skC_1 rfl) recv_7 (rest := []) rfl rfl (Nat.le_of_ble_eq_true rfl) dX10_loud_132 (fun r18 => ?_)
    refine q_aloadz C 5 dX10_loud_135 rfl ?_
    refine G.ite (fun _ => G.none) (fun h19 => ?_)
    refine G.nonnull h19 ?_
    refine q_aload C 0 dX10_loud_137 rfl ?_
    refine gf_X10_166 C h16 dX10_loud_139 ?_
    refine q_cVI C lk_X10_291 (w_X5_fits (Y := Y) v5 (r18 r15.1 5) (hv5.resolve_left h19) r18) (Nat.le_of_ble_eq_true rfl) rfl (hv5.resolve_left h19) (ltC (hv5.resolve_left h19) rfl) recv_5 (rest := []) rfl rfl (Nat.le_of_ble_eq_true rfl) dX10_loud_142 (fun r20 => ?_)
    refine q_if_eq C 155 dX10_loud_145 rfl (fun _ => ?_) (fun _ => ?_)
    · refine q_iinc C 8 [(8, .int (v8 + (-1))), (9, Rf Y r15.1), (0, Rf Y 0), (2, .int v2), (3, .int v3), (4, .int v4), (5, nrf Y v5), (6, .int v6), (7, .int v7)] dX10_loud_155 rfl rfl rfl rfl ?_
      refine q_goto C 86 dX10_loud_158 rfl ?_
      refine G.sub [2, 3, 4, 5, 6, 7, 8, 0] (lv' := [(0, Rf Y 0), (2, .int v2), (3, .int v3), (4, .int v4), (5, nrf Y v5), (6, .int v6), (7, .int v7), (8, .int (v8 + (-1)))]) rfl ?_
      exact ih v2 v3 v4 v5 v6 v7 (v8 + (-1)) hv5 r20.2
    refine q_iinc C 6 [(6, .int (v6 + 1)), (9, Rf Y r15.1), (0, Rf Y 0), (2, .int v2), (3, .int v3), (4, .int v4), (5, nrf Y v5), (7, .int v7), (8, .int v8)] dX10_loud_148 rfl rfl rfl (by show (6, _) :: fil1 6 _ = _; simp [nrf_cat]) ?_
    refine q_iload C 8 dX10_loud_151 rfl ?_
    refine q_istore C [(7, .int v8), (6, .int (v6 + 1)), (9, Rf Y r15.1), (0, Rf Y 0), (2, .int v2), (3, .int v3), (4, .int v4), (5, nrf Y v5), (8, .int v8)] dX10_loud_153 rfl rfl ?_
    refine q_iinc C 8 [(8, .int (v8 + (-1))), (7, .int v8), (6, .int (v6 + 1)), (9, Rf Y r15.1), (0, Rf Y 0), (2, .int v2), (3, .int v3), (4, .int v4), (5, nrf Y v5)] dX10_loud_155 rfl rfl rfl rfl ?_
    refine q_goto C 86 dX10_loud_158 rfl ?_
    refine G.sub [4, 5, 6, 7, 8, 2, 1, 0] (lv' := [(0, Rf Y 0), (2, .int v2), (3, .int v3), (4, .int v4), (5, nrf Y v5), (6, .int (v6 + 1)), (7, .int v8), (8, .int (v8 + (-1)))]) rfl ?_
    exact ih v2 v3 v4 v5 (v6 + 1) v8 (v8 + (-1)) hv5 r20.2
def f_X10_loud (a1 : Int32) (a2 : Int32) (a3 : Int32) (a4 : Int32) (σ : St) : Option (Int32 × St) := (Option.bind (f_X10_sheetAt a1 σ) fun r1 => (if r1.1 = 0 ∨ shC r1.1 = 5 then (if r1.1 = 0 then (Option.bind (f_X10_error 1 r1.2) fun r4 => (some (r4.1, r4.2))) else (Option.bind (f_X4_has a2 r1.2) fun r5 => (if r5.1 = 0 then (Option.bind (f_X10_error 1 r5.2) fun r6 => (some (r6.1, r6.2))) else (Option.bind (f_X10_within a3 0 20 r5.2) fun r7 => (if r7.1 = 0 then (Option.bind (f_X10_error 1 r7.2) fun r8 => (some (r8.1, r8.2))) else (Option.bind (f_X10_within a4 0 1 r7.2) fun r9 => (if r9.1 = 0 then (Option.bind (f_X10_error 1 r9.2) fun r13 => (some (r13.1, r13.2))) else (Option.bind (f_X0_size r9.2) fun r10 => (Option.bind (f_X5_tellsOf r1.1 r10.1 r10.2) fun r11 => (if r11.1 = 0 then (Option.bind (f_X10_error 2 r11.2) fun r12 => (some (r12.1, r12.2))) else (f_X10_loud_L86 400 a2 a3 a4 r1.1 0 (-1) 99 r11.2))))))))))) else none))
theorem w_X10_loud {Y : YT} (a1 : Int32) (a2 : Int32) (a3 : Int32) (a4 : Int32)   (σ : St) : CtE (emI FC Y) FC Y yX10_loud cX10_loud 10 (some .int) 5 [Rf Y 0, .int a1, .int a2, .int a3, .int a4] σ (f_X10_loud a1 a2 a3 a4 σ) := by
  refine Ct.ofG (by decide) (Nat.le_of_ble_eq_true rfl) (fun X C0 => ?_)
  have C : Cx FC Y X cX10_loud 10 RX10 (some .int) 5 (0, 0) := C0
  show G FC Y X 10 (emI FC Y) (0, 0) (0, 0) 0 [(0, Rf Y 0), (1, .int a1), (2, .int a2), (3, .int a3), (4, .int a4)] [] (RepS FC Y σ) (f_X10_loud a1 a2 a3 a4 σ)
  rw [f_X10_loud]
  refine q_aload_n C 0 dX10_loud_0 rfl ?_
  refine q_iload_n C 1 dX10_loud_1 rfl ?_
  refine q_cVN C lk_X10_284 (w_X10_sheetAt (Y := Y) a1 σ) (Nat.le_of_ble_eq_true rfl) rfl skC_0 (ltC skC_0 rfl) recv_10 (rest := []) rfl rfl (Nat.le_of_ble_eq_true rfl) dX10_loud_2 (fun r1 => ?_)
  refine G.ite (fun h2 => ?_) (fun _ => G.none)
  refine q_astorez C [(5, nrf Y r1.1), (0, Rf Y 0), (1, .int a1), (2, .int a2), (3, .int a3), (4, .int a4)] dX10_loud_5 rfl rfl ?_
  refine q_aloadz C 0 dX10_loud_7 rfl ?_
  refine q_ifnull C 46 dX10_loud_9 rfl (fun _ => ?_) (fun h3 => ?_)
  · refine q_aload_n C 1 dX10_loud_46 rfl ?_
    refine q_iconst C (v := 1) dX10_loud_47 (by decide) ?_
    refine q_cVI C lk_X10_63 (w_X10_error (Y := Y) 1 r1.2) (Nat.le_of_ble_eq_true rfl) rfl skC_0 (ltC skC_0 rfl) recv_10 (rest := []) rfl rfl (Nat.le_of_ble_eq_true rfl) dX10_loud_48 (fun r4 => ?_)
    exact q_ireti C rfl dX10_loud_51
  refine q_aload_n C 1 dX10_loud_12 rfl ?_
  refine gf_X10_10 C skC_0 dX10_loud_13 ?_
  refine gf_X10_77 C skC_1 dX10_loud_16 ?_
  refine q_iload_n C 3 dX10_loud_19 rfl ?_
  refine q_cVI C lk_X10_137 (w_X4_has (Y := Y) a2 r1.2) (Nat.le_of_ble_eq_true rfl) rfl skC_9 (ltC skC_9 rfl) recv_4 (rest := []) rfl rfl (Nat.le_of_ble_eq_true rfl) dX10_loud_20 (fun r5 => ?_)
  refine q_if_eq C 46 dX10_loud_23 rfl (fun _ => ?_) (fun _ => ?_)
  · refine q_aload_n C 1 dX10_loud_46 rfl ?_
    refine q_iconst C (v := 1) dX10_loud_47 (by decide) ?_
    refine q_cVI C lk_X10_63 (w_X10_error (Y := Y) 1 r5.2) (Nat.le_of_ble_eq_true rfl) rfl skC_0 (ltC skC_0 rfl) recv_10 (rest := []) rfl rfl (Nat.le_of_ble_eq_true rfl) dX10_loud_48 (fun r6 => ?_)
    exact q_ireti C rfl dX10_loud_51
  refine q_iload_n C 4 dX10_loud_26 rfl ?_
  refine q_iconst C (v := 0) dX10_loud_27 (by decide) ?_
  refine q_bipush C (v := 20) dX10_loud_28 (by decide) ?_
  refine q_cSI C lk_X10_59 (w_X10_within (Y := Y) a3 0 20 r5.2) (Nat.le_of_ble_eq_true rfl) rfl (rest := []) rfl rfl (Nat.le_of_ble_eq_true rfl) dX10_loud_30 (fun r7 => ?_)
  refine q_if_eq C 46 dX10_loud_33 rfl (fun _ => ?_) (fun _ => ?_)
  · refine q_aload_n C 1 dX10_loud_46 rfl ?_
    refine q_iconst C (v := 1) dX10_loud_47 (by decide) ?_
    refine q_cVI C lk_X10_63 (w_X10_error (Y := Y) 1 r7.2) (Nat.le_of_ble_eq_true rfl) rfl skC_0 (ltC skC_0 rfl) recv_10 (rest := []) rfl rfl (Nat.le_of_ble_eq_true rfl) dX10_loud_48 (fun r8 => ?_)
    exact q_ireti C rfl dX10_loud_51
  refine q_iload C 5 dX10_loud_36 rfl ?_
  refine q_iconst C (v := 0) dX10_loud_38 (by decide) ?_
  refine q_iconst C (v := 1) dX10_loud_39 (by decide) ?_
  refine q_cSI C lk_X10_59 (w_X10_within (Y := Y) a4 0 1 r7.2) (Nat.le_of_ble_eq_true rfl) rfl (rest := []) rfl rfl (Nat.le_of_ble_eq_true rfl) dX10_loud_40 (fun r9 => ?_)
  refine q_if_ne C 52 dX10_loud_43 rfl (fun _ => ?_) (fun _ => ?_)
  · refine q_aloadz C 0 dX10_loud_52 rfl ?_
    refine G.nonnull h3 ?_
    refine q_aload_n C 1 dX10_loud_54 rfl ?_
    refine gf_X10_10 C skC_0 dX10_loud_55 ?_
    refine gf_X10_84 C skC_1 dX10_loud_58 ?_
    refine q_cVI C lk_X10_88 (w_X0_size (Y := Y) r9.2) (Nat.le_of_ble_eq_true rfl) rfl skC_22 (ltC skC_22 rfl) recv_0 (rest := [Rf Y r1.1]) rfl rfl (Nat.le_of_ble_eq_true rfl) dX10_loud_61 (fun r10 => ?_)
    refine q_cVI C lk_X10_288 (w_X5_tellsOf (Y := Y) r1.1 r10.1 (h2.resolve_left h3) r10.2) (Nat.le_of_ble_eq_true rfl) rfl (h2.resolve_left h3) (ltC (h2.resolve_left h3) rfl) recv_5 (rest := []) rfl rfl (Nat.le_of_ble_eq_true rfl) dX10_loud_64 (fun r11 => ?_)
    refine q_if_ne C 76 dX10_loud_67 rfl (fun _ => ?_) (fun _ => ?_)
    · refine q_iconst C (v := 0) dX10_loud_76 (by decide) ?_
      refine q_istore C [(6, .int 0), (5, nrf Y r1.1), (0, Rf Y 0), (1, .int a1), (2, .int a2), (3, .int a3), (4, .int a4)] dX10_loud_77 rfl (by show (6, _) :: fil1 6 _ = _; simp [nrf_cat]) ?_
      refine q_iconst C (v := (-1)) dX10_loud_79 (by decide) ?_
      refine q_istore C [(7, .int (-1)), (6, .int 0), (5, nrf Y r1.1), (0, Rf Y 0), (1, .int a1), (2, .int a2), (3, .int a3), (4, .int a4)] dX10_loud_80 rfl rfl ?_
      refine q_bipush C (v := 99) dX10_loud_82 (by decide) ?_
      refine q_istore C [(8, .int 99), (7, .int (-1)), (6, .int 0), (5, nrf Y r1.1), (0, Rf Y 0), (1, .int a1), (2, .int a2), (3, .int a3), (4, .int a4)] dX10_loud_84 rfl rfl ?_
      refine G.sub [4, 6, 7, 8, 3, 2, 1, 0] (lv' := [(0, Rf Y 0), (2, .int a2), (3, .int a3), (4, .int a4), (5, nrf Y r1.1), (6, .int 0), (7, .int (-1)), (8, .int 99)]) rfl ?_
      exact w_X10_loud_L86 C 400 a2 a3 a4 r1.1 0 (-1) 99 h2 r11.2
    refine q_aload_n C 1 dX10_loud_70 rfl ?_
    refine q_iconst C (v := 2) dX10_loud_71 (by decide) ?_
    refine q_cVI C lk_X10_63 (w_X10_error (Y := Y) 2 r11.2) (Nat.le_of_ble_eq_true rfl) rfl skC_0 (ltC skC_0 rfl) recv_10 (rest := []) rfl rfl (Nat.le_of_ble_eq_true rfl) dX10_loud_72 (fun r12 => ?_)
    exact q_ireti C rfl dX10_loud_75
  refine q_aload_n C 1 dX10_loud_46 rfl ?_
  refine q_iconst C (v := 1) dX10_loud_47 (by decide) ?_
  refine q_cVI C lk_X10_63 (w_X10_error (Y := Y) 1 r9.2) (Nat.le_of_ble_eq_true rfl) rfl skC_0 (ltC skC_0 rfl) recv_10 (rest := []) rfl rfl (Nat.le_of_ble_eq_true rfl) dX10_loud_48 (fun r13 => ?_)
  exact q_ireti C rfl dX10_loud_51
def f_X10_alike_L47 (rf28 : Int32 → Int32 → St → Option (Int32 × St)) : Nat → Int32 → Int32 → Int32 → St → Option (Int32 × St)
  | 0, _, _, _, _ => none
  | n + 1, v2, v3, v4, σ => (Option.bind (f_X0_size σ) fun r5 => (if r5.1 ≤ v4 then (rf28 v2 (v3 + 1) r5.2) else (Option.bind (f_X4_knownBy v3 42 r5.2) fun r6 => (Option.bind (f_X4_knownBy v4 42 r6.2) fun r7 => (if r6.1 = r7.1 then ((f_X10_alike_L47 rf28 n) (v2 + 1) v3 (v4 + 1) r7.2) else ((f_X10_alike_L47 rf28 n) v2 v3 (v4 + 1) r7.2))))))
theorem w_X10_alike_L47 {Y : YT} {X : XT} (C : Cx FC Y X cX10_alike 5 RX10 (some .int) 6 (0, 0)) {rf28 : Int32 → Int32 → St → Option (Int32 × St)} (ih28 : ∀ (v2 : Int32), ∀ (v3 : Int32), ∀ (σ : St), G FC Y X 5 (emI FC Y) (0, 0) (0, 0) 28 [(0, Rf Y 0), (2, .int v2), (3, .int v3)] [] (RepS FC Y σ) (rf28 v2 v3 σ)) : ∀ (n : Nat), ∀ (v2 : Int32), ∀ (v3 : Int32), ∀ (v4 : Int32), ∀ (σ : St), G FC Y X 5 (emI FC Y) (0, 0) (0, 0) 47 [(0, Rf Y 0), (2, .int v2), (3, .int v3), (4, .int v4)] [] (RepS FC Y σ) (f_X10_alike_L47 rf28 n v2 v3 v4 σ) := by
  intro n
  induction n with
  | zero =>
    intro v2 v3 v4 σ
    rw [f_X10_alike_L47]; exact G.none
  | succ n ih =>
    intro v2 v3 v4 σ
    rw [f_X10_alike_L47]
    refine q_iload C 3 dX10_alike_47 rfl ?_
    refine q_aload_n C 0 dX10_alike_49 rfl ?_
    refine gf_X10_10 C skC_0 dX10_alike_50 ?_
    refine gf_X10_84 C skC_1 dX10_alike_53 ?_
    refine q_cVI C lk_X10_88 (w_X0_size (Y := Y) σ) (Nat.le_of_ble_eq_true rfl) rfl skC_22 (ltC skC_22 rfl) recv_0 (rest := [.int v4]) rfl rfl (Nat.le_of_ble_eq_true rfl) dX10_alike_56 (fun r5 => ?_)
    refine q_icmp_ge C 111 dX10_alike_59 rfl (fun _ => ?_) (fun _ => ?_)
    · refine q_iinc C 2 [(3, .int (v3 + 1)), (0, Rf Y 0), (2, .int v2), (4, .int v4)] dX10_alike_111 rfl rfl rfl rfl ?_
      refine q_goto C 28 dX10_alike_114 rfl ?_
      refine G.sub [1, 2, 0] (lv' := [(0, Rf Y 0), (2, .int v2), (3, .int (v3 + 1))]) rfl ?_
      exact ih28 v2 (v3 + 1) r5.2
    refine q_aload_n C 0 dX10_alike_62 rfl ?_
    refine gf_X10_10 C skC_0 dX10_alike_63 ?_
    refine gf_X10_77 C skC_1 dX10_alike_66 ?_
    refine q_iload_n C 2 dX10_alike_69 rfl ?_
    refine q_aload_n C 0 dX10_alike_70 rfl ?_
    refine gf_X10_10 C skC_0 dX10_alike_71 ?_
    refine gf_X10_263 C skC_1 dX10_alike_74 ?_
    refine q_cVI C lk_X10_266 (w_X4_knownBy (Y := Y) v3 42 skC_42 r5.2) (Nat.le_of_ble_eq_true rfl) rfl skC_9 (ltC skC_9 rfl) recv_4 (rest := []) rfl rfl (Nat.le_of_ble_eq_true rfl) dX10_alike_77 (fun r6 => ?_)
    refine q_aload_n C 0 dX10_alike_80 rfl ?_
    refine gf_X10_10 C skC_0 dX10_alike_81 ?_
    refine gf_X10_77 C skC_1 dX10_alike_84 ?_
    refine q_iload C 3 dX10_alike_87 rfl ?_
    refine q_aload_n C 0 dX10_alike_89 rfl ?_
    refine gf_X10_10 C skC_0 dX10_alike_90 ?_
    refine gf_X10_263 C skC_1 dX10_alike_93 ?_
    refine q_cVI C lk_X10_266 (w_X4_knownBy (Y := Y) v4 42 skC_42 r6.2) (Nat.le_of_ble_eq_true rfl) rfl skC_9 (ltC skC_9 rfl) recv_4 (rest := [.int r6.1]) rfl rfl (Nat.le_of_ble_eq_true rfl) dX10_alike_96 (fun r7 => ?_)
    refine q_icmp_ne C 105 dX10_alike_99 rfl (fun _ => ?_) (fun _ => ?_)
    · refine q_iinc C 3 [(4, .int (v4 + 1)), (0, Rf Y 0), (2, .int v2), (3, .int v3)] dX10_alike_105 rfl rfl rfl rfl ?_
      refine q_goto C 47 dX10_alike_108 rfl ?_
      refine G.sub [1, 2, 3, 0] (lv' := [(0, Rf Y 0), (2, .int v2), (3, .int v3), (4, .int (v4 + 1))]) rfl ?_
      exact ih v2 v3 (v4 + 1) r7.2
    refine q_iinc C 1 [(2, .int (v2 + 1)), (0, Rf Y 0), (3, .int v3), (4, .int v4)] dX10_alike_102 rfl rfl rfl rfl ?_
    refine q_iinc C 3 [(4, .int (v4 + 1)), (2, .int (v2 + 1)), (0, Rf Y 0), (3, .int v3)] dX10_alike_105 rfl rfl rfl rfl ?_
    refine q_goto C 47 dX10_alike_108 rfl ?_
    refine G.sub [2, 1, 3, 0] (lv' := [(0, Rf Y 0), (2, .int (v2 + 1)), (3, .int v3), (4, .int (v4 + 1))]) rfl ?_
    exact ih (v2 + 1) v3 (v4 + 1) r7.2
def f_X10_alike_L28 : Nat → Int32 → Int32 → St → Option (Int32 × St)
  | 0, _, _, _ => none
  | n + 1, v2, v3, σ => (Option.bind (f_X0_size σ) fun r4 => (if r4.1 ≤ v3 then (some (v2, r4.2)) else (f_X10_alike_L47 (f_X10_alike_L28 n) 400 v2 v3 (v3 + 1) r4.2)))
theorem w_X10_alike_L28 {Y : YT} {X : XT} (C : Cx FC Y X cX10_alike 5 RX10 (some .int) 6 (0, 0)) : ∀ (n : Nat), ∀ (v2 : Int32), ∀ (v3 : Int32), ∀ (σ : St), G FC Y X 5 (emI FC Y) (0, 0) (0, 0) 28 [(0, Rf Y 0), (2, .int v2), (3, .int v3)] [] (RepS FC Y σ) (f_X10_alike_L28 n v2 v3 σ) := by
  intro n
  induction n with
  | zero =>
    intro v2 v3 σ
    rw [f_X10_alike_L28]; exact G.none
  | succ n ih =>
    intro v2 v3 σ
    rw [f_X10_alike_L28]
    refine q_iload_n C 2 dX10_alike_28 rfl ?_
    refine q_aload_n C 0 dX10_alike_29 rfl ?_
    refine gf_X10_10 C skC_0 dX10_alike_30 ?_
    refine gf_X10_84 C skC_1 dX10_alike_33 ?_
    refine q_cVI C lk_X10_88 (w_X0_size (Y := Y) σ) (Nat.le_of_ble_eq_true rfl) rfl skC_22 (ltC skC_22 rfl) recv_0 (rest := [.int v3]) rfl rfl (Nat.le_of_ble_eq_true rfl) dX10_alike_36 (fun r4 => ?_)
    refine q_icmp_ge C 117 dX10_alike_39 rfl (fun _ => ?_) (fun _ => ?_)
    · refine q_iload_n C 1 dX10_alike_117 rfl ?_
      exact q_ireti C rfl dX10_alike_118
    refine q_iload_n C 2 dX10_alike_42 rfl ?_
    refine q_iconst C (v := 1) dX10_alike_43 (by decide) ?_
    refine q_iadd C dX10_alike_44 ?_
    refine q_istore C [(4, .int (v3 + 1)), (0, Rf Y 0), (2, .int v2), (3, .int v3)] dX10_alike_45 rfl rfl ?_
    refine G.sub [1, 2, 3, 0] (lv' := [(0, Rf Y 0), (2, .int v2), (3, .int v3), (4, .int (v3 + 1))]) rfl ?_
    exact w_X10_alike_L47 C (rf28 := (f_X10_alike_L28 n)) ih 400 v2 v3 (v3 + 1) r4.2
def f_X10_alike (a1 : Int32) (σ : St) : Option (Int32 × St) := (Option.bind (f_X10_within a1 0 99 σ) fun r1 => (if r1.1 = 0 then (Option.bind (f_X10_error 1 r1.2) fun r3 => (some (r3.1, r3.2))) else (Option.bind (f_X7_thinkAll a1 r1.2) fun r2 => (f_X10_alike_L28 400 0 0 r2))))
theorem w_X10_alike {Y : YT} (a1 : Int32)   (σ : St) : CtE (emI FC Y) FC Y yX10_alike cX10_alike 5 (some .int) 6 [Rf Y 0, .int a1] σ (f_X10_alike a1 σ) := by
  refine Ct.ofG (by decide) (Nat.le_of_ble_eq_true rfl) (fun X C0 => ?_)
  have C : Cx FC Y X cX10_alike 5 RX10 (some .int) 6 (0, 0) := C0
  show G FC Y X 5 (emI FC Y) (0, 0) (0, 0) 0 [(0, Rf Y 0), (1, .int a1)] [] (RepS FC Y σ) (f_X10_alike a1 σ)
  rw [f_X10_alike]
  refine q_iload_n C 1 dX10_alike_0 rfl ?_
  refine q_iconst C (v := 0) dX10_alike_1 (by decide) ?_
  refine q_bipush C (v := 99) dX10_alike_2 (by decide) ?_
  refine q_cSI C lk_X10_59 (w_X10_within (Y := Y) a1 0 99 σ) (Nat.le_of_ble_eq_true rfl) rfl (rest := []) rfl rfl (Nat.le_of_ble_eq_true rfl) dX10_alike_4 (fun r1 => ?_)
  refine q_if_ne C 16 dX10_alike_7 rfl (fun _ => ?_) (fun _ => ?_)
  · refine q_aload_n C 0 dX10_alike_16 rfl ?_
    refine gf_X10_10 C skC_0 dX10_alike_17 ?_
    refine q_iload_n C 1 dX10_alike_20 rfl ?_
    refine q_cVV C lk_X10_260 (w_X7_thinkAll (Y := Y) a1 r1.2) (Nat.le_of_ble_eq_true rfl) rfl skC_1 (ltC skC_1 rfl) recv_7 (rest := []) rfl rfl (Nat.le_of_ble_eq_true rfl) dX10_alike_21 (fun r2 => ?_)
    refine q_iconst C (v := 0) dX10_alike_24 (by decide) ?_
    refine q_istore_n C [(2, .int 0), (0, Rf Y 0), (1, .int a1)] dX10_alike_25 rfl rfl ?_
    refine q_iconst C (v := 0) dX10_alike_26 (by decide) ?_
    refine q_istore_n C [(3, .int 0), (2, .int 0), (0, Rf Y 0), (1, .int a1)] dX10_alike_27 rfl rfl ?_
    refine G.sub [2, 1, 0] (lv' := [(0, Rf Y 0), (2, .int 0), (3, .int 0)]) rfl ?_
    exact w_X10_alike_L28 C 400 0 0 r2
  refine q_aload_n C 0 dX10_alike_10 rfl ?_
  refine q_iconst C (v := 1) dX10_alike_11 (by decide) ?_
  refine q_cVI C lk_X10_63 (w_X10_error (Y := Y) 1 r1.2) (Nat.le_of_ble_eq_true rfl) rfl skC_0 (ltC skC_0 rfl) recv_10 (rest := []) rfl rfl (Nat.le_of_ble_eq_true rfl) dX10_alike_12 (fun r3 => ?_)
  exact q_ireti C rfl dX10_alike_15
def f_X10_furthest_L60 : Nat → Int32 → Int32 → Int32 → Int32 → St → Option (Int32 × St)
  | 0, _, _, _, _, _ => none
  | n + 1, v2, v3, v4, v5, σ => (Option.bind (f_X2_size 42 σ) fun r8 => (if r8.1 ≤ v5 then (if v2 = 0 then (some (v3, r8.2)) else (some (v4, r8.2))) else (Option.bind (f_X2_get 42 v5 r8.2) fun r9 => (if (bitc r9.1) ≤ v4 then ((f_X10_furthest_L60 n) v2 v3 v4 (v5 + 1) r9.2) else ((f_X10_furthest_L60 n) v2 v5 (bitc r9.1) (v5 + 1) r9.2)))))
theorem w_X10_furthest_L60 {Y : YT} {X : XT} (C : Cx FC Y X cX10_furthest 7 RX10 (some .int) 6 (0, 0)) : ∀ (n : Nat), ∀ (v2 : Int32), ∀ (v3 : Int32), ∀ (v4 : Int32), ∀ (v5 : Int32), ∀ (σ : St), G FC Y X 7 (emI FC Y) (0, 0) (0, 0) 60 [(0, Rf Y 0), (2, .int v2), (3, .int v3), (4, .int v4), (5, .int v5)] [] (RepS FC Y σ) (f_X10_furthest_L60 n v2 v3 v4 v5 σ) := by
  intro n
  induction n with
  | zero =>
    intro v2 v3 v4 v5 σ
    rw [f_X10_furthest_L60]; exact G.none
  | succ n ih =>
    intro v2 v3 v4 v5 σ
    rw [f_X10_furthest_L60]
    refine q_iload C 4 dX10_furthest_60 rfl ?_
    refine q_aload_n C 0 dX10_furthest_62 rfl ?_
    refine gf_X10_10 C skC_0 dX10_furthest_63 ?_
    refine gf_X10_263 C skC_1 dX10_furthest_66 ?_
    refine q_cVI C lk_X10_211 (w_X2_size (Y := Y) 42 skC_42 σ) (Nat.le_of_ble_eq_true rfl) rfl skC_42 (ltC skC_42 rfl) recv_2 (rest := [.int v5]) rfl rfl (Nat.le_of_ble_eq_true rfl) dX10_furthest_69 (fun r8 => ?_)
    refine q_icmp_ge C 112 dX10_furthest_72 rfl (fun _ => ?_) (fun _ => ?_)
    · refine q_iload_n C 1 dX10_furthest_112 rfl ?_
      refine q_if_ne C 120 dX10_furthest_113 rfl (fun _ => ?_) (fun _ => ?_)
      · refine q_iload C 3 dX10_furthest_120 rfl ?_
        exact q_ireti C rfl dX10_furthest_122
      refine q_iload_n C 2 dX10_furthest_116 rfl ?_
      refine q_goto C 122 dX10_furthest_117 rfl ?_
      exact q_ireti C rfl dX10_furthest_122
    refine q_aload_n C 0 dX10_furthest_75 rfl ?_
    refine gf_X10_10 C skC_0 dX10_furthest_76 ?_
    refine gf_X10_263 C skC_1 dX10_furthest_79 ?_
    refine q_iload C 4 dX10_furthest_82 rfl ?_
    refine q_cVI C lk_X10_108 (w_X2_get (Y := Y) 42 v5 skC_42 r8.2) (Nat.le_of_ble_eq_true rfl) rfl skC_42 (ltC skC_42 rfl) recv_2 (rest := []) rfl rfl (Nat.le_of_ble_eq_true rfl) dX10_furthest_84 (fun r9 => ?_)
    refine q_bitc C lk_X10_252 (Nat.le_of_ble_eq_true rfl) (Nat.le_of_ble_eq_true rfl) dX10_furthest_87 ?_
    refine q_istore C [(6, .int (bitc r9.1)), (0, Rf Y 0), (2, .int v2), (3, .int v3), (4, .int v4), (5, .int v5)] dX10_furthest_90 rfl rfl ?_
    refine q_iload C 0 dX10_furthest_92 rfl ?_
    refine q_iload C 4 dX10_furthest_94 rfl ?_
    refine q_icmp_le C 106 dX10_furthest_96 rfl (fun _ => ?_) (fun _ => ?_)
    · refine q_iinc C 5 [(5, .int (v5 + 1)), (6, .int (bitc r9.1)), (0, Rf Y 0), (2, .int v2), (3, .int v3), (4, .int v4)] dX10_furthest_106 rfl rfl rfl rfl ?_
      refine q_goto C 60 dX10_furthest_109 rfl ?_
      refine G.sub [2, 3, 4, 5, 0] (lv' := [(0, Rf Y 0), (2, .int v2), (3, .int v3), (4, .int v4), (5, .int (v5 + 1))]) rfl ?_
      exact ih v2 v3 v4 (v5 + 1) r9.2
    refine q_iload C 5 dX10_furthest_99 rfl ?_
    refine q_istore_n C [(3, .int v5), (6, .int (bitc r9.1)), (0, Rf Y 0), (2, .int v2), (4, .int v4), (5, .int v5)] dX10_furthest_101 rfl rfl ?_
    refine q_iload C 1 dX10_furthest_102 rfl ?_
    refine q_istore C [(4, .int (bitc r9.1)), (3, .int v5), (6, .int (bitc r9.1)), (0, Rf Y 0), (2, .int v2), (5, .int v5)] dX10_furthest_104 rfl rfl ?_
    refine q_iinc C 5 [(5, .int (v5 + 1)), (4, .int (bitc r9.1)), (3, .int v5), (6, .int (bitc r9.1)), (0, Rf Y 0), (2, .int v2)] dX10_furthest_106 rfl rfl rfl rfl ?_
    refine q_goto C 60 dX10_furthest_109 rfl ?_
    refine G.sub [4, 5, 2, 1, 0] (lv' := [(0, Rf Y 0), (2, .int v2), (3, .int v5), (4, .int (bitc r9.1)), (5, .int (v5 + 1))]) rfl ?_
    exact ih v2 v5 (bitc r9.1) (v5 + 1) r9.2
def f_X10_furthest (a1 : Int32) (a2 : Int32) (σ : St) : Option (Int32 × St) := (Option.bind (f_X10_within a1 0 99 σ) fun r1 => (if r1.1 = 0 then (Option.bind (f_X10_error 1 r1.2) fun r2 => (some (r2.1, r2.2))) else (Option.bind (f_X10_within a2 0 1 r1.2) fun r3 => (if r3.1 = 0 then (Option.bind (f_X10_error 1 r3.2) fun r7 => (some (r7.1, r7.2))) else (Option.bind (f_X4_size r3.2) fun r4 => (if r4.1 = 0 then (Option.bind (f_X10_error 2 r4.2) fun r6 => (some (r6.1, r6.2))) else (Option.bind (f_X7_thinkAll a1 r4.2) fun r5 => (f_X10_furthest_L60 400 a2 0 (-1) 0 r5))))))))
theorem w_X10_furthest {Y : YT} (a1 : Int32) (a2 : Int32)   (σ : St) : CtE (emI FC Y) FC Y yX10_furthest cX10_furthest 7 (some .int) 6 [Rf Y 0, .int a1, .int a2] σ (f_X10_furthest a1 a2 σ) := by
  refine Ct.ofG (by decide) (Nat.le_of_ble_eq_true rfl) (fun X C0 => ?_)
  have C : Cx FC Y X cX10_furthest 7 RX10 (some .int) 6 (0, 0) := C0
  show G FC Y X 7 (emI FC Y) (0, 0) (0, 0) 0 [(0, Rf Y 0), (1, .int a1), (2, .int a2)] [] (RepS FC Y σ) (f_X10_furthest a1 a2 σ)
  rw [f_X10_furthest]
  refine q_iload_n C 1 dX10_furthest_0 rfl ?_
  refine q_iconst C (v := 0) dX10_furthest_1 (by decide) ?_
  refine q_bipush C (v := 99) dX10_furthest_2 (by decide) ?_
  refine q_cSI C lk_X10_59 (w_X10_within (Y := Y) a1 0 99 σ) (Nat.le_of_ble_eq_true rfl) rfl (rest := []) rfl rfl (Nat.le_of_ble_eq_true rfl) dX10_furthest_4 (fun r1 => ?_)
  refine q_if_eq C 19 dX10_furthest_7 rfl (fun _ => ?_) (fun _ => ?_)
  · refine q_aload_n C 0 dX10_furthest_19 rfl ?_
    refine q_iconst C (v := 1) dX10_furthest_20 (by decide) ?_
    refine q_cVI C lk_X10_63 (w_X10_error (Y := Y) 1 r1.2) (Nat.le_of_ble_eq_true rfl) rfl skC_0 (ltC skC_0 rfl) recv_10 (rest := []) rfl rfl (Nat.le_of_ble_eq_true rfl) dX10_furthest_21 (fun r2 => ?_)
    exact q_ireti C rfl dX10_furthest_24
  refine q_iload_n C 2 dX10_furthest_10 rfl ?_
  refine q_iconst C (v := 0) dX10_furthest_11 (by decide) ?_
  refine q_iconst C (v := 1) dX10_furthest_12 (by decide) ?_
  refine q_cSI C lk_X10_59 (w_X10_within (Y := Y) a2 0 1 r1.2) (Nat.le_of_ble_eq_true rfl) rfl (rest := []) rfl rfl (Nat.le_of_ble_eq_true rfl) dX10_furthest_13 (fun r3 => ?_)
  refine q_if_ne C 25 dX10_furthest_16 rfl (fun _ => ?_) (fun _ => ?_)
  · refine q_aload_n C 0 dX10_furthest_25 rfl ?_
    refine gf_X10_10 C skC_0 dX10_furthest_26 ?_
    refine gf_X10_77 C skC_1 dX10_furthest_29 ?_
    refine q_cVI C lk_X10_81 (w_X4_size (Y := Y) r3.2) (Nat.le_of_ble_eq_true rfl) rfl skC_9 (ltC skC_9 rfl) recv_4 (rest := []) rfl rfl (Nat.le_of_ble_eq_true rfl) dX10_furthest_32 (fun r4 => ?_)
    refine q_if_ne C 44 dX10_furthest_35 rfl (fun _ => ?_) (fun _ => ?_)
    · refine q_aload_n C 0 dX10_furthest_44 rfl ?_
      refine gf_X10_10 C skC_0 dX10_furthest_45 ?_
      refine q_iload_n C 1 dX10_furthest_48 rfl ?_
      refine q_cVV C lk_X10_260 (w_X7_thinkAll (Y := Y) a1 r4.2) (Nat.le_of_ble_eq_true rfl) rfl skC_1 (ltC skC_1 rfl) recv_7 (rest := []) rfl rfl (Nat.le_of_ble_eq_true rfl) dX10_furthest_49 (fun r5 => ?_)
      refine q_iconst C (v := 0) dX10_furthest_52 (by decide) ?_
      refine q_istore_n C [(3, .int 0), (0, Rf Y 0), (1, .int a1), (2, .int a2)] dX10_furthest_53 rfl rfl ?_
      refine q_iconst C (v := (-1)) dX10_furthest_54 (by decide) ?_
      refine q_istore C [(4, .int (-1)), (3, .int 0), (0, Rf Y 0), (1, .int a1), (2, .int a2)] dX10_furthest_55 rfl rfl ?_
      refine q_iconst C (v := 0) dX10_furthest_57 (by decide) ?_
      refine q_istore C [(5, .int 0), (4, .int (-1)), (3, .int 0), (0, Rf Y 0), (1, .int a1), (2, .int a2)] dX10_furthest_58 rfl rfl ?_
      refine G.sub [3, 5, 2, 1, 0] (lv' := [(0, Rf Y 0), (2, .int a2), (3, .int 0), (4, .int (-1)), (5, .int 0)]) rfl ?_
      exact w_X10_furthest_L60 C 400 a2 0 (-1) 0 r5
    refine q_aload_n C 0 dX10_furthest_38 rfl ?_
    refine q_iconst C (v := 2) dX10_furthest_39 (by decide) ?_
    refine q_cVI C lk_X10_63 (w_X10_error (Y := Y) 2 r4.2) (Nat.le_of_ble_eq_true rfl) rfl skC_0 (ltC skC_0 rfl) recv_10 (rest := []) rfl rfl (Nat.le_of_ble_eq_true rfl) dX10_furthest_40 (fun r6 => ?_)
    exact q_ireti C rfl dX10_furthest_43
  refine q_aload_n C 0 dX10_furthest_19 rfl ?_
  refine q_iconst C (v := 1) dX10_furthest_20 (by decide) ?_
  refine q_cVI C lk_X10_63 (w_X10_error (Y := Y) 1 r3.2) (Nat.le_of_ble_eq_true rfl) rfl skC_0 (ltC skC_0 rfl) recv_10 (rest := []) rfl rfl (Nat.le_of_ble_eq_true rfl) dX10_furthest_21 (fun r7 => ?_)
  exact q_ireti C rfl dX10_furthest_24
def f_X10_commonDivisor_L6 : Nat → Int32 → Int32 → Int32 → St → Option (Int32 × St)
  | 0, _, _, _, _ => none
  | n + 1, v0, v1, v2, σ => (if v2 ≤ 1 then (some (1, σ)) else (if v2 = 0 then none else (if (irm v0 v2) = 0 then (if v2 = 0 then none else (if (irm v1 v2) = 0 then (some (v2, σ)) else ((f_X10_commonDivisor_L6 n) v0 v1 (v2 + (-1)) σ))) else ((f_X10_commonDivisor_L6 n) v0 v1 (v2 + (-1)) σ))))
theorem w_X10_commonDivisor_L6 {Y : YT} {X : XT} (C : Cx FC Y X cX10_commonDivisor 3 RX10 (some .int) 1 (0, 0)) : ∀ (n : Nat), ∀ (v0 : Int32), ∀ (v1 : Int32), ∀ (v2 : Int32), ∀ (σ : St), G FC Y X 3 (emI FC Y) (0, 0) (0, 0) 6 [(0, .int v0), (1, .int v1), (2, .int v2)] [] (RepS FC Y σ) (f_X10_commonDivisor_L6 n v0 v1 v2 σ) := by
  intro n
  induction n with
  | zero =>
    intro v0 v1 v2 σ
    rw [f_X10_commonDivisor_L6]; exact G.none
  | succ n ih =>
    intro v0 v1 v2 σ
    rw [f_X10_commonDivisor_L6]
    refine q_iload_n C 2 dX10_commonDivisor_6 rfl ?_
    refine q_iconst C (v := 1) dX10_commonDivisor_7 (by decide) ?_
    refine q_icmp_le C 31 dX10_commonDivisor_8 rfl (fun _ => ?_) (fun _ => ?_)
    · refine q_iconst C (v := 1) dX10_commonDivisor_31 (by decide) ?_
      exact q_ireti C rfl dX10_commonDivisor_32
    refine q_iload_n C 0 dX10_commonDivisor_11 rfl ?_
    refine q_iload_n C 2 dX10_commonDivisor_12 rfl ?_
    refine q_iremz C dX10_commonDivisor_13 (fun _ => ?_)
    refine q_if_ne C 25 dX10_commonDivisor_14 rfl (fun _ => ?_) (fun _ => ?_)
    · refine q_iinc C 2 [(2, .int (v2 + (-1))), (0, .int v0), (1, .int v1)] dX10_commonDivisor_25 rfl rfl rfl rfl ?_
      refine q_goto C 6 dX10_commonDivisor_28 rfl ?_
      refine G.sub [1, 2, 0] (lv' := [(0, .int v0), (1, .int v1), (2, .int (v2 + (-1)))]) rfl ?_
      exact ih v0 v1 (v2 + (-1)) σ
    refine q_iload_n C 1 dX10_commonDivisor_17 rfl ?_
    refine q_iload_n C 2 dX10_commonDivisor_18 rfl ?_
    refine q_iremz C dX10_commonDivisor_19 (fun _ => ?_)
    refine q_if_ne C 25 dX10_commonDivisor_20 rfl (fun _ => ?_) (fun _ => ?_)
    · refine q_iinc C 2 [(2, .int (v2 + (-1))), (0, .int v0), (1, .int v1)] dX10_commonDivisor_25 rfl rfl rfl rfl ?_
      refine q_goto C 6 dX10_commonDivisor_28 rfl ?_
      refine G.sub [1, 2, 0] (lv' := [(0, .int v0), (1, .int v1), (2, .int (v2 + (-1)))]) rfl ?_
      exact ih v0 v1 (v2 + (-1)) σ
    refine q_iload_n C 2 dX10_commonDivisor_23 rfl ?_
    exact q_ireti C rfl dX10_commonDivisor_24
def f_X10_commonDivisor (a1 : Int32) (a2 : Int32) (σ : St) : Option (Int32 × St) := (f_X10_commonDivisor_L6 400 a1 a2 (imax a1 a2) σ)
theorem w_X10_commonDivisor {Y : YT} (a1 : Int32) (a2 : Int32)   (σ : St) : CtE (emI FC Y) FC Y yX10_commonDivisor cX10_commonDivisor 3 (some .int) 1 [.int a1, .int a2] σ (f_X10_commonDivisor a1 a2 σ) := by
  refine Ct.ofG (by decide) (Nat.le_of_ble_eq_true rfl) (fun X C0 => ?_)
  have C : Cx FC Y X cX10_commonDivisor 3 RX10 (some .int) 1 (0, 0) := C0
  show G FC Y X 3 (emI FC Y) (0, 0) (0, 0) 0 [(0, .int a1), (1, .int a2)] [] (RepS FC Y σ) (f_X10_commonDivisor a1 a2 σ)
  rw [f_X10_commonDivisor]
  refine q_iload_n C 0 dX10_commonDivisor_0 rfl ?_
  refine q_iload_n C 1 dX10_commonDivisor_1 rfl ?_
  refine q_mmax C (idx := 342) (TB_of (List.mem_of_getElem? (i := 921) (by decide +kernel)) rfl) (Nat.le_of_ble_eq_true rfl) (Nat.le_of_ble_eq_true rfl) dX10_commonDivisor_2 ?_
  refine q_istore_n C [(2, .int (imax a1 a2)), (0, .int a1), (1, .int a2)] dX10_commonDivisor_5 rfl rfl ?_
  refine G.sub [1, 2, 0] (lv' := [(0, .int a1), (1, .int a2), (2, .int (imax a1 a2))]) rfl ?_
  exact w_X10_commonDivisor_L6 C 400 a1 a2 (imax a1 a2) σ
theorem lk_X10_294 : LkS RX10 294 yX10_commonDivisor cX10_commonDivisor 3 (some .int) 2 := ⟨TB_p [918, 919, 69, 920] (by decide +kernel) (by decide +kernel), by decide +kernel, by decide +kernel, by decide +kernel⟩
def f_X10_odds_L66 : Nat → Int32 → Int32 → Int32 → Int32 → Int32 → Int32 → St → Option (Int32 × St)
  | 0, _, _, _, _, _, _, _ => none
  | n + 1, v1, v2, v3, v4, v5, v6, σ => (if 9 < v6 then (Option.bind (f_X10_commonDivisor v5 10 σ) fun r9 => (if 0 < r9.1 then (if v4 = 0 then (if r9.1 = 0 then none else (some ((v5 / r9.1), r9.2))) else (if r9.1 = 0 then none else (some ((10 / r9.1), r9.2)))) else (some (0, r9.2)))) else (Option.bind (f_X7_thought v2 σ) fun r10 => (if shC r10.1 = 3 then (Option.bind (f_X7_passAll r10.1 v6 (r10.2 2 3) v3 r10.2) fun r12 => (Option.bind (f_X10_inSet (r12 r10.1 5) v1 r12) fun r13 => ((f_X10_odds_L66 n) v1 v2 v3 v4 (v5 + r13.1) (v6 + 1) r13.2))) else none)))
theorem w_X10_odds_L66 {Y : YT} {X : XT} (C : Cx FC Y X cX10_odds 8 RX10 (some .int) 5 (0, 0)) : ∀ (n : Nat), ∀ (v1 : Int32), ∀ (v2 : Int32), ∀ (v3 : Int32), ∀ (v4 : Int32), ∀ (v5 : Int32), ∀ (v6 : Int32), ∀ (σ : St), G FC Y X 8 (emI FC Y) (0, 0) (0, 0) 66 [(0, Rf Y 0), (1, .int v1), (2, .int v2), (3, .int v3), (4, .int v4), (5, .int v5), (6, .int v6)] [] (RepS FC Y σ) (f_X10_odds_L66 n v1 v2 v3 v4 v5 v6 σ) := by
  intro n
  induction n with
  | zero =>
    intro v1 v2 v3 v4 v5 v6 σ
    rw [f_X10_odds_L66]; exact G.none
  | succ n ih =>
    intro v1 v2 v3 v4 v5 v6 σ
    rw [f_X10_odds_L66]
    refine q_iload C 6 dX10_odds_66 rfl ?_
    refine q_bipush C (v := 9) dX10_odds_68 (by decide) ?_
    refine q_icmp_gt C 125 dX10_odds_70 rfl (fun _ => ?_) (fun _ => ?_)
    · refine q_iload C 5 dX10_odds_125 rfl ?_
      refine q_bipush C (v := 10) dX10_odds_127 (by decide) ?_
      refine q_cSI C lk_X10_294 (w_X10_commonDivisor (Y := Y) v5 10 σ) (Nat.le_of_ble_eq_true rfl) rfl (rest := []) rfl rfl (Nat.le_of_ble_eq_true rfl) dX10_odds_129 (fun r9 => ?_)
      refine q_istore C [(6, .int r9.1), (0, Rf Y 0), (1, .int v1), (2, .int v2), (3, .int v3), (4, .int v4), (5, .int v5)] dX10_odds_132 rfl rfl ?_
      refine q_iload C 0 dX10_odds_134 rfl ?_
      refine q_if_gt C 141 dX10_odds_136 rfl (fun _ => ?_) (fun _ => ?_)
      · refine q_iload C 5 dX10_odds_141 rfl ?_
        refine q_if_ne C 151 dX10_odds_143 rfl (fun _ => ?_) (fun _ => ?_)
        · refine q_bipush C (v := 10) dX10_odds_151 (by decide) ?_
          refine q_iload C 0 dX10_odds_153 rfl ?_
          refine q_idivz C dX10_odds_155 (fun _ => ?_)
          exact q_ireti C rfl dX10_odds_156
        refine q_iload C 6 dX10_odds_146 rfl ?_
        refine q_goto C 153 dX10_odds_148 rfl ?_
        refine q_iload C 0 dX10_odds_153 rfl ?_
        refine q_idivz C dX10_odds_155 (fun _ => ?_)
        exact q_ireti C rfl dX10_odds_156
      refine q_iconst C (v := 0) dX10_odds_139 (by decide) ?_
      exact q_ireti C rfl dX10_odds_140
    refine q_aload_n C 0 dX10_odds_73 rfl ?_
    refine gf_X10_10 C skC_0 dX10_odds_74 ?_
    refine q_iload_n C 2 dX10_odds_77 rfl ?_
    refine q_cVR C lk_X10_138 (w_X7_thought (Y := Y) v2 σ) (Nat.le_of_ble_eq_true rfl) rfl skC_1 (ltC skC_1 rfl) recv_7 (rest := []) rfl rfl (Nat.le_of_ble_eq_true rfl) dX10_odds_78 (fun r10 => ?_)
    refine G.ite (fun h11 => ?_) (fun _ => G.none)
    refine q_astore C [(7, Rf Y r10.1), (0, Rf Y 0), (1, .int v1), (2, .int v2), (3, .int v3), (4, .int v4), (5, .int v5), (6, .int v6)] dX10_odds_81 rfl rfl ?_
    refine q_aload_n C 1 dX10_odds_83 rfl ?_
    refine gf_X10_10 C skC_0 dX10_odds_84 ?_
    refine q_aload C 0 dX10_odds_87 rfl ?_
    refine q_iload C 7 dX10_odds_89 rfl ?_
    refine q_aload_n C 1 dX10_odds_91 rfl ?_
    refine gf_X10_10 C skC_0 dX10_odds_92 ?_
    refine gf_X10_67 C skC_1 dX10_odds_95 ?_
    refine gf_X10_117 C skC_2 dX10_odds_98 ?_
    refine q_iload_n C 4 dX10_odds_101 rfl ?_
    refine q_cVV C lk_X10_277 (w_X7_passAll (Y := Y) r10.1 v6 (r10.2 2 3) v3 h11 r10.2) (Nat.le_of_ble_eq_true rfl) rfl skC_1 (ltC skC_1 rfl) recv_7 (rest := []) rfl rfl (Nat.le_of_ble_eq_true rfl) dX10_odds_102 (fun r12 => ?_)
    refine q_iload C 6 dX10_odds_105 rfl ?_
    refine q_aload C 0 dX10_odds_107 rfl ?_
    refine gf_X10_166 C h11 dX10_odds_109 ?_
    refine q_iload_n C 2 dX10_odds_112 rfl ?_
    refine q_cSI C lk_X10_120 (w_X10_inSet (Y := Y) (r12 r10.1 5) v1 r12) (Nat.le_of_ble_eq_true rfl) rfl (rest := [.int v5]) rfl rfl (Nat.le_of_ble_eq_true rfl) dX10_odds_113 (fun r13 => ?_)
    refine q_iadd C dX10_odds_116 ?_
    refine q_istore C [(5, .int (v5 + r13.1)), (7, Rf Y r10.1), (0, Rf Y 0), (1, .int v1), (2, .int v2), (3, .int v3), (4, .int v4), (6, .int v6)] dX10_odds_117 rfl rfl ?_
    refine q_iinc C 7 [(6, .int (v6 + 1)), (5, .int (v5 + r13.1)), (7, Rf Y r10.1), (0, Rf Y 0), (1, .int v1), (2, .int v2), (3, .int v3), (4, .int v4)] dX10_odds_119 rfl rfl rfl rfl ?_
    refine q_goto C 66 dX10_odds_122 rfl ?_
    refine G.sub [3, 4, 5, 6, 7, 1, 0] (lv' := [(0, Rf Y 0), (1, .int v1), (2, .int v2), (3, .int v3), (4, .int v4), (5, .int (v5 + r13.1)), (6, .int (v6 + 1))]) rfl ?_
    exact ih v1 v2 v3 v4 (v5 + r13.1) (v6 + 1) r13.2
def f_X10_odds (a1 : Int32) (a2 : Int32) (a3 : Int32) (a4 : Int32) (σ : St) : Option (Int32 × St) := (Option.bind (f_X0_has a1 σ) fun r1 => (if r1.1 = 0 then (Option.bind (f_X10_error 1 r1.2) fun r2 => (some (r2.1, r2.2))) else (Option.bind (f_X4_has a2 r1.2) fun r3 => (if r3.1 = 0 then (Option.bind (f_X10_error 1 r3.2) fun r8 => (some (r8.1, r8.2))) else (Option.bind (f_X10_within a3 0 99 r3.2) fun r4 => (if r4.1 = 0 then (Option.bind (f_X10_error 1 r4.2) fun r5 => (some (r5.1, r5.2))) else (Option.bind (f_X10_within a4 0 1 r4.2) fun r6 => (if r6.1 = 0 then (Option.bind (f_X10_error 1 r6.2) fun r7 => (some (r7.1, r7.2))) else (f_X10_odds_L66 400 a1 a2 a3 a4 0 0 r6.2)))))))))
theorem w_X10_odds {Y : YT} (a1 : Int32) (a2 : Int32) (a3 : Int32) (a4 : Int32)   (σ : St) : CtE (emI FC Y) FC Y yX10_odds cX10_odds 8 (some .int) 5 [Rf Y 0, .int a1, .int a2, .int a3, .int a4] σ (f_X10_odds a1 a2 a3 a4 σ) := by
  refine Ct.ofG (by decide) (Nat.le_of_ble_eq_true rfl) (fun X C0 => ?_)
  have C : Cx FC Y X cX10_odds 8 RX10 (some .int) 5 (0, 0) := C0
  show G FC Y X 8 (emI FC Y) (0, 0) (0, 0) 0 [(0, Rf Y 0), (1, .int a1), (2, .int a2), (3, .int a3), (4, .int a4)] [] (RepS FC Y σ) (f_X10_odds a1 a2 a3 a4 σ)
  rw [f_X10_odds]
  refine q_aload_n C 0 dX10_odds_0 rfl ?_
  refine gf_X10_10 C skC_0 dX10_odds_1 ?_
  refine gf_X10_84 C skC_1 dX10_odds_4 ?_
  refine q_iload_n C 1 dX10_odds_7 rfl ?_
  refine q_cVI C lk_X10_194 (w_X0_has (Y := Y) a1 σ) (Nat.le_of_ble_eq_true rfl) rfl skC_22 (ltC skC_22 rfl) recv_0 (rest := []) rfl rfl (Nat.le_of_ble_eq_true rfl) dX10_odds_8 (fun r1 => ?_)
  refine q_if_eq C 28 dX10_odds_11 rfl (fun _ => ?_) (fun _ => ?_)
  · refine q_aload_n C 0 dX10_odds_28 rfl ?_
    refine q_iconst C (v := 1) dX10_odds_29 (by decide) ?_
    refine q_cVI C lk_X10_63 (w_X10_error (Y := Y) 1 r1.2) (Nat.le_of_ble_eq_true rfl) rfl skC_0 (ltC skC_0 rfl) recv_10 (rest := []) rfl rfl (Nat.le_of_ble_eq_true rfl) dX10_odds_30 (fun r2 => ?_)
    exact q_ireti C rfl dX10_odds_33
  refine q_aload_n C 0 dX10_odds_14 rfl ?_
  refine gf_X10_10 C skC_0 dX10_odds_15 ?_
  refine gf_X10_77 C skC_1 dX10_odds_18 ?_
  refine q_iload_n C 2 dX10_odds_21 rfl ?_
  refine q_cVI C lk_X10_137 (w_X4_has (Y := Y) a2 r1.2) (Nat.le_of_ble_eq_true rfl) rfl skC_9 (ltC skC_9 rfl) recv_4 (rest := []) rfl rfl (Nat.le_of_ble_eq_true rfl) dX10_odds_22 (fun r3 => ?_)
  refine q_if_ne C 34 dX10_odds_25 rfl (fun _ => ?_) (fun _ => ?_)
  · refine q_iload_n C 3 dX10_odds_34 rfl ?_
    refine q_iconst C (v := 0) dX10_odds_35 (by decide) ?_
    refine q_bipush C (v := 99) dX10_odds_36 (by decide) ?_
    refine q_cSI C lk_X10_59 (w_X10_within (Y := Y) a3 0 99 r3.2) (Nat.le_of_ble_eq_true rfl) rfl (rest := []) rfl rfl (Nat.le_of_ble_eq_true rfl) dX10_odds_38 (fun r4 => ?_)
    refine q_if_eq C 54 dX10_odds_41 rfl (fun _ => ?_) (fun _ => ?_)
    · refine q_aload_n C 0 dX10_odds_54 rfl ?_
      refine q_iconst C (v := 1) dX10_odds_55 (by decide) ?_
      refine q_cVI C lk_X10_63 (w_X10_error (Y := Y) 1 r4.2) (Nat.le_of_ble_eq_true rfl) rfl skC_0 (ltC skC_0 rfl) recv_10 (rest := []) rfl rfl (Nat.le_of_ble_eq_true rfl) dX10_odds_56 (fun r5 => ?_)
      exact q_ireti C rfl dX10_odds_59
    refine q_iload C 4 dX10_odds_44 rfl ?_
    refine q_iconst C (v := 0) dX10_odds_46 (by decide) ?_
    refine q_iconst C (v := 1) dX10_odds_47 (by decide) ?_
    refine q_cSI C lk_X10_59 (w_X10_within (Y := Y) a4 0 1 r4.2) (Nat.le_of_ble_eq_true rfl) rfl (rest := []) rfl rfl (Nat.le_of_ble_eq_true rfl) dX10_odds_48 (fun r6 => ?_)
    refine q_if_ne C 60 dX10_odds_51 rfl (fun _ => ?_) (fun _ => ?_)
    · refine q_iconst C (v := 0) dX10_odds_60 (by decide) ?_
      refine q_istore C [(5, .int 0), (0, Rf Y 0), (1, .int a1), (2, .int a2), (3, .int a3), (4, .int a4)] dX10_odds_61 rfl rfl ?_
      refine q_iconst C (v := 0) dX10_odds_63 (by decide) ?_
      refine q_istore C [(6, .int 0), (5, .int 0), (0, Rf Y 0), (1, .int a1), (2, .int a2), (3, .int a3), (4, .int a4)] dX10_odds_64 rfl rfl ?_
      refine G.sub [2, 3, 4, 5, 6, 1, 0] (lv' := [(0, Rf Y 0), (1, .int a1), (2, .int a2), (3, .int a3), (4, .int a4), (5, .int 0), (6, .int 0)]) rfl ?_
      exact w_X10_odds_L66 C 400 a1 a2 a3 a4 0 0 r6.2
    refine q_aload_n C 0 dX10_odds_54 rfl ?_
    refine q_iconst C (v := 1) dX10_odds_55 (by decide) ?_
    refine q_cVI C lk_X10_63 (w_X10_error (Y := Y) 1 r6.2) (Nat.le_of_ble_eq_true rfl) rfl skC_0 (ltC skC_0 rfl) recv_10 (rest := []) rfl rfl (Nat.le_of_ble_eq_true rfl) dX10_odds_56 (fun r7 => ?_)
    exact q_ireti C rfl dX10_odds_59
  refine q_aload_n C 0 dX10_odds_28 rfl ?_
  refine q_iconst C (v := 1) dX10_odds_29 (by decide) ?_
  refine q_cVI C lk_X10_63 (w_X10_error (Y := Y) 1 r3.2) (Nat.le_of_ble_eq_true rfl) rfl skC_0 (ltC skC_0 rfl) recv_10 (rest := []) rfl rfl (Nat.le_of_ble_eq_true rfl) dX10_odds_30 (fun r8 => ?_)
  exact q_ireti C rfl dX10_odds_33
def f_X10_seed (a1 : Int32) (σ : St) : Option (Int32 × St) := (Bst (up σ 1 3 a1) fun s1 => (some ((σ 1 3), s1)))
theorem w_X10_seed {Y : YT} (a1 : Int32)   (σ : St) : CtE (emI FC Y) FC Y yX10_seed cX10_seed 3 (some .int) 0 [Rf Y 0, .int a1] σ (f_X10_seed a1 σ) := by
  refine Ct.ofG (by decide) (Nat.le_of_ble_eq_true rfl) (fun X C0 => ?_)
  have C : Cx FC Y X cX10_seed 3 RX10 (some .int) 0 (0, 0) := C0
  show G FC Y X 3 (emI FC Y) (0, 0) (0, 0) 0 [(0, Rf Y 0), (1, .int a1)] [] (RepS FC Y σ) (f_X10_seed a1 σ)
  rw [f_X10_seed]
  refine q_aload_n C 0 dX10_seed_0 rfl ?_
  refine gf_X10_10 C skC_0 dX10_seed_1 ?_
  refine gf_X10_297 C skC_1 dX10_seed_4 ?_
  refine q_istore_n C [(2, .int (σ 1 3)), (0, Rf Y 0), (1, .int a1)] dX10_seed_7 rfl rfl ?_
  refine q_aload_n C 1 dX10_seed_8 rfl ?_
  refine gf_X10_10 C skC_0 dX10_seed_9 ?_
  refine q_iload_n C 2 dX10_seed_12 rfl ?_
  refine pf_X10_297 C skC_1 dX10_seed_13 (fun s1 => ?_)
  refine q_iload_n C 0 dX10_seed_16 rfl ?_
  exact q_ireti C rfl dX10_seed_17
theorem lk_X10_300 : LkV RX10 300 yX8_begin cX8_begin 5 (some .int) 4 := ⟨TB_p [930, 931, 932, 79, 933] (by decide +kernel) (by decide +kernel), by decide +kernel, by decide +kernel, by decide +kernel⟩
def f_X10_voice (a1 : Int32) (a2 : Int32) (a3 : Int32) (σ : St) : Option (Int32 × St) := (Option.bind (f_X4_has a1 σ) fun r1 => (if r1.1 = 0 then (Option.bind (f_X10_error 1 r1.2) fun r2 => (some (r2.1, r2.2))) else (Option.bind (f_X10_within a2 0 3 r1.2) fun r3 => (if r3.1 = 0 then (Option.bind (f_X10_error 1 r3.2) fun r7 => (some (r7.1, r7.2))) else (Option.bind (f_X7_thought a1 r3.2) fun r4 => (if shC r4.1 = 3 then (Option.bind (f_X8_begin a1 r4.1 a2 a3 r4.2) fun r6 => (some (r6.1, r6.2))) else none))))))
theorem w_X10_voice {Y : YT} (a1 : Int32) (a2 : Int32) (a3 : Int32)   (σ : St) : CtE (emI FC Y) FC Y yX10_voice cX10_voice 4 (some .int) 123 [Rf Y 0, .int a1, .int a2, .int a3] σ (f_X10_voice a1 a2 a3 σ) := by
  refine Ct.ofG (by decide) (Nat.le_of_ble_eq_true rfl) (fun X C0 => ?_)
  have C : Cx FC Y X cX10_voice 4 RX10 (some .int) 123 (0, 0) := C0
  show G FC Y X 4 (emI FC Y) (0, 0) (0, 0) 0 [(0, Rf Y 0), (1, .int a1), (2, .int a2), (3, .int a3)] [] (RepS FC Y σ) (f_X10_voice a1 a2 a3 σ)
  rw [f_X10_voice]
  refine q_aload_n C 0 dX10_voice_0 rfl ?_
  refine gf_X10_10 C skC_0 dX10_voice_1 ?_
  refine gf_X10_77 C skC_1 dX10_voice_4 ?_
  refine q_iload_n C 1 dX10_voice_7 rfl ?_
  refine q_cVI C lk_X10_137 (w_X4_has (Y := Y) a1 σ) (Nat.le_of_ble_eq_true rfl) rfl skC_9 (ltC skC_9 rfl) recv_4 (rest := []) rfl rfl (Nat.le_of_ble_eq_true rfl) dX10_voice_8 (fun r1 => ?_)
  refine q_if_eq C 23 dX10_voice_11 rfl (fun _ => ?_) (fun _ => ?_)
  · refine q_aload_n C 0 dX10_voice_23 rfl ?_
    refine q_iconst C (v := 1) dX10_voice_24 (by decide) ?_
    refine q_cVI C lk_X10_63 (w_X10_error (Y := Y) 1 r1.2) (Nat.le_of_ble_eq_true rfl) rfl skC_0 (ltC skC_0 rfl) recv_10 (rest := []) rfl rfl (Nat.le_of_ble_eq_true rfl) dX10_voice_25 (fun r2 => ?_)
    exact q_ireti C rfl dX10_voice_28
  refine q_iload_n C 2 dX10_voice_14 rfl ?_
  refine q_iconst C (v := 0) dX10_voice_15 (by decide) ?_
  refine q_iconst C (v := 3) dX10_voice_16 (by decide) ?_
  refine q_cSI C lk_X10_59 (w_X10_within (Y := Y) a2 0 3 r1.2) (Nat.le_of_ble_eq_true rfl) rfl (rest := []) rfl rfl (Nat.le_of_ble_eq_true rfl) dX10_voice_17 (fun r3 => ?_)
  refine q_if_ne C 29 dX10_voice_20 rfl (fun _ => ?_) (fun _ => ?_)
  · refine q_aload_n C 0 dX10_voice_29 rfl ?_
    refine gf_X10_29 C skC_0 dX10_voice_30 ?_
    refine q_iload_n C 1 dX10_voice_33 rfl ?_
    refine q_aload_n C 0 dX10_voice_34 rfl ?_
    refine gf_X10_10 C skC_0 dX10_voice_35 ?_
    refine q_iload_n C 1 dX10_voice_38 rfl ?_
    refine q_cVR C lk_X10_138 (w_X7_thought (Y := Y) a1 r3.2) (Nat.le_of_ble_eq_true rfl) rfl skC_1 (ltC skC_1 rfl) recv_7 (rest := [.int a1, Rf Y 92]) rfl rfl (Nat.le_of_ble_eq_true rfl) dX10_voice_39 (fun r4 => ?_)
    refine G.ite (fun h5 => ?_) (fun _ => G.none)
    refine q_iload_n C 2 dX10_voice_42 rfl ?_
    refine q_iload_n C 3 dX10_voice_43 rfl ?_
    refine q_cVI C lk_X10_300 (w_X8_begin (Y := Y) a1 r4.1 a2 a3 h5 r4.2) (Nat.le_of_ble_eq_true rfl) rfl skC_92 (ltC skC_92 rfl) recv_8 (rest := []) rfl rfl (Nat.le_of_ble_eq_true rfl) dX10_voice_44 (fun r6 => ?_)
    exact q_ireti C rfl dX10_voice_47
  refine q_aload_n C 0 dX10_voice_23 rfl ?_
  refine q_iconst C (v := 1) dX10_voice_24 (by decide) ?_
  refine q_cVI C lk_X10_63 (w_X10_error (Y := Y) 1 r3.2) (Nat.le_of_ble_eq_true rfl) rfl skC_0 (ltC skC_0 rfl) recv_10 (rest := []) rfl rfl (Nat.le_of_ble_eq_true rfl) dX10_voice_25 (fun r7 => ?_)
  exact q_ireti C rfl dX10_voice_28
theorem lk_X10_307 : LkV RX10 307 yX2_has cX2_has 2 (some .boolean) 1 := ⟨TB_p [953, 482, 483, 72, 484] (by decide +kernel) (by decide +kernel), by decide +kernel, by decide +kernel, by decide +kernel⟩
def f_X10_trace (a1 : Int32) (σ : St) : Option (Int32 × St) := (Option.bind (f_X2_has 93 a1 σ) fun r1 => (if r1.1 = 0 then (Option.bind (f_X10_error 2 r1.2) fun r3 => (some (r3.1, r3.2))) else (Option.bind (f_X2_get 93 a1 r1.2) fun r2 => (some (r2.1, r2.2)))))
theorem w_X10_trace {Y : YT} (a1 : Int32)   (σ : St) : CtE (emI FC Y) FC Y yX10_trace cX10_trace 2 (some .int) 2 [Rf Y 0, .int a1] σ (f_X10_trace a1 σ) := by
  refine Ct.ofG (by decide) (Nat.le_of_ble_eq_true rfl) (fun X C0 => ?_)
  have C : Cx FC Y X cX10_trace 2 RX10 (some .int) 2 (0, 0) := C0
  show G FC Y X 2 (emI FC Y) (0, 0) (0, 0) 0 [(0, Rf Y 0), (1, .int a1)] [] (RepS FC Y σ) (f_X10_trace a1 σ)
  rw [f_X10_trace]
  refine q_aload_n C 0 dX10_trace_0 rfl ?_
  refine gf_X10_29 C skC_0 dX10_trace_1 ?_
  refine gf_X10_304 C skC_92 dX10_trace_4 ?_
  refine q_iload_n C 1 dX10_trace_7 rfl ?_
  refine q_cVI C lk_X10_307 (w_X2_has (Y := Y) 93 a1 skC_93 σ) (Nat.le_of_ble_eq_true rfl) rfl skC_93 (ltC skC_93 rfl) recv_2 (rest := []) rfl rfl (Nat.le_of_ble_eq_true rfl) dX10_trace_8 (fun r1 => ?_)
  refine q_if_ne C 20 dX10_trace_11 rfl (fun _ => ?_) (fun _ => ?_)
  · refine q_aload_n C 0 dX10_trace_20 rfl ?_
    refine gf_X10_29 C skC_0 dX10_trace_21 ?_
    refine gf_X10_304 C skC_92 dX10_trace_24 ?_
    refine q_iload_n C 1 dX10_trace_27 rfl ?_
    refine q_cVI C lk_X10_108 (w_X2_get (Y := Y) 93 a1 skC_93 r1.2) (Nat.le_of_ble_eq_true rfl) rfl skC_93 (ltC skC_93 rfl) recv_2 (rest := []) rfl rfl (Nat.le_of_ble_eq_true rfl) dX10_trace_28 (fun r2 => ?_)
    exact q_ireti C rfl dX10_trace_31
  refine q_aload_n C 0 dX10_trace_14 rfl ?_
  refine q_iconst C (v := 2) dX10_trace_15 (by decide) ?_
  refine q_cVI C lk_X10_63 (w_X10_error (Y := Y) 2 r1.2) (Nat.le_of_ble_eq_true rfl) rfl skC_0 (ltC skC_0 rfl) recv_10 (rest := []) rfl rfl (Nat.le_of_ble_eq_true rfl) dX10_trace_16 (fun r3 => ?_)
  exact q_ireti C rfl dX10_trace_19
theorem lk_X10_56 : LkV RX10 56 yX2_zeros cX2_zeros 3 none 1 := ⟨TB_p [384, 385, 386, 72, 387] (by decide +kernel) (by decide +kernel), by decide +kernel, by decide +kernel, by decide +kernel⟩
def f_X10_sheet_L54 (v2 : Int32) (v3 : Int32) (v4 : Nat) (σ : St) : Option (Int32 × St) := (if v2 = 0 then (if v4 = 0 then none else (Bst (up σ v4 0 v2) fun s11 => (if v2 = 0 then (Option.bind (f_X2_zeros (v4 + 1) 0 s11) fun r13 => (some (1, r13))) else (Option.bind (f_X2_zeros (v4 + 1) v3 s11) fun r12 => (some (1, r12)))))) else (if v3 ≤ 40 then (if v4 = 0 then none else (Bst (up σ v4 0 v2) fun s15 => (if v2 = 0 then (Option.bind (f_X2_zeros (v4 + 1) 0 s15) fun r17 => (some (1, r17))) else (Option.bind (f_X2_zeros (v4 + 1) v3 s15) fun r16 => (some (1, r16)))))) else (Option.bind (f_X10_error 1 σ) fun r18 => (some (r18.1, r18.2)))))
theorem w_X10_sheet_L54 {Y : YT} {X : XT} (C : Cx FC Y X cX10_sheet 5 RX10 (some .int) 2 (0, 0)) : ∀ (v2 : Int32), ∀ (v3 : Int32), ∀ (v4 : Nat), v4 = 0 ∨ shC v4 = 5 → ∀ (σ : St), G FC Y X 5 (emI FC Y) (0, 0) (0, 0) 54 [(0, Rf Y 0), (2, .int v2), (3, .int v3), (4, nrf Y v4)] [] (RepS FC Y σ) (f_X10_sheet_L54 v2 v3 v4 σ) := by
  intro v2 v3 v4 hv4 σ
  rw [f_X10_sheet_L54]
  refine q_iload_n C 1 dX10_sheet_54 rfl ?_
  refine q_if_eq C 70 dX10_sheet_55 rfl (fun _ => ?_) (fun _ => ?_)
  · refine q_aloadz C 3 dX10_sheet_70 rfl ?_
    refine G.ite (fun _ => G.none) (fun h10 => ?_)
    refine G.nonnull h10 ?_
    refine q_iload_n C 1 dX10_sheet_72 rfl ?_
    refine pf_X10_308 C (hv4.resolve_left h10) dX10_sheet_73 (fun s11 => ?_)
    refine q_aloadz C 3 dX10_sheet_76 rfl ?_
    refine G.nonnull h10 ?_
    refine gf_X10_311 C (hv4.resolve_left h10) dX10_sheet_78 ?_
    refine q_iload_n C 1 dX10_sheet_81 rfl ?_
    refine q_if_ne C 89 dX10_sheet_82 rfl (fun _ => ?_) (fun _ => ?_)
    · refine q_iload_n C 2 dX10_sheet_89 rfl ?_
      refine q_cVV C lk_X10_56 (w_X2_zeros (Y := Y) (v4 + 1) v3 (sf_5_1 (hv4.resolve_left h10)) s11) (Nat.le_of_ble_eq_true rfl) rfl (sf_5_1 (hv4.resolve_left h10)) (ltC (sf_5_1 (hv4.resolve_left h10)) rfl) recv_2 (rest := []) rfl rfl (Nat.le_of_ble_eq_true rfl) dX10_sheet_90 (fun r12 => ?_)
      refine q_iconst C (v := 1) dX10_sheet_93 (by decide) ?_
      exact q_ireti C rfl dX10_sheet_94
    refine q_iconst C (v := 0) dX10_sheet_85 (by decide) ?_
    refine q_goto C 90 dX10_sheet_86 rfl ?_
    refine q_cVV C lk_X10_56 (w_X2_zeros (Y := Y) (v4 + 1) 0 (sf_5_1 (hv4.resolve_left h10)) s11) (Nat.le_of_ble_eq_true rfl) rfl (sf_5_1 (hv4.resolve_left h10)) (ltC (sf_5_1 (hv4.resolve_left h10)) rfl) recv_2 (rest := []) rfl rfl (Nat.le_of_ble_eq_true rfl) dX10_sheet_90 (fun r13 => ?_)
    refine q_iconst C (v := 1) dX10_sheet_93 (by decide) ?_
    exact q_ireti C rfl dX10_sheet_94
  refine q_iload_n C 2 dX10_sheet_58 rfl ?_
  refine q_bipush C (v := 40) dX10_sheet_59 (by decide) ?_
  refine q_icmp_le C 70 dX10_sheet_61 rfl (fun _ => ?_) (fun _ => ?_)
  · refine q_aloadz C 3 dX10_sheet_70 rfl ?_
    refine G.ite (fun _ => G.none) (fun h14 => ?_)
    refine G.nonnull h14 ?_
    refine q_iload_n C 1 dX10_sheet_72 rfl ?_
    refine pf_X10_308 C (hv4.resolve_left h14) dX10_sheet_73 (fun s15 => ?_)
    refine q_aloadz C 3 dX10_sheet_76 rfl ?_
    refine G.nonnull h14 ?_
    refine gf_X10_311 C (hv4.resolve_left h14) dX10_sheet_78 ?_
    refine q_iload_n C 1 dX10_sheet_81 rfl ?_
    refine q_if_ne C 89 dX10_sheet_82 rfl (fun _ => ?_) (fun _ => ?_)
    · refine q_iload_n C 2 dX10_sheet_89 rfl ?_
      refine q_cVV C lk_X10_56 (w_X2_zeros (Y := Y) (v4 + 1) v3 (sf_5_1 (hv4.resolve_left h14)) s15) (Nat.le_of_ble_eq_true rfl) rfl (sf_5_1 (hv4.resolve_left h14)) (ltC (sf_5_1 (hv4.resolve_left h14)) rfl) recv_2 (rest := []) rfl rfl (Nat.le_of_ble_eq_true rfl) dX10_sheet_90 (fun r16 => ?_)
      refine q_iconst C (v := 1) dX10_sheet_93 (by decide) ?_
      exact q_ireti C rfl dX10_sheet_94
    refine q_iconst C (v := 0) dX10_sheet_85 (by decide) ?_
    refine q_goto C 90 dX10_sheet_86 rfl ?_
    refine q_cVV C lk_X10_56 (w_X2_zeros (Y := Y) (v4 + 1) 0 (sf_5_1 (hv4.resolve_left h14)) s15) (Nat.le_of_ble_eq_true rfl) rfl (sf_5_1 (hv4.resolve_left h14)) (ltC (sf_5_1 (hv4.resolve_left h14)) rfl) recv_2 (rest := []) rfl rfl (Nat.le_of_ble_eq_true rfl) dX10_sheet_90 (fun r17 => ?_)
    refine q_iconst C (v := 1) dX10_sheet_93 (by decide) ?_
    exact q_ireti C rfl dX10_sheet_94
  refine q_aload_n C 0 dX10_sheet_64 rfl ?_
  refine q_iconst C (v := 1) dX10_sheet_65 (by decide) ?_
  refine q_cVI C lk_X10_63 (w_X10_error (Y := Y) 1 σ) (Nat.le_of_ble_eq_true rfl) rfl skC_0 (ltC skC_0 rfl) recv_10 (rest := []) rfl rfl (Nat.le_of_ble_eq_true rfl) dX10_sheet_66 (fun r18 => ?_)
  exact q_ireti C rfl dX10_sheet_69
def f_X10_sheet (a1 : Int32) (a2 : Int32) (a3 : Int32) (σ : St) : Option (Int32 × St) := (Option.bind (f_X10_sheetAt a1 σ) fun r1 => (if r1.1 = 0 ∨ shC r1.1 = 5 then (if r1.1 = 0 then (Option.bind (f_X10_error 1 r1.2) fun r4 => (some (r4.1, r4.2))) else (if a2 = 0 then (if a2 = 0 then (f_X10_sheet_L54 a2 a3 r1.1 r1.2) else (if 0 ≤ a3 then (f_X10_sheet_L54 a2 a3 r1.1 r1.2) else (Option.bind (f_X10_error 3 r1.2) fun r5 => (some (r5.1, r5.2))))) else (if a2 = 8 then (if a2 = 0 then (f_X10_sheet_L54 a2 a3 r1.1 r1.2) else (if 0 ≤ a3 then (f_X10_sheet_L54 a2 a3 r1.1 r1.2) else (Option.bind (f_X10_error 3 r1.2) fun r6 => (some (r6.1, r6.2))))) else (if a2 = 16 then (if a2 = 0 then (f_X10_sheet_L54 a2 a3 r1.1 r1.2) else (if 0 ≤ a3 then (f_X10_sheet_L54 a2 a3 r1.1 r1.2) else (Option.bind (f_X10_error 3 r1.2) fun r7 => (some (r7.1, r7.2))))) else (if a2 = 32 then (if a2 = 0 then (f_X10_sheet_L54 a2 a3 r1.1 r1.2) else (if 0 ≤ a3 then (f_X10_sheet_L54 a2 a3 r1.1 r1.2) else (Option.bind (f_X10_error 3 r1.2) fun r8 => (some (r8.1, r8.2))))) else (Option.bind (f_X10_error 1 r1.2) fun r9 => (some (r9.1, r9.2)))))))) else none))
theorem w_X10_sheet {Y : YT} (a1 : Int32) (a2 : Int32) (a3 : Int32)   (σ : St) : CtE (emI FC Y) FC Y yX10_sheet cX10_sheet 5 (some .int) 2 [Rf Y 0, .int a1, .int a2, .int a3] σ (f_X10_sheet a1 a2 a3 σ) := by
  refine Ct.ofG (by decide) (Nat.le_of_ble_eq_true rfl) (fun X C0 => ?_)
  have C : Cx FC Y X cX10_sheet 5 RX10 (some .int) 2 (0, 0) := C0
  show G FC Y X 5 (emI FC Y) (0, 0) (0, 0) 0 [(0, Rf Y 0), (1, .int a1), (2, .int a2), (3, .int a3)] [] (RepS FC Y σ) (f_X10_sheet a1 a2 a3 σ)
  rw [f_X10_sheet]
  refine q_aload_n C 0 dX10_sheet_0 rfl ?_
  refine q_iload_n C 1 dX10_sheet_1 rfl ?_
  refine q_cVN C lk_X10_284 (w_X10_sheetAt (Y := Y) a1 σ) (Nat.le_of_ble_eq_true rfl) rfl skC_0 (ltC skC_0 rfl) recv_10 (rest := []) rfl rfl (Nat.le_of_ble_eq_true rfl) dX10_sheet_2 (fun r1 => ?_)
  refine G.ite (fun h2 => ?_) (fun _ => G.none)
  refine q_astorez C [(4, nrf Y r1.1), (0, Rf Y 0), (1, .int a1), (2, .int a2), (3, .int a3)] dX10_sheet_5 rfl rfl ?_
  refine q_aloadz C 0 dX10_sheet_7 rfl ?_
  refine q_ifnull C 34 dX10_sheet_9 rfl (fun _ => ?_) (fun h3 => ?_)
  · refine q_aload_n C 1 dX10_sheet_34 rfl ?_
    refine q_iconst C (v := 1) dX10_sheet_35 (by decide) ?_
    refine q_cVI C lk_X10_63 (w_X10_error (Y := Y) 1 r1.2) (Nat.le_of_ble_eq_true rfl) rfl skC_0 (ltC skC_0 rfl) recv_10 (rest := []) rfl rfl (Nat.le_of_ble_eq_true rfl) dX10_sheet_36 (fun r4 => ?_)
    exact q_ireti C rfl dX10_sheet_39
  refine q_iload_n C 3 dX10_sheet_12 rfl ?_
  refine q_if_eq C 40 dX10_sheet_13 rfl (fun _ => ?_) (fun _ => ?_)
  · refine q_iload_n C 3 dX10_sheet_40 rfl ?_
    refine q_if_eq C 54 dX10_sheet_41 rfl (fun _ => ?_) (fun _ => ?_)
    · refine G.sub [1, 3, 4, 0] (lv' := [(0, Rf Y 0), (2, .int a2), (3, .int a3), (4, nrf Y r1.1)]) rfl ?_
      exact w_X10_sheet_L54 C a2 a3 r1.1 h2 r1.2
    refine q_iload_n C 4 dX10_sheet_44 rfl ?_
    refine q_if_ge C 54 dX10_sheet_45 rfl (fun _ => ?_) (fun _ => ?_)
    · refine G.sub [1, 3, 4, 0] (lv' := [(0, Rf Y 0), (2, .int a2), (3, .int a3), (4, nrf Y r1.1)]) rfl ?_
      exact w_X10_sheet_L54 C a2 a3 r1.1 h2 r1.2
    refine q_aload_n C 1 dX10_sheet_48 rfl ?_
    refine q_iconst C (v := 3) dX10_sheet_49 (by decide) ?_
    refine q_cVI C lk_X10_63 (w_X10_error (Y := Y) 3 r1.2) (Nat.le_of_ble_eq_true rfl) rfl skC_0 (ltC skC_0 rfl) recv_10 (rest := []) rfl rfl (Nat.le_of_ble_eq_true rfl) dX10_sheet_50 (fun r5 => ?_)
    exact q_ireti C rfl dX10_sheet_53
  refine q_iload_n C 3 dX10_sheet_16 rfl ?_
  refine q_bipush C (v := 8) dX10_sheet_17 (by decide) ?_
  refine q_icmp_eq C 40 dX10_sheet_19 rfl (fun _ => ?_) (fun _ => ?_)
  · refine q_iload_n C 3 dX10_sheet_40 rfl ?_
    refine q_if_eq C 54 dX10_sheet_41 rfl (fun _ => ?_) (fun _ => ?_)
    · refine G.sub [1, 3, 4, 0] (lv' := [(0, Rf Y 0), (2, .int a2), (3, .int a3), (4, nrf Y r1.1)]) rfl ?_
      exact w_X10_sheet_L54 C a2 a3 r1.1 h2 r1.2
    refine q_iload_n C 4 dX10_sheet_44 rfl ?_
    refine q_if_ge C 54 dX10_sheet_45 rfl (fun _ => ?_) (fun _ => ?_)
    · refine G.sub [1, 3, 4, 0] (lv' := [(0, Rf Y 0), (2, .int a2), (3, .int a3), (4, nrf Y r1.1)]) rfl ?_
      exact w_X10_sheet_L54 C a2 a3 r1.1 h2 r1.2
    refine q_aload_n C 1 dX10_sheet_48 rfl ?_
    refine q_iconst C (v := 3) dX10_sheet_49 (by decide) ?_
    refine q_cVI C lk_X10_63 (w_X10_error (Y := Y) 3 r1.2) (Nat.le_of_ble_eq_true rfl) rfl skC_0 (ltC skC_0 rfl) recv_10 (rest := []) rfl rfl (Nat.le_of_ble_eq_true rfl) dX10_sheet_50 (fun r6 => ?_)
    exact q_ireti C rfl dX10_sheet_53
  refine q_iload_n C 3 dX10_sheet_22 rfl ?_
  refine q_bipush C (v := 16) dX10_sheet_23 (by decide) ?_
  refine q_icmp_eq C 40 dX10_sheet_25 rfl (fun _ => ?_) (fun _ => ?_)
  · refine q_iload_n C 3 dX10_sheet_40 rfl ?_
    refine q_if_eq C 54 dX10_sheet_41 rfl (fun _ => ?_) (fun _ => ?_)
    · refine G.sub [1, 3, 4, 0] (lv' := [(0, Rf Y 0), (2, .int a2), (3, .int a3), (4, nrf Y r1.1)]) rfl ?_
      exact w_X10_sheet_L54 C a2 a3 r1.1 h2 r1.2
    refine q_iload_n C 4 dX10_sheet_44 rfl ?_
    refine q_if_ge C 54 dX10_sheet_45 rfl (fun _ => ?_) (fun _ => ?_)
    · refine G.sub [1, 3, 4, 0] (lv' := [(0, Rf Y 0), (2, .int a2), (3, .int a3), (4, nrf Y r1.1)]) rfl ?_
      exact w_X10_sheet_L54 C a2 a3 r1.1 h2 r1.2
    refine q_aload_n C 1 dX10_sheet_48 rfl ?_
    refine q_iconst C (v := 3) dX10_sheet_49 (by decide) ?_
    refine q_cVI C lk_X10_63 (w_X10_error (Y := Y) 3 r1.2) (Nat.le_of_ble_eq_true rfl) rfl skC_0 (ltC skC_0 rfl) recv_10 (rest := []) rfl rfl (Nat.le_of_ble_eq_true rfl) dX10_sheet_50 (fun r7 => ?_)
    exact q_ireti C rfl dX10_sheet_53
  refine q_iload_n C 3 dX10_sheet_28 rfl ?_
  refine q_bipush C (v := 32) dX10_sheet_29 (by decide) ?_
  refine q_icmp_eq C 40 dX10_sheet_31 rfl (fun _ => ?_) (fun _ => ?_)
  · refine q_iload_n C 3 dX10_sheet_40 rfl ?_
    refine q_if_eq C 54 dX10_sheet_41 rfl (fun _ => ?_) (fun _ => ?_)
    · refine G.sub [1, 3, 4, 0] (lv' := [(0, Rf Y 0), (2, .int a2), (3, .int a3), (4, nrf Y r1.1)]) rfl ?_
      exact w_X10_sheet_L54 C a2 a3 r1.1 h2 r1.2
    refine q_iload_n C 4 dX10_sheet_44 rfl ?_
    refine q_if_ge C 54 dX10_sheet_45 rfl (fun _ => ?_) (fun _ => ?_)
    · refine G.sub [1, 3, 4, 0] (lv' := [(0, Rf Y 0), (2, .int a2), (3, .int a3), (4, nrf Y r1.1)]) rfl ?_
      exact w_X10_sheet_L54 C a2 a3 r1.1 h2 r1.2
    refine q_aload_n C 1 dX10_sheet_48 rfl ?_
    refine q_iconst C (v := 3) dX10_sheet_49 (by decide) ?_
    refine q_cVI C lk_X10_63 (w_X10_error (Y := Y) 3 r1.2) (Nat.le_of_ble_eq_true rfl) rfl skC_0 (ltC skC_0 rfl) recv_10 (rest := []) rfl rfl (Nat.le_of_ble_eq_true rfl) dX10_sheet_50 (fun r8 => ?_)
    exact q_ireti C rfl dX10_sheet_53
  refine q_aload_n C 1 dX10_sheet_34 rfl ?_
  refine q_iconst C (v := 1) dX10_sheet_35 (by decide) ?_
  refine q_cVI C lk_X10_63 (w_X10_error (Y := Y) 1 r1.2) (Nat.le_of_ble_eq_true rfl) rfl skC_0 (ltC skC_0 rfl) recv_10 (rest := []) rfl rfl (Nat.le_of_ble_eq_true rfl) dX10_sheet_36 (fun r9 => ?_)
  exact q_ireti C rfl dX10_sheet_39
theorem lk_X10_314 : LkV RX10 314 yX5_isMissing cX5_isMissing 1 (some .boolean) 0 := ⟨TB_p [962, 892, 893, 80, 894] (by decide +kernel) (by decide +kernel), by decide +kernel, by decide +kernel, by decide +kernel⟩
theorem lk_X10_318 : LkV RX10 318 yX5_lowest cX5_lowest 2 (some .int) 1 := ⟨TB_p [963, 964, 965, 80, 966] (by decide +kernel) (by decide +kernel), by decide +kernel, by decide +kernel, by decide +kernel⟩
def f_X10_put (a1 : Int32) (a2 : Int32) (a3 : Int32) (σ : St) : Option (Int32 × St) := (Option.bind (f_X10_sheetAt a1 σ) fun r1 => (if r1.1 = 0 ∨ shC r1.1 = 5 then (if r1.1 = 0 then (Option.bind (f_X10_error 1 r1.2) fun r10 => (some (r10.1, r10.2))) else (Option.bind (f_X5_isMissing r1.1 r1.2) fun r4 => (if r4.1 = 0 then (Option.bind (f_X2_has (r1.1 + 1) a2 r4.2) fun r5 => (if r5.1 = 0 then (Option.bind (f_X10_error 1 r5.2) fun r8 => (some (r8.1, r8.2))) else (Option.bind (f_X5_lowest r1.1 a3 r5.2) fun r6 => (Option.bind (f_X2_set (r1.1 + 1) a2 r6.1 r6.2) fun r7 => (some (1, r7)))))) else (Option.bind (f_X10_error 2 r4.2) fun r9 => (some (r9.1, r9.2)))))) else none))
theorem w_X10_put {Y : YT} (a1 : Int32) (a2 : Int32) (a3 : Int32)   (σ : St) : CtE (emI FC Y) FC Y yX10_put cX10_put 5 (some .int) 2 [Rf Y 0, .int a1, .int a2, .int a3] σ (f_X10_put a1 a2 a3 σ) := by
  refine Ct.ofG (by decide) (Nat.le_of_ble_eq_true rfl) (fun X C0 => ?_)
  have C : Cx FC Y X cX10_put 5 RX10 (some .int) 2 (0, 0) := C0
  show G FC Y X 5 (emI FC Y) (0, 0) (0, 0) 0 [(0, Rf Y 0), (1, .int a1), (2, .int a2), (3, .int a3)] [] (RepS FC Y σ) (f_X10_put a1 a2 a3 σ)
  rw [f_X10_put]
  refine q_aload_n C 0 dX10_put_0 rfl ?_
  refine q_iload_n C 1 dX10_put_1 rfl ?_
  refine q_cVN C lk_X10_284 (w_X10_sheetAt (Y := Y) a1 σ) (Nat.le_of_ble_eq_true rfl) rfl skC_0 (ltC skC_0 rfl) recv_10 (rest := []) rfl rfl (Nat.le_of_ble_eq_true rfl) dX10_put_2 (fun r1 => ?_)
  refine G.ite (fun h2 => ?_) (fun _ => G.none)
  refine q_astorez C [(4, nrf Y r1.1), (0, Rf Y 0), (1, .int a1), (2, .int a2), (3, .int a3)] dX10_put_5 rfl rfl ?_
  refine q_aloadz C 0 dX10_put_7 rfl ?_
  refine q_ifnonnull C 18 dX10_put_9 rfl (fun h3 => ?_) (fun _ => ?_)
  · refine q_aloadz C 0 dX10_put_18 rfl ?_
    refine G.nonnull h3 ?_
    refine q_cVI C lk_X10_314 (w_X5_isMissing (Y := Y) r1.1 (h2.resolve_left h3) r1.2) (Nat.le_of_ble_eq_true rfl) rfl (h2.resolve_left h3) (ltC (h2.resolve_left h3) rfl) recv_5 (rest := []) rfl rfl (Nat.le_of_ble_eq_true rfl) dX10_put_20 (fun r4 => ?_)
    refine q_if_eq C 32 dX10_put_23 rfl (fun _ => ?_) (fun _ => ?_)
    · refine q_aloadz C 0 dX10_put_32 rfl ?_
      refine G.nonnull h3 ?_
      refine gf_X10_311 C (h2.resolve_left h3) dX10_put_34 ?_
      refine q_iload_n C 3 dX10_put_37 rfl ?_
      refine q_cVI C lk_X10_307 (w_X2_has (Y := Y) (r1.1 + 1) a2 (sf_5_1 (h2.resolve_left h3)) r4.2) (Nat.le_of_ble_eq_true rfl) rfl (sf_5_1 (h2.resolve_left h3)) (ltC (sf_5_1 (h2.resolve_left h3)) rfl) recv_2 (rest := []) rfl rfl (Nat.le_of_ble_eq_true rfl) dX10_put_38 (fun r5 => ?_)
      refine q_if_ne C 50 dX10_put_41 rfl (fun _ => ?_) (fun _ => ?_)
      · refine q_aloadz C 0 dX10_put_50 rfl ?_
        refine G.nonnull h3 ?_
        refine gf_X10_311 C (h2.resolve_left h3) dX10_put_52 ?_
        refine q_iload_n C 3 dX10_put_55 rfl ?_
        refine q_aloadz C 0 dX10_put_56 rfl ?_
        refine G.nonnull h3 ?_
        refine q_iload_n C 4 dX10_put_58 rfl ?_
        refine q_cVI C lk_X10_318 (w_X5_lowest (Y := Y) r1.1 a3 (h2.resolve_left h3) r5.2) (Nat.le_of_ble_eq_true rfl) rfl (h2.resolve_left h3) (ltC (h2.resolve_left h3) rfl) recv_5 (rest := [.int a2, Rf Y (r1.1 + 1)]) rfl rfl (Nat.le_of_ble_eq_true rfl) dX10_put_59 (fun r6 => ?_)
        refine q_cVV C lk_X10_175 (w_X2_set (Y := Y) (r1.1 + 1) a2 r6.1 (sf_5_1 (h2.resolve_left h3)) r6.2) (Nat.le_of_ble_eq_true rfl) rfl (sf_5_1 (h2.resolve_left h3)) (ltC (sf_5_1 (h2.resolve_left h3)) rfl) recv_2 (rest := []) rfl rfl (Nat.le_of_ble_eq_true rfl) dX10_put_62 (fun r7 => ?_)
        refine q_iconst C (v := 1) dX10_put_65 (by decide) ?_
        exact q_ireti C rfl dX10_put_66
      refine q_aload_n C 1 dX10_put_44 rfl ?_
      refine q_iconst C (v := 1) dX10_put_45 (by decide) ?_
      refine q_cVI C lk_X10_63 (w_X10_error (Y := Y) 1 r5.2) (Nat.le_of_ble_eq_true rfl) rfl skC_0 (ltC skC_0 rfl) recv_10 (rest := []) rfl rfl (Nat.le_of_ble_eq_true rfl) dX10_put_46 (fun r8 => ?_)
      exact q_ireti C rfl dX10_put_49
    refine q_aload_n C 1 dX10_put_26 rfl ?_
    refine q_iconst C (v := 2) dX10_put_27 (by decide) ?_
    refine q_cVI C lk_X10_63 (w_X10_error (Y := Y) 2 r4.2) (Nat.le_of_ble_eq_true rfl) rfl skC_0 (ltC skC_0 rfl) recv_10 (rest := []) rfl rfl (Nat.le_of_ble_eq_true rfl) dX10_put_28 (fun r9 => ?_)
    exact q_ireti C rfl dX10_put_31
  refine q_aload_n C 1 dX10_put_12 rfl ?_
  refine q_iconst C (v := 1) dX10_put_13 (by decide) ?_
  refine q_cVI C lk_X10_63 (w_X10_error (Y := Y) 1 r1.2) (Nat.le_of_ble_eq_true rfl) rfl skC_0 (ltC skC_0 rfl) recv_10 (rest := []) rfl rfl (Nat.le_of_ble_eq_true rfl) dX10_put_14 (fun r10 => ?_)
  exact q_ireti C rfl dX10_put_17
theorem lk_X10_321 : LkV RX10 321 yX2_hasRun cX2_hasRun 3 (some .boolean) 2 := ⟨TB_p [971, 972, 973, 72, 974] (by decide +kernel) (by decide +kernel), by decide +kernel, by decide +kernel, by decide +kernel⟩
def f_X10_move_L121 : Nat → Int32 → Int32 → Int32 → Nat → Int32 → St → Option (Int32 × St)
  | 0, _, _, _, _, _, _ => none
  | n + 1, v2, v4, v5, v7, v8, σ => (if v5 ≤ v8 then (some (v5, σ)) else (if v7 = 0 then none else (Option.bind (f_X2_get 96 (v2 + v8) σ) fun r20 => (Option.bind (f_X2_set (v7 + 1) (v4 + v8) r20.1 r20.2) fun r21 => ((f_X10_move_L121 n) v2 v4 v5 v7 (v8 + 1) r21)))))
theorem w_X10_move_L121 {Y : YT} {X : XT} (C : Cx FC Y X cX10_move 9 RX10 (some .int) 2 (0, 0)) : ∀ (n : Nat), ∀ (v2 : Int32), ∀ (v4 : Int32), ∀ (v5 : Int32), ∀ (v7 : Nat), ∀ (v8 : Int32), v7 = 0 ∨ shC v7 = 5 → ∀ (σ : St), G FC Y X 9 (emI FC Y) (0, 0) (0, 0) 121 [(0, Rf Y 0), (2, .int v2), (4, .int v4), (5, .int v5), (7, nrf Y v7), (8, .int v8)] [] (RepS FC Y σ) (f_X10_move_L121 n v2 v4 v5 v7 v8 σ) := by
  intro n
  induction n with
  | zero =>
    intro v2 v4 v5 v7 v8 hv7 σ
    rw [f_X10_move_L121]; exact G.none
  | succ n ih =>
    intro v2 v4 v5 v7 v8 hv7 σ
    rw [f_X10_move_L121]
    refine q_iload C 5 dX10_move_121 rfl ?_
    refine q_iload C 3 dX10_move_123 rfl ?_
    refine q_icmp_ge C 158 dX10_move_125 rfl (fun _ => ?_) (fun _ => ?_)
    · refine q_iload C 3 dX10_move_158 rfl ?_
      exact q_ireti C rfl dX10_move_160
    refine q_aloadz C 4 dX10_move_128 rfl ?_
    refine G.ite (fun _ => G.none) (fun h19 => ?_)
    refine G.nonnull h19 ?_
    refine gf_X10_311 C (hv7.resolve_left h19) dX10_move_130 ?_
    refine q_iload C 2 dX10_move_133 rfl ?_
    refine q_iload C 5 dX10_move_135 rfl ?_
    refine q_iadd C dX10_move_137 ?_
    refine q_aload_n C 0 dX10_move_138 rfl ?_
    refine gf_X10_44 C skC_0 dX10_move_139 ?_
    refine q_iload_n C 1 dX10_move_142 rfl ?_
    refine q_iload C 5 dX10_move_143 rfl ?_
    refine q_iadd C dX10_move_145 ?_
    refine q_cVI C lk_X10_108 (w_X2_get (Y := Y) 96 (v2 + v8) skC_96 σ) (Nat.le_of_ble_eq_true rfl) rfl skC_96 (ltC skC_96 rfl) recv_2 (rest := [.int (v4 + v8), Rf Y (v7 + 1)]) rfl rfl (Nat.le_of_ble_eq_true rfl) dX10_move_146 (fun r20 => ?_)
    refine q_cVV C lk_X10_175 (w_X2_set (Y := Y) (v7 + 1) (v4 + v8) r20.1 (sf_5_1 (hv7.resolve_left h19)) r20.2) (Nat.le_of_ble_eq_true rfl) rfl (sf_5_1 (hv7.resolve_left h19)) (ltC (sf_5_1 (hv7.resolve_left h19)) rfl) recv_2 (rest := []) rfl rfl (Nat.le_of_ble_eq_true rfl) dX10_move_149 (fun r21 => ?_)
    refine q_iinc C 5 [(8, .int (v8 + 1)), (0, Rf Y 0), (2, .int v2), (4, .int v4), (5, .int v5), (7, nrf Y v7)] dX10_move_152 rfl rfl rfl (by show (8, _) :: fil1 8 _ = _; simp [nrf_cat]) ?_
    refine q_goto C 121 dX10_move_155 rfl ?_
    refine G.sub [1, 2, 3, 4, 5, 0] (lv' := [(0, Rf Y 0), (2, .int v2), (4, .int v4), (5, .int v5), (7, nrf Y v7), (8, .int (v8 + 1))]) rfl ?_
    exact ih v2 v4 v5 v7 (v8 + 1) hv7 r21
def f_X10_move (a1 : Int32) (a2 : Int32) (a3 : Int32) (a4 : Int32) (a5 : Int32) (σ : St) : Option (Int32 × St) := (Option.bind (f_X10_sheetAt a1 σ) fun r1 => (if r1.1 = 0 ∨ shC r1.1 = 5 then (Option.bind (f_X10_sheetAt a3 r1.2) fun r3 => (if r3.1 = 0 ∨ shC r3.1 = 5 then (if r1.1 = 0 then (Option.bind (f_X10_error 1 r3.2) fun r6 => (some (r6.1, r6.2))) else (if r3.1 = 0 then (Option.bind (f_X10_error 1 r3.2) fun r18 => (some (r18.1, r18.2))) else (Option.bind (f_X5_isMissing r1.1 r3.2) fun r8 => (if r8.1 = 0 then (Option.bind (f_X5_isMissing r3.1 r8.2) fun r10 => (if r10.1 = 0 then (if (r10.2 r1.1 0) = (r10.2 r3.1 0) then (Option.bind (f_X2_hasRun (r1.1 + 1) a2 a5 r10.2) fun r11 => (if r11.1 = 0 then (Option.bind (f_X10_error 1 r11.2) fun r12 => (some (r12.1, r12.2))) else (Option.bind (f_X2_hasRun (r3.1 + 1) a4 a5 r11.2) fun r13 => (if r13.1 = 0 then (Option.bind (f_X10_error 1 r13.2) fun r15 => (some (r15.1, r15.2))) else (Option.bind (f_X2_copyFrom 96 (r1.1 + 1) r13.2) fun r14 => (f_X10_move_L121 400 a2 a4 a5 r3.1 0 r14)))))) else (Option.bind (f_X10_error 5 r10.2) fun r16 => (some (r16.1, r16.2)))) else (Option.bind (f_X10_error 2 r10.2) fun r17 => (some (r17.1, r17.2))))) else (Option.bind (f_X10_error 2 r8.2) fun r9 => (some (r9.1, r9.2))))))) else none)) else none))
theorem w_X10_move {Y : YT} (a1 : Int32) (a2 : Int32) (a3 : Int32) (a4 : Int32) (a5 : Int32)   (σ : St) : CtE (emI FC Y) FC Y yX10_move cX10_move 9 (some .int) 2 [Rf Y 0, .int a1, .int a2, .int a3, .int a4, .int a5] σ (f_X10_move a1 a2 a3 a4 a5 σ) := by
  refine Ct.ofG (by decide) (Nat.le_of_ble_eq_true rfl) (fun X C0 => ?_)
  have C : Cx FC Y X cX10_move 9 RX10 (some .int) 2 (0, 0) := C0
  show G FC Y X 9 (emI FC Y) (0, 0) (0, 0) 0 [(0, Rf Y 0), (1, .int a1), (2, .int a2), (3, .int a3), (4, .int a4), (5, .int a5)] [] (RepS FC Y σ) (f_X10_move a1 a2 a3 a4 a5 σ)
  rw [f_X10_move]
  refine q_aload_n C 0 dX10_move_0 rfl ?_
  refine q_iload_n C 1 dX10_move_1 rfl ?_
  refine q_cVN C lk_X10_284 (w_X10_sheetAt (Y := Y) a1 σ) (Nat.le_of_ble_eq_true rfl) rfl skC_0 (ltC skC_0 rfl) recv_10 (rest := []) rfl rfl (Nat.le_of_ble_eq_true rfl) dX10_move_2 (fun r1 => ?_)
  refine G.ite (fun h2 => ?_) (fun _ => G.none)
  refine q_astorez C [(6, nrf Y r1.1), (0, Rf Y 0), (1, .int a1), (2, .int a2), (3, .int a3), (4, .int a4), (5, .int a5)] dX10_move_5 rfl rfl ?_
  refine q_aload_n C 1 dX10_move_7 rfl ?_
  refine q_iload_n C 4 dX10_move_8 rfl ?_
  refine q_cVN C lk_X10_284 (w_X10_sheetAt (Y := Y) a3 r1.2) (Nat.le_of_ble_eq_true rfl) rfl skC_0 (ltC skC_0 rfl) recv_10 (rest := []) rfl rfl (Nat.le_of_ble_eq_true rfl) dX10_move_9 (fun r3 => ?_)
  refine G.ite (fun h4 => ?_) (fun _ => G.none)
  refine q_astorez C [(7, nrf Y r3.1), (6, nrf Y r1.1), (0, Rf Y 0), (1, .int a1), (2, .int a2), (3, .int a3), (4, .int a4), (5, .int a5)] dX10_move_12 rfl (by show (7, _) :: fil1 7 _ = _; simp [nrf_cat]) ?_
  refine q_aloadz C 1 dX10_move_14 rfl ?_
  refine q_ifnull C 24 dX10_move_16 rfl (fun _ => ?_) (fun h5 => ?_)
  · refine q_aload_n C 2 dX10_move_24 rfl ?_
    refine q_iconst C (v := 1) dX10_move_25 (by decide) ?_
    refine q_cVI C lk_X10_63 (w_X10_error (Y := Y) 1 r3.2) (Nat.le_of_ble_eq_true rfl) rfl skC_0 (ltC skC_0 rfl) recv_10 (rest := []) rfl rfl (Nat.le_of_ble_eq_true rfl) dX10_move_26 (fun r6 => ?_)
    exact q_ireti C rfl dX10_move_29
  refine q_aloadz C 0 dX10_move_19 rfl ?_
  refine q_ifnonnull C 30 dX10_move_21 rfl (fun h7 => ?_) (fun _ => ?_)
  · refine q_aloadz C 1 dX10_move_30 rfl ?_
    refine G.nonnull h5 ?_
    refine q_cVI C lk_X10_314 (w_X5_isMissing (Y := Y) r1.1 (h2.resolve_left h5) r3.2) (Nat.le_of_ble_eq_true rfl) rfl (h2.resolve_left h5) (ltC (h2.resolve_left h5) rfl) recv_5 (rest := []) rfl rfl (Nat.le_of_ble_eq_true rfl) dX10_move_32 (fun r8 => ?_)
    refine q_if_ne C 46 dX10_move_35 rfl (fun _ => ?_) (fun _ => ?_)
    · refine q_aload_n C 2 dX10_move_46 rfl ?_
      refine q_iconst C (v := 2) dX10_move_47 (by decide) ?_
      refine q_cVI C lk_X10_63 (w_X10_error (Y := Y) 2 r8.2) (Nat.le_of_ble_eq_true rfl) rfl skC_0 (ltC skC_0 rfl) recv_10 (rest := []) rfl rfl (Nat.le_of_ble_eq_true rfl) dX10_move_48 (fun r9 => ?_)
      exact q_ireti C rfl dX10_move_51
    refine q_aloadz C 0 dX10_move_38 rfl ?_
    refine G.nonnull h7 ?_
    refine q_cVI C lk_X10_314 (w_X5_isMissing (Y := Y) r3.1 (h4.resolve_left h7) r8.2) (Nat.le_of_ble_eq_true rfl) rfl (h4.resolve_left h7) (ltC (h4.resolve_left h7) rfl) recv_5 (rest := []) rfl rfl (Nat.le_of_ble_eq_true rfl) dX10_move_40 (fun r10 => ?_)
    refine q_if_eq C 52 dX10_move_43 rfl (fun _ => ?_) (fun _ => ?_)
    · refine q_aloadz C 1 dX10_move_52 rfl ?_
      refine G.nonnull h5 ?_
      refine gf_X10_308 C (h2.resolve_left h5) dX10_move_54 ?_
      refine q_aloadz C 0 dX10_move_57 rfl ?_
      refine G.nonnull h7 ?_
      refine gf_X10_308 C (h4.resolve_left h7) dX10_move_59 ?_
      refine q_icmp_eq C 71 dX10_move_62 rfl (fun _ => ?_) (fun _ => ?_)
      · refine q_aloadz C 1 dX10_move_71 rfl ?_
        refine G.nonnull h5 ?_
        refine gf_X10_311 C (h2.resolve_left h5) dX10_move_73 ?_
        refine q_iload_n C 4 dX10_move_76 rfl ?_
        refine q_iload C 7 dX10_move_77 rfl ?_
        refine q_cVI C lk_X10_321 (w_X2_hasRun (Y := Y) (r1.1 + 1) a2 a5 (sf_5_1 (h2.resolve_left h5)) r10.2) (Nat.le_of_ble_eq_true rfl) rfl (sf_5_1 (h2.resolve_left h5)) (ltC (sf_5_1 (h2.resolve_left h5)) rfl) recv_2 (rest := []) rfl rfl (Nat.le_of_ble_eq_true rfl) dX10_move_79 (fun r11 => ?_)
        refine q_if_eq C 100 dX10_move_82 rfl (fun _ => ?_) (fun _ => ?_)
        · refine q_aload_n C 2 dX10_move_100 rfl ?_
          refine q_iconst C (v := 1) dX10_move_101 (by decide) ?_
          refine q_cVI C lk_X10_63 (w_X10_error (Y := Y) 1 r11.2) (Nat.le_of_ble_eq_true rfl) rfl skC_0 (ltC skC_0 rfl) recv_10 (rest := []) rfl rfl (Nat.le_of_ble_eq_true rfl) dX10_move_102 (fun r12 => ?_)
          exact q_ireti C rfl dX10_move_105
        refine q_aloadz C 0 dX10_move_85 rfl ?_
        refine G.nonnull h7 ?_
        refine gf_X10_311 C (h4.resolve_left h7) dX10_move_87 ?_
        refine q_iload C 6 dX10_move_90 rfl ?_
        refine q_iload C 7 dX10_move_92 rfl ?_
        refine q_cVI C lk_X10_321 (w_X2_hasRun (Y := Y) (r3.1 + 1) a4 a5 (sf_5_1 (h4.resolve_left h7)) r11.2) (Nat.le_of_ble_eq_true rfl) rfl (sf_5_1 (h4.resolve_left h7)) (ltC (sf_5_1 (h4.resolve_left h7)) rfl) recv_2 (rest := []) rfl rfl (Nat.le_of_ble_eq_true rfl) dX10_move_94 (fun r13 => ?_)
        refine q_if_ne C 106 dX10_move_97 rfl (fun _ => ?_) (fun _ => ?_)
        · refine q_aload_n C 2 dX10_move_106 rfl ?_
          refine gf_X10_44 C skC_0 dX10_move_107 ?_
          refine q_aloadz C 1 dX10_move_110 rfl ?_
          refine G.nonnull h5 ?_
          refine gf_X10_311 C (h2.resolve_left h5) dX10_move_112 ?_
          refine q_cVV C lk_X10_235 (w_X2_copyFrom (Y := Y) 96 (r1.1 + 1) skC_96 (sf_5_1 (h2.resolve_left h5)) r13.2) (Nat.le_of_ble_eq_true rfl) rfl skC_96 (ltC skC_96 rfl) recv_2 (rest := []) rfl rfl (Nat.le_of_ble_eq_true rfl) dX10_move_115 (fun r14 => ?_)
          refine q_iconst C (v := 0) dX10_move_118 (by decide) ?_
          refine q_istore C [(8, .int 0), (7, nrf Y r3.1), (6, nrf Y r1.1), (0, Rf Y 0), (1, .int a1), (2, .int a2), (3, .int a3), (4, .int a4), (5, .int a5)] dX10_move_119 rfl (by show (8, _) :: fil1 8 _ = _; simp [nrf_cat]) ?_
          refine G.sub [3, 5, 7, 8, 1, 0] (lv' := [(0, Rf Y 0), (2, .int a2), (4, .int a4), (5, .int a5), (7, nrf Y r3.1), (8, .int 0)]) rfl ?_
          exact w_X10_move_L121 C 400 a2 a4 a5 r3.1 0 h4 r14
        refine q_aload_n C 2 dX10_move_100 rfl ?_
        refine q_iconst C (v := 1) dX10_move_101 (by decide) ?_
        refine q_cVI C lk_X10_63 (w_X10_error (Y := Y) 1 r13.2) (Nat.le_of_ble_eq_true rfl) rfl skC_0 (ltC skC_0 rfl) recv_10 (rest := []) rfl rfl (Nat.le_of_ble_eq_true rfl) dX10_move_102 (fun r15 => ?_)
        exact q_ireti C rfl dX10_move_105
      refine q_aload_n C 2 dX10_move_65 rfl ?_
      refine q_iconst C (v := 5) dX10_move_66 (by decide) ?_
      refine q_cVI C lk_X10_63 (w_X10_error (Y := Y) 5 r10.2) (Nat.le_of_ble_eq_true rfl) rfl skC_0 (ltC skC_0 rfl) recv_10 (rest := []) rfl rfl (Nat.le_of_ble_eq_true rfl) dX10_move_67 (fun r16 => ?_)
      exact q_ireti C rfl dX10_move_70
    refine q_aload_n C 2 dX10_move_46 rfl ?_
    refine q_iconst C (v := 2) dX10_move_47 (by decide) ?_
    refine q_cVI C lk_X10_63 (w_X10_error (Y := Y) 2 r10.2) (Nat.le_of_ble_eq_true rfl) rfl skC_0 (ltC skC_0 rfl) recv_10 (rest := []) rfl rfl (Nat.le_of_ble_eq_true rfl) dX10_move_48 (fun r17 => ?_)
    exact q_ireti C rfl dX10_move_51
  refine q_aload_n C 2 dX10_move_24 rfl ?_
  refine q_iconst C (v := 1) dX10_move_25 (by decide) ?_
  refine q_cVI C lk_X10_63 (w_X10_error (Y := Y) 1 r3.2) (Nat.le_of_ble_eq_true rfl) rfl skC_0 (ltC skC_0 rfl) recv_10 (rest := []) rfl rfl (Nat.le_of_ble_eq_true rfl) dX10_move_26 (fun r18 => ?_)
  exact q_ireti C rfl dX10_move_29
def f_X10_palates_L53 : Nat → Nat → Int32 → Int32 → St → Option (Int32 × St)
  | 0, _, _, _, _ => none
  | n + 1, v2, v3, v4, σ => (if v3 ≤ v4 then (some (v3, σ)) else (if v2 = 0 then none else (Option.bind (f_X2_get (v2 + 1) v4 σ) fun r10 => (Option.bind (f_X10_within r10.1 0 99 r10.2) fun r11 => (if r11.1 = 0 then (some (v4, r11.2)) else (Option.bind (f_X2_set 25 v4 r10.1 r11.2) fun r12 => ((f_X10_palates_L53 n) v2 v3 (v4 + 1) r12)))))))
theorem w_X10_palates_L53 {Y : YT} {X : XT} (C : Cx FC Y X cX10_palates 6 RX10 (some .int) 2 (0, 0)) : ∀ (n : Nat), ∀ (v2 : Nat), ∀ (v3 : Int32), ∀ (v4 : Int32), v2 = 0 ∨ shC v2 = 5 → ∀ (σ : St), G FC Y X 6 (emI FC Y) (0, 0) (0, 0) 53 [(0, Rf Y 0), (2, nrf Y v2), (3, .int v3), (4, .int v4)] [] (RepS FC Y σ) (f_X10_palates_L53 n v2 v3 v4 σ) := by
  intro n
  induction n with
  | zero =>
    intro v2 v3 v4 hv2 σ
    rw [f_X10_palates_L53]; exact G.none
  | succ n ih =>
    intro v2 v3 v4 hv2 σ
    rw [f_X10_palates_L53]
    refine q_iload C 3 dX10_palates_53 rfl ?_
    refine q_iload_n C 2 dX10_palates_55 rfl ?_
    refine q_icmp_ge C 107 dX10_palates_56 rfl (fun _ => ?_) (fun _ => ?_)
    · refine q_iload_n C 2 dX10_palates_107 rfl ?_
      exact q_ireti C rfl dX10_palates_108
    refine q_aloadz_n C 1 dX10_palates_59 rfl ?_
    refine G.ite (fun _ => G.none) (fun h9 => ?_)
    refine G.nonnull h9 ?_
    refine gf_X10_311 C (hv2.resolve_left h9) dX10_palates_60 ?_
    refine q_iload C 3 dX10_palates_63 rfl ?_
    refine q_cVI C lk_X10_108 (w_X2_get (Y := Y) (v2 + 1) v4 (sf_5_1 (hv2.resolve_left h9)) σ) (Nat.le_of_ble_eq_true rfl) rfl (sf_5_1 (hv2.resolve_left h9)) (ltC (sf_5_1 (hv2.resolve_left h9)) rfl) recv_2 (rest := []) rfl rfl (Nat.le_of_ble_eq_true rfl) dX10_palates_65 (fun r10 => ?_)
    refine q_istore C [(5, .int r10.1), (0, Rf Y 0), (2, nrf Y v2), (3, .int v3), (4, .int v4)] dX10_palates_68 rfl rfl ?_
    refine q_iload C 0 dX10_palates_70 rfl ?_
    refine q_iconst C (v := 0) dX10_palates_72 (by decide) ?_
    refine q_bipush C (v := 99) dX10_palates_73 (by decide) ?_
    refine q_cSI C lk_X10_59 (w_X10_within (Y := Y) r10.1 0 99 r10.2) (Nat.le_of_ble_eq_true rfl) rfl (rest := []) rfl rfl (Nat.le_of_ble_eq_true rfl) dX10_palates_75 (fun r11 => ?_)
    refine q_if_ne C 84 dX10_palates_78 rfl (fun _ => ?_) (fun _ => ?_)
    · refine q_aload_n C 1 dX10_palates_84 rfl ?_
      refine gf_X10_10 C skC_0 dX10_palates_85 ?_
      refine gf_X10_84 C skC_1 dX10_palates_88 ?_
      refine gf_X10_202 C skC_22 dX10_palates_91 ?_
      refine q_iload C 4 dX10_palates_94 rfl ?_
      refine q_iload C 0 dX10_palates_96 rfl ?_
      refine q_cVV C lk_X10_175 (w_X2_set (Y := Y) 25 v4 r10.1 skC_25 r11.2) (Nat.le_of_ble_eq_true rfl) rfl skC_25 (ltC skC_25 rfl) recv_2 (rest := []) rfl rfl (Nat.le_of_ble_eq_true rfl) dX10_palates_98 (fun r12 => ?_)
      refine q_iinc C 4 [(4, .int (v4 + 1)), (5, .int r10.1), (0, Rf Y 0), (2, nrf Y v2), (3, .int v3)] dX10_palates_101 rfl rfl rfl rfl ?_
      refine q_goto C 53 dX10_palates_104 rfl ?_
      refine G.sub [2, 3, 4, 0] (lv' := [(0, Rf Y 0), (2, nrf Y v2), (3, .int v3), (4, .int (v4 + 1))]) rfl ?_
      exact ih v2 v3 (v4 + 1) hv2 r12
    refine q_iload C 4 dX10_palates_81 rfl ?_
    exact q_ireti C rfl dX10_palates_83
def f_X10_palates (a1 : Int32) (σ : St) : Option (Int32 × St) := (Option.bind (f_X10_sheetAt a1 σ) fun r1 => (if r1.1 = 0 ∨ shC r1.1 = 5 then (if r1.1 = 0 then (Option.bind (f_X10_error 1 r1.2) fun r8 => (some (r8.1, r8.2))) else (Option.bind (f_X5_isMissing r1.1 r1.2) fun r4 => (if r4.1 = 0 then (Option.bind (f_X2_size (r1.1 + 1) r4.2) fun r5 => (Option.bind (f_X0_size r5.2) fun r6 => (f_X10_palates_L53 400 r1.1 (imin r5.1 r6.1) 0 r6.2))) else (Option.bind (f_X10_error 2 r4.2) fun r7 => (some (r7.1, r7.2)))))) else none))
theorem w_X10_palates {Y : YT} (a1 : Int32)   (σ : St) : CtE (emI FC Y) FC Y yX10_palates cX10_palates 6 (some .int) 2 [Rf Y 0, .int a1] σ (f_X10_palates a1 σ) := by
  refine Ct.ofG (by decide) (Nat.le_of_ble_eq_true rfl) (fun X C0 => ?_)
  have C : Cx FC Y X cX10_palates 6 RX10 (some .int) 2 (0, 0) := C0
  show G FC Y X 6 (emI FC Y) (0, 0) (0, 0) 0 [(0, Rf Y 0), (1, .int a1)] [] (RepS FC Y σ) (f_X10_palates a1 σ)
  rw [f_X10_palates]
  refine q_aload_n C 0 dX10_palates_0 rfl ?_
  refine q_iload_n C 1 dX10_palates_1 rfl ?_
  refine q_cVN C lk_X10_284 (w_X10_sheetAt (Y := Y) a1 σ) (Nat.le_of_ble_eq_true rfl) rfl skC_0 (ltC skC_0 rfl) recv_10 (rest := []) rfl rfl (Nat.le_of_ble_eq_true rfl) dX10_palates_2 (fun r1 => ?_)
  refine G.ite (fun h2 => ?_) (fun _ => G.none)
  refine q_astorez_n C [(2, nrf Y r1.1), (0, Rf Y 0), (1, .int a1)] dX10_palates_5 rfl rfl ?_
  refine q_aloadz_n C 0 dX10_palates_6 rfl ?_
  refine q_ifnonnull C 16 dX10_palates_7 rfl (fun h3 => ?_) (fun _ => ?_)
  · refine q_aloadz_n C 0 dX10_palates_16 rfl ?_
    refine G.nonnull h3 ?_
    refine q_cVI C lk_X10_314 (w_X5_isMissing (Y := Y) r1.1 (h2.resolve_left h3) r1.2) (Nat.le_of_ble_eq_true rfl) rfl (h2.resolve_left h3) (ltC (h2.resolve_left h3) rfl) recv_5 (rest := []) rfl rfl (Nat.le_of_ble_eq_true rfl) dX10_palates_17 (fun r4 => ?_)
    refine q_if_eq C 29 dX10_palates_20 rfl (fun _ => ?_) (fun _ => ?_)
    · refine q_aloadz_n C 0 dX10_palates_29 rfl ?_
      refine G.nonnull h3 ?_
      refine gf_X10_311 C (h2.resolve_left h3) dX10_palates_30 ?_
      refine q_cVI C lk_X10_211 (w_X2_size (Y := Y) (r1.1 + 1) (sf_5_1 (h2.resolve_left h3)) r4.2) (Nat.le_of_ble_eq_true rfl) rfl (sf_5_1 (h2.resolve_left h3)) (ltC (sf_5_1 (h2.resolve_left h3)) rfl) recv_2 (rest := []) rfl rfl (Nat.le_of_ble_eq_true rfl) dX10_palates_33 (fun r5 => ?_)
      refine q_aload_n C 1 dX10_palates_36 rfl ?_
      refine gf_X10_10 C skC_0 dX10_palates_37 ?_
      refine gf_X10_84 C skC_1 dX10_palates_40 ?_
      refine q_cVI C lk_X10_88 (w_X0_size (Y := Y) r5.2) (Nat.le_of_ble_eq_true rfl) rfl skC_22 (ltC skC_22 rfl) recv_0 (rest := [.int r5.1]) rfl rfl (Nat.le_of_ble_eq_true rfl) dX10_palates_43 (fun r6 => ?_)
      refine q_mmin C (idx := 324) (TB_of (List.mem_of_getElem? (i := 979) (by decide +kernel)) rfl) (Nat.le_of_ble_eq_true rfl) (Nat.le_of_ble_eq_true rfl) dX10_palates_46 ?_
      refine q_istore_n C [(3, .int (imin r5.1 r6.1)), (2, nrf Y r1.1), (0, Rf Y 0), (1, .int a1)] dX10_palates_49 rfl (by show (3, _) :: fil1 3 _ = _; simp [nrf_cat]) ?_
      refine q_iconst C (v := 0) dX10_palates_50 (by decide) ?_
      refine q_istore C [(4, .int 0), (3, .int (imin r5.1 r6.1)), (2, nrf Y r1.1), (0, Rf Y 0), (1, .int a1)] dX10_palates_51 rfl rfl ?_
      refine G.sub [3, 2, 1, 0] (lv' := [(0, Rf Y 0), (2, nrf Y r1.1), (3, .int (imin r5.1 r6.1)), (4, .int 0)]) rfl ?_
      exact w_X10_palates_L53 C 400 r1.1 (imin r5.1 r6.1) 0 h2 r6.2
    refine q_aload_n C 1 dX10_palates_23 rfl ?_
    refine q_iconst C (v := 2) dX10_palates_24 (by decide) ?_
    refine q_cVI C lk_X10_63 (w_X10_error (Y := Y) 2 r4.2) (Nat.le_of_ble_eq_true rfl) rfl skC_0 (ltC skC_0 rfl) recv_10 (rest := []) rfl rfl (Nat.le_of_ble_eq_true rfl) dX10_palates_25 (fun r7 => ?_)
    exact q_ireti C rfl dX10_palates_28
  refine q_aload_n C 1 dX10_palates_10 rfl ?_
  refine q_iconst C (v := 1) dX10_palates_11 (by decide) ?_
  refine q_cVI C lk_X10_63 (w_X10_error (Y := Y) 1 r1.2) (Nat.le_of_ble_eq_true rfl) rfl skC_0 (ltC skC_0 rfl) recv_10 (rest := []) rfl rfl (Nat.le_of_ble_eq_true rfl) dX10_palates_12 (fun r8 => ?_)
  exact q_ireti C rfl dX10_palates_15
def f_X10_judge_L53 : Nat → Nat → Int32 → Int32 → St → Option (Int32 × St)
  | 0, _, _, _, _ => none
  | n + 1, v2, v3, v4, σ => (if v3 ≤ v4 then (if v2 = 0 then none else (Option.bind (f_X2_size (v2 + 1) σ) fun r10 => (Option.bind (f_X4_size r10.2) fun r11 => (if r10.1 = r11.1 then (some ((-1), r11.2)) else (some (v3, r11.2)))))) else (if v2 = 0 then none else (Option.bind (f_X2_get (v2 + 1) v4 σ) fun r13 => (Option.bind (f_X2_get 16 v4 r13.2) fun r14 => (if r13.1 = r14.1 then ((f_X10_judge_L53 n) v2 v3 (v4 + 1) r14.2) else (some (v4, r14.2)))))))
theorem w_X10_judge_L53 {Y : YT} {X : XT} (C : Cx FC Y X cX10_judge 5 RX10 (some .int) 2 (0, 0)) : ∀ (n : Nat), ∀ (v2 : Nat), ∀ (v3 : Int32), ∀ (v4 : Int32), v2 = 0 ∨ shC v2 = 5 → ∀ (σ : St), G FC Y X 5 (emI FC Y) (0, 0) (0, 0) 53 [(0, Rf Y 0), (2, nrf Y v2), (3, .int v3), (4, .int v4)] [] (RepS FC Y σ) (f_X10_judge_L53 n v2 v3 v4 σ) := by
  intro n
  induction n with
  | zero =>
    intro v2 v3 v4 hv2 σ
    rw [f_X10_judge_L53]; exact G.none
  | succ n ih =>
    intro v2 v3 v4 hv2 σ
    rw [f_X10_judge_L53]
    refine q_iload C 3 dX10_judge_53 rfl ?_
    refine q_iload_n C 2 dX10_judge_55 rfl ?_
    refine q_icmp_ge C 95 dX10_judge_56 rfl (fun _ => ?_) (fun _ => ?_)
    · refine q_aloadz_n C 1 dX10_judge_95 rfl ?_
      refine G.ite (fun _ => G.none) (fun h9 => ?_)
      refine G.nonnull h9 ?_
      refine gf_X10_311 C (hv2.resolve_left h9) dX10_judge_96 ?_
      refine q_cVI C lk_X10_211 (w_X2_size (Y := Y) (v2 + 1) (sf_5_1 (hv2.resolve_left h9)) σ) (Nat.le_of_ble_eq_true rfl) rfl (sf_5_1 (hv2.resolve_left h9)) (ltC (sf_5_1 (hv2.resolve_left h9)) rfl) recv_2 (rest := []) rfl rfl (Nat.le_of_ble_eq_true rfl) dX10_judge_99 (fun r10 => ?_)
      refine q_aload_n C 0 dX10_judge_102 rfl ?_
      refine gf_X10_10 C skC_0 dX10_judge_103 ?_
      refine gf_X10_77 C skC_1 dX10_judge_106 ?_
      refine q_cVI C lk_X10_81 (w_X4_size (Y := Y) r10.2) (Nat.le_of_ble_eq_true rfl) rfl skC_9 (ltC skC_9 rfl) recv_4 (rest := [.int r10.1]) rfl rfl (Nat.le_of_ble_eq_true rfl) dX10_judge_109 (fun r11 => ?_)
      refine q_icmp_ne C 119 dX10_judge_112 rfl (fun _ => ?_) (fun _ => ?_)
      · refine q_iload_n C 2 dX10_judge_119 rfl ?_
        exact q_ireti C rfl dX10_judge_120
      refine q_iconst C (v := (-1)) dX10_judge_115 (by decide) ?_
      refine q_goto C 120 dX10_judge_116 rfl ?_
      exact q_ireti C rfl dX10_judge_120
    refine q_aloadz_n C 1 dX10_judge_59 rfl ?_
    refine G.ite (fun _ => G.none) (fun h12 => ?_)
    refine G.nonnull h12 ?_
    refine gf_X10_311 C (hv2.resolve_left h12) dX10_judge_60 ?_
    refine q_iload C 3 dX10_judge_63 rfl ?_
    refine q_cVI C lk_X10_108 (w_X2_get (Y := Y) (v2 + 1) v4 (sf_5_1 (hv2.resolve_left h12)) σ) (Nat.le_of_ble_eq_true rfl) rfl (sf_5_1 (hv2.resolve_left h12)) (ltC (sf_5_1 (hv2.resolve_left h12)) rfl) recv_2 (rest := []) rfl rfl (Nat.le_of_ble_eq_true rfl) dX10_judge_65 (fun r13 => ?_)
    refine q_aload_n C 0 dX10_judge_68 rfl ?_
    refine gf_X10_10 C skC_0 dX10_judge_69 ?_
    refine gf_X10_77 C skC_1 dX10_judge_72 ?_
    refine gf_X10_172 C skC_9 dX10_judge_75 ?_
    refine q_iload C 3 dX10_judge_78 rfl ?_
    refine q_cVI C lk_X10_108 (w_X2_get (Y := Y) 16 v4 skC_16 r13.2) (Nat.le_of_ble_eq_true rfl) rfl skC_16 (ltC skC_16 rfl) recv_2 (rest := [.int r13.1]) rfl rfl (Nat.le_of_ble_eq_true rfl) dX10_judge_80 (fun r14 => ?_)
    refine q_icmp_eq C 89 dX10_judge_83 rfl (fun _ => ?_) (fun _ => ?_)
    · refine q_iinc C 3 [(4, .int (v4 + 1)), (0, Rf Y 0), (2, nrf Y v2), (3, .int v3)] dX10_judge_89 rfl rfl rfl rfl ?_
      refine q_goto C 53 dX10_judge_92 rfl ?_
      refine G.sub [1, 2, 3, 0] (lv' := [(0, Rf Y 0), (2, nrf Y v2), (3, .int v3), (4, .int (v4 + 1))]) rfl ?_
      exact ih v2 v3 (v4 + 1) hv2 r14.2
    refine q_iload C 3 dX10_judge_86 rfl ?_
    exact q_ireti C rfl dX10_judge_88
def f_X10_judge (a1 : Int32) (σ : St) : Option (Int32 × St) := (Option.bind (f_X10_sheetAt a1 σ) fun r1 => (if r1.1 = 0 ∨ shC r1.1 = 5 then (if r1.1 = 0 then (Option.bind (f_X10_error 1 r1.2) fun r8 => (some (r8.1, r8.2))) else (Option.bind (f_X5_isMissing r1.1 r1.2) fun r4 => (if r4.1 = 0 then (Option.bind (f_X2_size (r1.1 + 1) r4.2) fun r5 => (Option.bind (f_X4_size r5.2) fun r6 => (f_X10_judge_L53 400 r1.1 (imin r5.1 r6.1) 0 r6.2))) else (Option.bind (f_X10_error 2 r4.2) fun r7 => (some (r7.1, r7.2)))))) else none))
theorem w_X10_judge {Y : YT} (a1 : Int32)   (σ : St) : CtE (emI FC Y) FC Y yX10_judge cX10_judge 5 (some .int) 2 [Rf Y 0, .int a1] σ (f_X10_judge a1 σ) := by
  refine Ct.ofG (by decide) (Nat.le_of_ble_eq_true rfl) (fun X C0 => ?_)
  have C : Cx FC Y X cX10_judge 5 RX10 (some .int) 2 (0, 0) := C0
  show G FC Y X 5 (emI FC Y) (0, 0) (0, 0) 0 [(0, Rf Y 0), (1, .int a1)] [] (RepS FC Y σ) (f_X10_judge a1 σ)
  rw [f_X10_judge]
  refine q_aload_n C 0 dX10_judge_0 rfl ?_
  refine q_iload_n C 1 dX10_judge_1 rfl ?_
  refine q_cVN C lk_X10_284 (w_X10_sheetAt (Y := Y) a1 σ) (Nat.le_of_ble_eq_true rfl) rfl skC_0 (ltC skC_0 rfl) recv_10 (rest := []) rfl rfl (Nat.le_of_ble_eq_true rfl) dX10_judge_2 (fun r1 => ?_)
  refine G.ite (fun h2 => ?_) (fun _ => G.none)
  refine q_astorez_n C [(2, nrf Y r1.1), (0, Rf Y 0), (1, .int a1)] dX10_judge_5 rfl rfl ?_
  refine q_aloadz_n C 0 dX10_judge_6 rfl ?_
  refine q_ifnonnull C 16 dX10_judge_7 rfl (fun h3 => ?_) (fun _ => ?_)
  · refine q_aloadz_n C 0 dX10_judge_16 rfl ?_
    refine G.nonnull h3 ?_
    refine q_cVI C lk_X10_314 (w_X5_isMissing (Y := Y) r1.1 (h2.resolve_left h3) r1.2) (Nat.le_of_ble_eq_true rfl) rfl (h2.resolve_left h3) (ltC (h2.resolve_left h3) rfl) recv_5 (rest := []) rfl rfl (Nat.le_of_ble_eq_true rfl) dX10_judge_17 (fun r4 => ?_)
    refine q_if_eq C 29 dX10_judge_20 rfl (fun _ => ?_) (fun _ => ?_)
    · refine q_aloadz_n C 0 dX10_judge_29 rfl ?_
      refine G.nonnull h3 ?_
      refine gf_X10_311 C (h2.resolve_left h3) dX10_judge_30 ?_
      refine q_cVI C lk_X10_211 (w_X2_size (Y := Y) (r1.1 + 1) (sf_5_1 (h2.resolve_left h3)) r4.2) (Nat.le_of_ble_eq_true rfl) rfl (sf_5_1 (h2.resolve_left h3)) (ltC (sf_5_1 (h2.resolve_left h3)) rfl) recv_2 (rest := []) rfl rfl (Nat.le_of_ble_eq_true rfl) dX10_judge_33 (fun r5 => ?_)
      refine q_aload_n C 1 dX10_judge_36 rfl ?_
      refine gf_X10_10 C skC_0 dX10_judge_37 ?_
      refine gf_X10_77 C skC_1 dX10_judge_40 ?_
      refine q_cVI C lk_X10_81 (w_X4_size (Y := Y) r5.2) (Nat.le_of_ble_eq_true rfl) rfl skC_9 (ltC skC_9 rfl) recv_4 (rest := [.int r5.1]) rfl rfl (Nat.le_of_ble_eq_true rfl) dX10_judge_43 (fun r6 => ?_)
      refine q_mmin C (idx := 324) (TB_of (List.mem_of_getElem? (i := 979) (by decide +kernel)) rfl) (Nat.le_of_ble_eq_true rfl) (Nat.le_of_ble_eq_true rfl) dX10_judge_46 ?_
      refine q_istore_n C [(3, .int (imin r5.1 r6.1)), (2, nrf Y r1.1), (0, Rf Y 0), (1, .int a1)] dX10_judge_49 rfl (by show (3, _) :: fil1 3 _ = _; simp [nrf_cat]) ?_
      refine q_iconst C (v := 0) dX10_judge_50 (by decide) ?_
      refine q_istore C [(4, .int 0), (3, .int (imin r5.1 r6.1)), (2, nrf Y r1.1), (0, Rf Y 0), (1, .int a1)] dX10_judge_51 rfl rfl ?_
      refine G.sub [3, 2, 1, 0] (lv' := [(0, Rf Y 0), (2, nrf Y r1.1), (3, .int (imin r5.1 r6.1)), (4, .int 0)]) rfl ?_
      exact w_X10_judge_L53 C 400 r1.1 (imin r5.1 r6.1) 0 h2 r6.2
    refine q_aload_n C 1 dX10_judge_23 rfl ?_
    refine q_iconst C (v := 2) dX10_judge_24 (by decide) ?_
    refine q_cVI C lk_X10_63 (w_X10_error (Y := Y) 2 r4.2) (Nat.le_of_ble_eq_true rfl) rfl skC_0 (ltC skC_0 rfl) recv_10 (rest := []) rfl rfl (Nat.le_of_ble_eq_true rfl) dX10_judge_25 (fun r7 => ?_)
    exact q_ireti C rfl dX10_judge_28
  refine q_aload_n C 1 dX10_judge_10 rfl ?_
  refine q_iconst C (v := 1) dX10_judge_11 (by decide) ?_
  refine q_cVI C lk_X10_63 (w_X10_error (Y := Y) 1 r1.2) (Nat.le_of_ble_eq_true rfl) rfl skC_0 (ltC skC_0 rfl) recv_10 (rest := []) rfl rfl (Nat.le_of_ble_eq_true rfl) dX10_judge_12 (fun r8 => ?_)
  exact q_ireti C rfl dX10_judge_15
theorem lk_X10_329 : LkV RX10 329 yX7_copyFrom cX7_copyFrom 2 none 1 := ⟨TB_p [988, 989, 990, 70, 991] (by decide +kernel) (by decide +kernel), by decide +kernel, by decide +kernel, by decide +kernel⟩
def f_X10_image  (σ : St) : Option (Int32 × St) := (Option.bind (f_X7_copyFrom 44 1 σ) fun r1 => (Bst (up r1 0 7 ((r1 0 7) + 1)) fun s2 => (some ((s2 0 7), s2))))
theorem w_X10_image {Y : YT}    (σ : St) : CtE (emI FC Y) FC Y yX10_image cX10_image 1 (some .int) 4 [Rf Y 0] σ (f_X10_image σ) := by
  refine Ct.ofG (by decide) (Nat.le_of_ble_eq_true rfl) (fun X C0 => ?_)
  have C : Cx FC Y X cX10_image 1 RX10 (some .int) 4 (0, 0) := C0
  show G FC Y X 1 (emI FC Y) (0, 0) (0, 0) 0 [(0, Rf Y 0)] [] (RepS FC Y σ) (f_X10_image σ)
  rw [f_X10_image]
  refine q_aload_n C 0 dX10_image_0 rfl ?_
  refine gf_X10_16 C skC_0 dX10_image_1 ?_
  refine q_aload_n C 0 dX10_image_4 rfl ?_
  refine gf_X10_10 C skC_0 dX10_image_5 ?_
  refine q_cVV C lk_X10_329 (w_X7_copyFrom (Y := Y) 44 1 skC_44 skC_1 σ) (Nat.le_of_ble_eq_true rfl) rfl skC_44 (ltC skC_44 rfl) recv_7 (rest := []) rfl rfl (Nat.le_of_ble_eq_true rfl) dX10_image_8 (fun r1 => ?_)
  refine q_aload_n C 0 dX10_image_11 rfl ?_
  refine q_dup C dX10_image_12 rfl ?_
  refine gf_X10_51 C skC_0 dX10_image_13 ?_
  refine q_iconst C (v := 1) dX10_image_16 (by decide) ?_
  refine q_iadd C dX10_image_17 ?_
  refine pf_X10_51 C skC_0 dX10_image_18 (fun s2 => ?_)
  refine q_aload_n C 0 dX10_image_21 rfl ?_
  refine gf_X10_51 C skC_0 dX10_image_22 ?_
  exact q_ireti C rfl dX10_image_25
def f_X10_restore  (σ : St) : Option (Int32 × St) := (if (σ 0 7) = 0 then (Option.bind (f_X10_error 2 σ) fun r2 => (some (r2.1, r2.2))) else (Option.bind (f_X7_copyFrom 1 44 σ) fun r1 => (some ((r1 1 2), r1))))
theorem w_X10_restore {Y : YT}    (σ : St) : CtE (emI FC Y) FC Y yX10_restore cX10_restore 1 (some .int) 4 [Rf Y 0] σ (f_X10_restore σ) := by
  refine Ct.ofG (by decide) (Nat.le_of_ble_eq_true rfl) (fun X C0 => ?_)
  have C : Cx FC Y X cX10_restore 1 RX10 (some .int) 4 (0, 0) := C0
  show G FC Y X 1 (emI FC Y) (0, 0) (0, 0) 0 [(0, Rf Y 0)] [] (RepS FC Y σ) (f_X10_restore σ)
  rw [f_X10_restore]
  refine q_aload_n C 0 dX10_restore_0 rfl ?_
  refine gf_X10_51 C skC_0 dX10_restore_1 ?_
  refine q_if_ne C 13 dX10_restore_4 rfl (fun _ => ?_) (fun _ => ?_)
  · refine q_aload_n C 0 dX10_restore_13 rfl ?_
    refine gf_X10_10 C skC_0 dX10_restore_14 ?_
    refine q_aload_n C 0 dX10_restore_17 rfl ?_
    refine gf_X10_16 C skC_0 dX10_restore_18 ?_
    refine q_cVV C lk_X10_329 (w_X7_copyFrom (Y := Y) 1 44 skC_1 skC_44 σ) (Nat.le_of_ble_eq_true rfl) rfl skC_1 (ltC skC_1 rfl) recv_7 (rest := []) rfl rfl (Nat.le_of_ble_eq_true rfl) dX10_restore_21 (fun r1 => ?_)
    refine q_aload_n C 0 dX10_restore_24 rfl ?_
    refine gf_X10_10 C skC_0 dX10_restore_25 ?_
    refine gf_X10_243 C skC_1 dX10_restore_28 ?_
    exact q_ireti C rfl dX10_restore_31
  refine q_aload_n C 0 dX10_restore_7 rfl ?_
  refine q_iconst C (v := 2) dX10_restore_8 (by decide) ?_
  refine q_cVI C lk_X10_63 (w_X10_error (Y := Y) 2 σ) (Nat.le_of_ble_eq_true rfl) rfl skC_0 (ltC skC_0 rfl) recv_10 (rest := []) rfl rfl (Nat.le_of_ble_eq_true rfl) dX10_restore_9 (fun r2 => ?_)
  exact q_ireti C rfl dX10_restore_12
def f_X10_tell (a1 : Int32) (σ : St) : Option (Int32 × St) := (Option.bind (f_X2_size 29 σ) fun r1 => (if r1.1 < 20 then (Option.bind (f_X2_add 29 a1 r1.2) fun r2 => (Option.bind (f_X2_size 29 r2) fun r3 => (some (r3.1, r3.2)))) else (Option.bind (f_X10_error 4 r1.2) fun r4 => (some (r4.1, r4.2)))))
theorem w_X10_tell {Y : YT} (a1 : Int32)   (σ : St) : CtE (emI FC Y) FC Y yX10_tell cX10_tell 2 (some .int) 2 [Rf Y 0, .int a1] σ (f_X10_tell a1 σ) := by
  refine Ct.ofG (by decide) (Nat.le_of_ble_eq_true rfl) (fun X C0 => ?_)
  have C : Cx FC Y X cX10_tell 2 RX10 (some .int) 2 (0, 0) := C0
  show G FC Y X 2 (emI FC Y) (0, 0) (0, 0) 0 [(0, Rf Y 0), (1, .int a1)] [] (RepS FC Y σ) (f_X10_tell a1 σ)
  rw [f_X10_tell]
  refine q_aload_n C 0 dX10_tell_0 rfl ?_
  refine gf_X10_10 C skC_0 dX10_tell_1 ?_
  refine gf_X10_332 C skC_1 dX10_tell_4 ?_
  refine q_cVI C lk_X10_211 (w_X2_size (Y := Y) 29 skC_29 σ) (Nat.le_of_ble_eq_true rfl) rfl skC_29 (ltC skC_29 rfl) recv_2 (rest := []) rfl rfl (Nat.le_of_ble_eq_true rfl) dX10_tell_7 (fun r1 => ?_)
  refine q_bipush C (v := 20) dX10_tell_10 (by decide) ?_
  refine q_icmp_lt C 21 dX10_tell_12 rfl (fun _ => ?_) (fun _ => ?_)
  · refine q_aload_n C 0 dX10_tell_21 rfl ?_
    refine gf_X10_10 C skC_0 dX10_tell_22 ?_
    refine gf_X10_332 C skC_1 dX10_tell_25 ?_
    refine q_iload_n C 1 dX10_tell_28 rfl ?_
    refine q_cVV C lk_X10_212 (w_X2_add (Y := Y) 29 a1 skC_29 r1.2) (Nat.le_of_ble_eq_true rfl) rfl skC_29 (ltC skC_29 rfl) recv_2 (rest := []) rfl rfl (Nat.le_of_ble_eq_true rfl) dX10_tell_29 (fun r2 => ?_)
    refine q_aload_n C 0 dX10_tell_32 rfl ?_
    refine gf_X10_10 C skC_0 dX10_tell_33 ?_
    refine gf_X10_332 C skC_1 dX10_tell_36 ?_
    refine q_cVI C lk_X10_211 (w_X2_size (Y := Y) 29 skC_29 r2) (Nat.le_of_ble_eq_true rfl) rfl skC_29 (ltC skC_29 rfl) recv_2 (rest := []) rfl rfl (Nat.le_of_ble_eq_true rfl) dX10_tell_39 (fun r3 => ?_)
    exact q_ireti C rfl dX10_tell_42
  refine q_aload_n C 0 dX10_tell_15 rfl ?_
  refine q_iconst C (v := 4) dX10_tell_16 (by decide) ?_
  refine q_cVI C lk_X10_63 (w_X10_error (Y := Y) 4 r1.2) (Nat.le_of_ble_eq_true rfl) rfl skC_0 (ltC skC_0 rfl) recv_10 (rest := []) rfl rfl (Nat.le_of_ble_eq_true rfl) dX10_tell_17 (fun r4 => ?_)
  exact q_ireti C rfl dX10_tell_20
def f_X10_check_L4 : Nat → Int32 → Int32 → St → Option (Int32 × St)
  | 0, _, _, _ => none
  | n + 1, v1, v2, σ => (Option.bind (f_X2_size 29 σ) fun r1 => (if r1.1 ≤ v2 then (Option.bind (f_X2_clear 29 r1.2) fun r2 => (some (v1, r2))) else (if v1 = 0 then (Option.bind (f_X7_thinkAll (v2 + 1) r1.2) fun r4 => (Option.bind (f_X2_get 29 v2 r4) fun r5 => (if r5.1 = (r5.2 1 13) then ((f_X10_check_L4 n) v1 (v2 + 1) r5.2) else ((f_X10_check_L4 n) (1 + v2) (v2 + 1) r5.2)))) else (Option.bind (f_X2_clear 29 r1.2) fun r3 => (some (v1, r3))))))
theorem w_X10_check_L4 {Y : YT} {X : XT} (C : Cx FC Y X cX10_check 3 RX10 (some .int) 6 (0, 0)) : ∀ (n : Nat), ∀ (v1 : Int32), ∀ (v2 : Int32), ∀ (σ : St), G FC Y X 3 (emI FC Y) (0, 0) (0, 0) 4 [(0, Rf Y 0), (1, .int v1), (2, .int v2)] [] (RepS FC Y σ) (f_X10_check_L4 n v1 v2 σ) := by
  intro n
  induction n with
  | zero =>
    intro v1 v2 σ
    rw [f_X10_check_L4]; exact G.none
  | succ n ih =>
    intro v1 v2 σ
    rw [f_X10_check_L4]
    refine q_iload_n C 2 dX10_check_4 rfl ?_
    refine q_aload_n C 0 dX10_check_5 rfl ?_
    refine gf_X10_10 C skC_0 dX10_check_6 ?_
    refine gf_X10_332 C skC_1 dX10_check_9 ?_
    refine q_cVI C lk_X10_211 (w_X2_size (Y := Y) 29 skC_29 σ) (Nat.le_of_ble_eq_true rfl) rfl skC_29 (ltC skC_29 rfl) recv_2 (rest := [.int v2]) rfl rfl (Nat.le_of_ble_eq_true rfl) dX10_check_12 (fun r1 => ?_)
    refine q_icmp_ge C 63 dX10_check_15 rfl (fun _ => ?_) (fun _ => ?_)
    · refine q_aload_n C 0 dX10_check_63 rfl ?_
      refine gf_X10_10 C skC_0 dX10_check_64 ?_
      refine gf_X10_332 C skC_1 dX10_check_67 ?_
      refine q_cVV C lk_X10_222 (w_X2_clear (Y := Y) 29 skC_29 r1.2) (Nat.le_of_ble_eq_true rfl) rfl skC_29 (ltC skC_29 rfl) recv_2 (rest := []) rfl rfl (Nat.le_of_ble_eq_true rfl) dX10_check_70 (fun r2 => ?_)
      refine q_iload_n C 1 dX10_check_73 rfl ?_
      exact q_ireti C rfl dX10_check_74
    refine q_iload_n C 1 dX10_check_18 rfl ?_
    refine q_if_ne C 63 dX10_check_19 rfl (fun _ => ?_) (fun _ => ?_)
    · refine q_aload_n C 0 dX10_check_63 rfl ?_
      refine gf_X10_10 C skC_0 dX10_check_64 ?_
      refine gf_X10_332 C skC_1 dX10_check_67 ?_
      refine q_cVV C lk_X10_222 (w_X2_clear (Y := Y) 29 skC_29 r1.2) (Nat.le_of_ble_eq_true rfl) rfl skC_29 (ltC skC_29 rfl) recv_2 (rest := []) rfl rfl (Nat.le_of_ble_eq_true rfl) dX10_check_70 (fun r3 => ?_)
      refine q_iload_n C 1 dX10_check_73 rfl ?_
      exact q_ireti C rfl dX10_check_74
    refine q_aload_n C 0 dX10_check_22 rfl ?_
    refine gf_X10_10 C skC_0 dX10_check_23 ?_
    refine q_iload_n C 2 dX10_check_26 rfl ?_
    refine q_iconst C (v := 1) dX10_check_27 (by decide) ?_
    refine q_iadd C dX10_check_28 ?_
    refine q_cVV C lk_X10_260 (w_X7_thinkAll (Y := Y) (v2 + 1) r1.2) (Nat.le_of_ble_eq_true rfl) rfl skC_1 (ltC skC_1 rfl) recv_7 (rest := []) rfl rfl (Nat.le_of_ble_eq_true rfl) dX10_check_29 (fun r4 => ?_)
    refine q_aload_n C 0 dX10_check_32 rfl ?_
    refine gf_X10_10 C skC_0 dX10_check_33 ?_
    refine gf_X10_332 C skC_1 dX10_check_36 ?_
    refine q_iload_n C 2 dX10_check_39 rfl ?_
    refine q_cVI C lk_X10_108 (w_X2_get (Y := Y) 29 v2 skC_29 r4) (Nat.le_of_ble_eq_true rfl) rfl skC_29 (ltC skC_29 rfl) recv_2 (rest := []) rfl rfl (Nat.le_of_ble_eq_true rfl) dX10_check_40 (fun r5 => ?_)
    refine q_aload_n C 0 dX10_check_43 rfl ?_
    refine gf_X10_10 C skC_0 dX10_check_44 ?_
    refine gf_X10_335 C skC_1 dX10_check_47 ?_
    refine q_icmp_eq C 57 dX10_check_50 rfl (fun _ => ?_) (fun _ => ?_)
    · refine q_iinc C 2 [(2, .int (v2 + 1)), (0, Rf Y 0), (1, .int v1)] dX10_check_57 rfl rfl rfl rfl ?_
      refine q_goto C 4 dX10_check_60 rfl ?_
      refine G.sub [1, 2, 0] (lv' := [(0, Rf Y 0), (1, .int v1), (2, .int (v2 + 1))]) rfl ?_
      exact ih v1 (v2 + 1) r5.2
    refine q_iconst C (v := 1) dX10_check_53 (by decide) ?_
    refine q_iload_n C 2 dX10_check_54 rfl ?_
    refine q_iadd C dX10_check_55 ?_
    refine q_istore_n C [(1, .int (1 + v2)), (0, Rf Y 0), (2, .int v2)] dX10_check_56 rfl rfl ?_
    refine q_iinc C 2 [(2, .int (v2 + 1)), (1, .int (1 + v2)), (0, Rf Y 0)] dX10_check_57 rfl rfl rfl rfl ?_
    refine q_goto C 4 dX10_check_60 rfl ?_
    refine G.sub [2, 1, 0] (lv' := [(0, Rf Y 0), (1, .int (1 + v2)), (2, .int (v2 + 1))]) rfl ?_
    exact ih (1 + v2) (v2 + 1) r5.2
def f_X10_check  (σ : St) : Option (Int32 × St) := (f_X10_check_L4 400 0 0 σ)
theorem w_X10_check {Y : YT}    (σ : St) : CtE (emI FC Y) FC Y yX10_check cX10_check 3 (some .int) 6 [Rf Y 0] σ (f_X10_check σ) := by
  refine Ct.ofG (by decide) (Nat.le_of_ble_eq_true rfl) (fun X C0 => ?_)
  have C : Cx FC Y X cX10_check 3 RX10 (some .int) 6 (0, 0) := C0
  show G FC Y X 3 (emI FC Y) (0, 0) (0, 0) 0 [(0, Rf Y 0)] [] (RepS FC Y σ) (f_X10_check σ)
  rw [f_X10_check]
  refine q_iconst C (v := 0) dX10_check_0 (by decide) ?_
  refine q_istore_n C [(1, .int 0), (0, Rf Y 0)] dX10_check_1 rfl rfl ?_
  refine q_iconst C (v := 0) dX10_check_2 (by decide) ?_
  refine q_istore_n C [(2, .int 0), (1, .int 0), (0, Rf Y 0)] dX10_check_3 rfl rfl ?_
  refine G.sub [2, 1, 0] (lv' := [(0, Rf Y 0), (1, .int 0), (2, .int 0)]) rfl ?_
  exact w_X10_check_L4 C 400 0 0 σ
theorem lk_X10_338 : LkV RX10 338 yX4_allStrength cX4_allStrength 3 (some .int) 0 := ⟨TB_p [1024, 1025, 1026, 74, 1027] (by decide +kernel) (by decide +kernel), by decide +kernel, by decide +kernel, by decide +kernel⟩
def f_X10_count (a1 : Int32) (σ : St) : Option (Int32 × St) := (if a1 = 0 then (some ((σ 1 0), σ)) else (if a1 = 1 then (Option.bind (f_X9_size σ) fun r3 => (some (r3.1, r3.2))) else (if a1 = 2 then (Option.bind (f_X4_size σ) fun r5 => (some (r5.1, r5.2))) else (if a1 = 3 then (Option.bind (f_X0_size σ) fun r7 => (some (r7.1, r7.2))) else (if a1 = 4 then (some ((σ 1 2), σ)) else (if a1 = 5 then (some ((σ 1 1), σ)) else (if a1 = 6 then (some ((σ 2 3), σ)) else (if a1 = 7 then (Option.bind (f_X4_allStrength σ) fun r12 => (some (r12.1, r12.2))) else (if a1 = 8 then (Option.bind (f_X4_allKnowers σ) fun r14 => (some ((bitc r14.1), r14.2))) else (if a1 = 9 then (Option.bind (f_X2_size 27 σ) fun r16 => (some (r16.1, r16.2))) else (if a1 = 10 then (Option.bind (f_X2_size 29 σ) fun r18 => (some (r18.1, r18.2))) else (if a1 = 11 then (Option.bind (f_X2_size 93 σ) fun r20 => (some (r20.1, r20.2))) else (if a1 = 12 then (some ((σ 1 3), σ)) else (Option.bind (f_X10_error 1 σ) fun r22 => (some (r22.1, r22.2))))))))))))))))
theorem w_X10_count {Y : YT} (a1 : Int32)   (σ : St) : CtE (emI FC Y) FC Y yX10_count cX10_count 2 (some .int) 3 [Rf Y 0, .int a1] σ (f_X10_count a1 σ) := by
  refine Ct.ofG (by decide) (Nat.le_of_ble_eq_true rfl) (fun X C0 => ?_)
  have C : Cx FC Y X cX10_count 2 RX10 (some .int) 3 (0, 0) := C0
  show G FC Y X 2 (emI FC Y) (0, 0) (0, 0) 0 [(0, Rf Y 0), (1, .int a1)] [] (RepS FC Y σ) (f_X10_count a1 σ)
  rw [f_X10_count]
  refine q_iload_n C 1 dX10_count_0 rfl ?_
  refine G.ite (fun h1 => ?_) (fun h1 => ?_)
  · refine q_tsw_in C 68 dX10_count_1 h1 (by decide) (by decide) rfl rfl ?_
    refine q_aload_n C 0 dX10_count_68 rfl ?_
    refine gf_X10_10 C skC_0 dX10_count_69 ?_
    refine gf_X10_91 C skC_1 dX10_count_72 ?_
    exact q_ireti C rfl dX10_count_75
  refine G.ite (fun h2 => ?_) (fun h2 => ?_)
  · refine q_tsw_in C 76 dX10_count_1 h2 (by decide) (by decide) rfl rfl ?_
    refine q_aload_n C 0 dX10_count_76 rfl ?_
    refine gf_X10_10 C skC_0 dX10_count_77 ?_
    refine gf_X10_67 C skC_1 dX10_count_80 ?_
    refine q_cVI C lk_X10_71 (w_X9_size (Y := Y) σ) (Nat.le_of_ble_eq_true rfl) rfl skC_2 (ltC skC_2 rfl) recv_9 (rest := []) rfl rfl (Nat.le_of_ble_eq_true rfl) dX10_count_83 (fun r3 => ?_)
    exact q_ireti C rfl dX10_count_86
  refine G.ite (fun h4 => ?_) (fun h4 => ?_)
  · refine q_tsw_in C 87 dX10_count_1 h4 (by decide) (by decide) rfl rfl ?_
    refine q_aload_n C 0 dX10_count_87 rfl ?_
    refine gf_X10_10 C skC_0 dX10_count_88 ?_
    refine gf_X10_77 C skC_1 dX10_count_91 ?_
    refine q_cVI C lk_X10_81 (w_X4_size (Y := Y) σ) (Nat.le_of_ble_eq_true rfl) rfl skC_9 (ltC skC_9 rfl) recv_4 (rest := []) rfl rfl (Nat.le_of_ble_eq_true rfl) dX10_count_94 (fun r5 => ?_)
    exact q_ireti C rfl dX10_count_97
  refine G.ite (fun h6 => ?_) (fun h6 => ?_)
  · refine q_tsw_in C 98 dX10_count_1 h6 (by decide) (by decide) rfl rfl ?_
    refine q_aload_n C 0 dX10_count_98 rfl ?_
    refine gf_X10_10 C skC_0 dX10_count_99 ?_
    refine gf_X10_84 C skC_1 dX10_count_102 ?_
    refine q_cVI C lk_X10_88 (w_X0_size (Y := Y) σ) (Nat.le_of_ble_eq_true rfl) rfl skC_22 (ltC skC_22 rfl) recv_0 (rest := []) rfl rfl (Nat.le_of_ble_eq_true rfl) dX10_count_105 (fun r7 => ?_)
    exact q_ireti C rfl dX10_count_108
  refine G.ite (fun h8 => ?_) (fun h8 => ?_)
  · refine q_tsw_in C 109 dX10_count_1 h8 (by decide) (by decide) rfl rfl ?_
    refine q_aload_n C 0 dX10_count_109 rfl ?_
    refine gf_X10_10 C skC_0 dX10_count_110 ?_
    refine gf_X10_243 C skC_1 dX10_count_113 ?_
    exact q_ireti C rfl dX10_count_116
  refine G.ite (fun h9 => ?_) (fun h9 => ?_)
  · refine q_tsw_in C 117 dX10_count_1 h9 (by decide) (by decide) rfl rfl ?_
    refine q_aload_n C 0 dX10_count_117 rfl ?_
    refine gf_X10_10 C skC_0 dX10_count_118 ?_
    refine gf_X10_128 C skC_1 dX10_count_121 ?_
    exact q_ireti C rfl dX10_count_124
  refine G.ite (fun h10 => ?_) (fun h10 => ?_)
  · refine q_tsw_in C 125 dX10_count_1 h10 (by decide) (by decide) rfl rfl ?_
    refine q_aload_n C 0 dX10_count_125 rfl ?_
    refine gf_X10_10 C skC_0 dX10_count_126 ?_
    refine gf_X10_67 C skC_1 dX10_count_129 ?_
    refine gf_X10_117 C skC_2 dX10_count_132 ?_
    exact q_ireti C rfl dX10_count_135
  refine G.ite (fun h11 => ?_) (fun h11 => ?_)
  · refine q_tsw_in C 136 dX10_count_1 h11 (by decide) (by decide) rfl rfl ?_
    refine q_aload_n C 0 dX10_count_136 rfl ?_
    refine gf_X10_10 C skC_0 dX10_count_137 ?_
    refine gf_X10_77 C skC_1 dX10_count_140 ?_
    refine q_cVI C lk_X10_338 (w_X4_allStrength (Y := Y) σ) (Nat.le_of_ble_eq_true rfl) rfl skC_9 (ltC skC_9 rfl) recv_4 (rest := []) rfl rfl (Nat.le_of_ble_eq_true rfl) dX10_count_143 (fun r12 => ?_)
    exact q_ireti C rfl dX10_count_146
  refine G.ite (fun h13 => ?_) (fun h13 => ?_)
  · refine q_tsw_in C 147 dX10_count_1 h13 (by decide) (by decide) rfl rfl ?_
    refine q_aload_n C 0 dX10_count_147 rfl ?_
    refine gf_X10_10 C skC_0 dX10_count_148 ?_
    refine gf_X10_77 C skC_1 dX10_count_151 ?_
    refine q_cVI C lk_X10_249 (w_X4_allKnowers (Y := Y) σ) (Nat.le_of_ble_eq_true rfl) rfl skC_9 (ltC skC_9 rfl) recv_4 (rest := []) rfl rfl (Nat.le_of_ble_eq_true rfl) dX10_count_154 (fun r14 => ?_)
    refine q_bitc C lk_X10_252 (Nat.le_of_ble_eq_true rfl) (Nat.le_of_ble_eq_true rfl) dX10_count_157 ?_
    exact q_ireti C rfl dX10_count_160
  refine G.ite (fun h15 => ?_) (fun h15 => ?_)
  · refine q_tsw_in C 161 dX10_count_1 h15 (by decide) (by decide) rfl rfl ?_
    refine q_aload_n C 0 dX10_count_161 rfl ?_
    refine gf_X10_10 C skC_0 dX10_count_162 ?_
    refine gf_X10_208 C skC_1 dX10_count_165 ?_
    refine q_cVI C lk_X10_211 (w_X2_size (Y := Y) 27 skC_27 σ) (Nat.le_of_ble_eq_true rfl) rfl skC_27 (ltC skC_27 rfl) recv_2 (rest := []) rfl rfl (Nat.le_of_ble_eq_true rfl) dX10_count_168 (fun r16 => ?_)
    exact q_ireti C rfl dX10_count_171
  refine G.ite (fun h17 => ?_) (fun h17 => ?_)
  · refine q_tsw_in C 172 dX10_count_1 h17 (by decide) (by decide) rfl rfl ?_
    refine q_aload_n C 0 dX10_count_172 rfl ?_
    refine gf_X10_10 C skC_0 dX10_count_173 ?_
    refine gf_X10_332 C skC_1 dX10_count_176 ?_
    refine q_cVI C lk_X10_211 (w_X2_size (Y := Y) 29 skC_29 σ) (Nat.le_of_ble_eq_true rfl) rfl skC_29 (ltC skC_29 rfl) recv_2 (rest := []) rfl rfl (Nat.le_of_ble_eq_true rfl) dX10_count_179 (fun r18 => ?_)
    exact q_ireti C rfl dX10_count_182
  refine G.ite (fun h19 => ?_) (fun h19 => ?_)
  · refine q_tsw_in C 183 dX10_count_1 h19 (by decide) (by decide) rfl rfl ?_
    refine q_aload_n C 0 dX10_count_183 rfl ?_
    refine gf_X10_29 C skC_0 dX10_count_184 ?_
    refine gf_X10_304 C skC_92 dX10_count_187 ?_
    refine q_cVI C lk_X10_211 (w_X2_size (Y := Y) 93 skC_93 σ) (Nat.le_of_ble_eq_true rfl) rfl skC_93 (ltC skC_93 rfl) recv_2 (rest := []) rfl rfl (Nat.le_of_ble_eq_true rfl) dX10_count_190 (fun r20 => ?_)
    exact q_ireti C rfl dX10_count_193
  refine G.ite (fun h21 => ?_) (fun h21 => ?_)
  · refine q_tsw_in C 194 dX10_count_1 h21 (by decide) (by decide) rfl rfl ?_
    refine q_aload_n C 0 dX10_count_194 rfl ?_
    refine gf_X10_10 C skC_0 dX10_count_195 ?_
    refine gf_X10_297 C skC_1 dX10_count_198 ?_
    exact q_ireti C rfl dX10_count_201
  refine q_tsw_out C 202 dX10_count_1 ?_ rfl ?_
  · have hsw := sw_out 0 13 (by decide) (by decide) ⟨h1, h2, h4, h6, h8, h9, h10, h11, h13, h15, h17, h19, h21, trivial⟩
    omega
  refine q_aload_n C 0 dX10_count_202 rfl ?_
  refine q_iconst C (v := 1) dX10_count_203 (by decide) ?_
  refine q_cVI C lk_X10_63 (w_X10_error (Y := Y) 1 σ) (Nat.le_of_ble_eq_true rfl) rfl skC_0 (ltC skC_0 rfl) recv_10 (rest := []) rfl rfl (Nat.le_of_ble_eq_true rfl) dX10_count_204 (fun r22 => ?_)
  exact q_ireti C rfl dX10_count_207
def f_X10_told (a1 : Int32) (σ : St) : Option (Int32 × St) := (Option.bind (f_X10_within a1 1 5 σ) fun r1 => (if r1.1 = 0 then (Option.bind (f_X10_error 1 r1.2) fun r3 => (some (r3.1, r3.2))) else (Option.bind (f_X2_get 98 a1 r1.2) fun r2 => (some (r2.1, r2.2)))))
theorem w_X10_told {Y : YT} (a1 : Int32)   (σ : St) : CtE (emI FC Y) FC Y yX10_told cX10_told 2 (some .int) 2 [Rf Y 0, .int a1] σ (f_X10_told a1 σ) := by
  refine Ct.ofG (by decide) (Nat.le_of_ble_eq_true rfl) (fun X C0 => ?_)
  have C : Cx FC Y X cX10_told 2 RX10 (some .int) 2 (0, 0) := C0
  show G FC Y X 2 (emI FC Y) (0, 0) (0, 0) 0 [(0, Rf Y 0), (1, .int a1)] [] (RepS FC Y σ) (f_X10_told a1 σ)
  rw [f_X10_told]
  refine q_iload_n C 1 dX10_told_0 rfl ?_
  refine q_iconst C (v := 1) dX10_told_1 (by decide) ?_
  refine q_iconst C (v := 5) dX10_told_2 (by decide) ?_
  refine q_cSI C lk_X10_59 (w_X10_within (Y := Y) a1 1 5 σ) (Nat.le_of_ble_eq_true rfl) rfl (rest := []) rfl rfl (Nat.le_of_ble_eq_true rfl) dX10_told_3 (fun r1 => ?_)
  refine q_if_ne C 15 dX10_told_6 rfl (fun _ => ?_) (fun _ => ?_)
  · refine q_aload_n C 0 dX10_told_15 rfl ?_
    refine gf_X10_48 C skC_0 dX10_told_16 ?_
    refine q_iload_n C 1 dX10_told_19 rfl ?_
    refine q_cVI C lk_X10_108 (w_X2_get (Y := Y) 98 a1 skC_98 r1.2) (Nat.le_of_ble_eq_true rfl) rfl skC_98 (ltC skC_98 rfl) recv_2 (rest := []) rfl rfl (Nat.le_of_ble_eq_true rfl) dX10_told_20 (fun r2 => ?_)
    exact q_ireti C rfl dX10_told_23
  refine q_aload_n C 0 dX10_told_9 rfl ?_
  refine q_iconst C (v := 1) dX10_told_10 (by decide) ?_
  refine q_cVI C lk_X10_63 (w_X10_error (Y := Y) 1 r1.2) (Nat.le_of_ble_eq_true rfl) rfl skC_0 (ltC skC_0 rfl) recv_10 (rest := []) rfl rfl (Nat.le_of_ble_eq_true rfl) dX10_told_11 (fun r3 => ?_)
  exact q_ireti C rfl dX10_told_14
