theorem lk_X7_96 : LkSN RX7 96 yX10_within "WellTold" cX10_within 3 (some .boolean) 3 := ⟨TB_p [426, 69, 427] (by decide +kernel) (by decide +kernel), by decide +kernel, by decide +kernel, by decide +kernel, by decide +kernel⟩
def f_X7_isWell (a1 : Int32) (σ : St) : Option (Int32 × St) := (Option.bind (f_X10_within a1 0 ((σ 1 0) - 1) σ) fun r1 => (if r1.1 = 0 ∨ r1.1 = 1 then (some (r1.1, r1.2)) else none))
theorem w_X7_isWell {Y : YT} (a1 : Int32)   (σ : St) : CtE (emI FC Y) FC Y yX7_isWell cX7_isWell 2 (some .boolean) 1 [Rf Y 1, .int a1] σ (f_X7_isWell a1 σ) := by
  refine Ct.ofG (by decide) (Nat.le_of_ble_eq_true rfl) (fun X C0 => ?_)
  have C : Cx FC Y X cX7_isWell 2 RX7 (some .boolean) 1 (0, 0) := C0
  show G FC Y X 2 (emI FC Y) (0, 0) (0, 0) 0 [(0, Rf Y 1), (1, .int a1)] [] (RepS FC Y σ) (f_X7_isWell a1 σ)
  rw [f_X7_isWell]
  refine q_iload_n C 1 dX7_isWell_0 rfl ?_
  refine q_iconst C (v := 0) dX7_isWell_1 (by decide) ?_
  refine q_aload_n C 0 dX7_isWell_2 rfl ?_
  refine gf_X7_9 C skC_1 dX7_isWell_3 ?_
  refine q_iconst C (v := 1) dX7_isWell_6 (by decide) ?_
  refine q_isub C dX7_isWell_7 ?_
  refine q_cSNI C lk_X7_96 (w_X10_within (Y := Y) a1 0 ((σ 1 0) - 1) σ) (Nat.le_of_ble_eq_true rfl) rfl (rest := []) rfl rfl (Nat.le_of_ble_eq_true rfl) dX7_isWell_8 (fun r1 => ?_)
  exact G.ite (fun h => q_iretz C h rfl dX7_isWell_11) (fun _ => G.none)
def f_X7_textOf (a1 : Int32) (σ : St) : Option (Nat × St) := (if a1 = 0 then (some (31, σ)) else (some (36, σ)))
theorem w_X7_textOf {Y : YT} (a1 : Int32)   (σ : St) : CtE (emR FC Y) FC Y yX7_textOf cX7_textOf 2 (some (.object "WellTold$Text")) 0 [Rf Y 1, .int a1] σ (f_X7_textOf a1 σ) := by
  refine Ct.ofG (by decide) (Nat.le_of_ble_eq_true rfl) (fun X C0 => ?_)
  have C : Cx FC Y X cX7_textOf 2 RX7 (some (.object "WellTold$Text")) 0 (0, 0) := C0
  show G FC Y X 2 (emR FC Y) (0, 0) (0, 0) 0 [(0, Rf Y 1), (1, .int a1)] [] (RepS FC Y σ) (f_X7_textOf a1 σ)
  rw [f_X7_textOf]
  refine q_iload_n C 1 dX7_textOf_0 rfl ?_
  refine q_if_ne C 11 dX7_textOf_1 rfl (fun _ => ?_) (fun _ => ?_)
  · refine q_aload_n C 0 dX7_textOf_11 rfl ?_
    refine gf_X7_64 C skC_1 dX7_textOf_12 ?_
    exact q_aret C (Or.inr ⟨_, rfl⟩) rfl dX7_textOf_15
  refine q_aload_n C 0 dX7_textOf_4 rfl ?_
  refine gf_X7_60 C skC_1 dX7_textOf_5 ?_
  refine q_goto C 15 dX7_textOf_8 rfl ?_
  exact q_aret C (Or.inr ⟨_, rfl⟩) rfl dX7_textOf_15
theorem lk_X7_113 : LkV RX7 113 yX4_knownBy cX4_knownBy 5 (some .int) 2 := ⟨TB_p [616, 617, 618, 74, 619] (by decide +kernel) (by decide +kernel), by decide +kernel, by decide +kernel, by decide +kernel⟩
theorem lk_X7_103 : LkV RX7 103 yX2_get cX2_get 2 (some .int) 1 := ⟨TB_p [615, 433, 434, 72, 435] (by decide +kernel) (by decide +kernel), by decide +kernel, by decide +kernel, by decide +kernel⟩
def f_X7_ofOne (a1 : Int32) (a2 : Int32) (σ : St) : Option (Int32 × St) := (if a2 = 0 then (Option.bind (f_X2_get 23 a1 σ) fun r3 => (some (r3.1, r3.2))) else (if a2 = 1 then (Option.bind (f_X2_get 25 a1 σ) fun r2 => (some (r2.1, r2.2))) else (Option.bind (f_X4_knownBy a1 20 σ) fun r1 => (some (r1.1, r1.2)))))
theorem w_X7_ofOne {Y : YT} (a1 : Int32) (a2 : Int32)   (σ : St) : CtE (emI FC Y) FC Y yX7_ofOne cX7_ofOne 3 (some .int) 3 [Rf Y 1, .int a1, .int a2] σ (f_X7_ofOne a1 a2 σ) := by
  refine Ct.ofG (by decide) (Nat.le_of_ble_eq_true rfl) (fun X C0 => ?_)
  have C : Cx FC Y X cX7_ofOne 3 RX7 (some .int) 3 (0, 0) := C0
  show G FC Y X 3 (emI FC Y) (0, 0) (0, 0) 0 [(0, Rf Y 1), (1, .int a1), (2, .int a2)] [] (RepS FC Y σ) (f_X7_ofOne a1 a2 σ)
  rw [f_X7_ofOne]
  refine q_iload_n C 2 dX7_ofOne_0 rfl ?_
  refine q_if_ne C 16 dX7_ofOne_1 rfl (fun _ => ?_) (fun _ => ?_)
  · refine q_iload_n C 2 dX7_ofOne_16 rfl ?_
    refine q_iconst C (v := 1) dX7_ofOne_17 (by decide) ?_
    refine q_icmp_ne C 35 dX7_ofOne_18 rfl (fun _ => ?_) (fun _ => ?_)
    · refine q_aload_n C 0 dX7_ofOne_35 rfl ?_
      refine gf_X7_34 C skC_1 dX7_ofOne_36 ?_
      refine q_iload_n C 1 dX7_ofOne_39 rfl ?_
      refine q_aload_n C 0 dX7_ofOne_40 rfl ?_
      refine gf_X7_34 C skC_1 dX7_ofOne_41 ?_
      refine gf_X7_110 C skC_9 dX7_ofOne_44 ?_
      refine q_cVI C lk_X7_113 (w_X4_knownBy (Y := Y) a1 20 skC_20 σ) (Nat.le_of_ble_eq_true rfl) rfl skC_9 (ltC skC_9 rfl) recv_4 (rest := []) rfl rfl (Nat.le_of_ble_eq_true rfl) dX7_ofOne_47 (fun r1 => ?_)
      exact q_ireti C rfl dX7_ofOne_50
    refine q_aload_n C 0 dX7_ofOne_21 rfl ?_
    refine gf_X7_41 C skC_1 dX7_ofOne_22 ?_
    refine gf_X7_107 C skC_22 dX7_ofOne_25 ?_
    refine q_iload_n C 1 dX7_ofOne_28 rfl ?_
    refine q_cVI C lk_X7_103 (w_X2_get (Y := Y) 25 a1 skC_25 σ) (Nat.le_of_ble_eq_true rfl) rfl skC_25 (ltC skC_25 rfl) recv_2 (rest := []) rfl rfl (Nat.le_of_ble_eq_true rfl) dX7_ofOne_29 (fun r2 => ?_)
    refine q_goto C 50 dX7_ofOne_32 rfl ?_
    exact q_ireti C rfl dX7_ofOne_50
  refine q_aload_n C 0 dX7_ofOne_4 rfl ?_
  refine gf_X7_41 C skC_1 dX7_ofOne_5 ?_
  refine gf_X7_100 C skC_22 dX7_ofOne_8 ?_
  refine q_iload_n C 1 dX7_ofOne_11 rfl ?_
  refine q_cVI C lk_X7_103 (w_X2_get (Y := Y) 23 a1 skC_23 σ) (Nat.le_of_ble_eq_true rfl) rfl skC_23 (ltC skC_23 rfl) recv_2 (rest := []) rfl rfl (Nat.le_of_ble_eq_true rfl) dX7_ofOne_12 (fun r3 => ?_)
  exact q_ireti C rfl dX7_ofOne_15
def f_X7_draw  (σ : St) : Option (Int32 × St) := (Bst (up σ 1 3 (((σ 1 3) * 1103515245) + 12345)) fun s1 => (some ((iush (s1 1 3) 8), s1)))
theorem w_X7_draw {Y : YT}    (σ : St) : CtE (emI FC Y) FC Y yX7_draw cX7_draw 1 (some .int) 0 [Rf Y 1] σ (f_X7_draw σ) := by
  refine Ct.ofG (by decide) (Nat.le_of_ble_eq_true rfl) (fun X C0 => ?_)
  have C : Cx FC Y X cX7_draw 1 RX7 (some .int) 0 (0, 0) := C0
  show G FC Y X 1 (emI FC Y) (0, 0) (0, 0) 0 [(0, Rf Y 1)] [] (RepS FC Y σ) (f_X7_draw σ)
  rw [f_X7_draw]
  refine q_aload_n C 0 dX7_draw_0 rfl ?_
  refine q_aload_n C 0 dX7_draw_1 rfl ?_
  refine gf_X7_21 C skC_1 dX7_draw_2 ?_
  refine q_ldc C (v := 1103515245) (TB_of (List.mem_of_getElem? (i := 845) (by decide +kernel)) rfl) dX7_draw_5 ?_
  refine q_imul C dX7_draw_7 ?_
  refine q_sipush C (v := 12345) dX7_draw_8 (by decide) ?_
  refine q_iadd C dX7_draw_11 ?_
  refine pf_X7_21 C skC_1 dX7_draw_12 (fun s1 => ?_)
  refine q_aload_n C 0 dX7_draw_15 rfl ?_
  refine gf_X7_21 C skC_1 dX7_draw_16 ?_
  refine q_bipush C (v := 8) dX7_draw_19 (by decide) ?_
  refine q_iushr C dX7_draw_21 ?_
  exact q_ireti C rfl dX7_draw_22
theorem lk_X7_124 : LkV RX7 124 yX6_gives cX6_gives 8 (some .int) 3 := ⟨TB_p [533, 534, 535, 76, 536] (by decide +kernel) (by decide +kernel), by decide +kernel, by decide +kernel, by decide +kernel⟩
def f_X7_weakeningOf (a1 : Nat) (a2 : Int32) (σ : St) : Option (Int32 × St) := (Option.bind (f_X6_gives 31 (σ a1 3) (σ a1 1) a2 σ) fun r1 => (if (r1.2 a1 0) = 1 then (some ((imax 0 (r1.1 - 1)), r1.2)) else (if (r1.2 a1 0) = 2 then (some ((2 * r1.1), r1.2)) else (if (r1.2 a1 0) = 3 then (some (0, r1.2)) else (if (r1.2 a1 0) = 4 then (some ((imax 0 ((imax 0 (r1.1 - 1)) - (irm (r1.2 a1 1) 3))), r1.2)) else (if (r1.2 a1 0) = 5 then (some (((2 * r1.1) + 1), r1.2)) else (if (r1.2 a1 0) = 6 then (some ((r1.1 / 2), r1.2)) else (some (r1.1, r1.2)))))))))
theorem w_X7_weakeningOf {Y : YT} (a1 : Nat) (a2 : Int32)  (ha1 : shC a1 = 3) (σ : St) : CtE (emI FC Y) FC Y yX7_weakeningOf cX7_weakeningOf 4 (some .int) 2 [Rf Y 1, Rf Y a1, .int a2] σ (f_X7_weakeningOf a1 a2 σ) := by
  refine Ct.ofG (by decide) (Nat.le_of_ble_eq_true rfl) (fun X C0 => ?_)
  have C : Cx FC Y X cX7_weakeningOf 4 RX7 (some .int) 2 (0, 0) := C0
  show G FC Y X 4 (emI FC Y) (0, 0) (0, 0) 0 [(0, Rf Y 1), (1, Rf Y a1), (2, .int a2)] [] (RepS FC Y σ) (f_X7_weakeningOf a1 a2 σ)
  rw [f_X7_weakeningOf]
  refine q_aload_n C 0 dX7_weakeningOf_0 rfl ?_
  refine gf_X7_60 C skC_1 dX7_weakeningOf_1 ?_
  refine q_aload_n C 1 dX7_weakeningOf_4 rfl ?_
  refine gf_X7_118 C ha1 dX7_weakeningOf_5 ?_
  refine q_aload_n C 1 dX7_weakeningOf_8 rfl ?_
  refine gf_X7_121 C ha1 dX7_weakeningOf_9 ?_
  refine q_iload_n C 2 dX7_weakeningOf_12 rfl ?_
  refine q_cVI C lk_X7_124 (w_X6_gives (Y := Y) 31 (σ a1 3) (σ a1 1) a2 skC_31 σ) (Nat.le_of_ble_eq_true rfl) rfl skC_31 (ltC skC_31 rfl) recv_6 (rest := []) rfl rfl (Nat.le_of_ble_eq_true rfl) dX7_weakeningOf_13 (fun r1 => ?_)
  refine q_istore_n C [(3, .int r1.1), (0, Rf Y 1), (1, Rf Y a1), (2, .int a2)] dX7_weakeningOf_16 rfl rfl ?_
  refine q_aload_n C 2 dX7_weakeningOf_17 rfl ?_
  refine gf_X7_128 C ha1 dX7_weakeningOf_18 ?_
  refine G.ite (fun h2 => ?_) (fun h2 => ?_)
  · refine q_tsw_in C 60 dX7_weakeningOf_21 h2 (by decide) (by decide) rfl rfl ?_
    refine q_iconst C (v := 0) dX7_weakeningOf_60 (by decide) ?_
    refine q_iload_n C 0 dX7_weakeningOf_61 rfl ?_
    refine q_iconst C (v := 1) dX7_weakeningOf_62 (by decide) ?_
    refine q_isub C dX7_weakeningOf_63 ?_
    refine q_mmax C (idx := 131) (TB_of (List.mem_of_getElem? (i := 552) (by decide +kernel)) rfl) (Nat.le_of_ble_eq_true rfl) (Nat.le_of_ble_eq_true rfl) dX7_weakeningOf_64 ?_
    exact q_ireti C rfl dX7_weakeningOf_67
  refine G.ite (fun h3 => ?_) (fun h3 => ?_)
  · refine q_tsw_in C 68 dX7_weakeningOf_21 h3 (by decide) (by decide) rfl rfl ?_
    refine q_iconst C (v := 2) dX7_weakeningOf_68 (by decide) ?_
    refine q_iload_n C 0 dX7_weakeningOf_69 rfl ?_
    refine q_imul C dX7_weakeningOf_70 ?_
    exact q_ireti C rfl dX7_weakeningOf_71
  refine G.ite (fun h4 => ?_) (fun h4 => ?_)
  · refine q_tsw_in C 72 dX7_weakeningOf_21 h4 (by decide) (by decide) rfl rfl ?_
    refine q_iconst C (v := 0) dX7_weakeningOf_72 (by decide) ?_
    exact q_ireti C rfl dX7_weakeningOf_73
  refine G.ite (fun h5 => ?_) (fun h5 => ?_)
  · refine q_tsw_in C 74 dX7_weakeningOf_21 h5 (by decide) (by decide) rfl rfl ?_
    refine q_iconst C (v := 0) dX7_weakeningOf_74 (by decide) ?_
    refine q_iconst C (v := 0) dX7_weakeningOf_75 (by decide) ?_
    refine q_iload_n C 0 dX7_weakeningOf_76 rfl ?_
    refine q_iconst C (v := 1) dX7_weakeningOf_77 (by decide) ?_
    refine q_isub C dX7_weakeningOf_78 ?_
    refine q_mmax C (idx := 131) (TB_of (List.mem_of_getElem? (i := 552) (by decide +kernel)) rfl) (Nat.le_of_ble_eq_true rfl) (Nat.le_of_ble_eq_true rfl) dX7_weakeningOf_79 ?_
    refine q_aload_n C 2 dX7_weakeningOf_82 rfl ?_
    refine gf_X7_121 C ha1 dX7_weakeningOf_83 ?_
    refine q_iconst C (v := 3) dX7_weakeningOf_86 (by decide) ?_
    refine q_irem C dX7_weakeningOf_87 (by decide) ?_
    refine q_isub C dX7_weakeningOf_88 ?_
    refine q_mmax C (idx := 131) (TB_of (List.mem_of_getElem? (i := 552) (by decide +kernel)) rfl) (Nat.le_of_ble_eq_true rfl) (Nat.le_of_ble_eq_true rfl) dX7_weakeningOf_89 ?_
    exact q_ireti C rfl dX7_weakeningOf_92
  refine G.ite (fun h6 => ?_) (fun h6 => ?_)
  · refine q_tsw_in C 93 dX7_weakeningOf_21 h6 (by decide) (by decide) rfl rfl ?_
    refine q_iconst C (v := 2) dX7_weakeningOf_93 (by decide) ?_
    refine q_iload_n C 0 dX7_weakeningOf_94 rfl ?_
    refine q_imul C dX7_weakeningOf_95 ?_
    refine q_iconst C (v := 1) dX7_weakeningOf_96 (by decide) ?_
    refine q_iadd C dX7_weakeningOf_97 ?_
    exact q_ireti C rfl dX7_weakeningOf_98
  refine G.ite (fun h7 => ?_) (fun h7 => ?_)
  · refine q_tsw_in C 99 dX7_weakeningOf_21 h7 (by decide) (by decide) rfl rfl ?_
    refine q_iload_n C 0 dX7_weakeningOf_99 rfl ?_
    refine q_iconst C (v := 2) dX7_weakeningOf_100 (by decide) ?_
    refine q_idiv C dX7_weakeningOf_101 (by decide) ?_
    exact q_ireti C rfl dX7_weakeningOf_102
  refine q_tsw_out C 103 dX7_weakeningOf_21 ?_ rfl ?_
  · have hsw := sw_out 1 6 (by decide) (by decide) ⟨h2, h3, h4, h5, h6, h7, trivial⟩
    omega
  refine q_iload_n C 0 dX7_weakeningOf_103 rfl ?_
  exact q_ireti C rfl dX7_weakeningOf_104
theorem lk_X9_30 : LkV RX9 30 yX2_size cX2_size 1 (some .int) 0 := ⟨TB_p [445, 446, 447, 72, 448] (by decide +kernel) (by decide +kernel), by decide +kernel, by decide +kernel, by decide +kernel⟩
theorem lk_X9_41 : LkV RX9 41 yX2_get cX2_get 2 (some .int) 1 := ⟨TB_p [561, 433, 434, 72, 435] (by decide +kernel) (by decide +kernel), by decide +kernel, by decide +kernel, by decide +kernel⟩
theorem lk_X9_45 : LkSN RX9 45 yX10_inSet "WellTold" cX10_inSet 2 (some .int) 2 := ⟨TB_p [486, 69, 487] (by decide +kernel) (by decide +kernel), by decide +kernel, by decide +kernel, by decide +kernel, by decide +kernel⟩
def f_X9_lastFrom_L10 : Nat → Int32 → Int32 → Int32 → St → Option (Int32 × St)
  | 0, _, _, _, _ => none
  | n + 1, v1, v2, v3, σ => (if v3 < 0 then (some ((-1), σ)) else (Option.bind (f_X2_get 3 v3 σ) fun r2 => (if r2.1 = v1 then (Option.bind (f_X10_inSet v2 v3 r2.2) fun r3 => (if r3.1 = 0 then (some (v3, r3.2)) else ((f_X9_lastFrom_L10 n) v1 v2 (v3 + (-1)) r3.2))) else ((f_X9_lastFrom_L10 n) v1 v2 (v3 + (-1)) r2.2))))
theorem w_X9_lastFrom_L10 {Y : YT} {X : XT} (C : Cx FC Y X cX9_lastFrom 4 RX9 (some .int) 1 (0, 0)) : ∀ (n : Nat), ∀ (v1 : Int32), ∀ (v2 : Int32), ∀ (v3 : Int32), ∀ (σ : St), G FC Y X 4 (emI FC Y) (0, 0) (0, 0) 10 [(0, Rf Y 2), (1, .int v1), (2, .int v2), (3, .int v3)] [] (RepS FC Y σ) (f_X9_lastFrom_L10 n v1 v2 v3 σ) := by
  intro n
  induction n with
  | zero =>
    intro v1 v2 v3 σ
    rw [f_X9_lastFrom_L10]; exact G.none
  | succ n ih =>
    intro v1 v2 v3 σ
    rw [f_X9_lastFrom_L10]
    refine q_iload_n C 3 dX9_lastFrom_10 rfl ?_
    refine q_if_lt C 42 dX9_lastFrom_11 rfl (fun _ => ?_) (fun _ => ?_)
    · refine q_iconst C (v := (-1)) dX9_lastFrom_42 (by decide) ?_
      exact q_ireti C rfl dX9_lastFrom_43
    refine q_aload_n C 0 dX9_lastFrom_14 rfl ?_
    refine gf_X9_14 C skC_2 dX9_lastFrom_15 ?_
    refine q_iload_n C 3 dX9_lastFrom_18 rfl ?_
    refine q_cVI C lk_X9_41 (w_X2_get (Y := Y) 3 v3 skC_3 σ) (Nat.le_of_ble_eq_true rfl) rfl skC_3 (ltC skC_3 rfl) recv_2 (rest := []) rfl rfl (Nat.le_of_ble_eq_true rfl) dX9_lastFrom_19 (fun r2 => ?_)
    refine q_iload_n C 1 dX9_lastFrom_22 rfl ?_
    refine q_icmp_ne C 36 dX9_lastFrom_23 rfl (fun _ => ?_) (fun _ => ?_)
    · refine q_iinc C 3 [(3, .int (v3 + (-1))), (0, Rf Y 2), (1, .int v1), (2, .int v2)] dX9_lastFrom_36 rfl rfl rfl rfl ?_
      refine q_goto C 10 dX9_lastFrom_39 rfl ?_
      refine G.sub [1, 2, 3, 0] (lv' := [(0, Rf Y 2), (1, .int v1), (2, .int v2), (3, .int (v3 + (-1)))]) rfl ?_
      exact ih v1 v2 (v3 + (-1)) r2.2
    refine q_iload_n C 2 dX9_lastFrom_26 rfl ?_
    refine q_iload_n C 3 dX9_lastFrom_27 rfl ?_
    refine q_cSNI C lk_X9_45 (w_X10_inSet (Y := Y) v2 v3 r2.2) (Nat.le_of_ble_eq_true rfl) rfl (rest := []) rfl rfl (Nat.le_of_ble_eq_true rfl) dX9_lastFrom_28 (fun r3 => ?_)
    refine q_if_ne C 36 dX9_lastFrom_31 rfl (fun _ => ?_) (fun _ => ?_)
    · refine q_iinc C 3 [(3, .int (v3 + (-1))), (0, Rf Y 2), (1, .int v1), (2, .int v2)] dX9_lastFrom_36 rfl rfl rfl rfl ?_
      refine q_goto C 10 dX9_lastFrom_39 rfl ?_
      refine G.sub [1, 2, 3, 0] (lv' := [(0, Rf Y 2), (1, .int v1), (2, .int v2), (3, .int (v3 + (-1)))]) rfl ?_
      exact ih v1 v2 (v3 + (-1)) r3.2
    refine q_iload_n C 3 dX9_lastFrom_34 rfl ?_
    exact q_ireti C rfl dX9_lastFrom_35
def f_X9_lastFrom (a1 : Int32) (a2 : Int32) (σ : St) : Option (Int32 × St) := (Option.bind (f_X2_size 3 σ) fun r1 => (f_X9_lastFrom_L10 400 a1 a2 (r1.1 - 1) r1.2))
theorem w_X9_lastFrom {Y : YT} (a1 : Int32) (a2 : Int32)   (σ : St) : CtE (emI FC Y) FC Y yX9_lastFrom cX9_lastFrom 4 (some .int) 1 [Rf Y 2, .int a1, .int a2] σ (f_X9_lastFrom a1 a2 σ) := by
  refine Ct.ofG (by decide) (Nat.le_of_ble_eq_true rfl) (fun X C0 => ?_)
  have C : Cx FC Y X cX9_lastFrom 4 RX9 (some .int) 1 (0, 0) := C0
  show G FC Y X 4 (emI FC Y) (0, 0) (0, 0) 0 [(0, Rf Y 2), (1, .int a1), (2, .int a2)] [] (RepS FC Y σ) (f_X9_lastFrom a1 a2 σ)
  rw [f_X9_lastFrom]
  refine q_aload_n C 0 dX9_lastFrom_0 rfl ?_
  refine gf_X9_14 C skC_2 dX9_lastFrom_1 ?_
  refine q_cVI C lk_X9_30 (w_X2_size (Y := Y) 3 skC_3 σ) (Nat.le_of_ble_eq_true rfl) rfl skC_3 (ltC skC_3 rfl) recv_2 (rest := []) rfl rfl (Nat.le_of_ble_eq_true rfl) dX9_lastFrom_4 (fun r1 => ?_)
  refine q_iconst C (v := 1) dX9_lastFrom_7 (by decide) ?_
  refine q_isub C dX9_lastFrom_8 ?_
  refine q_istore_n C [(3, .int (r1.1 - 1)), (0, Rf Y 2), (1, .int a1), (2, .int a2)] dX9_lastFrom_9 rfl rfl ?_
  refine G.sub [1, 2, 3, 0] (lv' := [(0, Rf Y 2), (1, .int a1), (2, .int a2), (3, .int (r1.1 - 1))]) rfl ?_
  exact w_X9_lastFrom_L10 C 400 a1 a2 (r1.1 - 1) r1.2
def f_X9_firstFrom_L2 : Nat → Int32 → Int32 → Int32 → St → Option (Int32 × St)
  | 0, _, _, _, _ => none
  | n + 1, v1, v2, v3, σ => (Option.bind (f_X2_size 3 σ) fun r1 => (if r1.1 ≤ v3 then (some ((-1), r1.2)) else (Option.bind (f_X2_get 3 v3 r1.2) fun r2 => (if r2.1 = v1 then (Option.bind (f_X10_inSet v2 v3 r2.2) fun r3 => (if r3.1 = 0 then (some (v3, r3.2)) else ((f_X9_firstFrom_L2 n) v1 v2 (v3 + 1) r3.2))) else ((f_X9_firstFrom_L2 n) v1 v2 (v3 + 1) r2.2)))))
theorem w_X9_firstFrom_L2 {Y : YT} {X : XT} (C : Cx FC Y X cX9_firstFrom 4 RX9 (some .int) 1 (0, 0)) : ∀ (n : Nat), ∀ (v1 : Int32), ∀ (v2 : Int32), ∀ (v3 : Int32), ∀ (σ : St), G FC Y X 4 (emI FC Y) (0, 0) (0, 0) 2 [(0, Rf Y 2), (1, .int v1), (2, .int v2), (3, .int v3)] [] (RepS FC Y σ) (f_X9_firstFrom_L2 n v1 v2 v3 σ) := by
  intro n
  induction n with
  | zero =>
    intro v1 v2 v3 σ
    rw [f_X9_firstFrom_L2]; exact G.none
  | succ n ih =>
    intro v1 v2 v3 σ
    rw [f_X9_firstFrom_L2]
    refine q_iload_n C 3 dX9_firstFrom_2 rfl ?_
    refine q_aload_n C 0 dX9_firstFrom_3 rfl ?_
    refine gf_X9_14 C skC_2 dX9_firstFrom_4 ?_
    refine q_cVI C lk_X9_30 (w_X2_size (Y := Y) 3 skC_3 σ) (Nat.le_of_ble_eq_true rfl) rfl skC_3 (ltC skC_3 rfl) recv_2 (rest := [.int v3]) rfl rfl (Nat.le_of_ble_eq_true rfl) dX9_firstFrom_7 (fun r1 => ?_)
    refine q_icmp_ge C 41 dX9_firstFrom_10 rfl (fun _ => ?_) (fun _ => ?_)
    · refine q_iconst C (v := (-1)) dX9_firstFrom_41 (by decide) ?_
      exact q_ireti C rfl dX9_firstFrom_42
    refine q_aload_n C 0 dX9_firstFrom_13 rfl ?_
    refine gf_X9_14 C skC_2 dX9_firstFrom_14 ?_
    refine q_iload_n C 3 dX9_firstFrom_17 rfl ?_
    refine q_cVI C lk_X9_41 (w_X2_get (Y := Y) 3 v3 skC_3 r1.2) (Nat.le_of_ble_eq_true rfl) rfl skC_3 (ltC skC_3 rfl) recv_2 (rest := []) rfl rfl (Nat.le_of_ble_eq_true rfl) dX9_firstFrom_18 (fun r2 => ?_)
    refine q_iload_n C 1 dX9_firstFrom_21 rfl ?_
    refine q_icmp_ne C 35 dX9_firstFrom_22 rfl (fun _ => ?_) (fun _ => ?_)
    · refine q_iinc C 3 [(3, .int (v3 + 1)), (0, Rf Y 2), (1, .int v1), (2, .int v2)] dX9_firstFrom_35 rfl rfl rfl rfl ?_
      refine q_goto C 2 dX9_firstFrom_38 rfl ?_
      refine G.sub [1, 2, 3, 0] (lv' := [(0, Rf Y 2), (1, .int v1), (2, .int v2), (3, .int (v3 + 1))]) rfl ?_
      exact ih v1 v2 (v3 + 1) r2.2
    refine q_iload_n C 2 dX9_firstFrom_25 rfl ?_
    refine q_iload_n C 3 dX9_firstFrom_26 rfl ?_
    refine q_cSNI C lk_X9_45 (w_X10_inSet (Y := Y) v2 v3 r2.2) (Nat.le_of_ble_eq_true rfl) rfl (rest := []) rfl rfl (Nat.le_of_ble_eq_true rfl) dX9_firstFrom_27 (fun r3 => ?_)
    refine q_if_ne C 35 dX9_firstFrom_30 rfl (fun _ => ?_) (fun _ => ?_)
    · refine q_iinc C 3 [(3, .int (v3 + 1)), (0, Rf Y 2), (1, .int v1), (2, .int v2)] dX9_firstFrom_35 rfl rfl rfl rfl ?_
      refine q_goto C 2 dX9_firstFrom_38 rfl ?_
      refine G.sub [1, 2, 3, 0] (lv' := [(0, Rf Y 2), (1, .int v1), (2, .int v2), (3, .int (v3 + 1))]) rfl ?_
      exact ih v1 v2 (v3 + 1) r3.2
    refine q_iload_n C 3 dX9_firstFrom_33 rfl ?_
    exact q_ireti C rfl dX9_firstFrom_34
def f_X9_firstFrom (a1 : Int32) (a2 : Int32) (σ : St) : Option (Int32 × St) := (f_X9_firstFrom_L2 400 a1 a2 0 σ)
theorem w_X9_firstFrom {Y : YT} (a1 : Int32) (a2 : Int32)   (σ : St) : CtE (emI FC Y) FC Y yX9_firstFrom cX9_firstFrom 4 (some .int) 1 [Rf Y 2, .int a1, .int a2] σ (f_X9_firstFrom a1 a2 σ) := by
  refine Ct.ofG (by decide) (Nat.le_of_ble_eq_true rfl) (fun X C0 => ?_)
  have C : Cx FC Y X cX9_firstFrom 4 RX9 (some .int) 1 (0, 0) := C0
  show G FC Y X 4 (emI FC Y) (0, 0) (0, 0) 0 [(0, Rf Y 2), (1, .int a1), (2, .int a2)] [] (RepS FC Y σ) (f_X9_firstFrom a1 a2 σ)
  rw [f_X9_firstFrom]
  refine q_iconst C (v := 0) dX9_firstFrom_0 (by decide) ?_
  refine q_istore_n C [(3, .int 0), (0, Rf Y 2), (1, .int a1), (2, .int a2)] dX9_firstFrom_1 rfl rfl ?_
  refine G.sub [1, 2, 3, 0] (lv' := [(0, Rf Y 2), (1, .int a1), (2, .int a2), (3, .int 0)]) rfl ?_
  exact w_X9_firstFrom_L2 C 400 a1 a2 0 σ
theorem lk_X7_140 : LkV RX7 140 yX9_lastFrom cX9_lastFrom 4 (some .int) 2 := ⟨TB_p [557, 558, 559, 71, 560] (by decide +kernel) (by decide +kernel), by decide +kernel, by decide +kernel, by decide +kernel⟩
theorem lk_X7_143 : LkV RX7 143 yX0_drinkersAt cX0_drinkersAt 4 (some .int) 1 := ⟨TB_p [563, 564, 565, 75, 566] (by decide +kernel) (by decide +kernel), by decide +kernel, by decide +kernel, by decide +kernel⟩
theorem lk_X7_148 : LkV RX7 148 yX9_firstFrom cX9_firstFrom 4 (some .int) 2 := ⟨TB_p [569, 570, 571, 71, 572] (by decide +kernel) (by decide +kernel), by decide +kernel, by decide +kernel, by decide +kernel⟩
def f_X7_nextWayOf (a1 : Nat) (a2 : Int32) (σ : St) : Option (Int32 × St) := (if (σ a1 0) = 2 then (Option.bind (f_X9_lastFrom (σ a1 2) a2 σ) fun r2 => (some (r2.1, r2.2))) else (if (σ a1 0) = 3 then (some ((-1), σ)) else (if (σ a1 0) = 4 then (Option.bind (f_X0_drinkersAt (σ a1 2) σ) fun r5 => (if (r5.1 &&& ((r5.2 a1 5) ^^^ (-1))) = 0 then (if (0 : Int32) = 0 then (Option.bind (f_X9_firstFrom (r5.2 a1 2) a2 r5.2) fun r6 => (some (r6.1, r6.2))) else (some ((-1), r5.2))) else (if (1 : Int32) = 0 then (Option.bind (f_X9_firstFrom (r5.2 a1 2) a2 r5.2) fun r7 => (some (r7.1, r7.2))) else (some ((-1), r5.2))))) else (if (σ a1 0) = 5 then (Option.bind (f_X9_lastFrom (σ a1 2) a2 σ) fun r9 => (some (r9.1, r9.2))) else (Option.bind (f_X9_firstFrom (σ a1 2) a2 σ) fun r10 => (some (r10.1, r10.2)))))))
theorem w_X7_nextWayOf {Y : YT} (a1 : Nat) (a2 : Int32)  (ha1 : shC a1 = 3) (σ : St) : CtE (emI FC Y) FC Y yX7_nextWayOf cX7_nextWayOf 4 (some .int) 2 [Rf Y 1, Rf Y a1, .int a2] σ (f_X7_nextWayOf a1 a2 σ) := by
  refine Ct.ofG (by decide) (Nat.le_of_ble_eq_true rfl) (fun X C0 => ?_)
  have C : Cx FC Y X cX7_nextWayOf 4 RX7 (some .int) 2 (0, 0) := C0
  show G FC Y X 4 (emI FC Y) (0, 0) (0, 0) 0 [(0, Rf Y 1), (1, Rf Y a1), (2, .int a2)] [] (RepS FC Y σ) (f_X7_nextWayOf a1 a2 σ)
  rw [f_X7_nextWayOf]
  refine q_aload_n C 1 dX7_nextWayOf_0 rfl ?_
  refine gf_X7_128 C ha1 dX7_nextWayOf_1 ?_
  refine G.ite (fun h1 => ?_) (fun h1 => ?_)
  · refine q_tsw_in C 36 dX7_nextWayOf_4 h1 (by decide) (by decide) rfl rfl ?_
    refine q_aload_n C 0 dX7_nextWayOf_36 rfl ?_
    refine gf_X7_27 C skC_1 dX7_nextWayOf_37 ?_
    refine q_aload_n C 1 dX7_nextWayOf_40 rfl ?_
    refine gf_X7_137 C ha1 dX7_nextWayOf_41 ?_
    refine q_iload_n C 2 dX7_nextWayOf_44 rfl ?_
    refine q_cVI C lk_X7_140 (w_X9_lastFrom (Y := Y) (σ a1 2) a2 σ) (Nat.le_of_ble_eq_true rfl) rfl skC_2 (ltC skC_2 rfl) recv_9 (rest := []) rfl rfl (Nat.le_of_ble_eq_true rfl) dX7_nextWayOf_45 (fun r2 => ?_)
    exact q_ireti C rfl dX7_nextWayOf_48
  refine G.ite (fun h3 => ?_) (fun h3 => ?_)
  · refine q_tsw_in C 49 dX7_nextWayOf_4 h3 (by decide) (by decide) rfl rfl ?_
    refine q_iconst C (v := (-1)) dX7_nextWayOf_49 (by decide) ?_
    exact q_ireti C rfl dX7_nextWayOf_50
  refine G.ite (fun h4 => ?_) (fun h4 => ?_)
  · refine q_tsw_in C 51 dX7_nextWayOf_4 h4 (by decide) (by decide) rfl rfl ?_
    refine q_aload_n C 0 dX7_nextWayOf_51 rfl ?_
    refine gf_X7_41 C skC_1 dX7_nextWayOf_52 ?_
    refine q_aload_n C 1 dX7_nextWayOf_55 rfl ?_
    refine gf_X7_137 C ha1 dX7_nextWayOf_56 ?_
    refine q_cVI C lk_X7_143 (w_X0_drinkersAt (Y := Y) (σ a1 2) σ) (Nat.le_of_ble_eq_true rfl) rfl skC_22 (ltC skC_22 rfl) recv_0 (rest := []) rfl rfl (Nat.le_of_ble_eq_true rfl) dX7_nextWayOf_59 (fun r5 => ?_)
    refine q_aload_n C 1 dX7_nextWayOf_62 rfl ?_
    refine gf_X7_146 C ha1 dX7_nextWayOf_63 ?_
    refine q_iconst C (v := (-1)) dX7_nextWayOf_66 (by decide) ?_
    refine q_ixor C dX7_nextWayOf_67 ?_
    refine q_iand C dX7_nextWayOf_68 ?_
    refine q_if_eq C 76 dX7_nextWayOf_69 rfl (fun _ => ?_) (fun _ => ?_)
    · refine q_iconst C (v := 0) dX7_nextWayOf_76 (by decide) ?_
      refine q_istore_n C [(3, .int 0), (0, Rf Y 1), (1, Rf Y a1), (2, .int a2)] dX7_nextWayOf_77 rfl rfl ?_
      refine q_iload_n C 0 dX7_nextWayOf_78 rfl ?_
      refine q_if_eq C 86 dX7_nextWayOf_79 rfl (fun _ => ?_) (fun _ => ?_)
      · refine q_aload_n C 1 dX7_nextWayOf_86 rfl ?_
        refine gf_X7_27 C skC_1 dX7_nextWayOf_87 ?_
        refine q_aload_n C 2 dX7_nextWayOf_90 rfl ?_
        refine gf_X7_137 C ha1 dX7_nextWayOf_91 ?_
        refine q_iload_n C 3 dX7_nextWayOf_94 rfl ?_
        refine q_cVI C lk_X7_148 (w_X9_firstFrom (Y := Y) (r5.2 a1 2) a2 r5.2) (Nat.le_of_ble_eq_true rfl) rfl skC_2 (ltC skC_2 rfl) recv_9 (rest := []) rfl rfl (Nat.le_of_ble_eq_true rfl) dX7_nextWayOf_95 (fun r6 => ?_)
        exact q_ireti C rfl dX7_nextWayOf_98
      refine q_iconst C (v := (-1)) dX7_nextWayOf_82 (by decide) ?_
      refine q_goto C 98 dX7_nextWayOf_83 rfl ?_
      exact q_ireti C rfl dX7_nextWayOf_98
    refine q_iconst C (v := 1) dX7_nextWayOf_72 (by decide) ?_
    refine q_goto C 77 dX7_nextWayOf_73 rfl ?_
    refine q_istore_n C [(3, .int 1), (0, Rf Y 1), (1, Rf Y a1), (2, .int a2)] dX7_nextWayOf_77 rfl rfl ?_
    refine q_iload_n C 0 dX7_nextWayOf_78 rfl ?_
    refine q_if_eq C 86 dX7_nextWayOf_79 rfl (fun _ => ?_) (fun _ => ?_)
    · refine q_aload_n C 1 dX7_nextWayOf_86 rfl ?_
      refine gf_X7_27 C skC_1 dX7_nextWayOf_87 ?_
      refine q_aload_n C 2 dX7_nextWayOf_90 rfl ?_
      refine gf_X7_137 C ha1 dX7_nextWayOf_91 ?_
      refine q_iload_n C 3 dX7_nextWayOf_94 rfl ?_
      refine q_cVI C lk_X7_148 (w_X9_firstFrom (Y := Y) (r5.2 a1 2) a2 r5.2) (Nat.le_of_ble_eq_true rfl) rfl skC_2 (ltC skC_2 rfl) recv_9 (rest := []) rfl rfl (Nat.le_of_ble_eq_true rfl) dX7_nextWayOf_95 (fun r7 => ?_)
      exact q_ireti C rfl dX7_nextWayOf_98
    refine q_iconst C (v := (-1)) dX7_nextWayOf_82 (by decide) ?_
    refine q_goto C 98 dX7_nextWayOf_83 rfl ?_
    exact q_ireti C rfl dX7_nextWayOf_98
  refine G.ite (fun h8 => ?_) (fun h8 => ?_)
  · refine q_tsw_in C 36 dX7_nextWayOf_4 h8 (by decide) (by decide) rfl rfl ?_
    refine q_aload_n C 0 dX7_nextWayOf_36 rfl ?_
    refine gf_X7_27 C skC_1 dX7_nextWayOf_37 ?_
    refine q_aload_n C 1 dX7_nextWayOf_40 rfl ?_
    refine gf_X7_137 C ha1 dX7_nextWayOf_41 ?_
    refine q_iload_n C 2 dX7_nextWayOf_44 rfl ?_
    refine q_cVI C lk_X7_140 (w_X9_lastFrom (Y := Y) (σ a1 2) a2 σ) (Nat.le_of_ble_eq_true rfl) rfl skC_2 (ltC skC_2 rfl) recv_9 (rest := []) rfl rfl (Nat.le_of_ble_eq_true rfl) dX7_nextWayOf_45 (fun r9 => ?_)
    exact q_ireti C rfl dX7_nextWayOf_48
  refine q_tsw_out C 99 dX7_nextWayOf_4 ?_ rfl ?_
  · have hsw := sw_out 2 4 (by decide) (by decide) ⟨h1, h3, h4, h8, trivial⟩
    omega
  refine q_aload_n C 0 dX7_nextWayOf_99 rfl ?_
  refine gf_X7_27 C skC_1 dX7_nextWayOf_100 ?_
  refine q_aload_n C 1 dX7_nextWayOf_103 rfl ?_
  refine gf_X7_137 C ha1 dX7_nextWayOf_104 ?_
  refine q_iload_n C 2 dX7_nextWayOf_107 rfl ?_
  refine q_cVI C lk_X7_148 (w_X9_firstFrom (Y := Y) (σ a1 2) a2 σ) (Nat.le_of_ble_eq_true rfl) rfl skC_2 (ltC skC_2 rfl) recv_9 (rest := []) rfl rfl (Nat.le_of_ble_eq_true rfl) dX7_nextWayOf_108 (fun r10 => ?_)
  exact q_ireti C rfl dX7_nextWayOf_111
theorem lk_X9_34 : LkV RX9 34 yX2_has cX2_has 2 (some .boolean) 1 := ⟨TB_p [481, 482, 483, 72, 484] (by decide +kernel) (by decide +kernel), by decide +kernel, by decide +kernel, by decide +kernel⟩
def f_X9_has (a1 : Int32) (σ : St) : Option (Int32 × St) := (Option.bind (f_X2_has 3 a1 σ) fun r1 => (if r1.1 = 0 ∨ r1.1 = 1 then (some (r1.1, r1.2)) else none))
theorem w_X9_has {Y : YT} (a1 : Int32)   (σ : St) : CtE (emI FC Y) FC Y yX9_has cX9_has 2 (some .boolean) 1 [Rf Y 2, .int a1] σ (f_X9_has a1 σ) := by
  refine Ct.ofG (by decide) (Nat.le_of_ble_eq_true rfl) (fun X C0 => ?_)
  have C : Cx FC Y X cX9_has 2 RX9 (some .boolean) 1 (0, 0) := C0
  show G FC Y X 2 (emI FC Y) (0, 0) (0, 0) 0 [(0, Rf Y 2), (1, .int a1)] [] (RepS FC Y σ) (f_X9_has a1 σ)
  rw [f_X9_has]
  refine q_aload_n C 0 dX9_has_0 rfl ?_
  refine gf_X9_14 C skC_2 dX9_has_1 ?_
  refine q_iload_n C 1 dX9_has_4 rfl ?_
  refine q_cVI C lk_X9_34 (w_X2_has (Y := Y) 3 a1 skC_3 σ) (Nat.le_of_ble_eq_true rfl) rfl skC_3 (ltC skC_3 rfl) recv_2 (rest := []) rfl rfl (Nat.le_of_ble_eq_true rfl) dX9_has_5 (fun r1 => ?_)
  exact G.ite (fun h => q_iretz C h rfl dX9_has_8) (fun _ => G.none)
theorem lk_X7_175 : LkV RX7 175 yX0_size cX0_size 1 (some .int) 0 := ⟨TB_p [821, 455, 456, 75, 457] (by decide +kernel) (by decide +kernel), by decide +kernel, by decide +kernel, by decide +kernel⟩
theorem lk_X7_179 : LkSN RX7 179 yX10_withMember "WellTold" cX10_withMember 3 (some .int) 3 := ⟨TB_p [493, 69, 494] (by decide +kernel) (by decide +kernel), by decide +kernel, by decide +kernel, by decide +kernel, by decide +kernel⟩
def f_X7_beTasted_L44 (rf2 : Nat → Int32 → Int32 → St → Option (St)) (v1 : Nat) (v2 : Int32) (v3 : Int32) (v4 : Int32) (w0 : Int32) (σ : St) : Option (St) := (if w0 = 0 then (rf2 v1 v2 (v3 + 1) σ) else (Option.bind (f_X2_get 23 v3 σ) fun r3 => (if r3.1 = (r3.2 v1 2) then (Option.bind (f_X6_gives 36 (r3.2 v1 3) v4 v2 r3.2) fun r4 => (if r4.1 = 0 then (rf2 v1 v2 (v3 + 1) r4.2) else (Option.bind (f_X10_withMember (r4.2 v1 5) v3 1 r4.2) fun r5 => (Bst (up r5.2 v1 5 r5.1) fun s6 => (rf2 v1 v2 (v3 + 1) s6))))) else (rf2 v1 v2 (v3 + 1) r3.2))))
theorem w_X7_beTasted_L44 {Y : YT} {X : XT} (C : Cx FC Y X cX7_beTasted 6 RX7 none 2 (0, 0)) {rf2 : Nat → Int32 → Int32 → St → Option (St)} (ih2 : ∀ (v1 : Nat), ∀ (v2 : Int32), ∀ (v3 : Int32), shC v1 = 3 → ∀ (σ : St), G FC Y X 6 (emV FC Y) (0, 0) (0, 0) 2 [(0, Rf Y 1), (1, Rf Y v1), (2, .int v2), (3, .int v3)] [] (RepS FC Y σ) (rf2 v1 v2 v3 σ)) : ∀ (v1 : Nat), ∀ (v2 : Int32), ∀ (v3 : Int32), ∀ (v4 : Int32), ∀ (w0 : Int32), shC v1 = 3 → ∀ (σ : St), G FC Y X 6 (emV FC Y) (0, 0) (0, 0) 44 [(0, Rf Y 1), (1, Rf Y v1), (2, .int v2), (3, .int v3), (4, .int v4)] [.int w0] (RepS FC Y σ) (f_X7_beTasted_L44 rf2 v1 v2 v3 v4 w0 σ) := by
  intro v1 v2 v3 v4 w0 hv1 σ
  rw [f_X7_beTasted_L44]
  refine q_istore C [(5, .int w0), (0, Rf Y 1), (1, Rf Y v1), (2, .int v2), (3, .int v3), (4, .int v4)] dX7_beTasted_44 rfl rfl ?_
  refine q_iload C 0 dX7_beTasted_46 rfl ?_
  refine q_if_eq C 99 dX7_beTasted_48 rfl (fun _ => ?_) (fun _ => ?_)
  · refine q_iinc C 4 [(3, .int (v3 + 1)), (5, .int w0), (0, Rf Y 1), (1, Rf Y v1), (2, .int v2), (4, .int v4)] dX7_beTasted_99 rfl rfl rfl rfl ?_
    refine q_goto C 2 dX7_beTasted_102 rfl ?_
    refine G.sub [2, 3, 4, 0] (lv' := [(0, Rf Y 1), (1, Rf Y v1), (2, .int v2), (3, .int (v3 + 1))]) rfl ?_
    exact ih2 v1 v2 (v3 + 1) hv1 σ
  refine q_aload_n C 1 dX7_beTasted_51 rfl ?_
  refine gf_X7_41 C skC_1 dX7_beTasted_52 ?_
  refine gf_X7_100 C skC_22 dX7_beTasted_55 ?_
  refine q_iload_n C 4 dX7_beTasted_58 rfl ?_
  refine q_cVI C lk_X7_103 (w_X2_get (Y := Y) 23 v3 skC_23 σ) (Nat.le_of_ble_eq_true rfl) rfl skC_23 (ltC skC_23 rfl) recv_2 (rest := []) rfl rfl (Nat.le_of_ble_eq_true rfl) dX7_beTasted_59 (fun r3 => ?_)
  refine q_aload_n C 2 dX7_beTasted_62 rfl ?_
  refine gf_X7_137 C hv1 dX7_beTasted_63 ?_
  refine q_icmp_ne C 99 dX7_beTasted_66 rfl (fun _ => ?_) (fun _ => ?_)
  · refine q_iinc C 4 [(3, .int (v3 + 1)), (5, .int w0), (0, Rf Y 1), (1, Rf Y v1), (2, .int v2), (4, .int v4)] dX7_beTasted_99 rfl rfl rfl rfl ?_
    refine q_goto C 2 dX7_beTasted_102 rfl ?_
    refine G.sub [2, 3, 4, 0] (lv' := [(0, Rf Y 1), (1, Rf Y v1), (2, .int v2), (3, .int (v3 + 1))]) rfl ?_
    exact ih2 v1 v2 (v3 + 1) hv1 r3.2
  refine q_aload_n C 1 dX7_beTasted_69 rfl ?_
  refine gf_X7_64 C skC_1 dX7_beTasted_70 ?_
  refine q_aload_n C 2 dX7_beTasted_73 rfl ?_
  refine gf_X7_118 C hv1 dX7_beTasted_74 ?_
  refine q_iload C 5 dX7_beTasted_77 rfl ?_
  refine q_iload_n C 3 dX7_beTasted_79 rfl ?_
  refine q_cVI C lk_X7_124 (w_X6_gives (Y := Y) 36 (r3.2 v1 3) v4 v2 skC_36 r3.2) (Nat.le_of_ble_eq_true rfl) rfl skC_36 (ltC skC_36 rfl) recv_6 (rest := []) rfl rfl (Nat.le_of_ble_eq_true rfl) dX7_beTasted_80 (fun r4 => ?_)
  refine q_if_eq C 99 dX7_beTasted_83 rfl (fun _ => ?_) (fun _ => ?_)
  · refine q_iinc C 4 [(3, .int (v3 + 1)), (5, .int w0), (0, Rf Y 1), (1, Rf Y v1), (2, .int v2), (4, .int v4)] dX7_beTasted_99 rfl rfl rfl rfl ?_
    refine q_goto C 2 dX7_beTasted_102 rfl ?_
    refine G.sub [2, 3, 4, 0] (lv' := [(0, Rf Y 1), (1, Rf Y v1), (2, .int v2), (3, .int (v3 + 1))]) rfl ?_
    exact ih2 v1 v2 (v3 + 1) hv1 r4.2
  refine q_aload_n C 2 dX7_beTasted_86 rfl ?_
  refine q_aload_n C 2 dX7_beTasted_87 rfl ?_
  refine gf_X7_146 C hv1 dX7_beTasted_88 ?_
  refine q_iload_n C 4 dX7_beTasted_91 rfl ?_
  refine q_iconst C (v := 1) dX7_beTasted_92 (by decide) ?_
  refine q_cSNI C lk_X7_179 (w_X10_withMember (Y := Y) (r4.2 v1 5) v3 1 r4.2) (Nat.le_of_ble_eq_true rfl) rfl (rest := [Rf Y v1]) rfl rfl (Nat.le_of_ble_eq_true rfl) dX7_beTasted_93 (fun r5 => ?_)
  refine pf_X7_146 C hv1 dX7_beTasted_96 (fun s6 => ?_)
  refine q_iinc C 4 [(3, .int (v3 + 1)), (5, .int w0), (0, Rf Y 1), (1, Rf Y v1), (2, .int v2), (4, .int v4)] dX7_beTasted_99 rfl rfl rfl rfl ?_
  refine q_goto C 2 dX7_beTasted_102 rfl ?_
  refine G.sub [2, 3, 4, 0] (lv' := [(0, Rf Y 1), (1, Rf Y v1), (2, .int v2), (3, .int (v3 + 1))]) rfl ?_
  exact ih2 v1 v2 (v3 + 1) hv1 s6
def f_X7_beTasted_L2 : Nat → Nat → Int32 → Int32 → St → Option (St)
  | 0, _, _, _, _ => none
  | n + 1, v1, v2, v3, σ => (Option.bind (f_X0_size σ) fun r1 => (if r1.1 ≤ v3 then (some r1.2) else (Option.bind (f_X2_get 25 v3 r1.2) fun r2 => (if (r2.2 v1 3) < (imax 1 r2.1) then (f_X7_beTasted_L44 (f_X7_beTasted_L2 n) v1 v2 v3 r2.1 0 r2.2) else (f_X7_beTasted_L44 (f_X7_beTasted_L2 n) v1 v2 v3 r2.1 1 r2.2)))))
theorem w_X7_beTasted_L2 {Y : YT} {X : XT} (C : Cx FC Y X cX7_beTasted 6 RX7 none 2 (0, 0)) : ∀ (n : Nat), ∀ (v1 : Nat), ∀ (v2 : Int32), ∀ (v3 : Int32), shC v1 = 3 → ∀ (σ : St), G FC Y X 6 (emV FC Y) (0, 0) (0, 0) 2 [(0, Rf Y 1), (1, Rf Y v1), (2, .int v2), (3, .int v3)] [] (RepS FC Y σ) (f_X7_beTasted_L2 n v1 v2 v3 σ) := by
  intro n
  induction n with
  | zero =>
    intro v1 v2 v3 hv1 σ
    rw [f_X7_beTasted_L2]; exact G.none
  | succ n ih =>
    intro v1 v2 v3 hv1 σ
    rw [f_X7_beTasted_L2]
    refine q_iload_n C 3 dX7_beTasted_2 rfl ?_
    refine q_aload_n C 0 dX7_beTasted_3 rfl ?_
    refine gf_X7_41 C skC_1 dX7_beTasted_4 ?_
    refine q_cVI C lk_X7_175 (w_X0_size (Y := Y) σ) (Nat.le_of_ble_eq_true rfl) rfl skC_22 (ltC skC_22 rfl) recv_0 (rest := [.int v3]) rfl rfl (Nat.le_of_ble_eq_true rfl) dX7_beTasted_7 (fun r1 => ?_)
    refine q_icmp_ge C 105 dX7_beTasted_10 rfl (fun _ => ?_) (fun _ => ?_)
    · exact q_vret C rfl dX7_beTasted_105
    refine q_aload_n C 0 dX7_beTasted_13 rfl ?_
    refine gf_X7_41 C skC_1 dX7_beTasted_14 ?_
    refine gf_X7_107 C skC_22 dX7_beTasted_17 ?_
    refine q_iload_n C 3 dX7_beTasted_20 rfl ?_
    refine q_cVI C lk_X7_103 (w_X2_get (Y := Y) 25 v3 skC_25 r1.2) (Nat.le_of_ble_eq_true rfl) rfl skC_25 (ltC skC_25 rfl) recv_2 (rest := []) rfl rfl (Nat.le_of_ble_eq_true rfl) dX7_beTasted_21 (fun r2 => ?_)
    refine q_istore C [(4, .int r2.1), (0, Rf Y 1), (1, Rf Y v1), (2, .int v2), (3, .int v3)] dX7_beTasted_24 rfl rfl ?_
    refine q_aload_n C 2 dX7_beTasted_26 rfl ?_
    refine gf_X7_118 C hv1 dX7_beTasted_27 ?_
    refine q_iconst C (v := 1) dX7_beTasted_30 (by decide) ?_
    refine q_iload C 0 dX7_beTasted_31 rfl ?_
    refine q_mmax C (idx := 131) (TB_of (List.mem_of_getElem? (i := 552) (by decide +kernel)) rfl) (Nat.le_of_ble_eq_true rfl) (Nat.le_of_ble_eq_true rfl) dX7_beTasted_33 ?_
    refine q_icmp_lt C 43 dX7_beTasted_36 rfl (fun _ => ?_) (fun _ => ?_)
    · refine q_iconst C (v := 0) dX7_beTasted_43 (by decide) ?_
      refine G.sub [1, 2, 3, 4, 0] (lv' := [(0, Rf Y 1), (1, Rf Y v1), (2, .int v2), (3, .int v3), (4, .int r2.1)]) rfl ?_
      exact w_X7_beTasted_L44 C (rf2 := (f_X7_beTasted_L2 n)) ih v1 v2 v3 r2.1 0 hv1 r2.2
    refine q_iconst C (v := 1) dX7_beTasted_39 (by decide) ?_
    refine q_goto C 44 dX7_beTasted_40 rfl ?_
    refine G.sub [1, 2, 3, 4, 0] (lv' := [(0, Rf Y 1), (1, Rf Y v1), (2, .int v2), (3, .int v3), (4, .int r2.1)]) rfl ?_
    exact w_X7_beTasted_L44 C (rf2 := (f_X7_beTasted_L2 n)) ih v1 v2 v3 r2.1 1 hv1 r2.2
def f_X7_beTasted (a1 : Nat) (a2 : Int32) (σ : St) : Option (St) := (f_X7_beTasted_L2 400 a1 a2 0 σ)
theorem w_X7_beTasted {Y : YT} (a1 : Nat) (a2 : Int32)  (ha1 : shC a1 = 3) (σ : St) : CtE (emV FC Y) FC Y yX7_beTasted cX7_beTasted 6 none 2 [Rf Y 1, Rf Y a1, .int a2] σ (f_X7_beTasted a1 a2 σ) := by
  refine Ct.ofG (by decide) (Nat.le_of_ble_eq_true rfl) (fun X C0 => ?_)
  have C : Cx FC Y X cX7_beTasted 6 RX7 none 2 (0, 0) := C0
  show G FC Y X 6 (emV FC Y) (0, 0) (0, 0) 0 [(0, Rf Y 1), (1, Rf Y a1), (2, .int a2)] [] (RepS FC Y σ) (f_X7_beTasted a1 a2 σ)
  rw [f_X7_beTasted]
  refine q_iconst C (v := 0) dX7_beTasted_0 (by decide) ?_
  refine q_istore_n C [(3, .int 0), (0, Rf Y 1), (1, Rf Y a1), (2, .int a2)] dX7_beTasted_1 rfl rfl ?_
  refine G.sub [1, 2, 3, 0] (lv' := [(0, Rf Y 1), (1, Rf Y a1), (2, .int a2), (3, .int 0)]) rfl ?_
  exact w_X7_beTasted_L2 C 400 a1 a2 0 ha1 σ
theorem lk_X7_151 : LkV RX7 151 yX7_weakeningOf cX7_weakeningOf 4 (some .int) 2 := ⟨TB_p [814, 530, 531, 70, 532] (by decide +kernel) (by decide +kernel), by decide +kernel, by decide +kernel, by decide +kernel⟩
theorem lk_X7_158 : LkV RX7 158 yX7_nextWayOf cX7_nextWayOf 4 (some .int) 2 := ⟨TB_p [815, 554, 555, 70, 556] (by decide +kernel) (by decide +kernel), by decide +kernel, by decide +kernel, by decide +kernel⟩
theorem lk_X7_161 : LkV RX7 161 yX9_has cX9_has 2 (some .boolean) 1 := ⟨TB_p [816, 478, 479, 71, 480] (by decide +kernel) (by decide +kernel), by decide +kernel, by decide +kernel, by decide +kernel⟩
theorem lk_X7_171 : LkV RX7 171 yX7_beTasted cX7_beTasted 6 none 2 := ⟨TB_p [817, 819, 10, 70, 820] (by decide +kernel) (by decide +kernel), by decide +kernel, by decide +kernel, by decide +kernel⟩
def f_X7_pass (a1 : Nat) (a2 : Int32) (a3 : Int32) (a4 : Int32) (σ : St) : Option (St) := (Option.bind (f_X7_weakeningOf a1 a2 σ) fun r1 => (Bst (up r1.2 a1 3 (imax 0 ((σ a1 3) - r1.1))) fun s2 => (if (s2 a1 4) ≤ 0 then (Option.bind (f_X7_nextWayOf a1 a3 s2) fun r3 => (Option.bind (f_X9_has r3.1 r3.2) fun r4 => (if r4.1 = 0 then (if (r4.2 a1 4) = 0 then (Option.bind (f_X7_beTasted a1 a4 r4.2) fun r5 => (some r5)) else (some r4.2)) else (Option.bind (f_X2_get 5 r3.1 r4.2) fun r6 => (Bst (up r6.2 a1 2 r6.1) fun s7 => (Option.bind (f_X2_get 7 r3.1 s7) fun r8 => (Bst (up r8.2 a1 4 r8.1) fun s9 => (if (s9 a1 4) = 0 then (Option.bind (f_X7_beTasted a1 a4 s9) fun r10 => (some r10)) else (some s9))))))))) else (Bst (up s2 a1 4 ((s2 a1 4) - 1)) fun s11 => (if (s11 a1 4) = 0 then (Option.bind (f_X7_beTasted a1 a4 s11) fun r12 => (some r12)) else (some s11))))))
theorem w_X7_pass {Y : YT} (a1 : Nat) (a2 : Int32) (a3 : Int32) (a4 : Int32)  (ha1 : shC a1 = 3) (σ : St) : CtE (emV FC Y) FC Y yX7_pass cX7_pass 6 none 3 [Rf Y 1, Rf Y a1, .int a2, .int a3, .int a4] σ (f_X7_pass a1 a2 a3 a4 σ) := by
  refine Ct.ofG (by decide) (Nat.le_of_ble_eq_true rfl) (fun X C0 => ?_)
  have C : Cx FC Y X cX7_pass 6 RX7 none 3 (0, 0) := C0
  show G FC Y X 6 (emV FC Y) (0, 0) (0, 0) 0 [(0, Rf Y 1), (1, Rf Y a1), (2, .int a2), (3, .int a3), (4, .int a4)] [] (RepS FC Y σ) (f_X7_pass a1 a2 a3 a4 σ)
  rw [f_X7_pass]
  refine q_aload_n C 1 dX7_pass_0 rfl ?_
  refine q_iconst C (v := 0) dX7_pass_1 (by decide) ?_
  refine q_aload_n C 1 dX7_pass_2 rfl ?_
  refine gf_X7_118 C ha1 dX7_pass_3 ?_
  refine q_aload_n C 0 dX7_pass_6 rfl ?_
  refine q_aload_n C 1 dX7_pass_7 rfl ?_
  refine q_iload_n C 2 dX7_pass_8 rfl ?_
  refine q_cVI C lk_X7_151 (w_X7_weakeningOf (Y := Y) a1 a2 ha1 σ) (Nat.le_of_ble_eq_true rfl) rfl skC_1 (ltC skC_1 rfl) recv_7 (rest := [.int (σ a1 3), .int 0, Rf Y a1]) rfl rfl (Nat.le_of_ble_eq_true rfl) dX7_pass_9 (fun r1 => ?_)
  refine q_isub C dX7_pass_12 ?_
  refine q_mmax C (idx := 131) (TB_of (List.mem_of_getElem? (i := 552) (by decide +kernel)) rfl) (Nat.le_of_ble_eq_true rfl) (Nat.le_of_ble_eq_true rfl) dX7_pass_13 ?_
  refine pf_X7_118 C ha1 dX7_pass_16 (fun s2 => ?_)
  refine q_aload_n C 1 dX7_pass_19 rfl ?_
  refine gf_X7_155 C ha1 dX7_pass_20 ?_
  refine q_if_le C 39 dX7_pass_23 rfl (fun _ => ?_) (fun _ => ?_)
  · refine q_aload_n C 0 dX7_pass_39 rfl ?_
    refine q_aload_n C 1 dX7_pass_40 rfl ?_
    refine q_iload_n C 3 dX7_pass_41 rfl ?_
    refine q_cVI C lk_X7_158 (w_X7_nextWayOf (Y := Y) a1 a3 ha1 s2) (Nat.le_of_ble_eq_true rfl) rfl skC_1 (ltC skC_1 rfl) recv_7 (rest := []) rfl rfl (Nat.le_of_ble_eq_true rfl) dX7_pass_42 (fun r3 => ?_)
    refine q_istore C [(5, .int r3.1), (0, Rf Y 1), (1, Rf Y a1), (2, .int a2), (3, .int a3), (4, .int a4)] dX7_pass_45 rfl rfl ?_
    refine q_aload_n C 1 dX7_pass_47 rfl ?_
    refine gf_X7_27 C skC_1 dX7_pass_48 ?_
    refine q_iload C 0 dX7_pass_51 rfl ?_
    refine q_cVI C lk_X7_161 (w_X9_has (Y := Y) r3.1 r3.2) (Nat.le_of_ble_eq_true rfl) rfl skC_2 (ltC skC_2 rfl) recv_9 (rest := []) rfl rfl (Nat.le_of_ble_eq_true rfl) dX7_pass_53 (fun r4 => ?_)
    refine q_if_eq C 91 dX7_pass_56 rfl (fun _ => ?_) (fun _ => ?_)
    · refine q_aload_n C 2 dX7_pass_91 rfl ?_
      refine gf_X7_155 C ha1 dX7_pass_92 ?_
      refine q_if_ne C 105 dX7_pass_95 rfl (fun _ => ?_) (fun _ => ?_)
      · exact q_vret C rfl dX7_pass_105
      refine q_aload_n C 1 dX7_pass_98 rfl ?_
      refine q_aload_n C 2 dX7_pass_99 rfl ?_
      refine q_iload C 5 dX7_pass_100 rfl ?_
      refine q_cVV C lk_X7_171 (w_X7_beTasted (Y := Y) a1 a4 ha1 r4.2) (Nat.le_of_ble_eq_true rfl) rfl skC_1 (ltC skC_1 rfl) recv_7 (rest := []) rfl rfl (Nat.le_of_ble_eq_true rfl) dX7_pass_102 (fun r5 => ?_)
      exact q_vret C rfl dX7_pass_105
    refine q_aload_n C 2 dX7_pass_59 rfl ?_
    refine q_aload_n C 1 dX7_pass_60 rfl ?_
    refine gf_X7_27 C skC_1 dX7_pass_61 ?_
    refine gf_X7_165 C skC_2 dX7_pass_64 ?_
    refine q_iload C 0 dX7_pass_67 rfl ?_
    refine q_cVI C lk_X7_103 (w_X2_get (Y := Y) 5 r3.1 skC_5 r4.2) (Nat.le_of_ble_eq_true rfl) rfl skC_5 (ltC skC_5 rfl) recv_2 (rest := [Rf Y a1]) rfl rfl (Nat.le_of_ble_eq_true rfl) dX7_pass_69 (fun r6 => ?_)
    refine pf_X7_137 C ha1 dX7_pass_72 (fun s7 => ?_)
    refine q_aload_n C 2 dX7_pass_75 rfl ?_
    refine q_aload_n C 1 dX7_pass_76 rfl ?_
    refine gf_X7_27 C skC_1 dX7_pass_77 ?_
    refine gf_X7_168 C skC_2 dX7_pass_80 ?_
    refine q_iload C 0 dX7_pass_83 rfl ?_
    refine q_cVI C lk_X7_103 (w_X2_get (Y := Y) 7 r3.1 skC_7 s7) (Nat.le_of_ble_eq_true rfl) rfl skC_7 (ltC skC_7 rfl) recv_2 (rest := [Rf Y a1]) rfl rfl (Nat.le_of_ble_eq_true rfl) dX7_pass_85 (fun r8 => ?_)
    refine pf_X7_155 C ha1 dX7_pass_88 (fun s9 => ?_)
    refine q_aload_n C 2 dX7_pass_91 rfl ?_
    refine gf_X7_155 C ha1 dX7_pass_92 ?_
    refine q_if_ne C 105 dX7_pass_95 rfl (fun _ => ?_) (fun _ => ?_)
    · exact q_vret C rfl dX7_pass_105
    refine q_aload_n C 1 dX7_pass_98 rfl ?_
    refine q_aload_n C 2 dX7_pass_99 rfl ?_
    refine q_iload C 5 dX7_pass_100 rfl ?_
    refine q_cVV C lk_X7_171 (w_X7_beTasted (Y := Y) a1 a4 ha1 s9) (Nat.le_of_ble_eq_true rfl) rfl skC_1 (ltC skC_1 rfl) recv_7 (rest := []) rfl rfl (Nat.le_of_ble_eq_true rfl) dX7_pass_102 (fun r10 => ?_)
    exact q_vret C rfl dX7_pass_105
  refine q_aload_n C 1 dX7_pass_26 rfl ?_
  refine q_dup C dX7_pass_27 rfl ?_
  refine gf_X7_155 C ha1 dX7_pass_28 ?_
  refine q_iconst C (v := 1) dX7_pass_31 (by decide) ?_
  refine q_isub C dX7_pass_32 ?_
  refine pf_X7_155 C ha1 dX7_pass_33 (fun s11 => ?_)
  refine q_goto C 91 dX7_pass_36 rfl ?_
  refine q_aload_n C 1 dX7_pass_91 rfl ?_
  refine gf_X7_155 C ha1 dX7_pass_92 ?_
  refine q_if_ne C 105 dX7_pass_95 rfl (fun _ => ?_) (fun _ => ?_)
  · exact q_vret C rfl dX7_pass_105
  refine q_aload_n C 0 dX7_pass_98 rfl ?_
  refine q_aload_n C 1 dX7_pass_99 rfl ?_
  refine q_iload C 4 dX7_pass_100 rfl ?_
  refine q_cVV C lk_X7_171 (w_X7_beTasted (Y := Y) a1 a4 ha1 s11) (Nat.le_of_ble_eq_true rfl) rfl skC_1 (ltC skC_1 rfl) recv_7 (rest := []) rfl rfl (Nat.le_of_ble_eq_true rfl) dX7_pass_102 (fun r12 => ?_)
  exact q_vret C rfl dX7_pass_105
theorem lk_X7_183 : LkV RX7 183 yX7_pass cX7_pass 6 none 4 := ⟨TB_p [810, 811, 812, 70, 813] (by decide +kernel) (by decide +kernel), by decide +kernel, by decide +kernel, by decide +kernel⟩
def f_X7_passAll_L3 : Nat → Nat → Int32 → Int32 → Int32 → Int32 → St → Option (St)
  | 0, _, _, _, _, _, _ => none
  | n + 1, v1, v2, v3, v4, v5, σ => (if v4 ≤ v5 then (some σ) else (if (σ v1 3) ≤ 0 then (some σ) else (Option.bind (f_X7_pass v1 v2 v3 ((σ 1 2) + v5) σ) fun r1 => ((f_X7_passAll_L3 n) v1 v2 v3 v4 (v5 + 1) r1))))
theorem w_X7_passAll_L3 {Y : YT} {X : XT} (C : Cx FC Y X cX7_passAll 6 RX7 none 4 (0, 0)) : ∀ (n : Nat), ∀ (v1 : Nat), ∀ (v2 : Int32), ∀ (v3 : Int32), ∀ (v4 : Int32), ∀ (v5 : Int32), shC v1 = 3 → ∀ (σ : St), G FC Y X 6 (emV FC Y) (0, 0) (0, 0) 3 [(0, Rf Y 1), (1, Rf Y v1), (2, .int v2), (3, .int v3), (4, .int v4), (5, .int v5)] [] (RepS FC Y σ) (f_X7_passAll_L3 n v1 v2 v3 v4 v5 σ) := by
  intro n
  induction n with
  | zero =>
    intro v1 v2 v3 v4 v5 hv1 σ
    rw [f_X7_passAll_L3]; exact G.none
  | succ n ih =>
    intro v1 v2 v3 v4 v5 hv1 σ
    rw [f_X7_passAll_L3]
    refine q_iload C 5 dX7_passAll_3 rfl ?_
    refine q_iload C 4 dX7_passAll_5 rfl ?_
    refine q_icmp_ge C 37 dX7_passAll_7 rfl (fun _ => ?_) (fun _ => ?_)
    · exact q_vret C rfl dX7_passAll_37
    refine q_aload_n C 1 dX7_passAll_10 rfl ?_
    refine gf_X7_118 C hv1 dX7_passAll_11 ?_
    refine q_if_le C 37 dX7_passAll_14 rfl (fun _ => ?_) (fun _ => ?_)
    · exact q_vret C rfl dX7_passAll_37
    refine q_aload_n C 0 dX7_passAll_17 rfl ?_
    refine q_aload_n C 1 dX7_passAll_18 rfl ?_
    refine q_iload_n C 2 dX7_passAll_19 rfl ?_
    refine q_iload_n C 3 dX7_passAll_20 rfl ?_
    refine q_aload_n C 0 dX7_passAll_21 rfl ?_
    refine gf_X7_18 C skC_1 dX7_passAll_22 ?_
    refine q_iload C 5 dX7_passAll_25 rfl ?_
    refine q_iadd C dX7_passAll_27 ?_
    refine q_cVV C lk_X7_183 (w_X7_pass (Y := Y) v1 v2 v3 ((σ 1 2) + v5) hv1 σ) (Nat.le_of_ble_eq_true rfl) rfl skC_1 (ltC skC_1 rfl) recv_7 (rest := []) rfl rfl (Nat.le_of_ble_eq_true rfl) dX7_passAll_28 (fun r1 => ?_)
    refine q_iinc C 5 [(5, .int (v5 + 1)), (0, Rf Y 1), (1, Rf Y v1), (2, .int v2), (3, .int v3), (4, .int v4)] dX7_passAll_31 rfl rfl rfl rfl ?_
    refine q_goto C 3 dX7_passAll_34 rfl ?_
    refine G.sub [1, 2, 3, 4, 5, 0] (lv' := [(0, Rf Y 1), (1, Rf Y v1), (2, .int v2), (3, .int v3), (4, .int v4), (5, .int (v5 + 1))]) rfl ?_
    exact ih v1 v2 v3 v4 (v5 + 1) hv1 r1
def f_X7_passAll (a1 : Nat) (a2 : Int32) (a3 : Int32) (a4 : Int32) (σ : St) : Option (St) := (f_X7_passAll_L3 400 a1 a2 a3 a4 0 σ)
theorem w_X7_passAll {Y : YT} (a1 : Nat) (a2 : Int32) (a3 : Int32) (a4 : Int32)  (ha1 : shC a1 = 3) (σ : St) : CtE (emV FC Y) FC Y yX7_passAll cX7_passAll 6 none 4 [Rf Y 1, Rf Y a1, .int a2, .int a3, .int a4] σ (f_X7_passAll a1 a2 a3 a4 σ) := by
  refine Ct.ofG (by decide) (Nat.le_of_ble_eq_true rfl) (fun X C0 => ?_)
  have C : Cx FC Y X cX7_passAll 6 RX7 none 4 (0, 0) := C0
  show G FC Y X 6 (emV FC Y) (0, 0) (0, 0) 0 [(0, Rf Y 1), (1, Rf Y a1), (2, .int a2), (3, .int a3), (4, .int a4)] [] (RepS FC Y σ) (f_X7_passAll a1 a2 a3 a4 σ)
  rw [f_X7_passAll]
  refine q_iconst C (v := 0) dX7_passAll_0 (by decide) ?_
  refine q_istore C [(5, .int 0), (0, Rf Y 1), (1, Rf Y a1), (2, .int a2), (3, .int a3), (4, .int a4)] dX7_passAll_1 rfl rfl ?_
  refine G.sub [1, 2, 3, 4, 5, 0] (lv' := [(0, Rf Y 1), (1, Rf Y a1), (2, .int a2), (3, .int a3), (4, .int a4), (5, .int 0)]) rfl ?_
  exact w_X7_passAll_L3 C 400 a1 a2 a3 a4 0 ha1 σ
theorem lk_X7_199 : LkV RX7 199 yX4_load cX4_load 3 none 2 := ⟨TB_p [524, 525, 526, 74, 527] (by decide +kernel) (by decide +kernel), by decide +kernel, by decide +kernel, by decide +kernel⟩
def f_X7_thought (a1 : Int32) (σ : St) : Option (Nat × St) := (Option.bind (f_X4_load a1 41 σ) fun r1 => (some (41, r1)))
theorem w_X7_thought {Y : YT} (a1 : Int32)   (σ : St) : CtE (emR FC Y) FC Y yX7_thought cX7_thought 2 (some (.object "WellTold$Saying")) 2 [Rf Y 1, .int a1] σ (f_X7_thought a1 σ) := by
  refine Ct.ofG (by decide) (Nat.le_of_ble_eq_true rfl) (fun X C0 => ?_)
  have C : Cx FC Y X cX7_thought 2 RX7 (some (.object "WellTold$Saying")) 2 (0, 0) := C0
  show G FC Y X 2 (emR FC Y) (0, 0) (0, 0) 0 [(0, Rf Y 1), (1, .int a1)] [] (RepS FC Y σ) (f_X7_thought a1 σ)
  rw [f_X7_thought]
  refine q_aload_n C 0 dX7_thought_0 rfl ?_
  refine gf_X7_34 C skC_1 dX7_thought_1 ?_
  refine q_iload_n C 1 dX7_thought_4 rfl ?_
  refine q_aload_n C 0 dX7_thought_5 rfl ?_
  refine gf_X7_70 C skC_1 dX7_thought_6 ?_
  refine q_cVV C lk_X7_199 (w_X4_load (Y := Y) a1 41 skC_41 σ) (Nat.le_of_ble_eq_true rfl) rfl skC_9 (ltC skC_9 rfl) recv_4 (rest := []) rfl rfl (Nat.le_of_ble_eq_true rfl) dX7_thought_9 (fun r1 => ?_)
  refine q_aload_n C 0 dX7_thought_12 rfl ?_
  refine gf_X7_70 C skC_1 dX7_thought_13 ?_
  exact q_aret C (Or.inr ⟨_, rfl⟩) rfl dX7_thought_16
theorem lk_X7_187 : LkV RX7 187 yX4_size cX4_size 1 (some .int) 0 := ⟨TB_p [808, 450, 451, 74, 452] (by decide +kernel) (by decide +kernel), by decide +kernel, by decide +kernel, by decide +kernel⟩
theorem lk_X7_188 : LkV RX7 188 yX7_thought cX7_thought 2 (some (.object "WellTold$Saying")) 1 := ⟨TB_p [809, 521, 522, 70, 523] (by decide +kernel) (by decide +kernel), by decide +kernel, by decide +kernel, by decide +kernel⟩
theorem lk_X7_195 : LkV RX7 195 yX4_keep cX4_keep 3 none 2 := ⟨TB_p [823, 824, 825, 74, 826] (by decide +kernel) (by decide +kernel), by decide +kernel, by decide +kernel, by decide +kernel⟩
def f_X7_passHour_L2 : Nat → Int32 → St → Option (St)
  | 0, _, _ => none
  | n + 1, v1, σ => (Option.bind (f_X4_size σ) fun r1 => (if r1.1 ≤ v1 then (Bst (up r1.2 1 2 ((r1.2 1 2) + 1)) fun s2 => (some s2)) else (Option.bind (f_X7_thought v1 r1.2) fun r3 => (if shC r3.1 = 3 then (Option.bind (f_X7_pass r3.1 (r3.2 1 1) (r3.2 2 3) (r3.2 1 2) r3.2) fun r5 => (Option.bind (f_X4_keep v1 r3.1 r5) fun r6 => ((f_X7_passHour_L2 n) (v1 + 1) r6))) else none))))
theorem w_X7_passHour_L2 {Y : YT} {X : XT} (C : Cx FC Y X cX7_passHour 3 RX7 none 4 (0, 0)) : ∀ (n : Nat), ∀ (v1 : Int32), ∀ (σ : St), G FC Y X 3 (emV FC Y) (0, 0) (0, 0) 2 [(0, Rf Y 1), (1, .int v1)] [] (RepS FC Y σ) (f_X7_passHour_L2 n v1 σ) := by
  intro n
  induction n with
  | zero =>
    intro v1 σ
    rw [f_X7_passHour_L2]; exact G.none
  | succ n ih =>
    intro v1 σ
    rw [f_X7_passHour_L2]
    refine q_iload_n C 1 dX7_passHour_2 rfl ?_
    refine q_aload_n C 0 dX7_passHour_3 rfl ?_
    refine gf_X7_34 C skC_1 dX7_passHour_4 ?_
    refine q_cVI C lk_X7_187 (w_X4_size (Y := Y) σ) (Nat.le_of_ble_eq_true rfl) rfl skC_9 (ltC skC_9 rfl) recv_4 (rest := [.int v1]) rfl rfl (Nat.le_of_ble_eq_true rfl) dX7_passHour_7 (fun r1 => ?_)
    refine q_icmp_ge C 54 dX7_passHour_10 rfl (fun _ => ?_) (fun _ => ?_)
    · refine q_aload_n C 0 dX7_passHour_54 rfl ?_
      refine q_dup C dX7_passHour_55 rfl ?_
      refine gf_X7_18 C skC_1 dX7_passHour_56 ?_
      refine q_iconst C (v := 1) dX7_passHour_59 (by decide) ?_
      refine q_iadd C dX7_passHour_60 ?_
      refine pf_X7_18 C skC_1 dX7_passHour_61 (fun s2 => ?_)
      exact q_vret C rfl dX7_passHour_64
    refine q_aload_n C 0 dX7_passHour_13 rfl ?_
    refine q_iload_n C 1 dX7_passHour_14 rfl ?_
    refine q_cVR C lk_X7_188 (w_X7_thought (Y := Y) v1 r1.2) (Nat.le_of_ble_eq_true rfl) rfl skC_1 (ltC skC_1 rfl) recv_7 (rest := []) rfl rfl (Nat.le_of_ble_eq_true rfl) dX7_passHour_15 (fun r3 => ?_)
    refine G.ite (fun h4 => ?_) (fun _ => G.none)
    refine q_astore_n C [(2, Rf Y r3.1), (0, Rf Y 1), (1, .int v1)] dX7_passHour_18 rfl rfl ?_
    refine q_aload_n C 1 dX7_passHour_19 rfl ?_
    refine q_aload_n C 0 dX7_passHour_20 rfl ?_
    refine q_aload_n C 1 dX7_passHour_21 rfl ?_
    refine gf_X7_15 C skC_1 dX7_passHour_22 ?_
    refine q_aload_n C 1 dX7_passHour_25 rfl ?_
    refine gf_X7_27 C skC_1 dX7_passHour_26 ?_
    refine gf_X7_192 C skC_2 dX7_passHour_29 ?_
    refine q_aload_n C 1 dX7_passHour_32 rfl ?_
    refine gf_X7_18 C skC_1 dX7_passHour_33 ?_
    refine q_cVV C lk_X7_183 (w_X7_pass (Y := Y) r3.1 (r3.2 1 1) (r3.2 2 3) (r3.2 1 2) h4 r3.2) (Nat.le_of_ble_eq_true rfl) rfl skC_1 (ltC skC_1 rfl) recv_7 (rest := []) rfl rfl (Nat.le_of_ble_eq_true rfl) dX7_passHour_36 (fun r5 => ?_)
    refine q_aload_n C 1 dX7_passHour_39 rfl ?_
    refine gf_X7_34 C skC_1 dX7_passHour_40 ?_
    refine q_iload_n C 2 dX7_passHour_43 rfl ?_
    refine q_aload_n C 0 dX7_passHour_44 rfl ?_
    refine q_cVV C lk_X7_195 (w_X4_keep (Y := Y) v1 r3.1 h4 r5) (Nat.le_of_ble_eq_true rfl) rfl skC_9 (ltC skC_9 rfl) recv_4 (rest := []) rfl rfl (Nat.le_of_ble_eq_true rfl) dX7_passHour_45 (fun r6 => ?_)
    refine q_iinc C 2 [(1, .int (v1 + 1)), (2, Rf Y r3.1), (0, Rf Y 1)] dX7_passHour_48 rfl rfl rfl rfl ?_
    refine q_goto C 2 dX7_passHour_51 rfl ?_
    refine G.sub [2, 0] (lv' := [(0, Rf Y 1), (1, .int (v1 + 1))]) rfl ?_
    exact ih (v1 + 1) r6
def f_X7_passHour  (σ : St) : Option (St) := (f_X7_passHour_L2 400 0 σ)
theorem w_X7_passHour {Y : YT}    (σ : St) : CtE (emV FC Y) FC Y yX7_passHour cX7_passHour 3 none 4 [Rf Y 1] σ (f_X7_passHour σ) := by
  refine Ct.ofG (by decide) (Nat.le_of_ble_eq_true rfl) (fun X C0 => ?_)
  have C : Cx FC Y X cX7_passHour 3 RX7 none 4 (0, 0) := C0
  show G FC Y X 3 (emV FC Y) (0, 0) (0, 0) 0 [(0, Rf Y 1)] [] (RepS FC Y σ) (f_X7_passHour σ)
  rw [f_X7_passHour]
  refine q_iconst C (v := 0) dX7_passHour_0 (by decide) ?_
  refine q_istore_n C [(1, .int 0), (0, Rf Y 1)] dX7_passHour_1 rfl rfl ?_
  refine G.sub [1, 0] (lv' := [(0, Rf Y 1), (1, .int 0)]) rfl ?_
  exact w_X7_passHour_L2 C 400 0 σ
theorem lk_X7_202 : LkV RX7 202 yX2_clear cX2_clear 1 none 0 := ⟨TB_p [854, 389, 390, 72, 391] (by decide +kernel) (by decide +kernel), by decide +kernel, by decide +kernel, by decide +kernel⟩
theorem lk_X7_205 : LkV RX7 205 yX7_passAll cX7_passAll 6 none 4 := ⟨TB_p [855, 856, 857, 70, 858] (by decide +kernel) (by decide +kernel), by decide +kernel, by decide +kernel, by decide +kernel⟩
theorem lk_X7_208 : LkV RX7 208 yX2_add cX2_add 2 none 1 := ⟨TB_p [859, 393, 394, 72, 395] (by decide +kernel) (by decide +kernel), by decide +kernel, by decide +kernel, by decide +kernel⟩
def f_X7_thinkAll_L14 : Nat → Int32 → Int32 → St → Option (St)
  | 0, _, _, _ => none
  | n + 1, v1, v2, σ => (Option.bind (f_X4_size σ) fun r3 => (if r3.1 ≤ v2 then (some r3.2) else (Option.bind (f_X7_thought v2 r3.2) fun r4 => (if shC r4.1 = 3 then (Option.bind (f_X7_passAll r4.1 (r4.2 1 1) (r4.2 2 3) v1 r4.2) fun r6 => (Option.bind (f_X2_add 42 (r6 r4.1 5) r6) fun r7 => (Bst (up r7 1 13 ((r7 1 13) + (r7 r4.1 3))) fun s8 => ((f_X7_thinkAll_L14 n) v1 (v2 + 1) s8)))) else none))))
theorem w_X7_thinkAll_L14 {Y : YT} {X : XT} (C : Cx FC Y X cX7_thinkAll 4 RX7 none 5 (0, 0)) : ∀ (n : Nat), ∀ (v1 : Int32), ∀ (v2 : Int32), ∀ (σ : St), G FC Y X 4 (emV FC Y) (0, 0) (0, 0) 14 [(0, Rf Y 1), (1, .int v1), (2, .int v2)] [] (RepS FC Y σ) (f_X7_thinkAll_L14 n v1 v2 σ) := by
  intro n
  induction n with
  | zero =>
    intro v1 v2 σ
    rw [f_X7_thinkAll_L14]; exact G.none
  | succ n ih =>
    intro v1 v2 σ
    rw [f_X7_thinkAll_L14]
    refine q_iload_n C 2 dX7_thinkAll_14 rfl ?_
    refine q_aload_n C 0 dX7_thinkAll_15 rfl ?_
    refine gf_X7_34 C skC_1 dX7_thinkAll_16 ?_
    refine q_cVI C lk_X7_187 (w_X4_size (Y := Y) σ) (Nat.le_of_ble_eq_true rfl) rfl skC_9 (ltC skC_9 rfl) recv_4 (rest := [.int v2]) rfl rfl (Nat.le_of_ble_eq_true rfl) dX7_thinkAll_19 (fun r3 => ?_)
    refine q_icmp_ge C 78 dX7_thinkAll_22 rfl (fun _ => ?_) (fun _ => ?_)
    · exact q_vret C rfl dX7_thinkAll_78
    refine q_aload_n C 0 dX7_thinkAll_25 rfl ?_
    refine q_iload_n C 2 dX7_thinkAll_26 rfl ?_
    refine q_cVR C lk_X7_188 (w_X7_thought (Y := Y) v2 r3.2) (Nat.le_of_ble_eq_true rfl) rfl skC_1 (ltC skC_1 rfl) recv_7 (rest := []) rfl rfl (Nat.le_of_ble_eq_true rfl) dX7_thinkAll_27 (fun r4 => ?_)
    refine G.ite (fun h5 => ?_) (fun _ => G.none)
    refine q_astore_n C [(3, Rf Y r4.1), (0, Rf Y 1), (1, .int v1), (2, .int v2)] dX7_thinkAll_30 rfl rfl ?_
    refine q_aload_n C 1 dX7_thinkAll_31 rfl ?_
    refine q_aload_n C 0 dX7_thinkAll_32 rfl ?_
    refine q_aload_n C 1 dX7_thinkAll_33 rfl ?_
    refine gf_X7_15 C skC_1 dX7_thinkAll_34 ?_
    refine q_aload_n C 1 dX7_thinkAll_37 rfl ?_
    refine gf_X7_27 C skC_1 dX7_thinkAll_38 ?_
    refine gf_X7_192 C skC_2 dX7_thinkAll_41 ?_
    refine q_iload_n C 2 dX7_thinkAll_44 rfl ?_
    refine q_cVV C lk_X7_205 (w_X7_passAll (Y := Y) r4.1 (r4.2 1 1) (r4.2 2 3) v1 h5 r4.2) (Nat.le_of_ble_eq_true rfl) rfl skC_1 (ltC skC_1 rfl) recv_7 (rest := []) rfl rfl (Nat.le_of_ble_eq_true rfl) dX7_thinkAll_45 (fun r6 => ?_)
    refine q_aload_n C 1 dX7_thinkAll_48 rfl ?_
    refine gf_X7_74 C skC_1 dX7_thinkAll_49 ?_
    refine q_aload_n C 0 dX7_thinkAll_52 rfl ?_
    refine gf_X7_146 C h5 dX7_thinkAll_53 ?_
    refine q_cVV C lk_X7_208 (w_X2_add (Y := Y) 42 (r6 r4.1 5) skC_42 r6) (Nat.le_of_ble_eq_true rfl) rfl skC_42 (ltC skC_42 rfl) recv_2 (rest := []) rfl rfl (Nat.le_of_ble_eq_true rfl) dX7_thinkAll_56 (fun r7 => ?_)
    refine q_aload_n C 1 dX7_thinkAll_59 rfl ?_
    refine q_dup C dX7_thinkAll_60 rfl ?_
    refine gf_X7_77 C skC_1 dX7_thinkAll_61 ?_
    refine q_aload_n C 0 dX7_thinkAll_64 rfl ?_
    refine gf_X7_118 C h5 dX7_thinkAll_65 ?_
    refine q_iadd C dX7_thinkAll_68 ?_
    refine pf_X7_77 C skC_1 dX7_thinkAll_69 (fun s8 => ?_)
    refine q_iinc C 3 [(2, .int (v2 + 1)), (3, Rf Y r4.1), (0, Rf Y 1), (1, .int v1)] dX7_thinkAll_72 rfl rfl rfl rfl ?_
    refine q_goto C 14 dX7_thinkAll_75 rfl ?_
    refine G.sub [2, 3, 0] (lv' := [(0, Rf Y 1), (1, .int v1), (2, .int (v2 + 1))]) rfl ?_
    exact ih v1 (v2 + 1) s8
def f_X7_thinkAll (a1 : Int32) (σ : St) : Option (St) := (Option.bind (f_X2_clear 42 σ) fun r1 => (Bst (up r1 1 13 0) fun s2 => (f_X7_thinkAll_L14 400 a1 0 s2)))
theorem w_X7_thinkAll {Y : YT} (a1 : Int32)   (σ : St) : CtE (emV FC Y) FC Y yX7_thinkAll cX7_thinkAll 4 none 5 [Rf Y 1, .int a1] σ (f_X7_thinkAll a1 σ) := by
  refine Ct.ofG (by decide) (Nat.le_of_ble_eq_true rfl) (fun X C0 => ?_)
  have C : Cx FC Y X cX7_thinkAll 4 RX7 none 5 (0, 0) := C0
  show G FC Y X 4 (emV FC Y) (0, 0) (0, 0) 0 [(0, Rf Y 1), (1, .int a1)] [] (RepS FC Y σ) (f_X7_thinkAll a1 σ)
  rw [f_X7_thinkAll]
  refine q_aload_n C 0 dX7_thinkAll_0 rfl ?_
  refine gf_X7_74 C skC_1 dX7_thinkAll_1 ?_
  refine q_cVV C lk_X7_202 (w_X2_clear (Y := Y) 42 skC_42 σ) (Nat.le_of_ble_eq_true rfl) rfl skC_42 (ltC skC_42 rfl) recv_2 (rest := []) rfl rfl (Nat.le_of_ble_eq_true rfl) dX7_thinkAll_4 (fun r1 => ?_)
  refine q_aload_n C 0 dX7_thinkAll_7 rfl ?_
  refine q_iconst C (v := 0) dX7_thinkAll_8 (by decide) ?_
  refine pf_X7_77 C skC_1 dX7_thinkAll_9 (fun s2 => ?_)
  refine q_iconst C (v := 0) dX7_thinkAll_12 (by decide) ?_
  refine q_istore_n C [(2, .int 0), (0, Rf Y 1), (1, .int a1)] dX7_thinkAll_13 rfl rfl ?_
  refine G.sub [1, 2, 0] (lv' := [(0, Rf Y 1), (1, .int a1), (2, .int 0)]) rfl ?_
  exact w_X7_thinkAll_L14 C 400 a1 0 s2
def f_X8_above (a1 : Int32) (σ : St) : Option (Int32 × St) := (if a1 < 0 then (some ((-1), σ)) else (if 7 ≤ a1 then (some ((-1), σ)) else (if inb a1 7 = true then (some ((tabA.getD a1.toNatClampNeg 0), σ)) else none)))
theorem w_X8_above {Y : YT} (a1 : Int32)   (σ : St) : CtE (emI FC Y) FC Y yX8_above cX8_above 1 (some .int) 0 [.int a1] σ (f_X8_above a1 σ) := by
  refine Ct.ofG (by decide) (Nat.le_of_ble_eq_true rfl) (fun X C0 => ?_)
  have C : Cx FC Y X cX8_above 1 RX8 (some .int) 0 (0, 0) := C0
  show G FC Y X 1 (emI FC Y) (0, 0) (0, 0) 0 [(0, .int a1)] [] (RepS FC Y σ) (f_X8_above a1 σ)
  rw [f_X8_above]
  refine q_iload_n C 0 dX8_above_0 rfl ?_
  refine q_if_lt C 20 dX8_above_1 rfl (fun _ => ?_) (fun _ => ?_)
  · refine q_iconst C (v := (-1)) dX8_above_20 (by decide) ?_
    exact q_ireti C rfl dX8_above_21
  refine q_iload_n C 0 dX8_above_4 rfl ?_
  refine q_gs0 C (TB_of (List.mem_of_getElem? (i := 588) (by decide +kernel)) rfl) dX8_above_5 (fun t1 h2 => ?_)
  refine q_tlen C h2 (v := 7) (by decide) dX8_above_8 ?_
  refine q_icmp_ge C 20 dX8_above_9 rfl (fun _ => ?_) (fun _ => ?_)
  · refine q_iconst C (v := (-1)) dX8_above_20 (by decide) ?_
    exact q_ireti C rfl dX8_above_21
  refine q_gs0 C (TB_of (List.mem_of_getElem? (i := 588) (by decide +kernel)) rfl) dX8_above_12 (fun t3 h4 => ?_)
  refine q_iload_n C 0 dX8_above_15 rfl ?_
  refine q_tld C h4 dX8_above_16 (fun _ => ?_)
  refine q_goto C 21 dX8_above_17 rfl ?_
  exact q_ireti C rfl dX8_above_21
theorem lk_X8_34 : LkS RX8 34 yX8_above cX8_above 1 (some .int) 1 := ⟨TB_p [590, 591, 79, 592] (by decide +kernel) (by decide +kernel), by decide +kernel, by decide +kernel, by decide +kernel⟩
def f_X8_isUnder_L4 : Nat → Int32 → Int32 → Int32 → St → Option (Int32 × St)
  | 0, _, _, _, _ => none
  | n + 1, v1, v2, v3, σ => (if 7 ≤ v3 then (some (0, σ)) else (if v2 < 0 then (some (0, σ)) else (if v2 = v1 then (some (1, σ)) else (Option.bind (f_X8_above v2 σ) fun r3 => ((f_X8_isUnder_L4 n) v1 r3.1 (v3 + 1) r3.2)))))
theorem w_X8_isUnder_L4 {Y : YT} {X : XT} (C : Cx FC Y X cX8_isUnder 4 RX8 (some .boolean) 1 (0, 0)) : ∀ (n : Nat), ∀ (v1 : Int32), ∀ (v2 : Int32), ∀ (v3 : Int32), ∀ (σ : St), G FC Y X 4 (emI FC Y) (0, 0) (0, 0) 4 [(1, .int v1), (2, .int v2), (3, .int v3)] [] (RepS FC Y σ) (f_X8_isUnder_L4 n v1 v2 v3 σ) := by
  intro n
  induction n with
  | zero =>
    intro v1 v2 v3 σ
    rw [f_X8_isUnder_L4]; exact G.none
  | succ n ih =>
    intro v1 v2 v3 σ
    rw [f_X8_isUnder_L4]
    refine q_iload_n C 2 dX8_isUnder_4 rfl ?_
    refine q_gs0 C (TB_of (List.mem_of_getElem? (i := 588) (by decide +kernel)) rfl) dX8_isUnder_5 (fun t1 h2 => ?_)
    refine q_tlen C h2 (v := 7) (by decide) dX8_isUnder_8 ?_
    refine q_icmp_ge C 34 dX8_isUnder_9 rfl (fun _ => ?_) (fun _ => ?_)
    · refine q_iconst C (v := 0) dX8_isUnder_34 (by decide) ?_
      exact q_iretz C (by decide) rfl dX8_isUnder_35
    refine q_iload_n C 1 dX8_isUnder_12 rfl ?_
    refine q_if_lt C 34 dX8_isUnder_13 rfl (fun _ => ?_) (fun _ => ?_)
    · refine q_iconst C (v := 0) dX8_isUnder_34 (by decide) ?_
      exact q_iretz C (by decide) rfl dX8_isUnder_35
    refine q_iload_n C 1 dX8_isUnder_16 rfl ?_
    refine q_iload_n C 0 dX8_isUnder_17 rfl ?_
    refine q_icmp_ne C 23 dX8_isUnder_18 rfl (fun _ => ?_) (fun _ => ?_)
    · refine q_iload_n C 1 dX8_isUnder_23 rfl ?_
      refine q_cSI C lk_X8_34 (w_X8_above (Y := Y) v2 σ) (Nat.le_of_ble_eq_true rfl) rfl (rest := []) rfl rfl (Nat.le_of_ble_eq_true rfl) dX8_isUnder_24 (fun r3 => ?_)
      refine q_istore_n C [(2, .int r3.1), (1, .int v1), (3, .int v3)] dX8_isUnder_27 rfl rfl ?_
      refine q_iinc C 2 [(3, .int (v3 + 1)), (2, .int r3.1), (1, .int v1)] dX8_isUnder_28 rfl rfl rfl rfl ?_
      refine q_goto C 4 dX8_isUnder_31 rfl ?_
      refine G.sub [2, 1, 0] (lv' := [(1, .int v1), (2, .int r3.1), (3, .int (v3 + 1))]) rfl ?_
      exact ih v1 r3.1 (v3 + 1) r3.2
    refine q_iconst C (v := 1) dX8_isUnder_21 (by decide) ?_
    exact q_iretz C (by decide) rfl dX8_isUnder_22
def f_X8_isUnder (a1 : Int32) (a2 : Int32) (σ : St) : Option (Int32 × St) := (f_X8_isUnder_L4 400 a2 a1 0 σ)
theorem w_X8_isUnder {Y : YT} (a1 : Int32) (a2 : Int32)   (σ : St) : CtE (emI FC Y) FC Y yX8_isUnder cX8_isUnder 4 (some .boolean) 1 [.int a1, .int a2] σ (f_X8_isUnder a1 a2 σ) := by
  refine Ct.ofG (by decide) (Nat.le_of_ble_eq_true rfl) (fun X C0 => ?_)
  have C : Cx FC Y X cX8_isUnder 4 RX8 (some .boolean) 1 (0, 0) := C0
  show G FC Y X 4 (emI FC Y) (0, 0) (0, 0) 0 [(0, .int a1), (1, .int a2)] [] (RepS FC Y σ) (f_X8_isUnder a1 a2 σ)
  rw [f_X8_isUnder]
  refine q_iload_n C 0 dX8_isUnder_0 rfl ?_
  refine q_istore_n C [(2, .int a1), (0, .int a1), (1, .int a2)] dX8_isUnder_1 rfl rfl ?_
  refine q_iconst C (v := 0) dX8_isUnder_2 (by decide) ?_
  refine q_istore_n C [(3, .int 0), (2, .int a1), (0, .int a1), (1, .int a2)] dX8_isUnder_3 rfl rfl ?_
  refine G.sub [3, 1, 0] (lv' := [(1, .int a2), (2, .int a1), (3, .int 0)]) rfl ?_
  exact w_X8_isUnder_L4 C 400 a2 a1 0 σ
def f_X8_bodyOf (a1 : Int32) (a2 : Int32) (σ : St) : Option (Int32 × St) := (if ((a1 * 4) + a2) < 0 then (some (0, σ)) else (if 28 ≤ ((a1 * 4) + a2) then (some (0, σ)) else (if inb ((a1 * 4) + a2) 28 = true then (some ((tabB.getD ((a1 * 4) + a2).toNatClampNeg 0), σ)) else none)))
theorem w_X8_bodyOf {Y : YT} (a1 : Int32) (a2 : Int32)   (σ : St) : CtE (emI FC Y) FC Y yX8_bodyOf cX8_bodyOf 3 (some .int) 0 [.int a1, .int a2] σ (f_X8_bodyOf a1 a2 σ) := by
  refine Ct.ofG (by decide) (Nat.le_of_ble_eq_true rfl) (fun X C0 => ?_)
  have C : Cx FC Y X cX8_bodyOf 3 RX8 (some .int) 0 (0, 0) := C0
  show G FC Y X 3 (emI FC Y) (0, 0) (0, 0) 0 [(0, .int a1), (1, .int a2)] [] (RepS FC Y σ) (f_X8_bodyOf a1 a2 σ)
  rw [f_X8_bodyOf]
  refine q_iload_n C 0 dX8_bodyOf_0 rfl ?_
  refine q_iconst C (v := 4) dX8_bodyOf_1 (by decide) ?_
  refine q_imul C dX8_bodyOf_2 ?_
  refine q_iload_n C 1 dX8_bodyOf_3 rfl ?_
  refine q_iadd C dX8_bodyOf_4 ?_
  refine q_istore_n C [(2, .int ((a1 * 4) + a2)), (0, .int a1), (1, .int a2)] dX8_bodyOf_5 rfl rfl ?_
  refine q_iload_n C 0 dX8_bodyOf_6 rfl ?_
  refine q_if_lt C 26 dX8_bodyOf_7 rfl (fun _ => ?_) (fun _ => ?_)
  · refine q_iconst C (v := 0) dX8_bodyOf_26 (by decide) ?_
    exact q_ireti C rfl dX8_bodyOf_27
  refine q_iload_n C 0 dX8_bodyOf_10 rfl ?_
  refine q_gs1 C (TB_of (List.mem_of_getElem? (i := 942) (by decide +kernel)) rfl) dX8_bodyOf_11 (fun t1 h2 => ?_)
  refine q_tlen C h2 (v := 28) (by decide) dX8_bodyOf_14 ?_
  refine q_icmp_ge C 26 dX8_bodyOf_15 rfl (fun _ => ?_) (fun _ => ?_)
  · refine q_iconst C (v := 0) dX8_bodyOf_26 (by decide) ?_
    exact q_ireti C rfl dX8_bodyOf_27
  refine q_gs1 C (TB_of (List.mem_of_getElem? (i := 942) (by decide +kernel)) rfl) dX8_bodyOf_18 (fun t3 h4 => ?_)
  refine q_iload_n C 0 dX8_bodyOf_21 rfl ?_
  refine q_tld C h4 dX8_bodyOf_22 (fun _ => ?_)
  refine q_goto C 27 dX8_bodyOf_23 rfl ?_
  exact q_ireti C rfl dX8_bodyOf_27
abbrev FamT_X8 : Type := (Int32 → Int32 → Int32 → Int32 → St → Option (Int32 × St)) × (Int32 → Int32 → Int32 → Int32 → St → Option (Int32 × St))
def FamOK_X8 (Y : YT) (n : Nat) (q : FamT_X8) : Prop := (∀ (a1 : Int32), ∀ (a2 : Int32), ∀ (a3 : Int32), ∀ (a4 : Int32), ∀ (σ : St), CtE (emI FC Y) FC Y yX8_says cX8_says 7 (some .int) (1 + n) [Rf Y 92, .int a1, .int a2, .int a3, .int a4] σ (q.1 a1 a2 a3 a4 σ)) ∧ (∀ (a1 : Int32), ∀ (a2 : Int32), ∀ (a3 : Int32), ∀ (a4 : Int32), ∀ (σ : St), CtE (emI FC Y) FC Y yX8_saysBody cX8_saysBody 5 (some .int) (1 + n) [Rf Y 92, .int a1, .int a2, .int a3, .int a4] σ (q.2 a1 a2 a3 a4 σ))
theorem lk_X8_52 : LkS RX8 52 yX8_bodyOf cX8_bodyOf 3 (some .int) 2 := ⟨TB_p [939, 940, 79, 941] (by decide +kernel) (by decide +kernel), by decide +kernel, by decide +kernel, by decide +kernel⟩
theorem lk_X8_56 : LkV RX8 56 yX2_add cX2_add 2 none 1 := ⟨TB_p [944, 393, 394, 72, 395] (by decide +kernel) (by decide +kernel), by decide +kernel, by decide +kernel, by decide +kernel⟩
theorem lk_X8_59 : LkV RX8 59 yX8_saysBody cX8_saysBody 5 (some .int) 4 := ⟨TB_p [945, 947, 14, 79, 948] (by decide +kernel) (by decide +kernel), by decide +kernel, by decide +kernel, by decide +kernel⟩
def f_X8_says_L42 (q : FamT_X8) (v2 : Int32) (v3 : Int32) (v4 : Int32) (v5 : Int32) (σ : St) : Option (Int32 × St) := (if v5 < 0 then (some (0, σ)) else (if v4 ≤ 40 then (Option.bind (f_X8_bodyOf v5 v2 σ) fun r5 => (Option.bind (f_X2_add 93 r5.1 r5.2) fun r6 => (Option.bind (f_X8_bodyOf v5 v2 r6) fun r7 => (Option.bind (f_X8_above v5 r7.2) fun r8 => (Option.bind (q.2 r7.1 r8.1 v3 (v4 + 1) r8.2) fun r9 => (some (r9.1, r9.2))))))) else (some (0, σ))))
theorem w_X8_says_L42 {Y : YT} {X : XT} {nq : Nat} (C : Cx FC Y X cX8_says 7 RX8 (some .int) (1 + nq + 1) (0, 0)) (q : FamT_X8) (hq : FamOK_X8 Y nq q) : ∀ (v2 : Int32), ∀ (v3 : Int32), ∀ (v4 : Int32), ∀ (v5 : Int32), ∀ (σ : St), G FC Y X 7 (emI FC Y) (0, 0) (0, 0) 42 [(0, Rf Y 92), (2, .int v2), (3, .int v3), (4, .int v4), (5, .int v5)] [] (RepS FC Y σ) (f_X8_says_L42 q v2 v3 v4 v5 σ) := by
  intro v2 v3 v4 v5 σ
  rw [f_X8_says_L42]
  refine q_iload C 4 dX8_says_42 rfl ?_
  refine q_if_lt C 54 dX8_says_44 rfl (fun _ => ?_) (fun _ => ?_)
  · refine q_iconst C (v := 0) dX8_says_54 (by decide) ?_
    exact q_ireti C rfl dX8_says_55
  refine q_iload C 3 dX8_says_47 rfl ?_
  refine q_bipush C (v := 40) dX8_says_49 (by decide) ?_
  refine q_icmp_le C 56 dX8_says_51 rfl (fun _ => ?_) (fun _ => ?_)
  · refine q_aload_n C 0 dX8_says_56 rfl ?_
    refine gf_X8_14 C skC_92 dX8_says_57 ?_
    refine q_iload C 4 dX8_says_60 rfl ?_
    refine q_iload_n C 1 dX8_says_62 rfl ?_
    refine q_cSI C lk_X8_52 (w_X8_bodyOf (Y := Y) v5 v2 σ) (by omega) rfl (rest := [Rf Y 93]) rfl rfl (Nat.le_of_ble_eq_true rfl) dX8_says_63 (fun r5 => ?_)
    refine q_cVV C lk_X8_56 (w_X2_add (Y := Y) 93 r5.1 skC_93 r5.2) (by omega) rfl skC_93 (ltC skC_93 rfl) recv_2 (rest := []) rfl rfl (Nat.le_of_ble_eq_true rfl) dX8_says_66 (fun r6 => ?_)
    refine q_aload_n C 0 dX8_says_69 rfl ?_
    refine q_iload C 4 dX8_says_70 rfl ?_
    refine q_iload_n C 1 dX8_says_72 rfl ?_
    refine q_cSI C lk_X8_52 (w_X8_bodyOf (Y := Y) v5 v2 r6) (by omega) rfl (rest := [Rf Y 92]) rfl rfl (Nat.le_of_ble_eq_true rfl) dX8_says_73 (fun r7 => ?_)
    refine q_iload C 4 dX8_says_76 rfl ?_
    refine q_cSI C lk_X8_34 (w_X8_above (Y := Y) v5 r7.2) (by omega) rfl (rest := [.int r7.1, Rf Y 92]) rfl rfl (Nat.le_of_ble_eq_true rfl) dX8_says_78 (fun r8 => ?_)
    refine q_iload_n C 2 dX8_says_81 rfl ?_
    refine q_iload C 3 dX8_says_82 rfl ?_
    refine q_iconst C (v := 1) dX8_says_84 (by decide) ?_
    refine q_iadd C dX8_says_85 ?_
    refine q_cVI C lk_X8_59 (hq.2 r7.1 r8.1 v3 (v4 + 1) r8.2) (Nat.le_refl _) rfl skC_92 (ltC skC_92 rfl) recv_8 (rest := []) rfl rfl (Nat.le_of_ble_eq_true rfl) dX8_says_86 (fun r9 => ?_)
    exact q_ireti C rfl dX8_says_89
  refine q_iconst C (v := 0) dX8_says_54 (by decide) ?_
  exact q_ireti C rfl dX8_says_55
def f_X8_says_L6 (q : FamT_X8) : Nat → Int32 → Int32 → Int32 → Int32 → Int32 → St → Option (Int32 × St)
  | 0, _, _, _, _, _, _ => none
  | n + 1, v2, v3, v4, v5, v6, σ => (if 7 ≤ v6 then (f_X8_says_L42 q v2 v3 v4 v5 σ) else (if v5 < 0 then (f_X8_says_L42 q v2 v3 v4 v5 σ) else (Option.bind (f_X8_bodyOf v5 v2 σ) fun r3 => (if r3.1 = 0 then (Option.bind (f_X8_above v5 r3.2) fun r4 => ((f_X8_says_L6 q n) v2 v3 v4 r4.1 (v6 + 1) r4.2)) else (f_X8_says_L42 q v2 v3 v4 v5 r3.2)))))
theorem w_X8_says_L6 {Y : YT} {X : XT} {nq : Nat} (C : Cx FC Y X cX8_says 7 RX8 (some .int) (1 + nq + 1) (0, 0)) (q : FamT_X8) (hq : FamOK_X8 Y nq q) : ∀ (n : Nat), ∀ (v2 : Int32), ∀ (v3 : Int32), ∀ (v4 : Int32), ∀ (v5 : Int32), ∀ (v6 : Int32), ∀ (σ : St), G FC Y X 7 (emI FC Y) (0, 0) (0, 0) 6 [(0, Rf Y 92), (2, .int v2), (3, .int v3), (4, .int v4), (5, .int v5), (6, .int v6)] [] (RepS FC Y σ) (f_X8_says_L6 q n v2 v3 v4 v5 v6 σ) := by
  intro n
  induction n with
  | zero =>
    intro v2 v3 v4 v5 v6 σ
    rw [f_X8_says_L6]; exact G.none
  | succ n ih =>
    intro v2 v3 v4 v5 v6 σ
    rw [f_X8_says_L6]
    refine q_iload C 5 dX8_says_6 rfl ?_
    refine q_gs0 C (TB_of (List.mem_of_getElem? (i := 588) (by decide +kernel)) rfl) dX8_says_8 (fun t1 h2 => ?_)
    refine q_tlen C h2 (v := 7) (by decide) dX8_says_11 ?_
    refine q_icmp_ge C 42 dX8_says_12 rfl (fun _ => ?_) (fun _ => ?_)
    · refine G.sub [0, 1, 2, 3, 4] (lv' := [(0, Rf Y 92), (2, .int v2), (3, .int v3), (4, .int v4), (5, .int v5)]) rfl ?_
      exact w_X8_says_L42 C q hq v2 v3 v4 v5 σ
    refine q_iload C 4 dX8_says_15 rfl ?_
    refine q_if_lt C 42 dX8_says_17 rfl (fun _ => ?_) (fun _ => ?_)
    · refine G.sub [0, 1, 2, 3, 4] (lv' := [(0, Rf Y 92), (2, .int v2), (3, .int v3), (4, .int v4), (5, .int v5)]) rfl ?_
      exact w_X8_says_L42 C q hq v2 v3 v4 v5 σ
    refine q_iload C 4 dX8_says_20 rfl ?_
    refine q_iload_n C 1 dX8_says_22 rfl ?_
    refine q_cSI C lk_X8_52 (w_X8_bodyOf (Y := Y) v5 v2 σ) (by omega) rfl (rest := []) rfl rfl (Nat.le_of_ble_eq_true rfl) dX8_says_23 (fun r3 => ?_)
    refine q_if_ne C 42 dX8_says_26 rfl (fun _ => ?_) (fun _ => ?_)
    · refine G.sub [0, 1, 2, 3, 4] (lv' := [(0, Rf Y 92), (2, .int v2), (3, .int v3), (4, .int v4), (5, .int v5)]) rfl ?_
      exact w_X8_says_L42 C q hq v2 v3 v4 v5 r3.2
    refine q_iload C 4 dX8_says_29 rfl ?_
    refine q_cSI C lk_X8_34 (w_X8_above (Y := Y) v5 r3.2) (by omega) rfl (rest := []) rfl rfl (Nat.le_of_ble_eq_true rfl) dX8_says_31 (fun r4 => ?_)
    refine q_istore C [(5, .int r4.1), (0, Rf Y 92), (2, .int v2), (3, .int v3), (4, .int v4), (6, .int v6)] dX8_says_34 rfl rfl ?_
    refine q_iinc C 5 [(6, .int (v6 + 1)), (5, .int r4.1), (0, Rf Y 92), (2, .int v2), (3, .int v3), (4, .int v4)] dX8_says_36 rfl rfl rfl rfl ?_
    refine q_goto C 6 dX8_says_39 rfl ?_
    refine G.sub [2, 3, 4, 5, 1, 0] (lv' := [(0, Rf Y 92), (2, .int v2), (3, .int v3), (4, .int v4), (5, .int r4.1), (6, .int (v6 + 1))]) rfl ?_
    exact ih v2 v3 v4 r4.1 (v6 + 1) r4.2
def f_X8_says (q : FamT_X8) (a1 : Int32) (a2 : Int32) (a3 : Int32) (a4 : Int32) (σ : St) : Option (Int32 × St) := (f_X8_says_L6 q 400 a2 a3 a4 a1 0 σ)
theorem w_X8_says {Y : YT} {nq : Nat} (q : FamT_X8) (hq : FamOK_X8 Y nq q) (a1 : Int32) (a2 : Int32) (a3 : Int32) (a4 : Int32)   (σ : St) : CtE (emI FC Y) FC Y yX8_says cX8_says 7 (some .int) (1 + nq + 1) [Rf Y 92, .int a1, .int a2, .int a3, .int a4] σ (f_X8_says q a1 a2 a3 a4 σ) := by
  refine Ct.ofG (by decide) (Nat.le_of_ble_eq_true rfl) (fun X C0 => ?_)
  have C : Cx FC Y X cX8_says 7 RX8 (some .int) (1 + nq + 1) (0, 0) := C0
  show G FC Y X 7 (emI FC Y) (0, 0) (0, 0) 0 [(0, Rf Y 92), (1, .int a1), (2, .int a2), (3, .int a3), (4, .int a4)] [] (RepS FC Y σ) (f_X8_says q a1 a2 a3 a4 σ)
  rw [f_X8_says]
  refine q_iload_n C 1 dX8_says_0 rfl ?_
  refine q_istore C [(5, .int a1), (0, Rf Y 92), (1, .int a1), (2, .int a2), (3, .int a3), (4, .int a4)] dX8_says_1 rfl rfl ?_
  refine q_iconst C (v := 0) dX8_says_3 (by decide) ?_
  refine q_istore C [(6, .int 0), (5, .int a1), (0, Rf Y 92), (1, .int a1), (2, .int a2), (3, .int a3), (4, .int a4)] dX8_says_4 rfl rfl ?_
  refine G.sub [2, 4, 5, 6, 1, 0] (lv' := [(0, Rf Y 92), (2, .int a2), (3, .int a3), (4, .int a4), (5, .int a1), (6, .int 0)]) rfl ?_
  exact w_X8_says_L6 C q hq 400 a2 a3 a4 a1 0 σ
theorem lk_X8_48 : LkV RX8 48 yX8_says cX8_says 7 (some .int) 4 := ⟨TB_p [935, 937, 13, 79, 938] (by decide +kernel) (by decide +kernel), by decide +kernel, by decide +kernel, by decide +kernel⟩
def f_X8_saysBody (q : FamT_X8) (a1 : Int32) (a2 : Int32) (a3 : Int32) (a4 : Int32) (σ : St) : Option (Int32 × St) := (if a1 = 10 then (some ((a3 + (σ 92 1)), σ)) else (if a1 = 11 then (Option.bind (q.1 (σ 92 2) 0 a3 a4 σ) fun r3 => (some ((r3.1 * 2), r3.2))) else (if a1 = 12 then (some ((a3 - (σ 92 3)), σ)) else (if a1 = 13 then (Option.bind (q.1 (σ 92 2) 1 a3 a4 σ) fun r6 => (Option.bind (q.1 (r6.2 92 2) 2 a3 a4 r6.2) fun r7 => (some ((r6.1 ^^^ r7.1), r7.2)))) else (if a1 = 20 then (Option.bind (q.1 a2 0 a3 a4 σ) fun r9 => (some ((r9.1 * 3), r9.2))) else (if a1 = 30 then (Option.bind (q.1 a2 1 a3 a4 σ) fun r11 => (Option.bind (q.1 (r11.2 92 2) 2 1 a4 r11.2) fun r12 => (some ((r11.1 - r12.1), r12.2)))) else (if a1 = 40 then (Option.bind (q.1 a2 2 a3 a4 σ) fun r14 => (some ((-r14.1), r14.2))) else (if a1 = 50 then (Option.bind (q.1 a2 3 a3 a4 σ) fun r16 => (Option.bind (q.1 (r16.2 92 2) 0 2 a4 r16.2) fun r17 => (some ((r16.1 - r17.1), r17.2)))) else (if a1 = 60 then (Option.bind (q.1 a2 1 (a3 + 1) a4 σ) fun r19 => (some (r19.1, r19.2))) else (if a1 = 70 then (Option.bind (q.1 a2 2 a3 a4 σ) fun r21 => (some ((r21.1 ^^^ (r21.2 92 1)), r21.2))) else (if a1 = 71 then (Option.bind (q.1 (σ 92 2) 1 a3 a4 σ) fun r23 => (Option.bind (q.1 a2 3 a3 a4 r23.2) fun r24 => (some ((r23.1 - r24.1), r24.2)))) else (some (0, σ)))))))))))))
theorem w_X8_saysBody {Y : YT} {nq : Nat} (q : FamT_X8) (hq : FamOK_X8 Y nq q) (a1 : Int32) (a2 : Int32) (a3 : Int32) (a4 : Int32)   (σ : St) : CtE (emI FC Y) FC Y yX8_saysBody cX8_saysBody 5 (some .int) (1 + nq + 1) [Rf Y 92, .int a1, .int a2, .int a3, .int a4] σ (f_X8_saysBody q a1 a2 a3 a4 σ) := by
  refine Ct.ofG (by decide) (Nat.le_of_ble_eq_true rfl) (fun X C0 => ?_)
  have C : Cx FC Y X cX8_saysBody 5 RX8 (some .int) (1 + nq + 1) (0, 0) := C0
  show G FC Y X 5 (emI FC Y) (0, 0) (0, 0) 0 [(0, Rf Y 92), (1, .int a1), (2, .int a2), (3, .int a3), (4, .int a4)] [] (RepS FC Y σ) (f_X8_saysBody q a1 a2 a3 a4 σ)
  rw [f_X8_saysBody]
  refine q_iload_n C 1 dX8_saysBody_0 rfl ?_
  refine G.ite (fun h1 => ?_) (fun h1 => ?_)
  · refine q_lsw C 100 dX8_saysBody_1 (by decide) (off := 99) ?_ rfl ?_
    · rw [h1]; decide +kernel
    refine q_iload_n C 3 dX8_saysBody_100 rfl ?_
    refine q_aload_n C 0 dX8_saysBody_101 rfl ?_
    refine gf_X8_20 C skC_92 dX8_saysBody_102 ?_
    refine q_iadd C dX8_saysBody_105 ?_
    exact q_ireti C rfl dX8_saysBody_106
  refine G.ite (fun h2 => ?_) (fun h2 => ?_)
  · refine q_lsw C 107 dX8_saysBody_1 (by decide) (off := 106) ?_ rfl ?_
    · rw [h2]; decide +kernel
    refine q_aload_n C 0 dX8_saysBody_107 rfl ?_
    refine q_aload_n C 0 dX8_saysBody_108 rfl ?_
    refine gf_X8_24 C skC_92 dX8_saysBody_109 ?_
    refine q_iconst C (v := 0) dX8_saysBody_112 (by decide) ?_
    refine q_iload_n C 3 dX8_saysBody_113 rfl ?_
    refine q_iload C 4 dX8_saysBody_114 rfl ?_
    refine q_cVI C lk_X8_48 (hq.1 (σ 92 2) 0 a3 a4 σ) (Nat.le_refl _) rfl skC_92 (ltC skC_92 rfl) recv_8 (rest := []) rfl rfl (Nat.le_of_ble_eq_true rfl) dX8_saysBody_116 (fun r3 => ?_)
    refine q_iconst C (v := 2) dX8_saysBody_119 (by decide) ?_
    refine q_imul C dX8_saysBody_120 ?_
    exact q_ireti C rfl dX8_saysBody_121
  refine G.ite (fun h4 => ?_) (fun h4 => ?_)
  · refine q_lsw C 122 dX8_saysBody_1 (by decide) (off := 121) ?_ rfl ?_
    · rw [h4]; decide +kernel
    refine q_iload_n C 3 dX8_saysBody_122 rfl ?_
    refine q_aload_n C 0 dX8_saysBody_123 rfl ?_
    refine gf_X8_27 C skC_92 dX8_saysBody_124 ?_
    refine q_isub C dX8_saysBody_127 ?_
    exact q_ireti C rfl dX8_saysBody_128
  refine G.ite (fun h5 => ?_) (fun h5 => ?_)
  · refine q_lsw C 129 dX8_saysBody_1 (by decide) (off := 128) ?_ rfl ?_
    · rw [h5]; decide +kernel
    refine q_aload_n C 0 dX8_saysBody_129 rfl ?_
    refine q_aload_n C 0 dX8_saysBody_130 rfl ?_
    refine gf_X8_24 C skC_92 dX8_saysBody_131 ?_
    refine q_iconst C (v := 1) dX8_saysBody_134 (by decide) ?_
    refine q_iload_n C 3 dX8_saysBody_135 rfl ?_
    refine q_iload C 4 dX8_saysBody_136 rfl ?_
    refine q_cVI C lk_X8_48 (hq.1 (σ 92 2) 1 a3 a4 σ) (Nat.le_refl _) rfl skC_92 (ltC skC_92 rfl) recv_8 (rest := []) rfl rfl (Nat.le_of_ble_eq_true rfl) dX8_saysBody_138 (fun r6 => ?_)
    refine q_aload_n C 0 dX8_saysBody_141 rfl ?_
    refine q_aload_n C 0 dX8_saysBody_142 rfl ?_
    refine gf_X8_24 C skC_92 dX8_saysBody_143 ?_
    refine q_iconst C (v := 2) dX8_saysBody_146 (by decide) ?_
    refine q_iload_n C 3 dX8_saysBody_147 rfl ?_
    refine q_iload C 4 dX8_saysBody_148 rfl ?_
    refine q_cVI C lk_X8_48 (hq.1 (r6.2 92 2) 2 a3 a4 r6.2) (Nat.le_refl _) rfl skC_92 (ltC skC_92 rfl) recv_8 (rest := [.int r6.1]) rfl rfl (Nat.le_of_ble_eq_true rfl) dX8_saysBody_150 (fun r7 => ?_)
    refine q_ixor C dX8_saysBody_153 ?_
    exact q_ireti C rfl dX8_saysBody_154
  refine G.ite (fun h8 => ?_) (fun h8 => ?_)
  · refine q_lsw C 155 dX8_saysBody_1 (by decide) (off := 154) ?_ rfl ?_
    · rw [h8]; decide +kernel
    refine q_aload_n C 0 dX8_saysBody_155 rfl ?_
    refine q_iload_n C 2 dX8_saysBody_156 rfl ?_
    refine q_iconst C (v := 0) dX8_saysBody_157 (by decide) ?_
    refine q_iload_n C 3 dX8_saysBody_158 rfl ?_
    refine q_iload C 4 dX8_saysBody_159 rfl ?_
    refine q_cVI C lk_X8_48 (hq.1 a2 0 a3 a4 σ) (Nat.le_refl _) rfl skC_92 (ltC skC_92 rfl) recv_8 (rest := []) rfl rfl (Nat.le_of_ble_eq_true rfl) dX8_saysBody_161 (fun r9 => ?_)
    refine q_iconst C (v := 3) dX8_saysBody_164 (by decide) ?_
    refine q_imul C dX8_saysBody_165 ?_
    exact q_ireti C rfl dX8_saysBody_166
  refine G.ite (fun h10 => ?_) (fun h10 => ?_)
  · refine q_lsw C 167 dX8_saysBody_1 (by decide) (off := 166) ?_ rfl ?_
    · rw [h10]; decide +kernel
    refine q_aload_n C 0 dX8_saysBody_167 rfl ?_
    refine q_iload_n C 2 dX8_saysBody_168 rfl ?_
    refine q_iconst C (v := 1) dX8_saysBody_169 (by decide) ?_
    refine q_iload_n C 3 dX8_saysBody_170 rfl ?_
    refine q_iload C 4 dX8_saysBody_171 rfl ?_
    refine q_cVI C lk_X8_48 (hq.1 a2 1 a3 a4 σ) (Nat.le_refl _) rfl skC_92 (ltC skC_92 rfl) recv_8 (rest := []) rfl rfl (Nat.le_of_ble_eq_true rfl) dX8_saysBody_173 (fun r11 => ?_)
    refine q_aload_n C 0 dX8_saysBody_176 rfl ?_
    refine q_aload_n C 0 dX8_saysBody_177 rfl ?_
    refine gf_X8_24 C skC_92 dX8_saysBody_178 ?_
    refine q_iconst C (v := 2) dX8_saysBody_181 (by decide) ?_
    refine q_iconst C (v := 1) dX8_saysBody_182 (by decide) ?_
    refine q_iload C 4 dX8_saysBody_183 rfl ?_
    refine q_cVI C lk_X8_48 (hq.1 (r11.2 92 2) 2 1 a4 r11.2) (Nat.le_refl _) rfl skC_92 (ltC skC_92 rfl) recv_8 (rest := [.int r11.1]) rfl rfl (Nat.le_of_ble_eq_true rfl) dX8_saysBody_185 (fun r12 => ?_)
    refine q_isub C dX8_saysBody_188 ?_
    exact q_ireti C rfl dX8_saysBody_189
  refine G.ite (fun h13 => ?_) (fun h13 => ?_)
  · refine q_lsw C 190 dX8_saysBody_1 (by decide) (off := 189) ?_ rfl ?_
    · rw [h13]; decide +kernel
    refine q_aload_n C 0 dX8_saysBody_190 rfl ?_
    refine q_iload_n C 2 dX8_saysBody_191 rfl ?_
    refine q_iconst C (v := 2) dX8_saysBody_192 (by decide) ?_
    refine q_iload_n C 3 dX8_saysBody_193 rfl ?_
    refine q_iload C 4 dX8_saysBody_194 rfl ?_
    refine q_cVI C lk_X8_48 (hq.1 a2 2 a3 a4 σ) (Nat.le_refl _) rfl skC_92 (ltC skC_92 rfl) recv_8 (rest := []) rfl rfl (Nat.le_of_ble_eq_true rfl) dX8_saysBody_196 (fun r14 => ?_)
    refine q_ineg C dX8_saysBody_199 ?_
    exact q_ireti C rfl dX8_saysBody_200
  refine G.ite (fun h15 => ?_) (fun h15 => ?_)
  · refine q_lsw C 201 dX8_saysBody_1 (by decide) (off := 200) ?_ rfl ?_
    · rw [h15]; decide +kernel
    refine q_aload_n C 0 dX8_saysBody_201 rfl ?_
    refine q_iload_n C 2 dX8_saysBody_202 rfl ?_
    refine q_iconst C (v := 3) dX8_saysBody_203 (by decide) ?_
    refine q_iload_n C 3 dX8_saysBody_204 rfl ?_
    refine q_iload C 4 dX8_saysBody_205 rfl ?_
    refine q_cVI C lk_X8_48 (hq.1 a2 3 a3 a4 σ) (Nat.le_refl _) rfl skC_92 (ltC skC_92 rfl) recv_8 (rest := []) rfl rfl (Nat.le_of_ble_eq_true rfl) dX8_saysBody_207 (fun r16 => ?_)
    refine q_aload_n C 0 dX8_saysBody_210 rfl ?_
    refine q_aload_n C 0 dX8_saysBody_211 rfl ?_
    refine gf_X8_24 C skC_92 dX8_saysBody_212 ?_
    refine q_iconst C (v := 0) dX8_saysBody_215 (by decide) ?_
    refine q_iconst C (v := 2) dX8_saysBody_216 (by decide) ?_
    refine q_iload C 4 dX8_saysBody_217 rfl ?_
    refine q_cVI C lk_X8_48 (hq.1 (r16.2 92 2) 0 2 a4 r16.2) (Nat.le_refl _) rfl skC_92 (ltC skC_92 rfl) recv_8 (rest := [.int r16.1]) rfl rfl (Nat.le_of_ble_eq_true rfl) dX8_saysBody_219 (fun r17 => ?_)
    refine q_isub C dX8_saysBody_222 ?_
    exact q_ireti C rfl dX8_saysBody_223
  refine G.ite (fun h18 => ?_) (fun h18 => ?_)
  · refine q_lsw C 224 dX8_saysBody_1 (by decide) (off := 223) ?_ rfl ?_
    · rw [h18]; decide +kernel
    refine q_aload_n C 0 dX8_saysBody_224 rfl ?_
    refine q_iload_n C 2 dX8_saysBody_225 rfl ?_
    refine q_iconst C (v := 1) dX8_saysBody_226 (by decide) ?_
    refine q_iload_n C 3 dX8_saysBody_227 rfl ?_
    refine q_iconst C (v := 1) dX8_saysBody_228 (by decide) ?_
    refine q_iadd C dX8_saysBody_229 ?_
    refine q_iload C 4 dX8_saysBody_230 rfl ?_
    refine q_cVI C lk_X8_48 (hq.1 a2 1 (a3 + 1) a4 σ) (Nat.le_refl _) rfl skC_92 (ltC skC_92 rfl) recv_8 (rest := []) rfl rfl (Nat.le_of_ble_eq_true rfl) dX8_saysBody_232 (fun r19 => ?_)
    exact q_ireti C rfl dX8_saysBody_235
  refine G.ite (fun h20 => ?_) (fun h20 => ?_)
  · refine q_lsw C 236 dX8_saysBody_1 (by decide) (off := 235) ?_ rfl ?_
    · rw [h20]; decide +kernel
    refine q_aload_n C 0 dX8_saysBody_236 rfl ?_
    refine q_iload_n C 2 dX8_saysBody_237 rfl ?_
    refine q_iconst C (v := 2) dX8_saysBody_238 (by decide) ?_
    refine q_iload_n C 3 dX8_saysBody_239 rfl ?_
    refine q_iload C 4 dX8_saysBody_240 rfl ?_
    refine q_cVI C lk_X8_48 (hq.1 a2 2 a3 a4 σ) (Nat.le_refl _) rfl skC_92 (ltC skC_92 rfl) recv_8 (rest := []) rfl rfl (Nat.le_of_ble_eq_true rfl) dX8_saysBody_242 (fun r21 => ?_)
    refine q_aload_n C 0 dX8_saysBody_245 rfl ?_
    refine gf_X8_20 C skC_92 dX8_saysBody_246 ?_
    refine q_ixor C dX8_saysBody_249 ?_
    exact q_ireti C rfl dX8_saysBody_250
  refine G.ite (fun h22 => ?_) (fun h22 => ?_)
  · refine q_lsw C 251 dX8_saysBody_1 (by decide) (off := 250) ?_ rfl ?_
    · rw [h22]; decide +kernel
    refine q_aload_n C 0 dX8_saysBody_251 rfl ?_
    refine q_aload_n C 0 dX8_saysBody_252 rfl ?_
    refine gf_X8_24 C skC_92 dX8_saysBody_253 ?_
    refine q_iconst C (v := 1) dX8_saysBody_256 (by decide) ?_
    refine q_iload_n C 3 dX8_saysBody_257 rfl ?_
    refine q_iload C 4 dX8_saysBody_258 rfl ?_
    refine q_cVI C lk_X8_48 (hq.1 (σ 92 2) 1 a3 a4 σ) (Nat.le_refl _) rfl skC_92 (ltC skC_92 rfl) recv_8 (rest := []) rfl rfl (Nat.le_of_ble_eq_true rfl) dX8_saysBody_260 (fun r23 => ?_)
    refine q_aload_n C 0 dX8_saysBody_263 rfl ?_
    refine q_iload_n C 2 dX8_saysBody_264 rfl ?_
    refine q_iconst C (v := 3) dX8_saysBody_265 (by decide) ?_
    refine q_iload_n C 3 dX8_saysBody_266 rfl ?_
    refine q_iload C 4 dX8_saysBody_267 rfl ?_
    refine q_cVI C lk_X8_48 (hq.1 a2 3 a3 a4 r23.2) (Nat.le_refl _) rfl skC_92 (ltC skC_92 rfl) recv_8 (rest := [.int r23.1]) rfl rfl (Nat.le_of_ble_eq_true rfl) dX8_saysBody_269 (fun r24 => ?_)
    refine q_isub C dX8_saysBody_272 ?_
    exact q_ireti C rfl dX8_saysBody_273
  refine q_lsw C 274 dX8_saysBody_1 (by decide) (off := 273) ?_ rfl ?_
  · exact (lv_osw h1 (by decide)).trans ((lv_osw h2 (by decide)).trans ((lv_osw h4 (by decide)).trans ((lv_osw h5 (by decide)).trans ((lv_osw h8 (by decide)).trans ((lv_osw h10 (by decide)).trans ((lv_osw h13 (by decide)).trans ((lv_osw h15 (by decide)).trans ((lv_osw h18 (by decide)).trans ((lv_osw h20 (by decide)).trans ((lv_osw h22 (by decide)).trans (rfl)))))))))))
  refine q_iconst C (v := 0) dX8_saysBody_274 (by decide) ?_
  exact q_ireti C rfl dX8_saysBody_275
def fam_X8 : Nat → FamT_X8
  | 0 => (fun _ _ _ _ _ => none, fun _ _ _ _ _ => none)
  | n + 1 => (f_X8_says (fam_X8 n), f_X8_saysBody (fam_X8 n))
theorem wfam_X8 {Y : YT} : ∀ n : Nat, FamOK_X8 Y n (fam_X8 n)
  | 0 => ⟨(fun _ _ _ _ _ r h => by cases h), (fun _ _ _ _ _ r h => by cases h)⟩
  | n + 1 => ⟨fun x0 x1 x2 x3 x4 => w_X8_says (nq := n) (fam_X8 n) (wfam_X8 n) x0 x1 x2 x3 x4, fun x0 x1 x2 x3 x4 => w_X8_saysBody (nq := n) (fam_X8 n) (wfam_X8 n) x0 x1 x2 x3 x4⟩
theorem lk_X8_45 : LkV RX8 45 yX2_clear cX2_clear 1 none 0 := ⟨TB_p [934, 389, 390, 72, 391] (by decide +kernel) (by decide +kernel), by decide +kernel, by decide +kernel, by decide +kernel⟩
def f_X8_begin (a1 : Int32) (a2 : Nat) (a3 : Int32) (a4 : Int32) (σ : St) : Option (Int32 × St) := (Bst (up σ 92 1 a1) fun s1 => (Bst (up s1 92 2 (s1 a2 0)) fun s2 => (Bst (up s2 92 3 (s2 a2 1)) fun s3 => (Option.bind (f_X2_clear 93 s3) fun r4 => (Option.bind ((fam_X8 120).1 (r4 92 2) a3 a4 0 r4) fun r5 => (some (r5.1, r5.2)))))))
theorem w_X8_begin {Y : YT} (a1 : Int32) (a2 : Nat) (a3 : Int32) (a4 : Int32)  (ha2 : shC a2 = 3) (σ : St) : CtE (emI FC Y) FC Y yX8_begin cX8_begin 5 (some .int) 122 [Rf Y 92, .int a1, Rf Y a2, .int a3, .int a4] σ (f_X8_begin a1 a2 a3 a4 σ) := by
  refine Ct.ofG (by decide) (Nat.le_of_ble_eq_true rfl) (fun X C0 => ?_)
  have C : Cx FC Y X cX8_begin 5 RX8 (some .int) 122 (0, 0) := C0
  show G FC Y X 5 (emI FC Y) (0, 0) (0, 0) 0 [(0, Rf Y 92), (1, .int a1), (2, Rf Y a2), (3, .int a3), (4, .int a4)] [] (RepS FC Y σ) (f_X8_begin a1 a2 a3 a4 σ)
  rw [f_X8_begin]
  refine q_aload_n C 0 dX8_begin_0 rfl ?_
  refine q_iload_n C 1 dX8_begin_1 rfl ?_
  refine pf_X8_20 C skC_92 dX8_begin_2 (fun s1 => ?_)
  refine q_aload_n C 0 dX8_begin_5 rfl ?_
  refine q_aload_n C 2 dX8_begin_6 rfl ?_
  refine gf_X8_41 C ha2 dX8_begin_7 ?_
  refine pf_X8_24 C skC_92 dX8_begin_10 (fun s2 => ?_)
  refine q_aload_n C 0 dX8_begin_13 rfl ?_
  refine q_aload_n C 2 dX8_begin_14 rfl ?_
  refine gf_X8_44 C ha2 dX8_begin_15 ?_
  refine pf_X8_27 C skC_92 dX8_begin_18 (fun s3 => ?_)
  refine q_aload_n C 0 dX8_begin_21 rfl ?_
  refine gf_X8_14 C skC_92 dX8_begin_22 ?_
  refine q_cVV C lk_X8_45 (w_X2_clear (Y := Y) 93 skC_93 s3) (Nat.le_of_ble_eq_true rfl) rfl skC_93 (ltC skC_93 rfl) recv_2 (rest := []) rfl rfl (Nat.le_of_ble_eq_true rfl) dX8_begin_25 (fun r4 => ?_)
  refine q_aload_n C 0 dX8_begin_28 rfl ?_
  refine q_aload_n C 0 dX8_begin_29 rfl ?_
  refine gf_X8_24 C skC_92 dX8_begin_30 ?_
  refine q_iload_n C 3 dX8_begin_33 rfl ?_
  refine q_iload C 4 dX8_begin_34 rfl ?_
  refine q_iconst C (v := 0) dX8_begin_36 (by decide) ?_
  refine q_cVI C lk_X8_48 ((wfam_X8 (Y := Y) 120).1 (r4 92 2) a3 a4 0 r4) (Nat.le_of_ble_eq_true rfl) rfl skC_92 (ltC skC_92 rfl) recv_8 (rest := []) rfl rfl (Nat.le_of_ble_eq_true rfl) dX8_begin_37 (fun r5 => ?_)
  exact q_ireti C rfl dX8_begin_40
def f_X9_size  (σ : St) : Option (Int32 × St) := (Option.bind (f_X2_size 3 σ) fun r1 => (some (r1.1, r1.2)))
theorem w_X9_size {Y : YT}    (σ : St) : CtE (emI FC Y) FC Y yX9_size cX9_size 1 (some .int) 1 [Rf Y 2] σ (f_X9_size σ) := by
  refine Ct.ofG (by decide) (Nat.le_of_ble_eq_true rfl) (fun X C0 => ?_)
  have C : Cx FC Y X cX9_size 1 RX9 (some .int) 1 (0, 0) := C0
  show G FC Y X 1 (emI FC Y) (0, 0) (0, 0) 0 [(0, Rf Y 2)] [] (RepS FC Y σ) (f_X9_size σ)
  rw [f_X9_size]
  refine q_aload_n C 0 dX9_size_0 rfl ?_
  refine gf_X9_14 C skC_2 dX9_size_1 ?_
  refine q_cVI C lk_X9_30 (w_X2_size (Y := Y) 3 skC_3 σ) (Nat.le_of_ble_eq_true rfl) rfl skC_3 (ltC skC_3 rfl) recv_2 (rest := []) rfl rfl (Nat.le_of_ble_eq_true rfl) dX9_size_4 (fun r1 => ?_)
  exact q_ireti C rfl dX9_size_7
theorem lk_X9_38 : LkV RX9 38 yX2_add cX2_add 2 none 1 := ⟨TB_p [472, 393, 394, 72, 395] (by decide +kernel) (by decide +kernel), by decide +kernel, by decide +kernel, by decide +kernel⟩
def f_X9_add (a1 : Int32) (a2 : Int32) (a3 : Int32) (σ : St) : Option (St) := (Option.bind (f_X2_add 3 a1 σ) fun r1 => (Option.bind (f_X2_add 5 a2 r1) fun r2 => (Option.bind (f_X2_add 7 a3 r2) fun r3 => (some r3))))
theorem w_X9_add {Y : YT} (a1 : Int32) (a2 : Int32) (a3 : Int32)   (σ : St) : CtE (emV FC Y) FC Y yX9_add cX9_add 4 none 1 [Rf Y 2, .int a1, .int a2, .int a3] σ (f_X9_add a1 a2 a3 σ) := by
  refine Ct.ofG (by decide) (Nat.le_of_ble_eq_true rfl) (fun X C0 => ?_)
  have C : Cx FC Y X cX9_add 4 RX9 none 1 (0, 0) := C0
  show G FC Y X 4 (emV FC Y) (0, 0) (0, 0) 0 [(0, Rf Y 2), (1, .int a1), (2, .int a2), (3, .int a3)] [] (RepS FC Y σ) (f_X9_add a1 a2 a3 σ)
  rw [f_X9_add]
  refine q_aload_n C 0 dX9_add_0 rfl ?_
  refine gf_X9_14 C skC_2 dX9_add_1 ?_
  refine q_iload_n C 1 dX9_add_4 rfl ?_
  refine q_cVV C lk_X9_38 (w_X2_add (Y := Y) 3 a1 skC_3 σ) (Nat.le_of_ble_eq_true rfl) rfl skC_3 (ltC skC_3 rfl) recv_2 (rest := []) rfl rfl (Nat.le_of_ble_eq_true rfl) dX9_add_5 (fun r1 => ?_)
  refine q_aload_n C 0 dX9_add_8 rfl ?_
  refine gf_X9_20 C skC_2 dX9_add_9 ?_
  refine q_iload_n C 2 dX9_add_12 rfl ?_
  refine q_cVV C lk_X9_38 (w_X2_add (Y := Y) 5 a2 skC_5 r1) (Nat.le_of_ble_eq_true rfl) rfl skC_5 (ltC skC_5 rfl) recv_2 (rest := []) rfl rfl (Nat.le_of_ble_eq_true rfl) dX9_add_13 (fun r2 => ?_)
  refine q_aload_n C 0 dX9_add_16 rfl ?_
  refine gf_X9_23 C skC_2 dX9_add_17 ?_
  refine q_iload_n C 3 dX9_add_20 rfl ?_
  refine q_cVV C lk_X9_38 (w_X2_add (Y := Y) 7 a3 skC_7 r2) (Nat.le_of_ble_eq_true rfl) rfl skC_7 (ltC skC_7 rfl) recv_2 (rest := []) rfl rfl (Nat.le_of_ble_eq_true rfl) dX9_add_21 (fun r3 => ?_)
  exact q_vret C rfl dX9_add_24
