def f_X2_size (k : Nat) (σ : St) : Option (Int32 × St) := (some ((σ k 1), σ))
theorem w_X2_size {Y : YT} (k : Nat)  (hk : shC k = 2) (σ : St) : CtE (emI FC Y) FC Y yX2_size cX2_size 1 (some .int) 0 [Rf Y k] σ (f_X2_size k σ) := by
  refine Ct.ofG (by decide) (Nat.le_of_ble_eq_true rfl) (fun X C0 => ?_)
  have C : Cx FC Y X cX2_size 1 RX2 (some .int) 0 (0, 0) := C0
  show G FC Y X 1 (emI FC Y) (0, 0) (0, 0) 0 [(0, Rf Y k)] [] (RepS FC Y σ) (f_X2_size k σ)
  rw [f_X2_size]
  refine q_aload_n C 0 dX2_size_0 rfl ?_
  refine gf_X2_7 C hk dX2_size_1 ?_
  exact q_ireti C rfl dX2_size_4
theorem lk_X0_23 : LkV RX0 23 yX2_size cX2_size 1 (some .int) 0 := ⟨TB_p [458, 446, 447, 72, 448] (by decide +kernel) (by decide +kernel), by decide +kernel, by decide +kernel, by decide +kernel⟩
def f_X0_size  (σ : St) : Option (Int32 × St) := (Option.bind (f_X2_size 23 σ) fun r1 => (some (r1.1, r1.2)))
theorem w_X0_size {Y : YT}    (σ : St) : CtE (emI FC Y) FC Y yX0_size cX0_size 1 (some .int) 1 [Rf Y 22] σ (f_X0_size σ) := by
  refine Ct.ofG (by decide) (Nat.le_of_ble_eq_true rfl) (fun X C0 => ?_)
  have C : Cx FC Y X cX0_size 1 RX0 (some .int) 1 (0, 0) := C0
  show G FC Y X 1 (emI FC Y) (0, 0) (0, 0) 0 [(0, Rf Y 22)] [] (RepS FC Y σ) (f_X0_size σ)
  rw [f_X0_size]
  refine q_aload_n C 0 dX0_size_0 rfl ?_
  refine gf_X0_14 C skC_22 dX0_size_1 ?_
  refine q_cVI C lk_X0_23 (w_X2_size (Y := Y) 23 skC_23 σ) (Nat.le_of_ble_eq_true rfl) rfl skC_23 (ltC skC_23 rfl) recv_2 (rest := []) rfl rfl (Nat.le_of_ble_eq_true rfl) dX0_size_4 (fun r1 => ?_)
  exact q_ireti C rfl dX0_size_7
def f_X2_has (k : Nat) (a1 : Int32) (σ : St) : Option (Int32 × St) := (if a1 < 0 then (some (0, σ)) else (if (σ k 1) ≤ a1 then (some (0, σ)) else (some (1, σ))))
theorem w_X2_has {Y : YT} (k : Nat) (a1 : Int32)  (hk : shC k = 2) (σ : St) : CtE (emI FC Y) FC Y yX2_has cX2_has 2 (some .boolean) 0 [Rf Y k, .int a1] σ (f_X2_has k a1 σ) := by
  refine Ct.ofG (by decide) (Nat.le_of_ble_eq_true rfl) (fun X C0 => ?_)
  have C : Cx FC Y X cX2_has 2 RX2 (some .boolean) 0 (0, 0) := C0
  show G FC Y X 2 (emI FC Y) (0, 0) (0, 0) 0 [(0, Rf Y k), (1, .int a1)] [] (RepS FC Y σ) (f_X2_has k a1 σ)
  rw [f_X2_has]
  refine q_iload_n C 1 dX2_has_0 rfl ?_
  refine q_if_lt C 16 dX2_has_1 rfl (fun _ => ?_) (fun _ => ?_)
  · refine q_iconst C (v := 0) dX2_has_16 (by decide) ?_
    exact q_iretz C (by decide) rfl dX2_has_17
  refine q_iload_n C 1 dX2_has_4 rfl ?_
  refine q_aload_n C 0 dX2_has_5 rfl ?_
  refine gf_X2_7 C hk dX2_has_6 ?_
  refine q_icmp_ge C 16 dX2_has_9 rfl (fun _ => ?_) (fun _ => ?_)
  · refine q_iconst C (v := 0) dX2_has_16 (by decide) ?_
    exact q_iretz C (by decide) rfl dX2_has_17
  refine q_iconst C (v := 1) dX2_has_12 (by decide) ?_
  refine q_goto C 17 dX2_has_13 rfl ?_
  exact q_iretz C (by decide) rfl dX2_has_17
theorem lk_X0_27 : LkV RX0 27 yX2_has cX2_has 2 (some .boolean) 1 := ⟨TB_p [610, 482, 483, 72, 484] (by decide +kernel) (by decide +kernel), by decide +kernel, by decide +kernel, by decide +kernel⟩
def f_X0_has (a1 : Int32) (σ : St) : Option (Int32 × St) := (Option.bind (f_X2_has 23 a1 σ) fun r1 => (if r1.1 = 0 ∨ r1.1 = 1 then (some (r1.1, r1.2)) else none))
theorem w_X0_has {Y : YT} (a1 : Int32)   (σ : St) : CtE (emI FC Y) FC Y yX0_has cX0_has 2 (some .boolean) 1 [Rf Y 22, .int a1] σ (f_X0_has a1 σ) := by
  refine Ct.ofG (by decide) (Nat.le_of_ble_eq_true rfl) (fun X C0 => ?_)
  have C : Cx FC Y X cX0_has 2 RX0 (some .boolean) 1 (0, 0) := C0
  show G FC Y X 2 (emI FC Y) (0, 0) (0, 0) 0 [(0, Rf Y 22), (1, .int a1)] [] (RepS FC Y σ) (f_X0_has a1 σ)
  rw [f_X0_has]
  refine q_aload_n C 0 dX0_has_0 rfl ?_
  refine gf_X0_14 C skC_22 dX0_has_1 ?_
  refine q_iload_n C 1 dX0_has_4 rfl ?_
  refine q_cVI C lk_X0_27 (w_X2_has (Y := Y) 23 a1 skC_23 σ) (Nat.le_of_ble_eq_true rfl) rfl skC_23 (ltC skC_23 rfl) recv_2 (rest := []) rfl rfl (Nat.le_of_ble_eq_true rfl) dX0_has_5 (fun r1 => ?_)
  exact G.ite (fun h => q_iretz C h rfl dX0_has_8) (fun _ => G.none)
def f_X2_add (k : Nat) (a1 : Int32) (σ : St) : Option (St) := (if (σ k 1) < 0 then (some σ) else (if (nI (shC (k + 1) - 100)) ≤ (σ k 1) then (some σ) else (if inb (σ k 1) (shC (k + 1) - 100) = true then (Bst (up σ (k + 1) (σ k 1).toNatClampNeg a1) fun s1 => (Bst (up s1 k 1 ((s1 k 1) + 1)) fun s2 => (some s2))) else none)))
theorem w_X2_add {Y : YT} (k : Nat) (a1 : Int32)  (hk : shC k = 2) (σ : St) : CtE (emV FC Y) FC Y yX2_add cX2_add 2 none 0 [Rf Y k, .int a1] σ (f_X2_add k a1 σ) := by
  refine Ct.ofG (by decide) (Nat.le_of_ble_eq_true rfl) (fun X C0 => ?_)
  have C : Cx FC Y X cX2_add 2 RX2 none 0 (0, 0) := C0
  show G FC Y X 2 (emV FC Y) (0, 0) (0, 0) 0 [(0, Rf Y k), (1, .int a1)] [] (RepS FC Y σ) (f_X2_add k a1 σ)
  rw [f_X2_add]
  refine q_aload_n C 0 dX2_add_0 rfl ?_
  refine gf_X2_7 C hk dX2_add_1 ?_
  refine q_if_lt C 39 dX2_add_4 rfl (fun _ => ?_) (fun _ => ?_)
  · exact q_vret C rfl dX2_add_39
  refine q_aload_n C 0 dX2_add_7 rfl ?_
  refine gf_X2_7 C hk dX2_add_8 ?_
  refine q_aload_n C 0 dX2_add_11 rfl ?_
  refine gf_X2_19 C hk dX2_add_12 ?_
  refine q_alenS C (sf_2_0 hk) (ltCa (sf_2_0 hk)) dX2_add_15 ?_
  refine q_icmp_ge C 39 dX2_add_16 rfl (fun _ => ?_) (fun _ => ?_)
  · exact q_vret C rfl dX2_add_39
  refine q_aload_n C 0 dX2_add_19 rfl ?_
  refine gf_X2_19 C hk dX2_add_20 ?_
  refine q_aload_n C 0 dX2_add_23 rfl ?_
  refine gf_X2_7 C hk dX2_add_24 ?_
  refine q_iload_n C 1 dX2_add_27 rfl ?_
  refine q_astS C (sf_2_0 hk) (ltCa (sf_2_0 hk)) dX2_add_28 (fun _ s1 => ?_)
  refine q_aload_n C 0 dX2_add_29 rfl ?_
  refine q_dup C dX2_add_30 rfl ?_
  refine gf_X2_7 C hk dX2_add_31 ?_
  refine q_iconst C (v := 1) dX2_add_34 (by decide) ?_
  refine q_iadd C dX2_add_35 ?_
  refine pf_X2_7 C hk dX2_add_36 (fun s2 => ?_)
  exact q_vret C rfl dX2_add_39
theorem lk_X0_31 : LkV RX0 31 yX2_add cX2_add 2 none 1 := ⟨TB_p [601, 393, 394, 72, 395] (by decide +kernel) (by decide +kernel), by decide +kernel, by decide +kernel, by decide +kernel⟩
def f_X0_add (a1 : Int32) (a2 : Int32) (σ : St) : Option (St) := (Option.bind (f_X2_add 23 a1 σ) fun r1 => (Option.bind (f_X2_add 25 a2 r1) fun r2 => (some r2)))
theorem w_X0_add {Y : YT} (a1 : Int32) (a2 : Int32)   (σ : St) : CtE (emV FC Y) FC Y yX0_add cX0_add 3 none 1 [Rf Y 22, .int a1, .int a2] σ (f_X0_add a1 a2 σ) := by
  refine Ct.ofG (by decide) (Nat.le_of_ble_eq_true rfl) (fun X C0 => ?_)
  have C : Cx FC Y X cX0_add 3 RX0 none 1 (0, 0) := C0
  show G FC Y X 3 (emV FC Y) (0, 0) (0, 0) 0 [(0, Rf Y 22), (1, .int a1), (2, .int a2)] [] (RepS FC Y σ) (f_X0_add a1 a2 σ)
  rw [f_X0_add]
  refine q_aload_n C 0 dX0_add_0 rfl ?_
  refine gf_X0_14 C skC_22 dX0_add_1 ?_
  refine q_iload_n C 1 dX0_add_4 rfl ?_
  refine q_cVV C lk_X0_31 (w_X2_add (Y := Y) 23 a1 skC_23 σ) (Nat.le_of_ble_eq_true rfl) rfl skC_23 (ltC skC_23 rfl) recv_2 (rest := []) rfl rfl (Nat.le_of_ble_eq_true rfl) dX0_add_5 (fun r1 => ?_)
  refine q_aload_n C 0 dX0_add_8 rfl ?_
  refine gf_X0_20 C skC_22 dX0_add_9 ?_
  refine q_iload_n C 2 dX0_add_12 rfl ?_
  refine q_cVV C lk_X0_31 (w_X2_add (Y := Y) 25 a2 skC_25 r1) (Nat.le_of_ble_eq_true rfl) rfl skC_25 (ltC skC_25 rfl) recv_2 (rest := []) rfl rfl (Nat.le_of_ble_eq_true rfl) dX0_add_13 (fun r2 => ?_)
  exact q_vret C rfl dX0_add_16
def f_X2_get (k : Nat) (a1 : Int32) (σ : St) : Option (Int32 × St) := (if a1 < 0 then (some (0, σ)) else (if (nI (shC (k + 1) - 100)) ≤ a1 then (some (0, σ)) else (if inb a1 (shC (k + 1) - 100) = true then (some ((σ (k + 1) a1.toNatClampNeg), σ)) else none)))
theorem w_X2_get {Y : YT} (k : Nat) (a1 : Int32)  (hk : shC k = 2) (σ : St) : CtE (emI FC Y) FC Y yX2_get cX2_get 2 (some .int) 0 [Rf Y k, .int a1] σ (f_X2_get k a1 σ) := by
  refine Ct.ofG (by decide) (Nat.le_of_ble_eq_true rfl) (fun X C0 => ?_)
  have C : Cx FC Y X cX2_get 2 RX2 (some .int) 0 (0, 0) := C0
  show G FC Y X 2 (emI FC Y) (0, 0) (0, 0) 0 [(0, Rf Y k), (1, .int a1)] [] (RepS FC Y σ) (f_X2_get k a1 σ)
  rw [f_X2_get]
  refine q_iload_n C 1 dX2_get_0 rfl ?_
  refine q_if_lt C 22 dX2_get_1 rfl (fun _ => ?_) (fun _ => ?_)
  · refine q_iconst C (v := 0) dX2_get_22 (by decide) ?_
    exact q_ireti C rfl dX2_get_23
  refine q_iload_n C 1 dX2_get_4 rfl ?_
  refine q_aload_n C 0 dX2_get_5 rfl ?_
  refine gf_X2_19 C hk dX2_get_6 ?_
  refine q_alenS C (sf_2_0 hk) (ltCa (sf_2_0 hk)) dX2_get_9 ?_
  refine q_icmp_ge C 22 dX2_get_10 rfl (fun _ => ?_) (fun _ => ?_)
  · refine q_iconst C (v := 0) dX2_get_22 (by decide) ?_
    exact q_ireti C rfl dX2_get_23
  refine q_aload_n C 0 dX2_get_13 rfl ?_
  refine gf_X2_19 C hk dX2_get_14 ?_
  refine q_iload_n C 1 dX2_get_17 rfl ?_
  refine q_aldS C (sf_2_0 hk) (ltCa (sf_2_0 hk)) dX2_get_18 (fun _ => ?_)
  refine q_goto C 23 dX2_get_19 rfl ?_
  exact q_ireti C rfl dX2_get_23
def f_X10_withMember (a1 : Int32) (a2 : Int32) (a3 : Int32) (σ : St) : Option (Int32 × St) := (if a3 = 0 then (some ((a1 &&& ((1 <<< (a2 &&& 31)) ^^^ (-1))), σ)) else (some ((a1 ||| (1 <<< (a2 &&& 31))), σ)))
theorem w_X10_withMember {Y : YT} (a1 : Int32) (a2 : Int32) (a3 : Int32)   (σ : St) : CtE (emI FC Y) FC Y yX10_withMember cX10_withMember 3 (some .int) 0 [.int a1, .int a2, .int a3] σ (f_X10_withMember a1 a2 a3 σ) := by
  refine Ct.ofG (by decide) (Nat.le_of_ble_eq_true rfl) (fun X C0 => ?_)
  have C : Cx FC Y X cX10_withMember 3 RX10 (some .int) 0 (0, 0) := C0
  show G FC Y X 3 (emI FC Y) (0, 0) (0, 0) 0 [(0, .int a1), (1, .int a2), (2, .int a3)] [] (RepS FC Y σ) (f_X10_withMember a1 a2 a3 σ)
  rw [f_X10_withMember]
  refine q_iload_n C 2 dX10_withMember_0 rfl ?_
  refine q_if_eq C 12 dX10_withMember_1 rfl (fun _ => ?_) (fun _ => ?_)
  · refine q_iload_n C 0 dX10_withMember_12 rfl ?_
    refine q_iconst C (v := 1) dX10_withMember_13 (by decide) ?_
    refine q_iload_n C 1 dX10_withMember_14 rfl ?_
    refine q_ishl C dX10_withMember_15 ?_
    refine q_iconst C (v := (-1)) dX10_withMember_16 (by decide) ?_
    refine q_ixor C dX10_withMember_17 ?_
    refine q_iand C dX10_withMember_18 ?_
    exact q_ireti C rfl dX10_withMember_19
  refine q_iload_n C 0 dX10_withMember_4 rfl ?_
  refine q_iconst C (v := 1) dX10_withMember_5 (by decide) ?_
  refine q_iload_n C 1 dX10_withMember_6 rfl ?_
  refine q_ishl C dX10_withMember_7 ?_
  refine q_ior C dX10_withMember_8 ?_
  refine q_goto C 19 dX10_withMember_9 rfl ?_
  exact q_ireti C rfl dX10_withMember_19
theorem lk_X0_34 : LkV RX0 34 yX2_get cX2_get 2 (some .int) 1 := ⟨TB_p [567, 433, 434, 72, 435] (by decide +kernel) (by decide +kernel), by decide +kernel, by decide +kernel, by decide +kernel⟩
theorem lk_X0_38 : LkSN RX0 38 yX10_withMember "WellTold" cX10_withMember 3 (some .int) 3 := ⟨TB_p [493, 69, 494] (by decide +kernel) (by decide +kernel), by decide +kernel, by decide +kernel, by decide +kernel, by decide +kernel⟩
def f_X0_drinkersAt_L4 : Nat → Int32 → Int32 → Int32 → St → Option (Int32 × St)
  | 0, _, _, _, _ => none
  | n + 1, v1, v2, v3, σ => (Option.bind (f_X2_size 23 σ) fun r1 => (if r1.1 ≤ v3 then (some (v2, r1.2)) else (Option.bind (f_X2_get 23 v3 r1.2) fun r2 => (if r2.1 = v1 then (Option.bind (f_X10_withMember v2 v3 1 r2.2) fun r4 => ((f_X0_drinkersAt_L4 n) v1 r4.1 (v3 + 1) r4.2)) else (Option.bind (f_X10_withMember v2 v3 0 r2.2) fun r3 => ((f_X0_drinkersAt_L4 n) v1 r3.1 (v3 + 1) r3.2))))))
theorem w_X0_drinkersAt_L4 {Y : YT} {X : XT} (C : Cx FC Y X cX0_drinkersAt 4 RX0 (some .int) 1 (0, 0)) : ∀ (n : Nat), ∀ (v1 : Int32), ∀ (v2 : Int32), ∀ (v3 : Int32), ∀ (σ : St), G FC Y X 4 (emI FC Y) (0, 0) (0, 0) 4 [(0, Rf Y 22), (1, .int v1), (2, .int v2), (3, .int v3)] [] (RepS FC Y σ) (f_X0_drinkersAt_L4 n v1 v2 v3 σ) := by
  intro n
  induction n with
  | zero =>
    intro v1 v2 v3 σ
    rw [f_X0_drinkersAt_L4]; exact G.none
  | succ n ih =>
    intro v1 v2 v3 σ
    rw [f_X0_drinkersAt_L4]
    refine q_iload_n C 3 dX0_drinkersAt_4 rfl ?_
    refine q_aload_n C 0 dX0_drinkersAt_5 rfl ?_
    refine gf_X0_14 C skC_22 dX0_drinkersAt_6 ?_
    refine q_cVI C lk_X0_23 (w_X2_size (Y := Y) 23 skC_23 σ) (Nat.le_of_ble_eq_true rfl) rfl skC_23 (ltC skC_23 rfl) recv_2 (rest := [.int v3]) rfl rfl (Nat.le_of_ble_eq_true rfl) dX0_drinkersAt_9 (fun r1 => ?_)
    refine q_icmp_ge C 44 dX0_drinkersAt_12 rfl (fun _ => ?_) (fun _ => ?_)
    · refine q_iload_n C 2 dX0_drinkersAt_44 rfl ?_
      exact q_ireti C rfl dX0_drinkersAt_45
    refine q_iload_n C 2 dX0_drinkersAt_15 rfl ?_
    refine q_iload_n C 3 dX0_drinkersAt_16 rfl ?_
    refine q_aload_n C 0 dX0_drinkersAt_17 rfl ?_
    refine gf_X0_14 C skC_22 dX0_drinkersAt_18 ?_
    refine q_iload_n C 3 dX0_drinkersAt_21 rfl ?_
    refine q_cVI C lk_X0_34 (w_X2_get (Y := Y) 23 v3 skC_23 r1.2) (Nat.le_of_ble_eq_true rfl) rfl skC_23 (ltC skC_23 rfl) recv_2 (rest := [.int v3, .int v2]) rfl rfl (Nat.le_of_ble_eq_true rfl) dX0_drinkersAt_22 (fun r2 => ?_)
    refine q_iload_n C 1 dX0_drinkersAt_25 rfl ?_
    refine q_icmp_ne C 33 dX0_drinkersAt_26 rfl (fun _ => ?_) (fun _ => ?_)
    · refine q_iconst C (v := 0) dX0_drinkersAt_33 (by decide) ?_
      refine q_cSNI C lk_X0_38 (w_X10_withMember (Y := Y) v2 v3 0 r2.2) (Nat.le_of_ble_eq_true rfl) rfl (rest := []) rfl rfl (Nat.le_of_ble_eq_true rfl) dX0_drinkersAt_34 (fun r3 => ?_)
      refine q_istore_n C [(2, .int r3.1), (0, Rf Y 22), (1, .int v1), (3, .int v3)] dX0_drinkersAt_37 rfl rfl ?_
      refine q_iinc C 3 [(3, .int (v3 + 1)), (2, .int r3.1), (0, Rf Y 22), (1, .int v1)] dX0_drinkersAt_38 rfl rfl rfl rfl ?_
      refine q_goto C 4 dX0_drinkersAt_41 rfl ?_
      refine G.sub [2, 3, 1, 0] (lv' := [(0, Rf Y 22), (1, .int v1), (2, .int r3.1), (3, .int (v3 + 1))]) rfl ?_
      exact ih v1 r3.1 (v3 + 1) r3.2
    refine q_iconst C (v := 1) dX0_drinkersAt_29 (by decide) ?_
    refine q_goto C 34 dX0_drinkersAt_30 rfl ?_
    refine q_cSNI C lk_X0_38 (w_X10_withMember (Y := Y) v2 v3 1 r2.2) (Nat.le_of_ble_eq_true rfl) rfl (rest := []) rfl rfl (Nat.le_of_ble_eq_true rfl) dX0_drinkersAt_34 (fun r4 => ?_)
    refine q_istore_n C [(2, .int r4.1), (0, Rf Y 22), (1, .int v1), (3, .int v3)] dX0_drinkersAt_37 rfl rfl ?_
    refine q_iinc C 3 [(3, .int (v3 + 1)), (2, .int r4.1), (0, Rf Y 22), (1, .int v1)] dX0_drinkersAt_38 rfl rfl rfl rfl ?_
    refine q_goto C 4 dX0_drinkersAt_41 rfl ?_
    refine G.sub [2, 3, 1, 0] (lv' := [(0, Rf Y 22), (1, .int v1), (2, .int r4.1), (3, .int (v3 + 1))]) rfl ?_
    exact ih v1 r4.1 (v3 + 1) r4.2
def f_X0_drinkersAt (a1 : Int32) (σ : St) : Option (Int32 × St) := (f_X0_drinkersAt_L4 400 a1 0 0 σ)
theorem w_X0_drinkersAt {Y : YT} (a1 : Int32)   (σ : St) : CtE (emI FC Y) FC Y yX0_drinkersAt cX0_drinkersAt 4 (some .int) 1 [Rf Y 22, .int a1] σ (f_X0_drinkersAt a1 σ) := by
  refine Ct.ofG (by decide) (Nat.le_of_ble_eq_true rfl) (fun X C0 => ?_)
  have C : Cx FC Y X cX0_drinkersAt 4 RX0 (some .int) 1 (0, 0) := C0
  show G FC Y X 4 (emI FC Y) (0, 0) (0, 0) 0 [(0, Rf Y 22), (1, .int a1)] [] (RepS FC Y σ) (f_X0_drinkersAt a1 σ)
  rw [f_X0_drinkersAt]
  refine q_iconst C (v := 0) dX0_drinkersAt_0 (by decide) ?_
  refine q_istore_n C [(2, .int 0), (0, Rf Y 22), (1, .int a1)] dX0_drinkersAt_1 rfl rfl ?_
  refine q_iconst C (v := 0) dX0_drinkersAt_2 (by decide) ?_
  refine q_istore_n C [(3, .int 0), (2, .int 0), (0, Rf Y 22), (1, .int a1)] dX0_drinkersAt_3 rfl rfl ?_
  refine G.sub [2, 3, 1, 0] (lv' := [(0, Rf Y 22), (1, .int a1), (2, .int 0), (3, .int 0)]) rfl ?_
  exact w_X0_drinkersAt_L4 C 400 a1 0 0 σ
def f_X2_clear (k : Nat) (σ : St) : Option (St) := (Bst (up σ k 1 0) fun s1 => (some s1))
theorem w_X2_clear {Y : YT} (k : Nat)  (hk : shC k = 2) (σ : St) : CtE (emV FC Y) FC Y yX2_clear cX2_clear 1 none 0 [Rf Y k] σ (f_X2_clear k σ) := by
  refine Ct.ofG (by decide) (Nat.le_of_ble_eq_true rfl) (fun X C0 => ?_)
  have C : Cx FC Y X cX2_clear 1 RX2 none 0 (0, 0) := C0
  show G FC Y X 1 (emV FC Y) (0, 0) (0, 0) 0 [(0, Rf Y k)] [] (RepS FC Y σ) (f_X2_clear k σ)
  rw [f_X2_clear]
  refine q_aload_n C 0 dX2_clear_0 rfl ?_
  refine q_iconst C (v := 0) dX2_clear_1 (by decide) ?_
  refine pf_X2_7 C hk dX2_clear_2 (fun s1 => ?_)
  exact q_vret C rfl dX2_clear_5
theorem lk_X2_23 : LkV RX2 23 yX2_clear cX2_clear 1 none 0 := ⟨TB_p [388, 389, 390, 72, 391] (by decide +kernel) (by decide +kernel), by decide +kernel, by decide +kernel, by decide +kernel⟩
theorem lk_X2_30 : LkV RX2 30 yX2_get cX2_get 2 (some .int) 1 := ⟨TB_p [659, 433, 434, 72, 435] (by decide +kernel) (by decide +kernel), by decide +kernel, by decide +kernel, by decide +kernel⟩
theorem lk_X2_26 : LkV RX2 26 yX2_add cX2_add 2 none 1 := ⟨TB_p [392, 393, 394, 72, 395] (by decide +kernel) (by decide +kernel), by decide +kernel, by decide +kernel, by decide +kernel⟩
def f_X2_copyFrom_L6 (k : Nat) : Nat → Nat → Int32 → St → Option (St)
  | 0, _, _, _ => none
  | n + 1, v1, v2, σ => (if (σ v1 1) ≤ v2 then (some σ) else (Option.bind (f_X2_get v1 v2 σ) fun r2 => (Option.bind (f_X2_add k r2.1 r2.2) fun r3 => ((f_X2_copyFrom_L6 k n) v1 (v2 + 1) r3))))
theorem w_X2_copyFrom_L6 {Y : YT} {X : XT} (C : Cx FC Y X cX2_copyFrom 3 RX2 none 1 (0, 0)) (k : Nat) (hk : shC k = 2) : ∀ (n : Nat), ∀ (v1 : Nat), ∀ (v2 : Int32), shC v1 = 2 → ∀ (σ : St), G FC Y X 3 (emV FC Y) (0, 0) (0, 0) 6 [(0, Rf Y k), (1, Rf Y v1), (2, .int v2)] [] (RepS FC Y σ) (f_X2_copyFrom_L6 k n v1 v2 σ) := by
  intro n
  induction n with
  | zero =>
    intro v1 v2 hv1 σ
    rw [f_X2_copyFrom_L6]; exact G.none
  | succ n ih =>
    intro v1 v2 hv1 σ
    rw [f_X2_copyFrom_L6]
    refine q_iload_n C 2 dX2_copyFrom_6 rfl ?_
    refine q_aload_n C 1 dX2_copyFrom_7 rfl ?_
    refine gf_X2_7 C hv1 dX2_copyFrom_8 ?_
    refine q_icmp_ge C 29 dX2_copyFrom_11 rfl (fun _ => ?_) (fun _ => ?_)
    · exact q_vret C rfl dX2_copyFrom_29
    refine q_aload_n C 0 dX2_copyFrom_14 rfl ?_
    refine q_aload_n C 1 dX2_copyFrom_15 rfl ?_
    refine q_iload_n C 2 dX2_copyFrom_16 rfl ?_
    refine q_cVI C lk_X2_30 (w_X2_get (Y := Y) v1 v2 hv1 σ) (Nat.le_of_ble_eq_true rfl) rfl hv1 (ltC hv1 rfl) recv_2 (rest := [Rf Y k]) rfl rfl (Nat.le_of_ble_eq_true rfl) dX2_copyFrom_17 (fun r2 => ?_)
    refine q_cVV C lk_X2_26 (w_X2_add (Y := Y) k r2.1 hk r2.2) (Nat.le_of_ble_eq_true rfl) rfl hk (ltC hk rfl) recv_2 (rest := []) rfl rfl (Nat.le_of_ble_eq_true rfl) dX2_copyFrom_20 (fun r3 => ?_)
    refine q_iinc C 2 [(2, .int (v2 + 1)), (0, Rf Y k), (1, Rf Y v1)] dX2_copyFrom_23 rfl rfl rfl rfl ?_
    refine q_goto C 6 dX2_copyFrom_26 rfl ?_
    refine G.sub [1, 2, 0] (lv' := [(0, Rf Y k), (1, Rf Y v1), (2, .int (v2 + 1))]) rfl ?_
    exact ih v1 (v2 + 1) hv1 r3
def f_X2_copyFrom (k : Nat) (a1 : Nat) (σ : St) : Option (St) := (Option.bind (f_X2_clear k σ) fun r1 => (f_X2_copyFrom_L6 k 400 a1 0 r1))
theorem w_X2_copyFrom {Y : YT} (k : Nat) (a1 : Nat)  (hk : shC k = 2) (ha1 : shC a1 = 2) (σ : St) : CtE (emV FC Y) FC Y yX2_copyFrom cX2_copyFrom 3 none 1 [Rf Y k, Rf Y a1] σ (f_X2_copyFrom k a1 σ) := by
  refine Ct.ofG (by decide) (Nat.le_of_ble_eq_true rfl) (fun X C0 => ?_)
  have C : Cx FC Y X cX2_copyFrom 3 RX2 none 1 (0, 0) := C0
  show G FC Y X 3 (emV FC Y) (0, 0) (0, 0) 0 [(0, Rf Y k), (1, Rf Y a1)] [] (RepS FC Y σ) (f_X2_copyFrom k a1 σ)
  rw [f_X2_copyFrom]
  refine q_aload_n C 0 dX2_copyFrom_0 rfl ?_
  refine q_cVV C lk_X2_23 (w_X2_clear (Y := Y) k hk σ) (Nat.le_of_ble_eq_true rfl) rfl hk (ltC hk rfl) recv_2 (rest := []) rfl rfl (Nat.le_of_ble_eq_true rfl) dX2_copyFrom_1 (fun r1 => ?_)
  refine q_iconst C (v := 0) dX2_copyFrom_4 (by decide) ?_
  refine q_istore_n C [(2, .int 0), (0, Rf Y k), (1, Rf Y a1)] dX2_copyFrom_5 rfl rfl ?_
  refine G.sub [1, 2, 0] (lv' := [(0, Rf Y k), (1, Rf Y a1), (2, .int 0)]) rfl ?_
  exact w_X2_copyFrom_L6 C k hk 400 a1 0 ha1 r1
theorem lk_X0_42 : LkV RX0 42 yX2_copyFrom cX2_copyFrom 3 none 1 := ⟨TB_p [1006, 656, 657, 72, 658] (by decide +kernel) (by decide +kernel), by decide +kernel, by decide +kernel, by decide +kernel⟩
def f_X0_copyFrom (k : Nat) (a1 : Nat) (σ : St) : Option (St) := (Option.bind (f_X2_copyFrom (k + 1) (a1 + 1) σ) fun r1 => (Option.bind (f_X2_copyFrom (k + 3) (a1 + 3) r1) fun r2 => (some r2)))
theorem w_X0_copyFrom {Y : YT} (k : Nat) (a1 : Nat)  (hk : shC k = 0) (ha1 : shC a1 = 0) (σ : St) : CtE (emV FC Y) FC Y yX0_copyFrom cX0_copyFrom 2 none 2 [Rf Y k, Rf Y a1] σ (f_X0_copyFrom k a1 σ) := by
  refine Ct.ofG (by decide) (Nat.le_of_ble_eq_true rfl) (fun X C0 => ?_)
  have C : Cx FC Y X cX0_copyFrom 2 RX0 none 2 (0, 0) := C0
  show G FC Y X 2 (emV FC Y) (0, 0) (0, 0) 0 [(0, Rf Y k), (1, Rf Y a1)] [] (RepS FC Y σ) (f_X0_copyFrom k a1 σ)
  rw [f_X0_copyFrom]
  refine q_aload_n C 0 dX0_copyFrom_0 rfl ?_
  refine gf_X0_14 C hk dX0_copyFrom_1 ?_
  refine q_aload_n C 1 dX0_copyFrom_4 rfl ?_
  refine gf_X0_14 C ha1 dX0_copyFrom_5 ?_
  refine q_cVV C lk_X0_42 (w_X2_copyFrom (Y := Y) (k + 1) (a1 + 1) (sf_0_0 hk) (sf_0_0 ha1) σ) (Nat.le_of_ble_eq_true rfl) rfl (sf_0_0 hk) (ltC (sf_0_0 hk) rfl) recv_2 (rest := []) rfl rfl (Nat.le_of_ble_eq_true rfl) dX0_copyFrom_8 (fun r1 => ?_)
  refine q_aload_n C 0 dX0_copyFrom_11 rfl ?_
  refine gf_X0_20 C hk dX0_copyFrom_12 ?_
  refine q_aload_n C 1 dX0_copyFrom_15 rfl ?_
  refine gf_X0_20 C ha1 dX0_copyFrom_16 ?_
  refine q_cVV C lk_X0_42 (w_X2_copyFrom (Y := Y) (k + 3) (a1 + 3) (sf_0_1 hk) (sf_0_1 ha1) r1) (Nat.le_of_ble_eq_true rfl) rfl (sf_0_1 hk) (ltC (sf_0_1 hk) rfl) recv_2 (rest := []) rfl rfl (Nat.le_of_ble_eq_true rfl) dX0_copyFrom_19 (fun r2 => ?_)
  exact q_vret C rfl dX0_copyFrom_22
theorem lk_X1_48 : LkV RX1 48 yX2_has cX2_has 2 (some .boolean) 1 := ⟨TB_p [677, 482, 483, 72, 484] (by decide +kernel) (by decide +kernel), by decide +kernel, by decide +kernel, by decide +kernel⟩
theorem lk_X1_52 : LkV RX1 52 yX2_get cX2_get 2 (some .int) 1 := ⟨TB_p [678, 433, 434, 72, 435] (by decide +kernel) (by decide +kernel), by decide +kernel, by decide +kernel, by decide +kernel⟩
def f_X1_next  (σ : St) : Option (Int32 × St) := (Option.bind (f_X2_has 90 (σ 87 3) σ) fun r1 => (if r1.1 = 0 then (some ((-1), r1.2)) else (Option.bind (f_X2_get 90 (r1.2 87 3) r1.2) fun r2 => (some (r2.1, r2.2)))))
theorem w_X1_next {Y : YT}    (σ : St) : CtE (emI FC Y) FC Y yX1_next cX1_next 1 (some .int) 1 [Rf Y 87] σ (f_X1_next σ) := by
  refine Ct.ofG (by decide) (Nat.le_of_ble_eq_true rfl) (fun X C0 => ?_)
  have C : Cx FC Y X cX1_next 1 RX1 (some .int) 1 (0, 0) := C0
  show G FC Y X 1 (emI FC Y) (0, 0) (0, 0) 0 [(0, Rf Y 87)] [] (RepS FC Y σ) (f_X1_next σ)
  rw [f_X1_next]
  refine q_aload_n C 0 dX1_next_0 rfl ?_
  refine gf_X1_20 C skC_87 dX1_next_1 ?_
  refine q_aload_n C 0 dX1_next_4 rfl ?_
  refine gf_X1_29 C skC_87 dX1_next_5 ?_
  refine q_cVI C lk_X1_48 (w_X2_has (Y := Y) 90 (σ 87 3) skC_90 σ) (Nat.le_of_ble_eq_true rfl) rfl skC_90 (ltC skC_90 rfl) recv_2 (rest := []) rfl rfl (Nat.le_of_ble_eq_true rfl) dX1_next_8 (fun r1 => ?_)
  refine q_if_eq C 28 dX1_next_11 rfl (fun _ => ?_) (fun _ => ?_)
  · refine q_iconst C (v := (-1)) dX1_next_28 (by decide) ?_
    exact q_ireti C rfl dX1_next_29
  refine q_aload_n C 0 dX1_next_14 rfl ?_
  refine gf_X1_20 C skC_87 dX1_next_15 ?_
  refine q_aload_n C 0 dX1_next_18 rfl ?_
  refine gf_X1_29 C skC_87 dX1_next_19 ?_
  refine q_cVI C lk_X1_52 (w_X2_get (Y := Y) 90 (r1.2 87 3) skC_90 r1.2) (Nat.le_of_ble_eq_true rfl) rfl skC_90 (ltC skC_90 rfl) recv_2 (rest := []) rfl rfl (Nat.le_of_ble_eq_true rfl) dX1_next_22 (fun r2 => ?_)
  refine q_goto C 29 dX1_next_25 rfl ?_
  exact q_ireti C rfl dX1_next_29
theorem lk_X1_56 : LkV RX1 56 yJ0_indexOf_0f7a4 cJ0_indexOf_0f7a4 2 (some .int) 1 := ⟨TB_p [683, 684, 685, 82, 686] (by decide +kernel) (by decide +kernel), by decide +kernel, by decide +kernel, by decide +kernel⟩
def f_X1_isIn (a1 : Nat) (a2 : Int32) (σ : St) : Option (Int32 × St) := (if a2 < 0 then (some (0, σ)) else (if (sidx a1 (toC a2)) < 0 then (some (0, σ)) else (some (1, σ))))
theorem w_X1_isIn {Y : YT} (a1 : Nat) (a2 : Int32)  (ha1 : a1 < 9) (σ : St) : CtE (emI FC Y) FC Y yX1_isIn cX1_isIn 2 (some .boolean) 6 [.ref (Y.2.2.1 a1), .int a2] σ (f_X1_isIn a1 a2 σ) := by
  refine Ct.ofG (by decide) (Nat.le_of_ble_eq_true rfl) (fun X C0 => ?_)
  have C : Cx FC Y X cX1_isIn 2 RX1 (some .boolean) 6 (0, 0) := C0
  show G FC Y X 2 (emI FC Y) (0, 0) (0, 0) 0 [(0, .ref (Y.2.2.1 a1)), (1, .int a2)] [] (RepS FC Y σ) (f_X1_isIn a1 a2 σ)
  rw [f_X1_isIn]
  refine q_iload_n C 1 dX1_isIn_0 rfl ?_
  refine q_if_lt C 17 dX1_isIn_1 rfl (fun _ => ?_) (fun _ => ?_)
  · refine q_iconst C (v := 0) dX1_isIn_17 (by decide) ?_
    exact q_iretz C (by decide) rfl dX1_isIn_18
  refine q_aload_n C 0 dX1_isIn_4 rfl ?_
  refine q_iload_n C 1 dX1_isIn_5 rfl ?_
  refine q_i2c C dX1_isIn_6 ?_
  refine q_sidx C lk_X1_56 ha1 (Nat.le_of_ble_eq_true rfl) (Nat.le_of_ble_eq_true rfl) dX1_isIn_7 ?_
  refine q_if_lt C 17 dX1_isIn_10 rfl (fun _ => ?_) (fun _ => ?_)
  · refine q_iconst C (v := 0) dX1_isIn_17 (by decide) ?_
    exact q_iretz C (by decide) rfl dX1_isIn_18
  refine q_iconst C (v := 1) dX1_isIn_13 (by decide) ?_
  refine q_goto C 18 dX1_isIn_14 rfl ?_
  exact q_iretz C (by decide) rfl dX1_isIn_18
theorem lk_X1_85 : LkV RX1 85 yX2_add cX2_add 2 none 1 := ⟨TB_p [771, 393, 394, 72, 395] (by decide +kernel) (by decide +kernel), by decide +kernel, by decide +kernel, by decide +kernel⟩
theorem lk_X1_78 : LkV RX1 78 yX1_next cX1_next 1 (some .int) 0 := ⟨TB_p [673, 675, 6, 78, 676] (by decide +kernel) (by decide +kernel), by decide +kernel, by decide +kernel, by decide +kernel⟩
theorem lk_X1_81 : LkS RX1 81 yX1_isIn cX1_isIn 2 (some .boolean) 2 := ⟨TB_p [680, 681, 78, 682] (by decide +kernel) (by decide +kernel), by decide +kernel, by decide +kernel, by decide +kernel⟩
def f_X1_readNumber_L4 : Nat → Int32 → Int32 → St → Option (St)
  | 0, _, _, _ => none
  | n + 1, v1, v2, σ => (if 4 ≤ v2 then (Option.bind (f_X2_add 88 v1 σ) fun r1 => (some r1)) else (Option.bind (f_X1_next σ) fun r2 => (Option.bind (f_X1_isIn 3 r2.1 r2.2) fun r3 => (if r3.1 = 0 then (Option.bind (f_X2_add 88 v1 r3.2) fun r4 => (some r4)) else (Option.bind (f_X1_next r3.2) fun r5 => (Bst (up r5.2 87 3 ((r5.2 87 3) + 1)) fun s6 => ((f_X1_readNumber_L4 n) (((10 * v1) + r5.1) - 48) (v2 + 1) s6)))))))
theorem w_X1_readNumber_L4 {Y : YT} {X : XT} (C : Cx FC Y X cX1_readNumber 3 RX1 none 7 (0, 0)) : ∀ (n : Nat), ∀ (v1 : Int32), ∀ (v2 : Int32), ∀ (σ : St), G FC Y X 3 (emV FC Y) (0, 0) (0, 0) 4 [(0, Rf Y 87), (1, .int v1), (2, .int v2)] [] (RepS FC Y σ) (f_X1_readNumber_L4 n v1 v2 σ) := by
  intro n
  induction n with
  | zero =>
    intro v1 v2 σ
    rw [f_X1_readNumber_L4]; exact G.none
  | succ n ih =>
    intro v1 v2 σ
    rw [f_X1_readNumber_L4]
    refine q_iload_n C 2 dX1_readNumber_4 rfl ?_
    refine q_iconst C (v := 4) dX1_readNumber_5 (by decide) ?_
    refine q_icmp_ge C 50 dX1_readNumber_6 rfl (fun _ => ?_) (fun _ => ?_)
    · refine q_aload_n C 0 dX1_readNumber_50 rfl ?_
      refine gf_X1_14 C skC_87 dX1_readNumber_51 ?_
      refine q_iload_n C 1 dX1_readNumber_54 rfl ?_
      refine q_cVV C lk_X1_85 (w_X2_add (Y := Y) 88 v1 skC_88 σ) (Nat.le_of_ble_eq_true rfl) rfl skC_88 (ltC skC_88 rfl) recv_2 (rest := []) rfl rfl (Nat.le_of_ble_eq_true rfl) dX1_readNumber_55 (fun r1 => ?_)
      exact q_vret C rfl dX1_readNumber_58
    refine q_ldcS C (tx := "0123456789") (e := 3) (by decide +kernel) dX1_readNumber_9 ?_
    refine q_aload_n C 0 dX1_readNumber_11 rfl ?_
    refine q_cVI C lk_X1_78 (w_X1_next (Y := Y) σ) (Nat.le_of_ble_eq_true rfl) rfl skC_87 (ltC skC_87 rfl) recv_1 (rest := [.ref (Y.2.2.1 3)]) rfl rfl (Nat.le_of_ble_eq_true rfl) dX1_readNumber_12 (fun r2 => ?_)
    refine q_cSI C lk_X1_81 (w_X1_isIn (Y := Y) 3 r2.1 (Nat.le_of_ble_eq_true rfl : 3 + 1 ≤ 9) r2.2) (Nat.le_of_ble_eq_true rfl) rfl (rest := []) rfl rfl (Nat.le_of_ble_eq_true rfl) dX1_readNumber_15 (fun r3 => ?_)
    refine q_if_eq C 50 dX1_readNumber_18 rfl (fun _ => ?_) (fun _ => ?_)
    · refine q_aload_n C 0 dX1_readNumber_50 rfl ?_
      refine gf_X1_14 C skC_87 dX1_readNumber_51 ?_
      refine q_iload_n C 1 dX1_readNumber_54 rfl ?_
      refine q_cVV C lk_X1_85 (w_X2_add (Y := Y) 88 v1 skC_88 r3.2) (Nat.le_of_ble_eq_true rfl) rfl skC_88 (ltC skC_88 rfl) recv_2 (rest := []) rfl rfl (Nat.le_of_ble_eq_true rfl) dX1_readNumber_55 (fun r4 => ?_)
      exact q_vret C rfl dX1_readNumber_58
    refine q_bipush C (v := 10) dX1_readNumber_21 (by decide) ?_
    refine q_iload_n C 1 dX1_readNumber_23 rfl ?_
    refine q_imul C dX1_readNumber_24 ?_
    refine q_aload_n C 0 dX1_readNumber_25 rfl ?_
    refine q_cVI C lk_X1_78 (w_X1_next (Y := Y) r3.2) (Nat.le_of_ble_eq_true rfl) rfl skC_87 (ltC skC_87 rfl) recv_1 (rest := [.int (10 * v1)]) rfl rfl (Nat.le_of_ble_eq_true rfl) dX1_readNumber_26 (fun r5 => ?_)
    refine q_iadd C dX1_readNumber_29 ?_
    refine q_bipush C (v := 48) dX1_readNumber_30 (by decide) ?_
    refine q_isub C dX1_readNumber_32 ?_
    refine q_istore_n C [(1, .int (((10 * v1) + r5.1) - 48)), (0, Rf Y 87), (2, .int v2)] dX1_readNumber_33 rfl rfl ?_
    refine q_aload_n C 1 dX1_readNumber_34 rfl ?_
    refine q_dup C dX1_readNumber_35 rfl ?_
    refine gf_X1_29 C skC_87 dX1_readNumber_36 ?_
    refine q_iconst C (v := 1) dX1_readNumber_39 (by decide) ?_
    refine q_iadd C dX1_readNumber_40 ?_
    refine pf_X1_29 C skC_87 dX1_readNumber_41 (fun s6 => ?_)
    refine q_iinc C 2 [(2, .int (v2 + 1)), (1, .int (((10 * v1) + r5.1) - 48)), (0, Rf Y 87)] dX1_readNumber_44 rfl rfl rfl rfl ?_
    refine q_goto C 4 dX1_readNumber_47 rfl ?_
    refine G.sub [2, 1, 0] (lv' := [(0, Rf Y 87), (1, .int (((10 * v1) + r5.1) - 48)), (2, .int (v2 + 1))]) rfl ?_
    exact ih (((10 * v1) + r5.1) - 48) (v2 + 1) s6
def f_X1_readNumber  (σ : St) : Option (St) := (f_X1_readNumber_L4 400 0 0 σ)
theorem w_X1_readNumber {Y : YT}    (σ : St) : CtE (emV FC Y) FC Y yX1_readNumber cX1_readNumber 3 none 7 [Rf Y 87] σ (f_X1_readNumber σ) := by
  refine Ct.ofG (by decide) (Nat.le_of_ble_eq_true rfl) (fun X C0 => ?_)
  have C : Cx FC Y X cX1_readNumber 3 RX1 none 7 (0, 0) := C0
  show G FC Y X 3 (emV FC Y) (0, 0) (0, 0) 0 [(0, Rf Y 87)] [] (RepS FC Y σ) (f_X1_readNumber σ)
  rw [f_X1_readNumber]
  refine q_iconst C (v := 0) dX1_readNumber_0 (by decide) ?_
  refine q_istore_n C [(1, .int 0), (0, Rf Y 87)] dX1_readNumber_1 rfl rfl ?_
  refine q_iconst C (v := 0) dX1_readNumber_2 (by decide) ?_
  refine q_istore_n C [(2, .int 0), (1, .int 0), (0, Rf Y 87)] dX1_readNumber_3 rfl rfl ?_
  refine G.sub [2, 1, 0] (lv' := [(0, Rf Y 87), (1, .int 0), (2, .int 0)]) rfl ?_
  exact w_X1_readNumber_L4 C 400 0 0 σ
def f_X1_signsOf (a1 : Int32) (σ : St) : Option (Nat × St) := (if a1 = 0 then (some (4, σ)) else (if a1 = 1 then (some (5, σ)) else (if a1 = 2 then (some (6, σ)) else (if a1 = 3 then (some (7, σ)) else (some (8, σ))))))
theorem w_X1_signsOf {Y : YT} (a1 : Int32)   (σ : St) : CtE (emS FC Y) FC Y yX1_signsOf cX1_signsOf 1 (some (.object "java/lang/String")) 0 [.int a1] σ (f_X1_signsOf a1 σ) := by
  refine Ct.ofG (by decide) (Nat.le_of_ble_eq_true rfl) (fun X C0 => ?_)
  have C : Cx FC Y X cX1_signsOf 1 RX1 (some (.object "java/lang/String")) 0 (0, 0) := C0
  show G FC Y X 1 (emS FC Y) (0, 0) (0, 0) 0 [(0, .int a1)] [] (RepS FC Y σ) (f_X1_signsOf a1 σ)
  rw [f_X1_signsOf]
  refine q_iload_n C 0 dX1_signsOf_0 rfl ?_
  refine G.ite (fun h1 => ?_) (fun h1 => ?_)
  · refine q_tsw_in C 32 dX1_signsOf_1 h1 (by decide) (by decide) rfl rfl ?_
    refine q_ldcS C (tx := "|") (e := 4) (by decide +kernel) dX1_signsOf_32 ?_
    exact q_aret C (Or.inr ⟨_, rfl⟩) rfl dX1_signsOf_34
  refine G.ite (fun h2 => ?_) (fun h2 => ?_)
  · refine q_tsw_in C 35 dX1_signsOf_1 h2 (by decide) (by decide) rfl rfl ?_
    refine q_ldcS C (tx := "&") (e := 5) (by decide +kernel) dX1_signsOf_35 ?_
    exact q_aret C (Or.inr ⟨_, rfl⟩) rfl dX1_signsOf_37
  refine G.ite (fun h3 => ?_) (fun h3 => ?_)
  · refine q_tsw_in C 38 dX1_signsOf_1 h3 (by decide) (by decide) rfl rfl ?_
    refine q_ldcS C (tx := "<=>") (e := 6) (by decide +kernel) dX1_signsOf_38 ?_
    exact q_aret C (Or.inr ⟨_, rfl⟩) rfl dX1_signsOf_40
  refine G.ite (fun h4 => ?_) (fun h4 => ?_)
  · refine q_tsw_in C 41 dX1_signsOf_1 h4 (by decide) (by decide) rfl rfl ?_
    refine q_ldcS C (tx := "+-") (e := 7) (by decide +kernel) dX1_signsOf_41 ?_
    exact q_aret C (Or.inr ⟨_, rfl⟩) rfl dX1_signsOf_43
  refine q_tsw_out C 44 dX1_signsOf_1 ?_ rfl ?_
  · have hsw := sw_out 0 4 (by decide) (by decide) ⟨h1, h2, h3, h4, trivial⟩
    omega
  refine q_ldcS C (tx := "*/%") (e := 8) (by decide +kernel) dX1_signsOf_44 ?_
  exact q_aret C (Or.inr ⟨_, rfl⟩) rfl dX1_signsOf_46
abbrev FamT_X1 : Type := (Int32 → Int32 → St → Option (Int32 × St)) × (Int32 → St → Option (Int32 × St)) × (Int32 → St → Option (Int32 × St)) × (Int32 → St → Option (Int32 × St)) × (Int32 → Int32 → St → Option (Int32 × St))
def FamOK_X1 (Y : YT) (n : Nat) (q : FamT_X1) : Prop := (∀ (a1 : Int32), ∀ (a2 : Int32), ∀ (σ : St), CtE (emI FC Y) FC Y yX1_reads cX1_reads 6 (some .boolean) (8 + n) [Rf Y 87, .int a1, .int a2] σ (q.1 a1 a2 σ)) ∧ (∀ (a1 : Int32), ∀ (σ : St), CtE (emI FC Y) FC Y yX1_readsBracket cX1_readsBracket 2 (some .boolean) (8 + n) [Rf Y 87, .int a1] σ (q.2.1 a1 σ)) ∧ (∀ (a1 : Int32), ∀ (σ : St), CtE (emI FC Y) FC Y yX1_readsNot cX1_readsNot 2 (some .boolean) (8 + n) [Rf Y 87, .int a1] σ (q.2.2.1 a1 σ)) ∧ (∀ (a1 : Int32), ∀ (σ : St), CtE (emI FC Y) FC Y yX1_readsOne cX1_readsOne 3 (some .boolean) (8 + n) [Rf Y 87, .int a1] σ (q.2.2.2.1 a1 σ)) ∧ (∀ (a1 : Int32), ∀ (a2 : Int32), ∀ (σ : St), CtE (emI FC Y) FC Y yX1_readsPart cX1_readsPart 3 (some .boolean) (8 + n) [Rf Y 87, .int a1, .int a2] σ (q.2.2.2.2 a1 a2 σ))
theorem lk_X1_71 : LkV RX1 71 yX1_readsPart cX1_readsPart 3 (some .boolean) 2 := ⟨TB_p [665, 667, 4, 78, 668] (by decide +kernel) (by decide +kernel), by decide +kernel, by decide +kernel, by decide +kernel⟩
theorem lk_X1_74 : LkS RX1 74 yX1_signsOf cX1_signsOf 1 (some (.object "java/lang/String")) 1 := ⟨TB_p [780, 781, 78, 782] (by decide +kernel) (by decide +kernel), by decide +kernel, by decide +kernel, by decide +kernel⟩
def f_X1_reads_L19 (q : FamT_X1) : Nat → Int32 → Int32 → Nat → Int32 → St → Option (Int32 × St)
  | 0, _, _, _, _, _ => none
  | n + 1, v1, v2, v3, v4, σ => (if 50 ≤ v4 then (some (1, σ)) else (Option.bind (f_X1_next σ) fun r4 => (Option.bind (f_X1_isIn v3 r4.1 r4.2) fun r5 => (if r5.1 = 0 then (some (1, r5.2)) else (Option.bind (f_X1_next r5.2) fun r6 => (Bst (up r6.2 87 3 ((r6.2 87 3) + 1)) fun s7 => (Option.bind (q.2.2.2.2 v1 v2 s7) fun r8 => (if r8.1 = 0 then (some (0, r8.2)) else (Option.bind (f_X2_add 88 (-r6.1) r8.2) fun r9 => (if v1 = 2 then (some (1, r9)) else ((f_X1_reads_L19 q n) v1 v2 v3 (v4 + 1) r9)))))))))))
theorem w_X1_reads_L19 {Y : YT} {X : XT} {nq : Nat} (C : Cx FC Y X cX1_reads 6 RX1 (some .boolean) (8 + nq + 1) (0, 0)) (q : FamT_X1) (hq : FamOK_X1 Y nq q) : ∀ (n : Nat), ∀ (v1 : Int32), ∀ (v2 : Int32), ∀ (v3 : Nat), ∀ (v4 : Int32), v3 < 9 → ∀ (σ : St), G FC Y X 6 (emI FC Y) (0, 0) (0, 0) 19 [(0, Rf Y 87), (1, .int v1), (2, .int v2), (3, .ref (Y.2.2.1 v3)), (4, .int v4)] [] (RepS FC Y σ) (f_X1_reads_L19 q n v1 v2 v3 v4 σ) := by
  intro n
  induction n with
  | zero =>
    intro v1 v2 v3 v4 hv3 σ
    rw [f_X1_reads_L19]; exact G.none
  | succ n ih =>
    intro v1 v2 v3 v4 hv3 σ
    rw [f_X1_reads_L19]
    refine q_iload C 4 dX1_reads_19 rfl ?_
    refine q_bipush C (v := 50) dX1_reads_21 (by decide) ?_
    refine q_icmp_ge C 87 dX1_reads_23 rfl (fun _ => ?_) (fun _ => ?_)
    · refine q_iconst C (v := 1) dX1_reads_87 (by decide) ?_
      exact q_iretz C (by decide) rfl dX1_reads_88
    refine q_aload_n C 3 dX1_reads_26 rfl ?_
    refine q_aload_n C 0 dX1_reads_27 rfl ?_
    refine q_cVI C lk_X1_78 (w_X1_next (Y := Y) σ) (by omega) rfl skC_87 (ltC skC_87 rfl) recv_1 (rest := [.ref (Y.2.2.1 v3)]) rfl rfl (Nat.le_of_ble_eq_true rfl) dX1_reads_28 (fun r4 => ?_)
    refine q_cSI C lk_X1_81 (w_X1_isIn (Y := Y) v3 r4.1 hv3 r4.2) (by omega) rfl (rest := []) rfl rfl (Nat.le_of_ble_eq_true rfl) dX1_reads_31 (fun r5 => ?_)
    refine q_if_eq C 87 dX1_reads_34 rfl (fun _ => ?_) (fun _ => ?_)
    · refine q_iconst C (v := 1) dX1_reads_87 (by decide) ?_
      exact q_iretz C (by decide) rfl dX1_reads_88
    refine q_aload_n C 0 dX1_reads_37 rfl ?_
    refine q_cVI C lk_X1_78 (w_X1_next (Y := Y) r5.2) (by omega) rfl skC_87 (ltC skC_87 rfl) recv_1 (rest := []) rfl rfl (Nat.le_of_ble_eq_true rfl) dX1_reads_38 (fun r6 => ?_)
    refine q_istore C [(5, .int r6.1), (0, Rf Y 87), (1, .int v1), (2, .int v2), (3, .ref (Y.2.2.1 v3)), (4, .int v4)] dX1_reads_41 rfl rfl ?_
    refine q_aload_n C 1 dX1_reads_43 rfl ?_
    refine q_dup C dX1_reads_44 rfl ?_
    refine gf_X1_29 C skC_87 dX1_reads_45 ?_
    refine q_iconst C (v := 1) dX1_reads_48 (by decide) ?_
    refine q_iadd C dX1_reads_49 ?_
    refine pf_X1_29 C skC_87 dX1_reads_50 (fun s7 => ?_)
    refine q_aload_n C 1 dX1_reads_53 rfl ?_
    refine q_iload_n C 2 dX1_reads_54 rfl ?_
    refine q_iload_n C 3 dX1_reads_55 rfl ?_
    refine q_cVI C lk_X1_71 (hq.2.2.2.2 v1 v2 s7) (Nat.le_refl _) rfl skC_87 (ltC skC_87 rfl) recv_1 (rest := []) rfl rfl (Nat.le_of_ble_eq_true rfl) dX1_reads_56 (fun r8 => ?_)
    refine q_if_ne C 64 dX1_reads_59 rfl (fun _ => ?_) (fun _ => ?_)
    · refine q_aload_n C 1 dX1_reads_64 rfl ?_
      refine gf_X1_14 C skC_87 dX1_reads_65 ?_
      refine q_iload C 0 dX1_reads_68 rfl ?_
      refine q_ineg C dX1_reads_70 ?_
      refine q_cVV C lk_X1_85 (w_X2_add (Y := Y) 88 (-r6.1) skC_88 r8.2) (by omega) rfl skC_88 (ltC skC_88 rfl) recv_2 (rest := []) rfl rfl (Nat.le_of_ble_eq_true rfl) dX1_reads_71 (fun r9 => ?_)
      refine q_iload_n C 2 dX1_reads_74 rfl ?_
      refine q_iconst C (v := 2) dX1_reads_75 (by decide) ?_
      refine q_icmp_ne C 81 dX1_reads_76 rfl (fun _ => ?_) (fun _ => ?_)
      · refine q_iinc C 5 [(4, .int (v4 + 1)), (5, .int r6.1), (0, Rf Y 87), (1, .int v1), (2, .int v2), (3, .ref (Y.2.2.1 v3))] dX1_reads_81 rfl rfl rfl rfl ?_
        refine q_goto C 19 dX1_reads_84 rfl ?_
        refine G.sub [2, 3, 4, 5, 0] (lv' := [(0, Rf Y 87), (1, .int v1), (2, .int v2), (3, .ref (Y.2.2.1 v3)), (4, .int (v4 + 1))]) rfl ?_
        exact ih v1 v2 v3 (v4 + 1) hv3 r9
      refine q_iconst C (v := 1) dX1_reads_79 (by decide) ?_
      exact q_iretz C (by decide) rfl dX1_reads_80
    refine q_iconst C (v := 0) dX1_reads_62 (by decide) ?_
    exact q_iretz C (by decide) rfl dX1_reads_63
def f_X1_reads (q : FamT_X1) (a1 : Int32) (a2 : Int32) (σ : St) : Option (Int32 × St) := (Option.bind (q.2.2.2.2 a1 a2 σ) fun r1 => (if r1.1 = 0 then (some (0, r1.2)) else (Option.bind (f_X1_signsOf a1 r1.2) fun r2 => (if r2.1 < 9 then (f_X1_reads_L19 q 400 a1 a2 r2.1 0 r2.2) else none))))
theorem w_X1_reads {Y : YT} {nq : Nat} (q : FamT_X1) (hq : FamOK_X1 Y nq q) (a1 : Int32) (a2 : Int32)   (σ : St) : CtE (emI FC Y) FC Y yX1_reads cX1_reads 6 (some .boolean) (8 + nq + 1) [Rf Y 87, .int a1, .int a2] σ (f_X1_reads q a1 a2 σ) := by
  refine Ct.ofG (by decide) (Nat.le_of_ble_eq_true rfl) (fun X C0 => ?_)
  have C : Cx FC Y X cX1_reads 6 RX1 (some .boolean) (8 + nq + 1) (0, 0) := C0
  show G FC Y X 6 (emI FC Y) (0, 0) (0, 0) 0 [(0, Rf Y 87), (1, .int a1), (2, .int a2)] [] (RepS FC Y σ) (f_X1_reads q a1 a2 σ)
  rw [f_X1_reads]
  refine q_aload_n C 0 dX1_reads_0 rfl ?_
  refine q_iload_n C 1 dX1_reads_1 rfl ?_
  refine q_iload_n C 2 dX1_reads_2 rfl ?_
  refine q_cVI C lk_X1_71 (hq.2.2.2.2 a1 a2 σ) (Nat.le_refl _) rfl skC_87 (ltC skC_87 rfl) recv_1 (rest := []) rfl rfl (Nat.le_of_ble_eq_true rfl) dX1_reads_3 (fun r1 => ?_)
  refine q_if_ne C 11 dX1_reads_6 rfl (fun _ => ?_) (fun _ => ?_)
  · refine q_iload_n C 1 dX1_reads_11 rfl ?_
    refine q_cSS C lk_X1_74 (w_X1_signsOf (Y := Y) a1 r1.2) (by omega) rfl (rest := []) rfl rfl (Nat.le_of_ble_eq_true rfl) dX1_reads_12 (fun r2 => ?_)
    refine G.ite (fun h3 => ?_) (fun _ => G.none)
    refine q_astore_n C [(3, .ref (Y.2.2.1 r2.1)), (0, Rf Y 87), (1, .int a1), (2, .int a2)] dX1_reads_15 rfl rfl ?_
    refine q_iconst C (v := 0) dX1_reads_16 (by decide) ?_
    refine q_istore C [(4, .int 0), (3, .ref (Y.2.2.1 r2.1)), (0, Rf Y 87), (1, .int a1), (2, .int a2)] dX1_reads_17 rfl rfl ?_
    refine G.sub [2, 3, 4, 1, 0] (lv' := [(0, Rf Y 87), (1, .int a1), (2, .int a2), (3, .ref (Y.2.2.1 r2.1)), (4, .int 0)]) rfl ?_
    exact w_X1_reads_L19 C q hq 400 a1 a2 r2.1 0 h3 r2.2
  refine q_iconst C (v := 0) dX1_reads_9 (by decide) ?_
  exact q_iretz C (by decide) rfl dX1_reads_10
theorem lk_X1_40 : LkV RX1 40 yX1_reads cX1_reads 6 (some .boolean) 2 := ⟨TB_p [661, 663, 3, 78, 664] (by decide +kernel) (by decide +kernel), by decide +kernel, by decide +kernel, by decide +kernel⟩
def f_X1_readsBracket (q : FamT_X1) (a1 : Int32) (σ : St) : Option (Int32 × St) := (Option.bind (q.1 0 a1 σ) fun r1 => (if r1.1 = 0 then (some (0, r1.2)) else (Option.bind (f_X1_next r1.2) fun r2 => (if r2.1 = 41 then (Bst (up r2.2 87 3 ((r2.2 87 3) + 1)) fun s3 => (some (1, s3))) else (some (0, r2.2))))))
theorem w_X1_readsBracket {Y : YT} {nq : Nat} (q : FamT_X1) (hq : FamOK_X1 Y nq q) (a1 : Int32)   (σ : St) : CtE (emI FC Y) FC Y yX1_readsBracket cX1_readsBracket 2 (some .boolean) (8 + nq + 1) [Rf Y 87, .int a1] σ (f_X1_readsBracket q a1 σ) := by
  refine Ct.ofG (by decide) (Nat.le_of_ble_eq_true rfl) (fun X C0 => ?_)
  have C : Cx FC Y X cX1_readsBracket 2 RX1 (some .boolean) (8 + nq + 1) (0, 0) := C0
  show G FC Y X 2 (emI FC Y) (0, 0) (0, 0) 0 [(0, Rf Y 87), (1, .int a1)] [] (RepS FC Y σ) (f_X1_readsBracket q a1 σ)
  rw [f_X1_readsBracket]
  refine q_aload_n C 0 dX1_readsBracket_0 rfl ?_
  refine q_iconst C (v := 0) dX1_readsBracket_1 (by decide) ?_
  refine q_iload_n C 1 dX1_readsBracket_2 rfl ?_
  refine q_cVI C lk_X1_40 (hq.1 0 a1 σ) (Nat.le_refl _) rfl skC_87 (ltC skC_87 rfl) recv_1 (rest := []) rfl rfl (Nat.le_of_ble_eq_true rfl) dX1_readsBracket_3 (fun r1 => ?_)
  refine q_if_eq C 18 dX1_readsBracket_6 rfl (fun _ => ?_) (fun _ => ?_)
  · refine q_iconst C (v := 0) dX1_readsBracket_18 (by decide) ?_
    exact q_iretz C (by decide) rfl dX1_readsBracket_19
  refine q_aload_n C 0 dX1_readsBracket_9 rfl ?_
  refine q_cVI C lk_X1_78 (w_X1_next (Y := Y) r1.2) (by omega) rfl skC_87 (ltC skC_87 rfl) recv_1 (rest := []) rfl rfl (Nat.le_of_ble_eq_true rfl) dX1_readsBracket_10 (fun r2 => ?_)
  refine q_bipush C (v := 41) dX1_readsBracket_13 (by decide) ?_
  refine q_icmp_eq C 20 dX1_readsBracket_15 rfl (fun _ => ?_) (fun _ => ?_)
  · refine q_aload_n C 0 dX1_readsBracket_20 rfl ?_
    refine q_dup C dX1_readsBracket_21 rfl ?_
    refine gf_X1_29 C skC_87 dX1_readsBracket_22 ?_
    refine q_iconst C (v := 1) dX1_readsBracket_25 (by decide) ?_
    refine q_iadd C dX1_readsBracket_26 ?_
    refine pf_X1_29 C skC_87 dX1_readsBracket_27 (fun s3 => ?_)
    refine q_iconst C (v := 1) dX1_readsBracket_30 (by decide) ?_
    exact q_iretz C (by decide) rfl dX1_readsBracket_31
  refine q_iconst C (v := 0) dX1_readsBracket_18 (by decide) ?_
  exact q_iretz C (by decide) rfl dX1_readsBracket_19
theorem lk_X1_88 : LkV RX1 88 yX1_readsOne cX1_readsOne 3 (some .boolean) 1 := ⟨TB_p [669, 671, 5, 78, 672] (by decide +kernel) (by decide +kernel), by decide +kernel, by decide +kernel, by decide +kernel⟩
def f_X1_readsNot (q : FamT_X1) (a1 : Int32) (σ : St) : Option (Int32 × St) := (Option.bind (q.2.2.2.1 a1 σ) fun r1 => (if r1.1 = 0 then (some (0, r1.2)) else (Option.bind (f_X2_add 88 (-33) r1.2) fun r2 => (some (1, r2)))))
theorem w_X1_readsNot {Y : YT} {nq : Nat} (q : FamT_X1) (hq : FamOK_X1 Y nq q) (a1 : Int32)   (σ : St) : CtE (emI FC Y) FC Y yX1_readsNot cX1_readsNot 2 (some .boolean) (8 + nq + 1) [Rf Y 87, .int a1] σ (f_X1_readsNot q a1 σ) := by
  refine Ct.ofG (by decide) (Nat.le_of_ble_eq_true rfl) (fun X C0 => ?_)
  have C : Cx FC Y X cX1_readsNot 2 RX1 (some .boolean) (8 + nq + 1) (0, 0) := C0
  show G FC Y X 2 (emI FC Y) (0, 0) (0, 0) 0 [(0, Rf Y 87), (1, .int a1)] [] (RepS FC Y σ) (f_X1_readsNot q a1 σ)
  rw [f_X1_readsNot]
  refine q_aload_n C 0 dX1_readsNot_0 rfl ?_
  refine q_iload_n C 1 dX1_readsNot_1 rfl ?_
  refine q_cVI C lk_X1_88 (hq.2.2.2.1 a1 σ) (Nat.le_refl _) rfl skC_87 (ltC skC_87 rfl) recv_1 (rest := []) rfl rfl (Nat.le_of_ble_eq_true rfl) dX1_readsNot_2 (fun r1 => ?_)
  refine q_if_ne C 10 dX1_readsNot_5 rfl (fun _ => ?_) (fun _ => ?_)
  · refine q_aload_n C 0 dX1_readsNot_10 rfl ?_
    refine gf_X1_14 C skC_87 dX1_readsNot_11 ?_
    refine q_bipush C (v := (-33)) dX1_readsNot_14 (by decide) ?_
    refine q_cVV C lk_X1_85 (w_X2_add (Y := Y) 88 (-33) skC_88 r1.2) (by omega) rfl skC_88 (ltC skC_88 rfl) recv_2 (rest := []) rfl rfl (Nat.le_of_ble_eq_true rfl) dX1_readsNot_16 (fun r2 => ?_)
    refine q_iconst C (v := 1) dX1_readsNot_19 (by decide) ?_
    exact q_iretz C (by decide) rfl dX1_readsNot_20
  refine q_iconst C (v := 0) dX1_readsNot_8 (by decide) ?_
  exact q_iretz C (by decide) rfl dX1_readsNot_9
theorem lk_X1_93 : LkV RX1 93 yX1_readNumber cX1_readNumber 3 none 0 := ⟨TB_p [767, 769, 7, 78, 770] (by decide +kernel) (by decide +kernel), by decide +kernel, by decide +kernel, by decide +kernel⟩
theorem lk_X1_99 : LkV RX1 99 yX1_readsBracket cX1_readsBracket 2 (some .boolean) 1 := ⟨TB_p [776, 778, 9, 78, 779] (by decide +kernel) (by decide +kernel), by decide +kernel, by decide +kernel, by decide +kernel⟩
theorem lk_X1_96 : LkV RX1 96 yX1_readsNot cX1_readsNot 2 (some .boolean) 1 := ⟨TB_p [772, 774, 8, 78, 775] (by decide +kernel) (by decide +kernel), by decide +kernel, by decide +kernel, by decide +kernel⟩
def f_X1_readsOne_L80 (q : FamT_X1) (v1 : Int32) (v2 : Int32) (σ : St) : Option (Int32 × St) := (Bst (up σ 87 3 ((σ 87 3) + 1)) fun s9 => (if v2 = 33 then (Option.bind (q.2.2.1 (v1 + 1) s9) fun r11 => (if r11.1 = 0 ∨ r11.1 = 1 then (some (r11.1, r11.2)) else none)) else (Option.bind (q.2.1 (v1 + 1) s9) fun r10 => (if r10.1 = 0 ∨ r10.1 = 1 then (some (r10.1, r10.2)) else none))))
theorem w_X1_readsOne_L80 {Y : YT} {X : XT} {nq : Nat} (C : Cx FC Y X cX1_readsOne 3 RX1 (some .boolean) (8 + nq + 1) (0, 0)) (q : FamT_X1) (hq : FamOK_X1 Y nq q) : ∀ (v1 : Int32), ∀ (v2 : Int32), ∀ (σ : St), G FC Y X 3 (emI FC Y) (0, 0) (0, 0) 80 [(0, Rf Y 87), (1, .int v1), (2, .int v2)] [] (RepS FC Y σ) (f_X1_readsOne_L80 q v1 v2 σ) := by
  intro v1 v2 σ
  rw [f_X1_readsOne_L80]
  refine q_aload_n C 0 dX1_readsOne_80 rfl ?_
  refine q_dup C dX1_readsOne_81 rfl ?_
  refine gf_X1_29 C skC_87 dX1_readsOne_82 ?_
  refine q_iconst C (v := 1) dX1_readsOne_85 (by decide) ?_
  refine q_iadd C dX1_readsOne_86 ?_
  refine pf_X1_29 C skC_87 dX1_readsOne_87 (fun s9 => ?_)
  refine q_iload_n C 2 dX1_readsOne_90 rfl ?_
  refine q_bipush C (v := 33) dX1_readsOne_91 (by decide) ?_
  refine q_icmp_ne C 106 dX1_readsOne_93 rfl (fun _ => ?_) (fun _ => ?_)
  · refine q_aload_n C 0 dX1_readsOne_106 rfl ?_
    refine q_iload_n C 1 dX1_readsOne_107 rfl ?_
    refine q_iconst C (v := 1) dX1_readsOne_108 (by decide) ?_
    refine q_iadd C dX1_readsOne_109 ?_
    refine q_cVI C lk_X1_99 (hq.2.1 (v1 + 1) s9) (Nat.le_refl _) rfl skC_87 (ltC skC_87 rfl) recv_1 (rest := []) rfl rfl (Nat.le_of_ble_eq_true rfl) dX1_readsOne_110 (fun r10 => ?_)
    exact G.ite (fun h => q_iretz C h rfl dX1_readsOne_113) (fun _ => G.none)
  refine q_aload_n C 0 dX1_readsOne_96 rfl ?_
  refine q_iload_n C 1 dX1_readsOne_97 rfl ?_
  refine q_iconst C (v := 1) dX1_readsOne_98 (by decide) ?_
  refine q_iadd C dX1_readsOne_99 ?_
  refine q_cVI C lk_X1_96 (hq.2.2.1 (v1 + 1) s9) (Nat.le_refl _) rfl skC_87 (ltC skC_87 rfl) recv_1 (rest := []) rfl rfl (Nat.le_of_ble_eq_true rfl) dX1_readsOne_100 (fun r11 => ?_)
  refine q_goto C 113 dX1_readsOne_103 rfl ?_
  exact G.ite (fun h => q_iretz C h rfl dX1_readsOne_113) (fun _ => G.none)
def f_X1_readsOne (q : FamT_X1) (a1 : Int32) (σ : St) : Option (Int32 × St) := (Option.bind (f_X1_next σ) fun r1 => (Option.bind (f_X1_isIn 3 r1.1 r1.2) fun r2 => (if r2.1 = 0 then (if (r2.2 87 2).toNatClampNeg < 9 then (Option.bind (f_X1_isIn ((r2.2 87 2).toNatClampNeg) r1.1 r2.2) fun r4 => (if r4.1 = 0 then (if 5 ≤ a1 then (some (0, r4.2)) else (if r1.1 = 33 then (f_X1_readsOne_L80 q a1 r1.1 r4.2) else (if r1.1 = 40 then (f_X1_readsOne_L80 q a1 r1.1 r4.2) else (some (0, r4.2))))) else (if (r4.2 87 2).toNatClampNeg < 9 then (Option.bind (f_X2_add 88 ((-1) - (sidx ((r4.2 87 2).toNatClampNeg) (toC r1.1))) r4.2) fun r6 => (Bst (up r6 87 3 ((r6 87 3) + 1)) fun s7 => (some (1, s7)))) else none))) else none) else (Option.bind (f_X1_readNumber r2.2) fun r8 => (some (1, r8))))))
theorem w_X1_readsOne {Y : YT} {nq : Nat} (q : FamT_X1) (hq : FamOK_X1 Y nq q) (a1 : Int32)   (σ : St) : CtE (emI FC Y) FC Y yX1_readsOne cX1_readsOne 3 (some .boolean) (8 + nq + 1) [Rf Y 87, .int a1] σ (f_X1_readsOne q a1 σ) := by
  refine Ct.ofG (by decide) (Nat.le_of_ble_eq_true rfl) (fun X C0 => ?_)
  have C : Cx FC Y X cX1_readsOne 3 RX1 (some .boolean) (8 + nq + 1) (0, 0) := C0
  show G FC Y X 3 (emI FC Y) (0, 0) (0, 0) 0 [(0, Rf Y 87), (1, .int a1)] [] (RepS FC Y σ) (f_X1_readsOne q a1 σ)
  rw [f_X1_readsOne]
  refine q_aload_n C 0 dX1_readsOne_0 rfl ?_
  refine q_cVI C lk_X1_78 (w_X1_next (Y := Y) σ) (by omega) rfl skC_87 (ltC skC_87 rfl) recv_1 (rest := []) rfl rfl (Nat.le_of_ble_eq_true rfl) dX1_readsOne_1 (fun r1 => ?_)
  refine q_istore_n C [(2, .int r1.1), (0, Rf Y 87), (1, .int a1)] dX1_readsOne_4 rfl rfl ?_
  refine q_ldcS C (tx := "0123456789") (e := 3) (by decide +kernel) dX1_readsOne_5 ?_
  refine q_iload_n C 0 dX1_readsOne_7 rfl ?_
  refine q_cSI C lk_X1_81 (w_X1_isIn (Y := Y) 3 r1.1 (Nat.le_of_ble_eq_true rfl : 3 + 1 ≤ 9) r1.2) (by omega) rfl (rest := []) rfl rfl (Nat.le_of_ble_eq_true rfl) dX1_readsOne_8 (fun r2 => ?_)
  refine q_if_eq C 20 dX1_readsOne_11 rfl (fun _ => ?_) (fun _ => ?_)
  · refine q_aload_n C 1 dX1_readsOne_20 rfl ?_
    refine gf_X1_25 C skC_87 dX1_readsOne_21 ?_
    refine G.ite (fun h3 => ?_) (fun _ => G.none)
    refine q_iload_n C 0 dX1_readsOne_24 rfl ?_
    refine q_cSI C lk_X1_81 (w_X1_isIn (Y := Y) ((r2.2 87 2).toNatClampNeg) r1.1 h3 r2.2) (by omega) rfl (rest := []) rfl rfl (Nat.le_of_ble_eq_true rfl) dX1_readsOne_25 (fun r4 => ?_)
    refine q_if_eq C 61 dX1_readsOne_28 rfl (fun _ => ?_) (fun _ => ?_)
    · refine q_iload_n C 2 dX1_readsOne_61 rfl ?_
      refine q_iconst C (v := 5) dX1_readsOne_62 (by decide) ?_
      refine q_icmp_ge C 78 dX1_readsOne_63 rfl (fun _ => ?_) (fun _ => ?_)
      · refine q_iconst C (v := 0) dX1_readsOne_78 (by decide) ?_
        exact q_iretz C (by decide) rfl dX1_readsOne_79
      refine q_iload_n C 0 dX1_readsOne_66 rfl ?_
      refine q_bipush C (v := 33) dX1_readsOne_67 (by decide) ?_
      refine q_icmp_eq C 80 dX1_readsOne_69 rfl (fun _ => ?_) (fun _ => ?_)
      · refine G.sub [1, 2, 0] (lv' := [(0, Rf Y 87), (1, .int a1), (2, .int r1.1)]) rfl ?_
        exact w_X1_readsOne_L80 C q hq a1 r1.1 r4.2
      refine q_iload_n C 0 dX1_readsOne_72 rfl ?_
      refine q_bipush C (v := 40) dX1_readsOne_73 (by decide) ?_
      refine q_icmp_eq C 80 dX1_readsOne_75 rfl (fun _ => ?_) (fun _ => ?_)
      · refine G.sub [1, 2, 0] (lv' := [(0, Rf Y 87), (1, .int a1), (2, .int r1.1)]) rfl ?_
        exact w_X1_readsOne_L80 C q hq a1 r1.1 r4.2
      refine q_iconst C (v := 0) dX1_readsOne_78 (by decide) ?_
      exact q_iretz C (by decide) rfl dX1_readsOne_79
    refine q_aload_n C 1 dX1_readsOne_31 rfl ?_
    refine gf_X1_14 C skC_87 dX1_readsOne_32 ?_
    refine q_iconst C (v := (-1)) dX1_readsOne_35 (by decide) ?_
    refine q_aload_n C 1 dX1_readsOne_36 rfl ?_
    refine gf_X1_25 C skC_87 dX1_readsOne_37 ?_
    refine G.ite (fun h5 => ?_) (fun _ => G.none)
    refine q_iload_n C 0 dX1_readsOne_40 rfl ?_
    refine q_i2c C dX1_readsOne_41 ?_
    refine q_sidx C lk_X1_56 h5 (Nat.le_of_ble_eq_true rfl) (by omega) dX1_readsOne_42 ?_
    refine q_isub C dX1_readsOne_45 ?_
    refine q_cVV C lk_X1_85 (w_X2_add (Y := Y) 88 ((-1) - (sidx ((r4.2 87 2).toNatClampNeg) (toC r1.1))) skC_88 r4.2) (by omega) rfl skC_88 (ltC skC_88 rfl) recv_2 (rest := []) rfl rfl (Nat.le_of_ble_eq_true rfl) dX1_readsOne_46 (fun r6 => ?_)
    refine q_aload_n C 1 dX1_readsOne_49 rfl ?_
    refine q_dup C dX1_readsOne_50 rfl ?_
    refine gf_X1_29 C skC_87 dX1_readsOne_51 ?_
    refine q_iconst C (v := 1) dX1_readsOne_54 (by decide) ?_
    refine q_iadd C dX1_readsOne_55 ?_
    refine pf_X1_29 C skC_87 dX1_readsOne_56 (fun s7 => ?_)
    refine q_iconst C (v := 1) dX1_readsOne_59 (by decide) ?_
    exact q_iretz C (by decide) rfl dX1_readsOne_60
  refine q_aload_n C 1 dX1_readsOne_14 rfl ?_
  refine q_cVV C lk_X1_93 (w_X1_readNumber (Y := Y) r2.2) (by omega) rfl skC_87 (ltC skC_87 rfl) recv_1 (rest := []) rfl rfl (Nat.le_of_ble_eq_true rfl) dX1_readsOne_15 (fun r8 => ?_)
  refine q_iconst C (v := 1) dX1_readsOne_18 (by decide) ?_
  exact q_iretz C (by decide) rfl dX1_readsOne_19
def f_X1_readsPart (q : FamT_X1) (a1 : Int32) (a2 : Int32) (σ : St) : Option (Int32 × St) := (if 4 ≤ a1 then (Option.bind (q.2.2.2.1 a2 σ) fun r1 => (if r1.1 = 0 ∨ r1.1 = 1 then (some (r1.1, r1.2)) else none)) else (Option.bind (q.1 (a1 + 1) a2 σ) fun r2 => (if r2.1 = 0 ∨ r2.1 = 1 then (some (r2.1, r2.2)) else none)))
theorem w_X1_readsPart {Y : YT} {nq : Nat} (q : FamT_X1) (hq : FamOK_X1 Y nq q) (a1 : Int32) (a2 : Int32)   (σ : St) : CtE (emI FC Y) FC Y yX1_readsPart cX1_readsPart 3 (some .boolean) (8 + nq + 1) [Rf Y 87, .int a1, .int a2] σ (f_X1_readsPart q a1 a2 σ) := by
  refine Ct.ofG (by decide) (Nat.le_of_ble_eq_true rfl) (fun X C0 => ?_)
  have C : Cx FC Y X cX1_readsPart 3 RX1 (some .boolean) (8 + nq + 1) (0, 0) := C0
  show G FC Y X 3 (emI FC Y) (0, 0) (0, 0) 0 [(0, Rf Y 87), (1, .int a1), (2, .int a2)] [] (RepS FC Y σ) (f_X1_readsPart q a1 a2 σ)
  rw [f_X1_readsPart]
  refine q_iload_n C 1 dX1_readsPart_0 rfl ?_
  refine q_iconst C (v := 4) dX1_readsPart_1 (by decide) ?_
  refine q_icmp_ge C 16 dX1_readsPart_2 rfl (fun _ => ?_) (fun _ => ?_)
  · refine q_aload_n C 0 dX1_readsPart_16 rfl ?_
    refine q_iload_n C 2 dX1_readsPart_17 rfl ?_
    refine q_cVI C lk_X1_88 (hq.2.2.2.1 a2 σ) (Nat.le_refl _) rfl skC_87 (ltC skC_87 rfl) recv_1 (rest := []) rfl rfl (Nat.le_of_ble_eq_true rfl) dX1_readsPart_18 (fun r1 => ?_)
    exact G.ite (fun h => q_iretz C h rfl dX1_readsPart_21) (fun _ => G.none)
  refine q_aload_n C 0 dX1_readsPart_5 rfl ?_
  refine q_iload_n C 1 dX1_readsPart_6 rfl ?_
  refine q_iconst C (v := 1) dX1_readsPart_7 (by decide) ?_
  refine q_iadd C dX1_readsPart_8 ?_
  refine q_iload_n C 2 dX1_readsPart_9 rfl ?_
  refine q_cVI C lk_X1_40 (hq.1 (a1 + 1) a2 σ) (Nat.le_refl _) rfl skC_87 (ltC skC_87 rfl) recv_1 (rest := []) rfl rfl (Nat.le_of_ble_eq_true rfl) dX1_readsPart_10 (fun r2 => ?_)
  refine q_goto C 21 dX1_readsPart_13 rfl ?_
  exact G.ite (fun h => q_iretz C h rfl dX1_readsPart_21) (fun _ => G.none)
def fam_X1 : Nat → FamT_X1
  | 0 => (fun _ _ _ => none, fun _ _ => none, fun _ _ => none, fun _ _ => none, fun _ _ _ => none)
  | n + 1 => (f_X1_reads (fam_X1 n), f_X1_readsBracket (fam_X1 n), f_X1_readsNot (fam_X1 n), f_X1_readsOne (fam_X1 n), f_X1_readsPart (fam_X1 n))
theorem wfam_X1 {Y : YT} : ∀ n : Nat, FamOK_X1 Y n (fam_X1 n)
  | 0 => ⟨(fun _ _ _ r h => by cases h), (fun _ _ r h => by cases h), (fun _ _ r h => by cases h), (fun _ _ r h => by cases h), (fun _ _ _ r h => by cases h)⟩
  | n + 1 => ⟨fun x0 x1 x2 => w_X1_reads (nq := n) (fam_X1 n) (wfam_X1 n) x0 x1 x2, fun x0 x1 => w_X1_readsBracket (nq := n) (fam_X1 n) (wfam_X1 n) x0 x1, fun x0 x1 => w_X1_readsNot (nq := n) (fam_X1 n) (wfam_X1 n) x0 x1, fun x0 x1 => w_X1_readsOne (nq := n) (fam_X1 n) (wfam_X1 n) x0 x1, fun x0 x1 x2 => w_X1_readsPart (nq := n) (fam_X1 n) (wfam_X1 n) x0 x1 x2⟩
theorem lk_X1_33 : LkV RX1 33 yX2_copyFrom cX2_copyFrom 3 none 1 := ⟨TB_p [655, 656, 657, 72, 658] (by decide +kernel) (by decide +kernel), by decide +kernel, by decide +kernel, by decide +kernel⟩
theorem lk_X1_37 : LkV RX1 37 yX2_clear cX2_clear 1 none 0 := ⟨TB_p [660, 389, 390, 72, 391] (by decide +kernel) (by decide +kernel), by decide +kernel, by decide +kernel, by decide +kernel⟩
theorem lk_X1_44 : LkV RX1 44 yX2_size cX2_size 1 (some .int) 0 := ⟨TB_p [788, 446, 447, 72, 448] (by decide +kernel) (by decide +kernel), by decide +kernel, by decide +kernel, by decide +kernel⟩
def f_X1_faultOf (a1 : Nat) (a2 : Nat) (σ : St) : Option (Int32 × St) := (Option.bind (f_X2_copyFrom 90 a1 σ) fun r1 => (Bst (up r1 87 2 (nI a2)) fun s2 => (Bst (up s2 87 3 0) fun s3 => (Option.bind (f_X2_clear 88 s3) fun r4 => (Option.bind ((fam_X1 120).1 0 0 r4) fun r5 => (if r5.1 = 0 then (some ((r5.2 87 3), r5.2)) else (Option.bind (f_X2_size 90 r5.2) fun r6 => (if (r5.2 87 3) = r6.1 then (some ((-1), r6.2)) else (some ((r6.2 87 3), r6.2))))))))))
theorem w_X1_faultOf {Y : YT} (a1 : Nat) (a2 : Nat)  (ha1 : shC a1 = 2) (ha2 : a2 < 9) (σ : St) : CtE (emI FC Y) FC Y yX1_faultOf cX1_faultOf 3 (some .int) 129 [Rf Y 87, Rf Y a1, .ref (Y.2.2.1 a2)] σ (f_X1_faultOf a1 a2 σ) := by
  refine Ct.ofG (by decide) (Nat.le_of_ble_eq_true rfl) (fun X C0 => ?_)
  have C : Cx FC Y X cX1_faultOf 3 RX1 (some .int) 129 (0, 0) := C0
  show G FC Y X 3 (emI FC Y) (0, 0) (0, 0) 0 [(0, Rf Y 87), (1, Rf Y a1), (2, .ref (Y.2.2.1 a2))] [] (RepS FC Y σ) (f_X1_faultOf a1 a2 σ)
  rw [f_X1_faultOf]
  refine q_aload_n C 0 dX1_faultOf_0 rfl ?_
  refine gf_X1_20 C skC_87 dX1_faultOf_1 ?_
  refine q_aload_n C 1 dX1_faultOf_4 rfl ?_
  refine q_cVV C lk_X1_33 (w_X2_copyFrom (Y := Y) 90 a1 skC_90 ha1 σ) (Nat.le_of_ble_eq_true rfl) rfl skC_90 (ltC skC_90 rfl) recv_2 (rest := []) rfl rfl (Nat.le_of_ble_eq_true rfl) dX1_faultOf_5 (fun r1 => ?_)
  refine q_aload_n C 0 dX1_faultOf_8 rfl ?_
  refine q_aload_n C 2 dX1_faultOf_9 rfl ?_
  refine pf_X1_25 C skC_87 ha2 dX1_faultOf_10 (fun s2 => ?_)
  refine q_aload_n C 0 dX1_faultOf_13 rfl ?_
  refine q_iconst C (v := 0) dX1_faultOf_14 (by decide) ?_
  refine pf_X1_29 C skC_87 dX1_faultOf_15 (fun s3 => ?_)
  refine q_aload_n C 0 dX1_faultOf_18 rfl ?_
  refine gf_X1_14 C skC_87 dX1_faultOf_19 ?_
  refine q_cVV C lk_X1_37 (w_X2_clear (Y := Y) 88 skC_88 s3) (Nat.le_of_ble_eq_true rfl) rfl skC_88 (ltC skC_88 rfl) recv_2 (rest := []) rfl rfl (Nat.le_of_ble_eq_true rfl) dX1_faultOf_22 (fun r4 => ?_)
  refine q_aload_n C 0 dX1_faultOf_25 rfl ?_
  refine q_iconst C (v := 0) dX1_faultOf_26 (by decide) ?_
  refine q_iconst C (v := 0) dX1_faultOf_27 (by decide) ?_
  refine q_cVI C lk_X1_40 ((wfam_X1 (Y := Y) 120).1 0 0 r4) (Nat.le_of_ble_eq_true rfl) rfl skC_87 (ltC skC_87 rfl) recv_1 (rest := []) rfl rfl (Nat.le_of_ble_eq_true rfl) dX1_faultOf_28 (fun r5 => ?_)
  refine q_if_eq C 52 dX1_faultOf_31 rfl (fun _ => ?_) (fun _ => ?_)
  · refine q_aload_n C 0 dX1_faultOf_52 rfl ?_
    refine gf_X1_29 C skC_87 dX1_faultOf_53 ?_
    exact q_ireti C rfl dX1_faultOf_56
  refine q_aload_n C 0 dX1_faultOf_34 rfl ?_
  refine gf_X1_29 C skC_87 dX1_faultOf_35 ?_
  refine q_aload_n C 0 dX1_faultOf_38 rfl ?_
  refine gf_X1_20 C skC_87 dX1_faultOf_39 ?_
  refine q_cVI C lk_X1_44 (w_X2_size (Y := Y) 90 skC_90 r5.2) (Nat.le_of_ble_eq_true rfl) rfl skC_90 (ltC skC_90 rfl) recv_2 (rest := [.int (r5.2 87 3)]) rfl rfl (Nat.le_of_ble_eq_true rfl) dX1_faultOf_42 (fun r6 => ?_)
  refine q_icmp_ne C 52 dX1_faultOf_45 rfl (fun _ => ?_) (fun _ => ?_)
  · refine q_aload_n C 0 dX1_faultOf_52 rfl ?_
    refine gf_X1_29 C skC_87 dX1_faultOf_53 ?_
    exact q_ireti C rfl dX1_faultOf_56
  refine q_iconst C (v := (-1)) dX1_faultOf_48 (by decide) ?_
  refine q_goto C 56 dX1_faultOf_49 rfl ?_
  exact q_ireti C rfl dX1_faultOf_56
def f_X2_hasRun (k : Nat) (a1 : Int32) (a2 : Int32) (σ : St) : Option (Int32 × St) := (if a2 < 0 then (some (0, σ)) else (if a1 < 0 then (some (0, σ)) else (if ((σ k 1) - a2) < a1 then (some (0, σ)) else (some (1, σ)))))
theorem w_X2_hasRun {Y : YT} (k : Nat) (a1 : Int32) (a2 : Int32)  (hk : shC k = 2) (σ : St) : CtE (emI FC Y) FC Y yX2_hasRun cX2_hasRun 3 (some .boolean) 0 [Rf Y k, .int a1, .int a2] σ (f_X2_hasRun k a1 a2 σ) := by
  refine Ct.ofG (by decide) (Nat.le_of_ble_eq_true rfl) (fun X C0 => ?_)
  have C : Cx FC Y X cX2_hasRun 3 RX2 (some .boolean) 0 (0, 0) := C0
  show G FC Y X 3 (emI FC Y) (0, 0) (0, 0) 0 [(0, Rf Y k), (1, .int a1), (2, .int a2)] [] (RepS FC Y σ) (f_X2_hasRun k a1 a2 σ)
  rw [f_X2_hasRun]
  refine q_iload_n C 2 dX2_hasRun_0 rfl ?_
  refine q_if_lt C 22 dX2_hasRun_1 rfl (fun _ => ?_) (fun _ => ?_)
  · refine q_iconst C (v := 0) dX2_hasRun_22 (by decide) ?_
    exact q_iretz C (by decide) rfl dX2_hasRun_23
  refine q_iload_n C 1 dX2_hasRun_4 rfl ?_
  refine q_if_lt C 22 dX2_hasRun_5 rfl (fun _ => ?_) (fun _ => ?_)
  · refine q_iconst C (v := 0) dX2_hasRun_22 (by decide) ?_
    exact q_iretz C (by decide) rfl dX2_hasRun_23
  refine q_iload_n C 1 dX2_hasRun_8 rfl ?_
  refine q_aload_n C 0 dX2_hasRun_9 rfl ?_
  refine gf_X2_7 C hk dX2_hasRun_10 ?_
  refine q_iload_n C 2 dX2_hasRun_13 rfl ?_
  refine q_isub C dX2_hasRun_14 ?_
  refine q_icmp_gt C 22 dX2_hasRun_15 rfl (fun _ => ?_) (fun _ => ?_)
  · refine q_iconst C (v := 0) dX2_hasRun_22 (by decide) ?_
    exact q_iretz C (by decide) rfl dX2_hasRun_23
  refine q_iconst C (v := 1) dX2_hasRun_18 (by decide) ?_
  refine q_goto C 23 dX2_hasRun_19 rfl ?_
  exact q_iretz C (by decide) rfl dX2_hasRun_23
def f_X2_set (k : Nat) (a1 : Int32) (a2 : Int32) (σ : St) : Option (St) := (if a1 < 0 then (some σ) else (if (nI (shC (k + 1) - 100)) ≤ a1 then (some σ) else (if inb a1 (shC (k + 1) - 100) = true then (Bst (up σ (k + 1) a1.toNatClampNeg a2) fun s1 => (some s1)) else none)))
theorem w_X2_set {Y : YT} (k : Nat) (a1 : Int32) (a2 : Int32)  (hk : shC k = 2) (σ : St) : CtE (emV FC Y) FC Y yX2_set cX2_set 3 none 0 [Rf Y k, .int a1, .int a2] σ (f_X2_set k a1 a2 σ) := by
  refine Ct.ofG (by decide) (Nat.le_of_ble_eq_true rfl) (fun X C0 => ?_)
  have C : Cx FC Y X cX2_set 3 RX2 none 0 (0, 0) := C0
  show G FC Y X 3 (emV FC Y) (0, 0) (0, 0) 0 [(0, Rf Y k), (1, .int a1), (2, .int a2)] [] (RepS FC Y σ) (f_X2_set k a1 a2 σ)
  rw [f_X2_set]
  refine q_iload_n C 1 dX2_set_0 rfl ?_
  refine q_if_lt C 20 dX2_set_1 rfl (fun _ => ?_) (fun _ => ?_)
  · exact q_vret C rfl dX2_set_20
  refine q_iload_n C 1 dX2_set_4 rfl ?_
  refine q_aload_n C 0 dX2_set_5 rfl ?_
  refine gf_X2_19 C hk dX2_set_6 ?_
  refine q_alenS C (sf_2_0 hk) (ltCa (sf_2_0 hk)) dX2_set_9 ?_
  refine q_icmp_ge C 20 dX2_set_10 rfl (fun _ => ?_) (fun _ => ?_)
  · exact q_vret C rfl dX2_set_20
  refine q_aload_n C 0 dX2_set_13 rfl ?_
  refine gf_X2_19 C hk dX2_set_14 ?_
  refine q_iload_n C 1 dX2_set_17 rfl ?_
  refine q_iload_n C 2 dX2_set_18 rfl ?_
  refine q_astS C (sf_2_0 hk) (ltCa (sf_2_0 hk)) dX2_set_19 (fun _ s1 => ?_)
  exact q_vret C rfl dX2_set_20
def f_X2_removeLast (k : Nat) (σ : St) : Option (Int32 × St) := (if (σ k 1) ≤ 0 then (some (0, σ)) else (if (σ k 1) ≤ (nI (shC (k + 1) - 100)) then (Bst (up σ k 1 ((σ k 1) - 1)) fun s1 => (if inb (s1 k 1) (shC (k + 1) - 100) = true then (some ((s1 (k + 1) (s1 k 1).toNatClampNeg), s1)) else none)) else (some (0, σ))))
theorem w_X2_removeLast {Y : YT} (k : Nat)  (hk : shC k = 2) (σ : St) : CtE (emI FC Y) FC Y yX2_removeLast cX2_removeLast 1 (some .int) 0 [Rf Y k] σ (f_X2_removeLast k σ) := by
  refine Ct.ofG (by decide) (Nat.le_of_ble_eq_true rfl) (fun X C0 => ?_)
  have C : Cx FC Y X cX2_removeLast 1 RX2 (some .int) 0 (0, 0) := C0
  show G FC Y X 1 (emI FC Y) (0, 0) (0, 0) 0 [(0, Rf Y k)] [] (RepS FC Y σ) (f_X2_removeLast k σ)
  rw [f_X2_removeLast]
  refine q_aload_n C 0 dX2_removeLast_0 rfl ?_
  refine gf_X2_7 C hk dX2_removeLast_1 ?_
  refine q_if_le C 19 dX2_removeLast_4 rfl (fun _ => ?_) (fun _ => ?_)
  · refine q_iconst C (v := 0) dX2_removeLast_19 (by decide) ?_
    exact q_ireti C rfl dX2_removeLast_20
  refine q_aload_n C 0 dX2_removeLast_7 rfl ?_
  refine gf_X2_7 C hk dX2_removeLast_8 ?_
  refine q_aload_n C 0 dX2_removeLast_11 rfl ?_
  refine gf_X2_19 C hk dX2_removeLast_12 ?_
  refine q_alenS C (sf_2_0 hk) (ltCa (sf_2_0 hk)) dX2_removeLast_15 ?_
  refine q_icmp_le C 21 dX2_removeLast_16 rfl (fun _ => ?_) (fun _ => ?_)
  · refine q_aload_n C 0 dX2_removeLast_21 rfl ?_
    refine q_dup C dX2_removeLast_22 rfl ?_
    refine gf_X2_7 C hk dX2_removeLast_23 ?_
    refine q_iconst C (v := 1) dX2_removeLast_26 (by decide) ?_
    refine q_isub C dX2_removeLast_27 ?_
    refine pf_X2_7 C hk dX2_removeLast_28 (fun s1 => ?_)
    refine q_aload_n C 0 dX2_removeLast_31 rfl ?_
    refine gf_X2_19 C hk dX2_removeLast_32 ?_
    refine q_aload_n C 0 dX2_removeLast_35 rfl ?_
    refine gf_X2_7 C hk dX2_removeLast_36 ?_
    refine q_aldS C (sf_2_0 hk) (ltCa (sf_2_0 hk)) dX2_removeLast_39 (fun _ => ?_)
    exact q_ireti C rfl dX2_removeLast_40
  refine q_iconst C (v := 0) dX2_removeLast_19 (by decide) ?_
  exact q_ireti C rfl dX2_removeLast_20
def f_X2_zeros_L6 (k : Nat) : Nat → Int32 → Int32 → St → Option (St)
  | 0, _, _, _ => none
  | n + 1, v1, v2, σ => (if v1 ≤ v2 then (some σ) else (if (nI (shC (k + 1) - 100)) ≤ v2 then (some σ) else (Option.bind (f_X2_add k 0 σ) fun r2 => ((f_X2_zeros_L6 k n) v1 (v2 + 1) r2))))
theorem w_X2_zeros_L6 {Y : YT} {X : XT} (C : Cx FC Y X cX2_zeros 3 RX2 none 1 (0, 0)) (k : Nat) (hk : shC k = 2) : ∀ (n : Nat), ∀ (v1 : Int32), ∀ (v2 : Int32), ∀ (σ : St), G FC Y X 3 (emV FC Y) (0, 0) (0, 0) 6 [(0, Rf Y k), (1, .int v1), (2, .int v2)] [] (RepS FC Y σ) (f_X2_zeros_L6 k n v1 v2 σ) := by
  intro n
  induction n with
  | zero =>
    intro v1 v2 σ
    rw [f_X2_zeros_L6]; exact G.none
  | succ n ih =>
    intro v1 v2 σ
    rw [f_X2_zeros_L6]
    refine q_iload_n C 2 dX2_zeros_6 rfl ?_
    refine q_iload_n C 1 dX2_zeros_7 rfl ?_
    refine q_icmp_ge C 31 dX2_zeros_8 rfl (fun _ => ?_) (fun _ => ?_)
    · exact q_vret C rfl dX2_zeros_31
    refine q_iload_n C 2 dX2_zeros_11 rfl ?_
    refine q_aload_n C 0 dX2_zeros_12 rfl ?_
    refine gf_X2_19 C hk dX2_zeros_13 ?_
    refine q_alenS C (sf_2_0 hk) (ltCa (sf_2_0 hk)) dX2_zeros_16 ?_
    refine q_icmp_ge C 31 dX2_zeros_17 rfl (fun _ => ?_) (fun _ => ?_)
    · exact q_vret C rfl dX2_zeros_31
    refine q_aload_n C 0 dX2_zeros_20 rfl ?_
    refine q_iconst C (v := 0) dX2_zeros_21 (by decide) ?_
    refine q_cVV C lk_X2_26 (w_X2_add (Y := Y) k 0 hk σ) (Nat.le_of_ble_eq_true rfl) rfl hk (ltC hk rfl) recv_2 (rest := []) rfl rfl (Nat.le_of_ble_eq_true rfl) dX2_zeros_22 (fun r2 => ?_)
    refine q_iinc C 2 [(2, .int (v2 + 1)), (0, Rf Y k), (1, .int v1)] dX2_zeros_25 rfl rfl rfl rfl ?_
    refine q_goto C 6 dX2_zeros_28 rfl ?_
    refine G.sub [1, 2, 0] (lv' := [(0, Rf Y k), (1, .int v1), (2, .int (v2 + 1))]) rfl ?_
    exact ih v1 (v2 + 1) r2
def f_X2_zeros (k : Nat) (a1 : Int32) (σ : St) : Option (St) := (Option.bind (f_X2_clear k σ) fun r1 => (f_X2_zeros_L6 k 400 a1 0 r1))
theorem w_X2_zeros {Y : YT} (k : Nat) (a1 : Int32)  (hk : shC k = 2) (σ : St) : CtE (emV FC Y) FC Y yX2_zeros cX2_zeros 3 none 1 [Rf Y k, .int a1] σ (f_X2_zeros k a1 σ) := by
  refine Ct.ofG (by decide) (Nat.le_of_ble_eq_true rfl) (fun X C0 => ?_)
  have C : Cx FC Y X cX2_zeros 3 RX2 none 1 (0, 0) := C0
  show G FC Y X 3 (emV FC Y) (0, 0) (0, 0) 0 [(0, Rf Y k), (1, .int a1)] [] (RepS FC Y σ) (f_X2_zeros k a1 σ)
  rw [f_X2_zeros]
  refine q_aload_n C 0 dX2_zeros_0 rfl ?_
  refine q_cVV C lk_X2_23 (w_X2_clear (Y := Y) k hk σ) (Nat.le_of_ble_eq_true rfl) rfl hk (ltC hk rfl) recv_2 (rest := []) rfl rfl (Nat.le_of_ble_eq_true rfl) dX2_zeros_1 (fun r1 => ?_)
  refine q_iconst C (v := 0) dX2_zeros_4 (by decide) ?_
  refine q_istore_n C [(2, .int 0), (0, Rf Y k), (1, .int a1)] dX2_zeros_5 rfl rfl ?_
  refine G.sub [1, 2, 0] (lv' := [(0, Rf Y k), (1, .int a1), (2, .int 0)]) rfl ?_
  exact w_X2_zeros_L6 C k hk 400 a1 0 r1
theorem lk_X4_35 : LkV RX4 35 yX2_size cX2_size 1 (some .int) 0 := ⟨TB_p [453, 446, 447, 72, 448] (by decide +kernel) (by decide +kernel), by decide +kernel, by decide +kernel, by decide +kernel⟩
def f_X4_size  (σ : St) : Option (Int32 × St) := (Option.bind (f_X2_size 10 σ) fun r1 => (some (r1.1, r1.2)))
theorem w_X4_size {Y : YT}    (σ : St) : CtE (emI FC Y) FC Y yX4_size cX4_size 1 (some .int) 1 [Rf Y 9] σ (f_X4_size σ) := by
  refine Ct.ofG (by decide) (Nat.le_of_ble_eq_true rfl) (fun X C0 => ?_)
  have C : Cx FC Y X cX4_size 1 RX4 (some .int) 1 (0, 0) := C0
  show G FC Y X 1 (emI FC Y) (0, 0) (0, 0) 0 [(0, Rf Y 9)] [] (RepS FC Y σ) (f_X4_size σ)
  rw [f_X4_size]
  refine q_aload_n C 0 dX4_size_0 rfl ?_
  refine gf_X4_14 C skC_9 dX4_size_1 ?_
  refine q_cVI C lk_X4_35 (w_X2_size (Y := Y) 10 skC_10 σ) (Nat.le_of_ble_eq_true rfl) rfl skC_10 (ltC skC_10 rfl) recv_2 (rest := []) rfl rfl (Nat.le_of_ble_eq_true rfl) dX4_size_4 (fun r1 => ?_)
  exact q_ireti C rfl dX4_size_7
theorem lk_X4_39 : LkV RX4 39 yX2_has cX2_has 2 (some .boolean) 1 := ⟨TB_p [519, 482, 483, 72, 484] (by decide +kernel) (by decide +kernel), by decide +kernel, by decide +kernel, by decide +kernel⟩
def f_X4_has (a1 : Int32) (σ : St) : Option (Int32 × St) := (Option.bind (f_X2_has 10 a1 σ) fun r1 => (if r1.1 = 0 ∨ r1.1 = 1 then (some (r1.1, r1.2)) else none))
theorem w_X4_has {Y : YT} (a1 : Int32)   (σ : St) : CtE (emI FC Y) FC Y yX4_has cX4_has 2 (some .boolean) 1 [Rf Y 9, .int a1] σ (f_X4_has a1 σ) := by
  refine Ct.ofG (by decide) (Nat.le_of_ble_eq_true rfl) (fun X C0 => ?_)
  have C : Cx FC Y X cX4_has 2 RX4 (some .boolean) 1 (0, 0) := C0
  show G FC Y X 2 (emI FC Y) (0, 0) (0, 0) 0 [(0, Rf Y 9), (1, .int a1)] [] (RepS FC Y σ) (f_X4_has a1 σ)
  rw [f_X4_has]
  refine q_aload_n C 0 dX4_has_0 rfl ?_
  refine gf_X4_14 C skC_9 dX4_has_1 ?_
  refine q_iload_n C 1 dX4_has_4 rfl ?_
  refine q_cVI C lk_X4_39 (w_X2_has (Y := Y) 10 a1 skC_10 σ) (Nat.le_of_ble_eq_true rfl) rfl skC_10 (ltC skC_10 rfl) recv_2 (rest := []) rfl rfl (Nat.le_of_ble_eq_true rfl) dX4_has_5 (fun r1 => ?_)
  exact G.ite (fun h => q_iretz C h rfl dX4_has_8) (fun _ => G.none)
theorem lk_X4_43 : LkV RX4 43 yX2_add cX2_add 2 none 1 := ⟨TB_p [510, 393, 394, 72, 395] (by decide +kernel) (by decide +kernel), by decide +kernel, by decide +kernel, by decide +kernel⟩
def f_X4_add (a1 : Int32) (a2 : Int32) (a3 : Int32) (a4 : Int32) (σ : St) : Option (St) := (Option.bind (f_X2_add 10 a1 σ) fun r1 => (Option.bind (f_X2_add 12 a2 r1) fun r2 => (Option.bind (f_X2_add 14 a3 r2) fun r3 => (Option.bind (f_X2_add 16 a4 r3) fun r4 => (Option.bind (f_X2_add 18 0 r4) fun r5 => (Option.bind (f_X2_add 20 0 r5) fun r6 => (some r6)))))))
theorem w_X4_add {Y : YT} (a1 : Int32) (a2 : Int32) (a3 : Int32) (a4 : Int32)   (σ : St) : CtE (emV FC Y) FC Y yX4_add cX4_add 5 none 1 [Rf Y 9, .int a1, .int a2, .int a3, .int a4] σ (f_X4_add a1 a2 a3 a4 σ) := by
  refine Ct.ofG (by decide) (Nat.le_of_ble_eq_true rfl) (fun X C0 => ?_)
  have C : Cx FC Y X cX4_add 5 RX4 none 1 (0, 0) := C0
  show G FC Y X 5 (emV FC Y) (0, 0) (0, 0) 0 [(0, Rf Y 9), (1, .int a1), (2, .int a2), (3, .int a3), (4, .int a4)] [] (RepS FC Y σ) (f_X4_add a1 a2 a3 a4 σ)
  rw [f_X4_add]
  refine q_aload_n C 0 dX4_add_0 rfl ?_
  refine gf_X4_14 C skC_9 dX4_add_1 ?_
  refine q_iload_n C 1 dX4_add_4 rfl ?_
  refine q_cVV C lk_X4_43 (w_X2_add (Y := Y) 10 a1 skC_10 σ) (Nat.le_of_ble_eq_true rfl) rfl skC_10 (ltC skC_10 rfl) recv_2 (rest := []) rfl rfl (Nat.le_of_ble_eq_true rfl) dX4_add_5 (fun r1 => ?_)
  refine q_aload_n C 0 dX4_add_8 rfl ?_
  refine gf_X4_20 C skC_9 dX4_add_9 ?_
  refine q_iload_n C 2 dX4_add_12 rfl ?_
  refine q_cVV C lk_X4_43 (w_X2_add (Y := Y) 12 a2 skC_12 r1) (Nat.le_of_ble_eq_true rfl) rfl skC_12 (ltC skC_12 rfl) recv_2 (rest := []) rfl rfl (Nat.le_of_ble_eq_true rfl) dX4_add_13 (fun r2 => ?_)
  refine q_aload_n C 0 dX4_add_16 rfl ?_
  refine gf_X4_23 C skC_9 dX4_add_17 ?_
  refine q_iload_n C 3 dX4_add_20 rfl ?_
  refine q_cVV C lk_X4_43 (w_X2_add (Y := Y) 14 a3 skC_14 r2) (Nat.le_of_ble_eq_true rfl) rfl skC_14 (ltC skC_14 rfl) recv_2 (rest := []) rfl rfl (Nat.le_of_ble_eq_true rfl) dX4_add_21 (fun r3 => ?_)
  refine q_aload_n C 0 dX4_add_24 rfl ?_
  refine gf_X4_26 C skC_9 dX4_add_25 ?_
  refine q_iload C 4 dX4_add_28 rfl ?_
  refine q_cVV C lk_X4_43 (w_X2_add (Y := Y) 16 a4 skC_16 r3) (Nat.le_of_ble_eq_true rfl) rfl skC_16 (ltC skC_16 rfl) recv_2 (rest := []) rfl rfl (Nat.le_of_ble_eq_true rfl) dX4_add_30 (fun r4 => ?_)
  refine q_aload_n C 0 dX4_add_33 rfl ?_
  refine gf_X4_29 C skC_9 dX4_add_34 ?_
  refine q_iconst C (v := 0) dX4_add_37 (by decide) ?_
  refine q_cVV C lk_X4_43 (w_X2_add (Y := Y) 18 0 skC_18 r4) (Nat.le_of_ble_eq_true rfl) rfl skC_18 (ltC skC_18 rfl) recv_2 (rest := []) rfl rfl (Nat.le_of_ble_eq_true rfl) dX4_add_38 (fun r5 => ?_)
  refine q_aload_n C 0 dX4_add_41 rfl ?_
  refine gf_X4_32 C skC_9 dX4_add_42 ?_
  refine q_iconst C (v := 0) dX4_add_45 (by decide) ?_
  refine q_cVV C lk_X4_43 (w_X2_add (Y := Y) 20 0 skC_20 r5) (Nat.le_of_ble_eq_true rfl) rfl skC_20 (ltC skC_20 rfl) recv_2 (rest := []) rfl rfl (Nat.le_of_ble_eq_true rfl) dX4_add_46 (fun r6 => ?_)
  exact q_vret C rfl dX4_add_49
theorem lk_X4_46 : LkV RX4 46 yX2_get cX2_get 2 (some .int) 1 := ⟨TB_p [528, 433, 434, 72, 435] (by decide +kernel) (by decide +kernel), by decide +kernel, by decide +kernel, by decide +kernel⟩
def f_X4_load (a1 : Int32) (a2 : Nat) (σ : St) : Option (St) := (Option.bind (f_X2_get 10 a1 σ) fun r1 => (Bst (up r1.2 a2 0 r1.1) fun s2 => (Option.bind (f_X2_get 12 a1 s2) fun r3 => (Bst (up r3.2 a2 1 r3.1) fun s4 => (Option.bind (f_X2_get 14 a1 s4) fun r5 => (Bst (up r5.2 a2 2 r5.1) fun s6 => (Option.bind (f_X2_get 16 a1 s6) fun r7 => (Bst (up r7.2 a2 3 r7.1) fun s8 => (Option.bind (f_X2_get 18 a1 s8) fun r9 => (Bst (up r9.2 a2 4 r9.1) fun s10 => (Option.bind (f_X2_get 20 a1 s10) fun r11 => (Bst (up r11.2 a2 5 r11.1) fun s12 => (some s12)))))))))))))
theorem w_X4_load {Y : YT} (a1 : Int32) (a2 : Nat)  (ha2 : shC a2 = 3) (σ : St) : CtE (emV FC Y) FC Y yX4_load cX4_load 3 none 1 [Rf Y 9, .int a1, Rf Y a2] σ (f_X4_load a1 a2 σ) := by
  refine Ct.ofG (by decide) (Nat.le_of_ble_eq_true rfl) (fun X C0 => ?_)
  have C : Cx FC Y X cX4_load 3 RX4 none 1 (0, 0) := C0
  show G FC Y X 3 (emV FC Y) (0, 0) (0, 0) 0 [(0, Rf Y 9), (1, .int a1), (2, Rf Y a2)] [] (RepS FC Y σ) (f_X4_load a1 a2 σ)
  rw [f_X4_load]
  refine q_aload_n C 2 dX4_load_0 rfl ?_
  refine q_aload_n C 0 dX4_load_1 rfl ?_
  refine gf_X4_14 C skC_9 dX4_load_2 ?_
  refine q_iload_n C 1 dX4_load_5 rfl ?_
  refine q_cVI C lk_X4_46 (w_X2_get (Y := Y) 10 a1 skC_10 σ) (Nat.le_of_ble_eq_true rfl) rfl skC_10 (ltC skC_10 rfl) recv_2 (rest := [Rf Y a2]) rfl rfl (Nat.le_of_ble_eq_true rfl) dX4_load_6 (fun r1 => ?_)
  refine pf_X4_50 C ha2 dX4_load_9 (fun s2 => ?_)
  refine q_aload_n C 2 dX4_load_12 rfl ?_
  refine q_aload_n C 0 dX4_load_13 rfl ?_
  refine gf_X4_20 C skC_9 dX4_load_14 ?_
  refine q_iload_n C 1 dX4_load_17 rfl ?_
  refine q_cVI C lk_X4_46 (w_X2_get (Y := Y) 12 a1 skC_12 s2) (Nat.le_of_ble_eq_true rfl) rfl skC_12 (ltC skC_12 rfl) recv_2 (rest := [Rf Y a2]) rfl rfl (Nat.le_of_ble_eq_true rfl) dX4_load_18 (fun r3 => ?_)
  refine pf_X4_56 C ha2 dX4_load_21 (fun s4 => ?_)
  refine q_aload_n C 2 dX4_load_24 rfl ?_
  refine q_aload_n C 0 dX4_load_25 rfl ?_
  refine gf_X4_23 C skC_9 dX4_load_26 ?_
  refine q_iload_n C 1 dX4_load_29 rfl ?_
  refine q_cVI C lk_X4_46 (w_X2_get (Y := Y) 14 a1 skC_14 s4) (Nat.le_of_ble_eq_true rfl) rfl skC_14 (ltC skC_14 rfl) recv_2 (rest := [Rf Y a2]) rfl rfl (Nat.le_of_ble_eq_true rfl) dX4_load_30 (fun r5 => ?_)
  refine pf_X4_59 C ha2 dX4_load_33 (fun s6 => ?_)
  refine q_aload_n C 2 dX4_load_36 rfl ?_
  refine q_aload_n C 0 dX4_load_37 rfl ?_
  refine gf_X4_26 C skC_9 dX4_load_38 ?_
  refine q_iload_n C 1 dX4_load_41 rfl ?_
  refine q_cVI C lk_X4_46 (w_X2_get (Y := Y) 16 a1 skC_16 s6) (Nat.le_of_ble_eq_true rfl) rfl skC_16 (ltC skC_16 rfl) recv_2 (rest := [Rf Y a2]) rfl rfl (Nat.le_of_ble_eq_true rfl) dX4_load_42 (fun r7 => ?_)
  refine pf_X4_62 C ha2 dX4_load_45 (fun s8 => ?_)
  refine q_aload_n C 2 dX4_load_48 rfl ?_
  refine q_aload_n C 0 dX4_load_49 rfl ?_
  refine gf_X4_29 C skC_9 dX4_load_50 ?_
  refine q_iload_n C 1 dX4_load_53 rfl ?_
  refine q_cVI C lk_X4_46 (w_X2_get (Y := Y) 18 a1 skC_18 s8) (Nat.le_of_ble_eq_true rfl) rfl skC_18 (ltC skC_18 rfl) recv_2 (rest := [Rf Y a2]) rfl rfl (Nat.le_of_ble_eq_true rfl) dX4_load_54 (fun r9 => ?_)
  refine pf_X4_65 C ha2 dX4_load_57 (fun s10 => ?_)
  refine q_aload_n C 2 dX4_load_60 rfl ?_
  refine q_aload_n C 0 dX4_load_61 rfl ?_
  refine gf_X4_32 C skC_9 dX4_load_62 ?_
  refine q_iload_n C 1 dX4_load_65 rfl ?_
  refine q_cVI C lk_X4_46 (w_X2_get (Y := Y) 20 a1 skC_20 s10) (Nat.le_of_ble_eq_true rfl) rfl skC_20 (ltC skC_20 rfl) recv_2 (rest := [Rf Y a2]) rfl rfl (Nat.le_of_ble_eq_true rfl) dX4_load_66 (fun r11 => ?_)
  refine pf_X4_68 C ha2 dX4_load_69 (fun s12 => ?_)
  exact q_vret C rfl dX4_load_72
theorem lk_X4_70 : LkV RX4 70 yX2_set cX2_set 3 none 2 := ⟨TB_p [638, 437, 438, 72, 439] (by decide +kernel) (by decide +kernel), by decide +kernel, by decide +kernel, by decide +kernel⟩
def f_X4_keep (a1 : Int32) (a2 : Nat) (σ : St) : Option (St) := (Option.bind (f_X2_set 14 a1 (σ a2 2) σ) fun r1 => (Option.bind (f_X2_set 16 a1 (r1 a2 3) r1) fun r2 => (Option.bind (f_X2_set 18 a1 (r2 a2 4) r2) fun r3 => (Option.bind (f_X2_set 20 a1 (r3 a2 5) r3) fun r4 => (some r4)))))
theorem w_X4_keep {Y : YT} (a1 : Int32) (a2 : Nat)  (ha2 : shC a2 = 3) (σ : St) : CtE (emV FC Y) FC Y yX4_keep cX4_keep 3 none 1 [Rf Y 9, .int a1, Rf Y a2] σ (f_X4_keep a1 a2 σ) := by
  refine Ct.ofG (by decide) (Nat.le_of_ble_eq_true rfl) (fun X C0 => ?_)
  have C : Cx FC Y X cX4_keep 3 RX4 none 1 (0, 0) := C0
  show G FC Y X 3 (emV FC Y) (0, 0) (0, 0) 0 [(0, Rf Y 9), (1, .int a1), (2, Rf Y a2)] [] (RepS FC Y σ) (f_X4_keep a1 a2 σ)
  rw [f_X4_keep]
  refine q_aload_n C 0 dX4_keep_0 rfl ?_
  refine gf_X4_23 C skC_9 dX4_keep_1 ?_
  refine q_iload_n C 1 dX4_keep_4 rfl ?_
  refine q_aload_n C 2 dX4_keep_5 rfl ?_
  refine gf_X4_59 C ha2 dX4_keep_6 ?_
  refine q_cVV C lk_X4_70 (w_X2_set (Y := Y) 14 a1 (σ a2 2) skC_14 σ) (Nat.le_of_ble_eq_true rfl) rfl skC_14 (ltC skC_14 rfl) recv_2 (rest := []) rfl rfl (Nat.le_of_ble_eq_true rfl) dX4_keep_9 (fun r1 => ?_)
  refine q_aload_n C 0 dX4_keep_12 rfl ?_
  refine gf_X4_26 C skC_9 dX4_keep_13 ?_
  refine q_iload_n C 1 dX4_keep_16 rfl ?_
  refine q_aload_n C 2 dX4_keep_17 rfl ?_
  refine gf_X4_62 C ha2 dX4_keep_18 ?_
  refine q_cVV C lk_X4_70 (w_X2_set (Y := Y) 16 a1 (r1 a2 3) skC_16 r1) (Nat.le_of_ble_eq_true rfl) rfl skC_16 (ltC skC_16 rfl) recv_2 (rest := []) rfl rfl (Nat.le_of_ble_eq_true rfl) dX4_keep_21 (fun r2 => ?_)
  refine q_aload_n C 0 dX4_keep_24 rfl ?_
  refine gf_X4_29 C skC_9 dX4_keep_25 ?_
  refine q_iload_n C 1 dX4_keep_28 rfl ?_
  refine q_aload_n C 2 dX4_keep_29 rfl ?_
  refine gf_X4_65 C ha2 dX4_keep_30 ?_
  refine q_cVV C lk_X4_70 (w_X2_set (Y := Y) 18 a1 (r2 a2 4) skC_18 r2) (Nat.le_of_ble_eq_true rfl) rfl skC_18 (ltC skC_18 rfl) recv_2 (rest := []) rfl rfl (Nat.le_of_ble_eq_true rfl) dX4_keep_33 (fun r3 => ?_)
  refine q_aload_n C 0 dX4_keep_36 rfl ?_
  refine gf_X4_32 C skC_9 dX4_keep_37 ?_
  refine q_iload_n C 1 dX4_keep_40 rfl ?_
  refine q_aload_n C 2 dX4_keep_41 rfl ?_
  refine gf_X4_68 C ha2 dX4_keep_42 ?_
  refine q_cVV C lk_X4_70 (w_X2_set (Y := Y) 20 a1 (r3 a2 5) skC_20 r3) (Nat.le_of_ble_eq_true rfl) rfl skC_20 (ltC skC_20 rfl) recv_2 (rest := []) rfl rfl (Nat.le_of_ble_eq_true rfl) dX4_keep_45 (fun r4 => ?_)
  exact q_vret C rfl dX4_keep_48
def f_X10_inSet (a1 : Int32) (a2 : Int32) (σ : St) : Option (Int32 × St) := (some (((a1 >>> (a2 &&& 31)) &&& 1), σ))
theorem w_X10_inSet {Y : YT} (a1 : Int32) (a2 : Int32)   (σ : St) : CtE (emI FC Y) FC Y yX10_inSet cX10_inSet 2 (some .int) 0 [.int a1, .int a2] σ (f_X10_inSet a1 a2 σ) := by
  refine Ct.ofG (by decide) (Nat.le_of_ble_eq_true rfl) (fun X C0 => ?_)
  have C : Cx FC Y X cX10_inSet 2 RX10 (some .int) 0 (0, 0) := C0
  show G FC Y X 2 (emI FC Y) (0, 0) (0, 0) 0 [(0, .int a1), (1, .int a2)] [] (RepS FC Y σ) (f_X10_inSet a1 a2 σ)
  rw [f_X10_inSet]
  refine q_iload_n C 0 dX10_inSet_0 rfl ?_
  refine q_iload_n C 1 dX10_inSet_1 rfl ?_
  refine q_ishr C dX10_inSet_2 ?_
  refine q_iconst C (v := 1) dX10_inSet_3 (by decide) ?_
  refine q_iand C dX10_inSet_4 ?_
  exact q_ireti C rfl dX10_inSet_5
theorem lk_X4_74 : LkV RX4 74 yX4_size cX4_size 1 (some .int) 0 := ⟨TB_p [620, 450, 451, 74, 452] (by decide +kernel) (by decide +kernel), by decide +kernel, by decide +kernel, by decide +kernel⟩
theorem lk_X4_75 : LkSN RX4 75 yX10_inSet "WellTold" cX10_inSet 2 (some .int) 2 := ⟨TB_p [486, 69, 487] (by decide +kernel) (by decide +kernel), by decide +kernel, by decide +kernel, by decide +kernel, by decide +kernel⟩
theorem lk_X4_79 : LkSN RX4 79 yX10_withMember "WellTold" cX10_withMember 3 (some .int) 3 := ⟨TB_p [493, 69, 494] (by decide +kernel) (by decide +kernel), by decide +kernel, by decide +kernel, by decide +kernel, by decide +kernel⟩
def f_X4_knownBy_L5 : Nat → Int32 → Nat → Int32 → Int32 → St → Option (Int32 × St)
  | 0, _, _, _, _, _ => none
  | n + 1, v1, v2, v3, v4, σ => (Option.bind (f_X4_size σ) fun r1 => (if r1.1 ≤ v4 then (some (v3, r1.2)) else (Option.bind (f_X2_get v2 v4 r1.2) fun r2 => (Option.bind (f_X10_inSet r2.1 v1 r2.2) fun r3 => (if r3.1 = 1 then (Option.bind (f_X10_withMember v3 v4 1 r3.2) fun r5 => ((f_X4_knownBy_L5 n) v1 v2 r5.1 (v4 + 1) r5.2)) else (Option.bind (f_X10_withMember v3 v4 0 r3.2) fun r4 => ((f_X4_knownBy_L5 n) v1 v2 r4.1 (v4 + 1) r4.2)))))))
theorem w_X4_knownBy_L5 {Y : YT} {X : XT} (C : Cx FC Y X cX4_knownBy 5 RX4 (some .int) 2 (0, 0)) : ∀ (n : Nat), ∀ (v1 : Int32), ∀ (v2 : Nat), ∀ (v3 : Int32), ∀ (v4 : Int32), shC v2 = 2 → ∀ (σ : St), G FC Y X 5 (emI FC Y) (0, 0) (0, 0) 5 [(0, Rf Y 9), (1, .int v1), (2, Rf Y v2), (3, .int v3), (4, .int v4)] [] (RepS FC Y σ) (f_X4_knownBy_L5 n v1 v2 v3 v4 σ) := by
  intro n
  induction n with
  | zero =>
    intro v1 v2 v3 v4 hv2 σ
    rw [f_X4_knownBy_L5]; exact G.none
  | succ n ih =>
    intro v1 v2 v3 v4 hv2 σ
    rw [f_X4_knownBy_L5]
    refine q_iload C 4 dX4_knownBy_5 rfl ?_
    refine q_aload_n C 0 dX4_knownBy_7 rfl ?_
    refine q_cVI C lk_X4_74 (w_X4_size (Y := Y) σ) (Nat.le_of_ble_eq_true rfl) rfl skC_9 (ltC skC_9 rfl) recv_4 (rest := [.int v4]) rfl rfl (Nat.le_of_ble_eq_true rfl) dX4_knownBy_8 (fun r1 => ?_)
    refine q_icmp_ge C 46 dX4_knownBy_11 rfl (fun _ => ?_) (fun _ => ?_)
    · refine q_iload_n C 3 dX4_knownBy_46 rfl ?_
      exact q_ireti C rfl dX4_knownBy_47
    refine q_iload_n C 3 dX4_knownBy_14 rfl ?_
    refine q_iload C 4 dX4_knownBy_15 rfl ?_
    refine q_aload_n C 2 dX4_knownBy_17 rfl ?_
    refine q_iload C 4 dX4_knownBy_18 rfl ?_
    refine q_cVI C lk_X4_46 (w_X2_get (Y := Y) v2 v4 hv2 r1.2) (Nat.le_of_ble_eq_true rfl) rfl hv2 (ltC hv2 rfl) recv_2 (rest := [.int v4, .int v3]) rfl rfl (Nat.le_of_ble_eq_true rfl) dX4_knownBy_20 (fun r2 => ?_)
    refine q_iload_n C 1 dX4_knownBy_23 rfl ?_
    refine q_cSNI C lk_X4_75 (w_X10_inSet (Y := Y) r2.1 v1 r2.2) (Nat.le_of_ble_eq_true rfl) rfl (rest := [.int v4, .int v3]) rfl rfl (Nat.le_of_ble_eq_true rfl) dX4_knownBy_24 (fun r3 => ?_)
    refine q_iconst C (v := 1) dX4_knownBy_27 (by decide) ?_
    refine q_icmp_ne C 35 dX4_knownBy_28 rfl (fun _ => ?_) (fun _ => ?_)
    · refine q_iconst C (v := 0) dX4_knownBy_35 (by decide) ?_
      refine q_cSNI C lk_X4_79 (w_X10_withMember (Y := Y) v3 v4 0 r3.2) (Nat.le_of_ble_eq_true rfl) rfl (rest := []) rfl rfl (Nat.le_of_ble_eq_true rfl) dX4_knownBy_36 (fun r4 => ?_)
      refine q_istore_n C [(3, .int r4.1), (0, Rf Y 9), (1, .int v1), (2, Rf Y v2), (4, .int v4)] dX4_knownBy_39 rfl rfl ?_
      refine q_iinc C 4 [(4, .int (v4 + 1)), (3, .int r4.1), (0, Rf Y 9), (1, .int v1), (2, Rf Y v2)] dX4_knownBy_40 rfl rfl rfl rfl ?_
      refine q_goto C 5 dX4_knownBy_43 rfl ?_
      refine G.sub [2, 3, 4, 1, 0] (lv' := [(0, Rf Y 9), (1, .int v1), (2, Rf Y v2), (3, .int r4.1), (4, .int (v4 + 1))]) rfl ?_
      exact ih v1 v2 r4.1 (v4 + 1) hv2 r4.2
    refine q_iconst C (v := 1) dX4_knownBy_31 (by decide) ?_
    refine q_goto C 36 dX4_knownBy_32 rfl ?_
    refine q_cSNI C lk_X4_79 (w_X10_withMember (Y := Y) v3 v4 1 r3.2) (Nat.le_of_ble_eq_true rfl) rfl (rest := []) rfl rfl (Nat.le_of_ble_eq_true rfl) dX4_knownBy_36 (fun r5 => ?_)
    refine q_istore_n C [(3, .int r5.1), (0, Rf Y 9), (1, .int v1), (2, Rf Y v2), (4, .int v4)] dX4_knownBy_39 rfl rfl ?_
    refine q_iinc C 4 [(4, .int (v4 + 1)), (3, .int r5.1), (0, Rf Y 9), (1, .int v1), (2, Rf Y v2)] dX4_knownBy_40 rfl rfl rfl rfl ?_
    refine q_goto C 5 dX4_knownBy_43 rfl ?_
    refine G.sub [2, 3, 4, 1, 0] (lv' := [(0, Rf Y 9), (1, .int v1), (2, Rf Y v2), (3, .int r5.1), (4, .int (v4 + 1))]) rfl ?_
    exact ih v1 v2 r5.1 (v4 + 1) hv2 r5.2
def f_X4_knownBy (a1 : Int32) (a2 : Nat) (σ : St) : Option (Int32 × St) := (f_X4_knownBy_L5 400 a1 a2 0 0 σ)
theorem w_X4_knownBy {Y : YT} (a1 : Int32) (a2 : Nat)  (ha2 : shC a2 = 2) (σ : St) : CtE (emI FC Y) FC Y yX4_knownBy cX4_knownBy 5 (some .int) 2 [Rf Y 9, .int a1, Rf Y a2] σ (f_X4_knownBy a1 a2 σ) := by
  refine Ct.ofG (by decide) (Nat.le_of_ble_eq_true rfl) (fun X C0 => ?_)
  have C : Cx FC Y X cX4_knownBy 5 RX4 (some .int) 2 (0, 0) := C0
  show G FC Y X 5 (emI FC Y) (0, 0) (0, 0) 0 [(0, Rf Y 9), (1, .int a1), (2, Rf Y a2)] [] (RepS FC Y σ) (f_X4_knownBy a1 a2 σ)
  rw [f_X4_knownBy]
  refine q_iconst C (v := 0) dX4_knownBy_0 (by decide) ?_
  refine q_istore_n C [(3, .int 0), (0, Rf Y 9), (1, .int a1), (2, Rf Y a2)] dX4_knownBy_1 rfl rfl ?_
  refine q_iconst C (v := 0) dX4_knownBy_2 (by decide) ?_
  refine q_istore C [(4, .int 0), (3, .int 0), (0, Rf Y 9), (1, .int a1), (2, Rf Y a2)] dX4_knownBy_3 rfl rfl ?_
  refine G.sub [2, 3, 4, 1, 0] (lv' := [(0, Rf Y 9), (1, .int a1), (2, Rf Y a2), (3, .int 0), (4, .int 0)]) rfl ?_
  exact w_X4_knownBy_L5 C 400 a1 a2 0 0 ha2 σ
def f_X4_learnt_L2 : Nat → Int32 → Int32 → Int32 → St → Option (St)
  | 0, _, _, _, _ => none
  | n + 1, v1, v2, v3, σ => (Option.bind (f_X4_size σ) fun r1 => (if r1.1 ≤ v3 then (some r1.2) else (Option.bind (f_X2_get 20 v3 r1.2) fun r2 => (Option.bind (f_X10_inSet v2 v3 r2.2) fun r3 => (if r3.1 = 1 then (Option.bind (f_X10_withMember r2.1 v1 1 r3.2) fun r6 => (Option.bind (f_X2_set 20 v3 r6.1 r6.2) fun r7 => ((f_X4_learnt_L2 n) v1 v2 (v3 + 1) r7))) else (Option.bind (f_X10_withMember r2.1 v1 0 r3.2) fun r4 => (Option.bind (f_X2_set 20 v3 r4.1 r4.2) fun r5 => ((f_X4_learnt_L2 n) v1 v2 (v3 + 1) r5))))))))
theorem w_X4_learnt_L2 {Y : YT} {X : XT} (C : Cx FC Y X cX4_learnt 4 RX4 none 2 (0, 0)) : ∀ (n : Nat), ∀ (v1 : Int32), ∀ (v2 : Int32), ∀ (v3 : Int32), ∀ (σ : St), G FC Y X 4 (emV FC Y) (0, 0) (0, 0) 2 [(0, Rf Y 9), (1, .int v1), (2, .int v2), (3, .int v3)] [] (RepS FC Y σ) (f_X4_learnt_L2 n v1 v2 v3 σ) := by
  intro n
  induction n with
  | zero =>
    intro v1 v2 v3 σ
    rw [f_X4_learnt_L2]; exact G.none
  | succ n ih =>
    intro v1 v2 v3 σ
    rw [f_X4_learnt_L2]
    refine q_iload_n C 3 dX4_learnt_2 rfl ?_
    refine q_aload_n C 0 dX4_learnt_3 rfl ?_
    refine q_cVI C lk_X4_74 (w_X4_size (Y := Y) σ) (Nat.le_of_ble_eq_true rfl) rfl skC_9 (ltC skC_9 rfl) recv_4 (rest := [.int v3]) rfl rfl (Nat.le_of_ble_eq_true rfl) dX4_learnt_4 (fun r1 => ?_)
    refine q_icmp_ge C 50 dX4_learnt_7 rfl (fun _ => ?_) (fun _ => ?_)
    · exact q_vret C rfl dX4_learnt_50
    refine q_aload_n C 0 dX4_learnt_10 rfl ?_
    refine gf_X4_32 C skC_9 dX4_learnt_11 ?_
    refine q_iload_n C 3 dX4_learnt_14 rfl ?_
    refine q_aload_n C 0 dX4_learnt_15 rfl ?_
    refine gf_X4_32 C skC_9 dX4_learnt_16 ?_
    refine q_iload_n C 3 dX4_learnt_19 rfl ?_
    refine q_cVI C lk_X4_46 (w_X2_get (Y := Y) 20 v3 skC_20 r1.2) (Nat.le_of_ble_eq_true rfl) rfl skC_20 (ltC skC_20 rfl) recv_2 (rest := [.int v3, Rf Y 20]) rfl rfl (Nat.le_of_ble_eq_true rfl) dX4_learnt_20 (fun r2 => ?_)
    refine q_iload_n C 1 dX4_learnt_23 rfl ?_
    refine q_iload_n C 2 dX4_learnt_24 rfl ?_
    refine q_iload_n C 3 dX4_learnt_25 rfl ?_
    refine q_cSNI C lk_X4_75 (w_X10_inSet (Y := Y) v2 v3 r2.2) (Nat.le_of_ble_eq_true rfl) rfl (rest := [.int v1, .int r2.1, .int v3, Rf Y 20]) rfl rfl (Nat.le_of_ble_eq_true rfl) dX4_learnt_26 (fun r3 => ?_)
    refine q_iconst C (v := 1) dX4_learnt_29 (by decide) ?_
    refine q_icmp_ne C 37 dX4_learnt_30 rfl (fun _ => ?_) (fun _ => ?_)
    · refine q_iconst C (v := 0) dX4_learnt_37 (by decide) ?_
      refine q_cSNI C lk_X4_79 (w_X10_withMember (Y := Y) r2.1 v1 0 r3.2) (Nat.le_of_ble_eq_true rfl) rfl (rest := [.int v3, Rf Y 20]) rfl rfl (Nat.le_of_ble_eq_true rfl) dX4_learnt_38 (fun r4 => ?_)
      refine q_cVV C lk_X4_70 (w_X2_set (Y := Y) 20 v3 r4.1 skC_20 r4.2) (Nat.le_of_ble_eq_true rfl) rfl skC_20 (ltC skC_20 rfl) recv_2 (rest := []) rfl rfl (Nat.le_of_ble_eq_true rfl) dX4_learnt_41 (fun r5 => ?_)
      refine q_iinc C 3 [(3, .int (v3 + 1)), (0, Rf Y 9), (1, .int v1), (2, .int v2)] dX4_learnt_44 rfl rfl rfl rfl ?_
      refine q_goto C 2 dX4_learnt_47 rfl ?_
      refine G.sub [1, 2, 3, 0] (lv' := [(0, Rf Y 9), (1, .int v1), (2, .int v2), (3, .int (v3 + 1))]) rfl ?_
      exact ih v1 v2 (v3 + 1) r5
    refine q_iconst C (v := 1) dX4_learnt_33 (by decide) ?_
    refine q_goto C 38 dX4_learnt_34 rfl ?_
    refine q_cSNI C lk_X4_79 (w_X10_withMember (Y := Y) r2.1 v1 1 r3.2) (Nat.le_of_ble_eq_true rfl) rfl (rest := [.int v3, Rf Y 20]) rfl rfl (Nat.le_of_ble_eq_true rfl) dX4_learnt_38 (fun r6 => ?_)
    refine q_cVV C lk_X4_70 (w_X2_set (Y := Y) 20 v3 r6.1 skC_20 r6.2) (Nat.le_of_ble_eq_true rfl) rfl skC_20 (ltC skC_20 rfl) recv_2 (rest := []) rfl rfl (Nat.le_of_ble_eq_true rfl) dX4_learnt_41 (fun r7 => ?_)
    refine q_iinc C 3 [(3, .int (v3 + 1)), (0, Rf Y 9), (1, .int v1), (2, .int v2)] dX4_learnt_44 rfl rfl rfl rfl ?_
    refine q_goto C 2 dX4_learnt_47 rfl ?_
    refine G.sub [1, 2, 3, 0] (lv' := [(0, Rf Y 9), (1, .int v1), (2, .int v2), (3, .int (v3 + 1))]) rfl ?_
    exact ih v1 v2 (v3 + 1) r7
def f_X4_learnt (a1 : Int32) (a2 : Int32) (σ : St) : Option (St) := (f_X4_learnt_L2 400 a1 a2 0 σ)
theorem w_X4_learnt {Y : YT} (a1 : Int32) (a2 : Int32)   (σ : St) : CtE (emV FC Y) FC Y yX4_learnt cX4_learnt 4 none 2 [Rf Y 9, .int a1, .int a2] σ (f_X4_learnt a1 a2 σ) := by
  refine Ct.ofG (by decide) (Nat.le_of_ble_eq_true rfl) (fun X C0 => ?_)
  have C : Cx FC Y X cX4_learnt 4 RX4 none 2 (0, 0) := C0
  show G FC Y X 4 (emV FC Y) (0, 0) (0, 0) 0 [(0, Rf Y 9), (1, .int a1), (2, .int a2)] [] (RepS FC Y σ) (f_X4_learnt a1 a2 σ)
  rw [f_X4_learnt]
  refine q_iconst C (v := 0) dX4_learnt_0 (by decide) ?_
  refine q_istore_n C [(3, .int 0), (0, Rf Y 9), (1, .int a1), (2, .int a2)] dX4_learnt_1 rfl rfl ?_
  refine G.sub [1, 2, 3, 0] (lv' := [(0, Rf Y 9), (1, .int a1), (2, .int a2), (3, .int 0)]) rfl ?_
  exact w_X4_learnt_L2 C 400 a1 a2 0 σ
def f_X4_allStrength_L4 : Nat → Int32 → Int32 → St → Option (Int32 × St)
  | 0, _, _, _ => none
  | n + 1, v1, v2, σ => (Option.bind (f_X4_size σ) fun r1 => (if r1.1 ≤ v2 then (some (v1, r1.2)) else (Option.bind (f_X2_get 16 v2 r1.2) fun r2 => ((f_X4_allStrength_L4 n) (v1 + r2.1) (v2 + 1) r2.2))))
theorem w_X4_allStrength_L4 {Y : YT} {X : XT} (C : Cx FC Y X cX4_allStrength 3 RX4 (some .int) 2 (0, 0)) : ∀ (n : Nat), ∀ (v1 : Int32), ∀ (v2 : Int32), ∀ (σ : St), G FC Y X 3 (emI FC Y) (0, 0) (0, 0) 4 [(0, Rf Y 9), (1, .int v1), (2, .int v2)] [] (RepS FC Y σ) (f_X4_allStrength_L4 n v1 v2 σ) := by
  intro n
  induction n with
  | zero =>
    intro v1 v2 σ
    rw [f_X4_allStrength_L4]; exact G.none
  | succ n ih =>
    intro v1 v2 σ
    rw [f_X4_allStrength_L4]
    refine q_iload_n C 2 dX4_allStrength_4 rfl ?_
    refine q_aload_n C 0 dX4_allStrength_5 rfl ?_
    refine q_cVI C lk_X4_74 (w_X4_size (Y := Y) σ) (Nat.le_of_ble_eq_true rfl) rfl skC_9 (ltC skC_9 rfl) recv_4 (rest := [.int v2]) rfl rfl (Nat.le_of_ble_eq_true rfl) dX4_allStrength_6 (fun r1 => ?_)
    refine q_icmp_ge C 29 dX4_allStrength_9 rfl (fun _ => ?_) (fun _ => ?_)
    · refine q_iload_n C 1 dX4_allStrength_29 rfl ?_
      exact q_ireti C rfl dX4_allStrength_30
    refine q_iload_n C 1 dX4_allStrength_12 rfl ?_
    refine q_aload_n C 0 dX4_allStrength_13 rfl ?_
    refine gf_X4_26 C skC_9 dX4_allStrength_14 ?_
    refine q_iload_n C 2 dX4_allStrength_17 rfl ?_
    refine q_cVI C lk_X4_46 (w_X2_get (Y := Y) 16 v2 skC_16 r1.2) (Nat.le_of_ble_eq_true rfl) rfl skC_16 (ltC skC_16 rfl) recv_2 (rest := [.int v1]) rfl rfl (Nat.le_of_ble_eq_true rfl) dX4_allStrength_18 (fun r2 => ?_)
    refine q_iadd C dX4_allStrength_21 ?_
    refine q_istore_n C [(1, .int (v1 + r2.1)), (0, Rf Y 9), (2, .int v2)] dX4_allStrength_22 rfl rfl ?_
    refine q_iinc C 2 [(2, .int (v2 + 1)), (1, .int (v1 + r2.1)), (0, Rf Y 9)] dX4_allStrength_23 rfl rfl rfl rfl ?_
    refine q_goto C 4 dX4_allStrength_26 rfl ?_
    refine G.sub [2, 1, 0] (lv' := [(0, Rf Y 9), (1, .int (v1 + r2.1)), (2, .int (v2 + 1))]) rfl ?_
    exact ih (v1 + r2.1) (v2 + 1) r2.2
def f_X4_allStrength  (σ : St) : Option (Int32 × St) := (f_X4_allStrength_L4 400 0 0 σ)
theorem w_X4_allStrength {Y : YT}    (σ : St) : CtE (emI FC Y) FC Y yX4_allStrength cX4_allStrength 3 (some .int) 2 [Rf Y 9] σ (f_X4_allStrength σ) := by
  refine Ct.ofG (by decide) (Nat.le_of_ble_eq_true rfl) (fun X C0 => ?_)
  have C : Cx FC Y X cX4_allStrength 3 RX4 (some .int) 2 (0, 0) := C0
  show G FC Y X 3 (emI FC Y) (0, 0) (0, 0) 0 [(0, Rf Y 9)] [] (RepS FC Y σ) (f_X4_allStrength σ)
  rw [f_X4_allStrength]
  refine q_iconst C (v := 0) dX4_allStrength_0 (by decide) ?_
  refine q_istore_n C [(1, .int 0), (0, Rf Y 9)] dX4_allStrength_1 rfl rfl ?_
  refine q_iconst C (v := 0) dX4_allStrength_2 (by decide) ?_
  refine q_istore_n C [(2, .int 0), (1, .int 0), (0, Rf Y 9)] dX4_allStrength_3 rfl rfl ?_
  refine G.sub [2, 1, 0] (lv' := [(0, Rf Y 9), (1, .int 0), (2, .int 0)]) rfl ?_
  exact w_X4_allStrength_L4 C 400 0 0 σ
def f_X4_allKnowers_L4 : Nat → Int32 → Int32 → St → Option (Int32 × St)
  | 0, _, _, _ => none
  | n + 1, v1, v2, σ => (Option.bind (f_X4_size σ) fun r1 => (if r1.1 ≤ v2 then (some (v1, r1.2)) else (Option.bind (f_X2_get 20 v2 r1.2) fun r2 => ((f_X4_allKnowers_L4 n) (v1 ||| r2.1) (v2 + 1) r2.2))))
theorem w_X4_allKnowers_L4 {Y : YT} {X : XT} (C : Cx FC Y X cX4_allKnowers 3 RX4 (some .int) 2 (0, 0)) : ∀ (n : Nat), ∀ (v1 : Int32), ∀ (v2 : Int32), ∀ (σ : St), G FC Y X 3 (emI FC Y) (0, 0) (0, 0) 4 [(0, Rf Y 9), (1, .int v1), (2, .int v2)] [] (RepS FC Y σ) (f_X4_allKnowers_L4 n v1 v2 σ) := by
  intro n
  induction n with
  | zero =>
    intro v1 v2 σ
    rw [f_X4_allKnowers_L4]; exact G.none
  | succ n ih =>
    intro v1 v2 σ
    rw [f_X4_allKnowers_L4]
    refine q_iload_n C 2 dX4_allKnowers_4 rfl ?_
    refine q_aload_n C 0 dX4_allKnowers_5 rfl ?_
    refine q_cVI C lk_X4_74 (w_X4_size (Y := Y) σ) (Nat.le_of_ble_eq_true rfl) rfl skC_9 (ltC skC_9 rfl) recv_4 (rest := [.int v2]) rfl rfl (Nat.le_of_ble_eq_true rfl) dX4_allKnowers_6 (fun r1 => ?_)
    refine q_icmp_ge C 29 dX4_allKnowers_9 rfl (fun _ => ?_) (fun _ => ?_)
    · refine q_iload_n C 1 dX4_allKnowers_29 rfl ?_
      exact q_ireti C rfl dX4_allKnowers_30
    refine q_iload_n C 1 dX4_allKnowers_12 rfl ?_
    refine q_aload_n C 0 dX4_allKnowers_13 rfl ?_
    refine gf_X4_32 C skC_9 dX4_allKnowers_14 ?_
    refine q_iload_n C 2 dX4_allKnowers_17 rfl ?_
    refine q_cVI C lk_X4_46 (w_X2_get (Y := Y) 20 v2 skC_20 r1.2) (Nat.le_of_ble_eq_true rfl) rfl skC_20 (ltC skC_20 rfl) recv_2 (rest := [.int v1]) rfl rfl (Nat.le_of_ble_eq_true rfl) dX4_allKnowers_18 (fun r2 => ?_)
    refine q_ior C dX4_allKnowers_21 ?_
    refine q_istore_n C [(1, .int (v1 ||| r2.1)), (0, Rf Y 9), (2, .int v2)] dX4_allKnowers_22 rfl rfl ?_
    refine q_iinc C 2 [(2, .int (v2 + 1)), (1, .int (v1 ||| r2.1)), (0, Rf Y 9)] dX4_allKnowers_23 rfl rfl rfl rfl ?_
    refine q_goto C 4 dX4_allKnowers_26 rfl ?_
    refine G.sub [2, 1, 0] (lv' := [(0, Rf Y 9), (1, .int (v1 ||| r2.1)), (2, .int (v2 + 1))]) rfl ?_
    exact ih (v1 ||| r2.1) (v2 + 1) r2.2
def f_X4_allKnowers  (σ : St) : Option (Int32 × St) := (f_X4_allKnowers_L4 400 0 0 σ)
theorem w_X4_allKnowers {Y : YT}    (σ : St) : CtE (emI FC Y) FC Y yX4_allKnowers cX4_allKnowers 3 (some .int) 2 [Rf Y 9] σ (f_X4_allKnowers σ) := by
  refine Ct.ofG (by decide) (Nat.le_of_ble_eq_true rfl) (fun X C0 => ?_)
  have C : Cx FC Y X cX4_allKnowers 3 RX4 (some .int) 2 (0, 0) := C0
  show G FC Y X 3 (emI FC Y) (0, 0) (0, 0) 0 [(0, Rf Y 9)] [] (RepS FC Y σ) (f_X4_allKnowers σ)
  rw [f_X4_allKnowers]
  refine q_iconst C (v := 0) dX4_allKnowers_0 (by decide) ?_
  refine q_istore_n C [(1, .int 0), (0, Rf Y 9)] dX4_allKnowers_1 rfl rfl ?_
  refine q_iconst C (v := 0) dX4_allKnowers_2 (by decide) ?_
  refine q_istore_n C [(2, .int 0), (1, .int 0), (0, Rf Y 9)] dX4_allKnowers_3 rfl rfl ?_
  refine G.sub [2, 1, 0] (lv' := [(0, Rf Y 9), (1, .int 0), (2, .int 0)]) rfl ?_
  exact w_X4_allKnowers_L4 C 400 0 0 σ
theorem lk_X4_83 : LkV RX4 83 yX2_copyFrom cX2_copyFrom 3 none 1 := ⟨TB_p [1001, 656, 657, 72, 658] (by decide +kernel) (by decide +kernel), by decide +kernel, by decide +kernel, by decide +kernel⟩
def f_X4_copyFrom (k : Nat) (a1 : Nat) (σ : St) : Option (St) := (Option.bind (f_X2_copyFrom (k + 1) (a1 + 1) σ) fun r1 => (Option.bind (f_X2_copyFrom (k + 3) (a1 + 3) r1) fun r2 => (Option.bind (f_X2_copyFrom (k + 5) (a1 + 5) r2) fun r3 => (Option.bind (f_X2_copyFrom (k + 7) (a1 + 7) r3) fun r4 => (Option.bind (f_X2_copyFrom (k + 9) (a1 + 9) r4) fun r5 => (Option.bind (f_X2_copyFrom (k + 11) (a1 + 11) r5) fun r6 => (some r6)))))))
theorem w_X4_copyFrom {Y : YT} (k : Nat) (a1 : Nat)  (hk : shC k = 4) (ha1 : shC a1 = 4) (σ : St) : CtE (emV FC Y) FC Y yX4_copyFrom cX4_copyFrom 2 none 2 [Rf Y k, Rf Y a1] σ (f_X4_copyFrom k a1 σ) := by
  refine Ct.ofG (by decide) (Nat.le_of_ble_eq_true rfl) (fun X C0 => ?_)
  have C : Cx FC Y X cX4_copyFrom 2 RX4 none 2 (0, 0) := C0
  show G FC Y X 2 (emV FC Y) (0, 0) (0, 0) 0 [(0, Rf Y k), (1, Rf Y a1)] [] (RepS FC Y σ) (f_X4_copyFrom k a1 σ)
  rw [f_X4_copyFrom]
  refine q_aload_n C 0 dX4_copyFrom_0 rfl ?_
  refine gf_X4_14 C hk dX4_copyFrom_1 ?_
  refine q_aload_n C 1 dX4_copyFrom_4 rfl ?_
  refine gf_X4_14 C ha1 dX4_copyFrom_5 ?_
  refine q_cVV C lk_X4_83 (w_X2_copyFrom (Y := Y) (k + 1) (a1 + 1) (sf_4_0 hk) (sf_4_0 ha1) σ) (Nat.le_of_ble_eq_true rfl) rfl (sf_4_0 hk) (ltC (sf_4_0 hk) rfl) recv_2 (rest := []) rfl rfl (Nat.le_of_ble_eq_true rfl) dX4_copyFrom_8 (fun r1 => ?_)
  refine q_aload_n C 0 dX4_copyFrom_11 rfl ?_
  refine gf_X4_20 C hk dX4_copyFrom_12 ?_
  refine q_aload_n C 1 dX4_copyFrom_15 rfl ?_
  refine gf_X4_20 C ha1 dX4_copyFrom_16 ?_
  refine q_cVV C lk_X4_83 (w_X2_copyFrom (Y := Y) (k + 3) (a1 + 3) (sf_4_1 hk) (sf_4_1 ha1) r1) (Nat.le_of_ble_eq_true rfl) rfl (sf_4_1 hk) (ltC (sf_4_1 hk) rfl) recv_2 (rest := []) rfl rfl (Nat.le_of_ble_eq_true rfl) dX4_copyFrom_19 (fun r2 => ?_)
  refine q_aload_n C 0 dX4_copyFrom_22 rfl ?_
  refine gf_X4_23 C hk dX4_copyFrom_23 ?_
  refine q_aload_n C 1 dX4_copyFrom_26 rfl ?_
  refine gf_X4_23 C ha1 dX4_copyFrom_27 ?_
  refine q_cVV C lk_X4_83 (w_X2_copyFrom (Y := Y) (k + 5) (a1 + 5) (sf_4_2 hk) (sf_4_2 ha1) r2) (Nat.le_of_ble_eq_true rfl) rfl (sf_4_2 hk) (ltC (sf_4_2 hk) rfl) recv_2 (rest := []) rfl rfl (Nat.le_of_ble_eq_true rfl) dX4_copyFrom_30 (fun r3 => ?_)
  refine q_aload_n C 0 dX4_copyFrom_33 rfl ?_
  refine gf_X4_26 C hk dX4_copyFrom_34 ?_
  refine q_aload_n C 1 dX4_copyFrom_37 rfl ?_
  refine gf_X4_26 C ha1 dX4_copyFrom_38 ?_
  refine q_cVV C lk_X4_83 (w_X2_copyFrom (Y := Y) (k + 7) (a1 + 7) (sf_4_3 hk) (sf_4_3 ha1) r3) (Nat.le_of_ble_eq_true rfl) rfl (sf_4_3 hk) (ltC (sf_4_3 hk) rfl) recv_2 (rest := []) rfl rfl (Nat.le_of_ble_eq_true rfl) dX4_copyFrom_41 (fun r4 => ?_)
  refine q_aload_n C 0 dX4_copyFrom_44 rfl ?_
  refine gf_X4_29 C hk dX4_copyFrom_45 ?_
  refine q_aload_n C 1 dX4_copyFrom_48 rfl ?_
  refine gf_X4_29 C ha1 dX4_copyFrom_49 ?_
  refine q_cVV C lk_X4_83 (w_X2_copyFrom (Y := Y) (k + 9) (a1 + 9) (sf_4_4 hk) (sf_4_4 ha1) r4) (Nat.le_of_ble_eq_true rfl) rfl (sf_4_4 hk) (ltC (sf_4_4 hk) rfl) recv_2 (rest := []) rfl rfl (Nat.le_of_ble_eq_true rfl) dX4_copyFrom_52 (fun r5 => ?_)
  refine q_aload_n C 0 dX4_copyFrom_55 rfl ?_
  refine gf_X4_32 C hk dX4_copyFrom_56 ?_
  refine q_aload_n C 1 dX4_copyFrom_59 rfl ?_
  refine gf_X4_32 C ha1 dX4_copyFrom_60 ?_
  refine q_cVV C lk_X4_83 (w_X2_copyFrom (Y := Y) (k + 11) (a1 + 11) (sf_4_5 hk) (sf_4_5 ha1) r5) (Nat.le_of_ble_eq_true rfl) rfl (sf_4_5 hk) (ltC (sf_4_5 hk) rfl) recv_2 (rest := []) rfl rfl (Nat.le_of_ble_eq_true rfl) dX4_copyFrom_63 (fun r6 => ?_)
  exact q_vret C rfl dX4_copyFrom_66
def f_X5_isMissing (k : Nat) (σ : St) : Option (Int32 × St) := (if (σ k 0) = 0 then (some (1, σ)) else (some (0, σ)))
theorem w_X5_isMissing {Y : YT} (k : Nat)  (hk : shC k = 5) (σ : St) : CtE (emI FC Y) FC Y yX5_isMissing cX5_isMissing 1 (some .boolean) 0 [Rf Y k] σ (f_X5_isMissing k σ) := by
  refine Ct.ofG (by decide) (Nat.le_of_ble_eq_true rfl) (fun X C0 => ?_)
  have C : Cx FC Y X cX5_isMissing 1 RX5 (some .boolean) 0 (0, 0) := C0
  show G FC Y X 1 (emI FC Y) (0, 0) (0, 0) 0 [(0, Rf Y k)] [] (RepS FC Y σ) (f_X5_isMissing k σ)
  rw [f_X5_isMissing]
  refine q_aload_n C 0 dX5_isMissing_0 rfl ?_
  refine gf_X5_9 C hk dX5_isMissing_1 ?_
  refine q_if_ne C 11 dX5_isMissing_4 rfl (fun _ => ?_) (fun _ => ?_)
  · refine q_iconst C (v := 0) dX5_isMissing_11 (by decide) ?_
    exact q_iretz C (by decide) rfl dX5_isMissing_12
  refine q_iconst C (v := 1) dX5_isMissing_7 (by decide) ?_
  refine q_goto C 12 dX5_isMissing_8 rfl ?_
  exact q_iretz C (by decide) rfl dX5_isMissing_12
def f_X5_lowest (k : Nat) (a1 : Int32) (σ : St) : Option (Int32 × St) := (if (σ k 0) = 8 then (some ((toB a1), σ)) else (if (σ k 0) = 16 then (some ((toS a1), σ)) else (some (a1, σ))))
theorem w_X5_lowest {Y : YT} (k : Nat) (a1 : Int32)  (hk : shC k = 5) (σ : St) : CtE (emI FC Y) FC Y yX5_lowest cX5_lowest 2 (some .int) 0 [Rf Y k, .int a1] σ (f_X5_lowest k a1 σ) := by
  refine Ct.ofG (by decide) (Nat.le_of_ble_eq_true rfl) (fun X C0 => ?_)
  have C : Cx FC Y X cX5_lowest 2 RX5 (some .int) 0 (0, 0) := C0
  show G FC Y X 2 (emI FC Y) (0, 0) (0, 0) 0 [(0, Rf Y k), (1, .int a1)] [] (RepS FC Y σ) (f_X5_lowest k a1 σ)
  rw [f_X5_lowest]
  refine q_aload_n C 0 dX5_lowest_0 rfl ?_
  refine gf_X5_9 C hk dX5_lowest_1 ?_
  refine q_bipush C (v := 8) dX5_lowest_4 (by decide) ?_
  refine q_icmp_ne C 12 dX5_lowest_6 rfl (fun _ => ?_) (fun _ => ?_)
  · refine q_aload_n C 0 dX5_lowest_12 rfl ?_
    refine gf_X5_9 C hk dX5_lowest_13 ?_
    refine q_bipush C (v := 16) dX5_lowest_16 (by decide) ?_
    refine q_icmp_ne C 26 dX5_lowest_18 rfl (fun _ => ?_) (fun _ => ?_)
    · refine q_iload_n C 1 dX5_lowest_26 rfl ?_
      exact q_ireti C rfl dX5_lowest_27
    refine q_iload_n C 1 dX5_lowest_21 rfl ?_
    refine q_i2s C dX5_lowest_22 ?_
    refine q_goto C 27 dX5_lowest_23 rfl ?_
    exact q_ireti C rfl dX5_lowest_27
  refine q_iload_n C 1 dX5_lowest_9 rfl ?_
  refine q_i2b C dX5_lowest_10 ?_
  exact q_ireti C rfl dX5_lowest_11
theorem lk_X5_24 : LkV RX5 24 yX5_isMissing cX5_isMissing 1 (some .boolean) 0 := ⟨TB_p [891, 892, 893, 80, 894] (by decide +kernel) (by decide +kernel), by decide +kernel, by decide +kernel, by decide +kernel⟩
theorem lk_X5_28 : LkV RX5 28 yX2_size cX2_size 1 (some .int) 0 := ⟨TB_p [895, 446, 447, 72, 448] (by decide +kernel) (by decide +kernel), by decide +kernel, by decide +kernel, by decide +kernel⟩
def f_X5_tellsOf (k : Nat) (a1 : Int32) (σ : St) : Option (Int32 × St) := (Option.bind (f_X5_isMissing k σ) fun r1 => (if r1.1 = 0 then (Option.bind (f_X2_size (k + 1) r1.2) fun r2 => (if r2.1 = a1 then (some (1, r2.2)) else (some (0, r2.2)))) else (some (0, r1.2))))
theorem w_X5_tellsOf {Y : YT} (k : Nat) (a1 : Int32)  (hk : shC k = 5) (σ : St) : CtE (emI FC Y) FC Y yX5_tellsOf cX5_tellsOf 2 (some .boolean) 1 [Rf Y k, .int a1] σ (f_X5_tellsOf k a1 σ) := by
  refine Ct.ofG (by decide) (Nat.le_of_ble_eq_true rfl) (fun X C0 => ?_)
  have C : Cx FC Y X cX5_tellsOf 2 RX5 (some .boolean) 1 (0, 0) := C0
  show G FC Y X 2 (emI FC Y) (0, 0) (0, 0) 0 [(0, Rf Y k), (1, .int a1)] [] (RepS FC Y σ) (f_X5_tellsOf k a1 σ)
  rw [f_X5_tellsOf]
  refine q_aload_n C 0 dX5_tellsOf_0 rfl ?_
  refine q_cVI C lk_X5_24 (w_X5_isMissing (Y := Y) k hk σ) (Nat.le_of_ble_eq_true rfl) rfl hk (ltC hk rfl) recv_5 (rest := []) rfl rfl (Nat.le_of_ble_eq_true rfl) dX5_tellsOf_1 (fun r1 => ?_)
  refine q_if_ne C 22 dX5_tellsOf_4 rfl (fun _ => ?_) (fun _ => ?_)
  · refine q_iconst C (v := 0) dX5_tellsOf_22 (by decide) ?_
    exact q_iretz C (by decide) rfl dX5_tellsOf_23
  refine q_aload_n C 0 dX5_tellsOf_7 rfl ?_
  refine gf_X5_20 C hk dX5_tellsOf_8 ?_
  refine q_cVI C lk_X5_28 (w_X2_size (Y := Y) (k + 1) (sf_5_1 hk) r1.2) (Nat.le_of_ble_eq_true rfl) rfl (sf_5_1 hk) (ltC (sf_5_1 hk) rfl) recv_2 (rest := []) rfl rfl (Nat.le_of_ble_eq_true rfl) dX5_tellsOf_11 (fun r2 => ?_)
  refine q_iload_n C 1 dX5_tellsOf_14 rfl ?_
  refine q_icmp_ne C 22 dX5_tellsOf_15 rfl (fun _ => ?_) (fun _ => ?_)
  · refine q_iconst C (v := 0) dX5_tellsOf_22 (by decide) ?_
    exact q_iretz C (by decide) rfl dX5_tellsOf_23
  refine q_iconst C (v := 1) dX5_tellsOf_18 (by decide) ?_
  refine q_goto C 23 dX5_tellsOf_19 rfl ?_
  exact q_iretz C (by decide) rfl dX5_tellsOf_23
theorem lk_X5_32 : LkV RX5 32 yX2_get cX2_get 2 (some .int) 1 := ⟨TB_p [900, 433, 434, 72, 435] (by decide +kernel) (by decide +kernel), by decide +kernel, by decide +kernel, by decide +kernel⟩
theorem lk_X5_36 : LkSN RX5 36 yX10_inSet "WellTold" cX10_inSet 2 (some .int) 2 := ⟨TB_p [486, 69, 487] (by decide +kernel) (by decide +kernel), by decide +kernel, by decide +kernel, by decide +kernel, by decide +kernel⟩
def f_X5_fits_L2 (k : Nat) : Nat → Int32 → Int32 → St → Option (Int32 × St)
  | 0, _, _, _ => none
  | n + 1, v1, v2, σ => (Option.bind (f_X2_size (k + 1) σ) fun r1 => (if r1.1 ≤ v2 then (some (1, r1.2)) else (Option.bind (f_X2_get (k + 1) v2 r1.2) fun r2 => (if r2.1 < 0 then ((f_X5_fits_L2 k n) v1 (v2 + 1) r2.2) else (Option.bind (f_X10_inSet v1 v2 r2.2) fun r3 => (if r2.1 = r3.1 then ((f_X5_fits_L2 k n) v1 (v2 + 1) r3.2) else (some (0, r3.2))))))))
theorem w_X5_fits_L2 {Y : YT} {X : XT} (C : Cx FC Y X cX5_fits 4 RX5 (some .boolean) 1 (0, 0)) (k : Nat) (hk : shC k = 5) : ∀ (n : Nat), ∀ (v1 : Int32), ∀ (v2 : Int32), ∀ (σ : St), G FC Y X 4 (emI FC Y) (0, 0) (0, 0) 2 [(0, Rf Y k), (1, .int v1), (2, .int v2)] [] (RepS FC Y σ) (f_X5_fits_L2 k n v1 v2 σ) := by
  intro n
  induction n with
  | zero =>
    intro v1 v2 σ
    rw [f_X5_fits_L2]; exact G.none
  | succ n ih =>
    intro v1 v2 σ
    rw [f_X5_fits_L2]
    refine q_iload_n C 2 dX5_fits_2 rfl ?_
    refine q_aload_n C 0 dX5_fits_3 rfl ?_
    refine gf_X5_20 C hk dX5_fits_4 ?_
    refine q_cVI C lk_X5_28 (w_X2_size (Y := Y) (k + 1) (sf_5_1 hk) σ) (Nat.le_of_ble_eq_true rfl) rfl (sf_5_1 hk) (ltC (sf_5_1 hk) rfl) recv_2 (rest := [.int v2]) rfl rfl (Nat.le_of_ble_eq_true rfl) dX5_fits_7 (fun r1 => ?_)
    refine q_icmp_ge C 43 dX5_fits_10 rfl (fun _ => ?_) (fun _ => ?_)
    · refine q_iconst C (v := 1) dX5_fits_43 (by decide) ?_
      exact q_iretz C (by decide) rfl dX5_fits_44
    refine q_aload_n C 0 dX5_fits_13 rfl ?_
    refine gf_X5_20 C hk dX5_fits_14 ?_
    refine q_iload_n C 2 dX5_fits_17 rfl ?_
    refine q_cVI C lk_X5_32 (w_X2_get (Y := Y) (k + 1) v2 (sf_5_1 hk) r1.2) (Nat.le_of_ble_eq_true rfl) rfl (sf_5_1 hk) (ltC (sf_5_1 hk) rfl) recv_2 (rest := []) rfl rfl (Nat.le_of_ble_eq_true rfl) dX5_fits_18 (fun r2 => ?_)
    refine q_istore_n C [(3, .int r2.1), (0, Rf Y k), (1, .int v1), (2, .int v2)] dX5_fits_21 rfl rfl ?_
    refine q_iload_n C 0 dX5_fits_22 rfl ?_
    refine q_if_lt C 37 dX5_fits_23 rfl (fun _ => ?_) (fun _ => ?_)
    · refine q_iinc C 3 [(2, .int (v2 + 1)), (3, .int r2.1), (0, Rf Y k), (1, .int v1)] dX5_fits_37 rfl rfl rfl rfl ?_
      refine q_goto C 2 dX5_fits_40 rfl ?_
      refine G.sub [2, 3, 0] (lv' := [(0, Rf Y k), (1, .int v1), (2, .int (v2 + 1))]) rfl ?_
      exact ih v1 (v2 + 1) r2.2
    refine q_iload_n C 0 dX5_fits_26 rfl ?_
    refine q_iload_n C 2 dX5_fits_27 rfl ?_
    refine q_iload_n C 3 dX5_fits_28 rfl ?_
    refine q_cSNI C lk_X5_36 (w_X10_inSet (Y := Y) v1 v2 r2.2) (Nat.le_of_ble_eq_true rfl) rfl (rest := [.int r2.1]) rfl rfl (Nat.le_of_ble_eq_true rfl) dX5_fits_29 (fun r3 => ?_)
    refine q_icmp_eq C 37 dX5_fits_32 rfl (fun _ => ?_) (fun _ => ?_)
    · refine q_iinc C 3 [(2, .int (v2 + 1)), (3, .int r2.1), (0, Rf Y k), (1, .int v1)] dX5_fits_37 rfl rfl rfl rfl ?_
      refine q_goto C 2 dX5_fits_40 rfl ?_
      refine G.sub [2, 3, 0] (lv' := [(0, Rf Y k), (1, .int v1), (2, .int (v2 + 1))]) rfl ?_
      exact ih v1 (v2 + 1) r3.2
    refine q_iconst C (v := 0) dX5_fits_35 (by decide) ?_
    exact q_iretz C (by decide) rfl dX5_fits_36
def f_X5_fits (k : Nat) (a1 : Int32) (σ : St) : Option (Int32 × St) := (f_X5_fits_L2 k 400 a1 0 σ)
theorem w_X5_fits {Y : YT} (k : Nat) (a1 : Int32)  (hk : shC k = 5) (σ : St) : CtE (emI FC Y) FC Y yX5_fits cX5_fits 4 (some .boolean) 1 [Rf Y k, .int a1] σ (f_X5_fits k a1 σ) := by
  refine Ct.ofG (by decide) (Nat.le_of_ble_eq_true rfl) (fun X C0 => ?_)
  have C : Cx FC Y X cX5_fits 4 RX5 (some .boolean) 1 (0, 0) := C0
  show G FC Y X 4 (emI FC Y) (0, 0) (0, 0) 0 [(0, Rf Y k), (1, .int a1)] [] (RepS FC Y σ) (f_X5_fits k a1 σ)
  rw [f_X5_fits]
  refine q_iconst C (v := 0) dX5_fits_0 (by decide) ?_
  refine q_istore_n C [(2, .int 0), (0, Rf Y k), (1, .int a1)] dX5_fits_1 rfl rfl ?_
  refine G.sub [1, 2, 0] (lv' := [(0, Rf Y k), (1, .int a1), (2, .int 0)]) rfl ?_
  exact w_X5_fits_L2 C k hk 400 a1 0 σ
def f_X6_held (k : Nat) (a1 : Int32) (σ : St) : Option (Int32 × St) := (if (σ k 2) = 0 then (if 0 ≤ a1 then (if a1 ≤ 99 then (some (a1, σ)) else (some (99, σ))) else (some (0, σ))) else (if 0 ≤ a1 then (if a1 ≤ 1 then (some (a1, σ)) else (some (1, σ))) else (some (0, σ))))
theorem w_X6_held {Y : YT} (k : Nat) (a1 : Int32)  (hk : shC k = 6) (σ : St) : CtE (emI FC Y) FC Y yX6_held cX6_held 3 (some .int) 0 [Rf Y k, .int a1] σ (f_X6_held k a1 σ) := by
  refine Ct.ofG (by decide) (Nat.le_of_ble_eq_true rfl) (fun X C0 => ?_)
  have C : Cx FC Y X cX6_held 3 RX6 (some .int) 0 (0, 0) := C0
  show G FC Y X 3 (emI FC Y) (0, 0) (0, 0) 0 [(0, Rf Y k), (1, .int a1)] [] (RepS FC Y σ) (f_X6_held k a1 σ)
  rw [f_X6_held]
  refine q_aload_n C 0 dX6_held_0 rfl ?_
  refine gf_X6_23 C hk dX6_held_1 ?_
  refine q_if_ne C 12 dX6_held_4 rfl (fun _ => ?_) (fun _ => ?_)
  · refine q_iconst C (v := 1) dX6_held_12 (by decide) ?_
    refine q_istore_n C [(2, .int 1), (0, Rf Y k), (1, .int a1)] dX6_held_13 rfl rfl ?_
    refine q_iload_n C 2 dX6_held_14 rfl ?_
    refine q_if_ge C 22 dX6_held_15 rfl (fun _ => ?_) (fun _ => ?_)
    · refine q_iload_n C 2 dX6_held_22 rfl ?_
      refine q_iload_n C 0 dX6_held_23 rfl ?_
      refine q_icmp_le C 31 dX6_held_24 rfl (fun _ => ?_) (fun _ => ?_)
      · refine q_iload_n C 2 dX6_held_31 rfl ?_
        exact q_ireti C rfl dX6_held_32
      refine q_iload_n C 0 dX6_held_27 rfl ?_
      refine q_goto C 32 dX6_held_28 rfl ?_
      exact q_ireti C rfl dX6_held_32
    refine q_iconst C (v := 0) dX6_held_18 (by decide) ?_
    refine q_goto C 32 dX6_held_19 rfl ?_
    exact q_ireti C rfl dX6_held_32
  refine q_bipush C (v := 99) dX6_held_7 (by decide) ?_
  refine q_goto C 13 dX6_held_9 rfl ?_
  refine q_istore_n C [(2, .int 99), (0, Rf Y k), (1, .int a1)] dX6_held_13 rfl rfl ?_
  refine q_iload_n C 2 dX6_held_14 rfl ?_
  refine q_if_ge C 22 dX6_held_15 rfl (fun _ => ?_) (fun _ => ?_)
  · refine q_iload_n C 2 dX6_held_22 rfl ?_
    refine q_iload_n C 0 dX6_held_23 rfl ?_
    refine q_icmp_le C 31 dX6_held_24 rfl (fun _ => ?_) (fun _ => ?_)
    · refine q_iload_n C 2 dX6_held_31 rfl ?_
      exact q_ireti C rfl dX6_held_32
    refine q_iload_n C 0 dX6_held_27 rfl ?_
    refine q_goto C 32 dX6_held_28 rfl ?_
    exact q_ireti C rfl dX6_held_32
  refine q_iconst C (v := 0) dX6_held_18 (by decide) ?_
  refine q_goto C 32 dX6_held_19 rfl ?_
  exact q_ireti C rfl dX6_held_32
def f_X6_joined (a1 : Int32) (a2 : Int32) (a3 : Int32) (σ : St) : Option (Int32 × St) := (if a2 = 37 then (if a3 = 0 then (some (0, σ)) else (if a3 = 0 then none else (some ((irm a1 a3), σ)))) else (if a2 = 38 then (if a1 = 0 then (some (0, σ)) else (if a3 = 0 then (some (0, σ)) else (some (1, σ)))) else (if a2 = 42 then (some ((a1 * a3), σ)) else (if a2 = 43 then (some ((a1 + a3), σ)) else (if a2 = 45 then (some ((a1 - a3), σ)) else (if a2 = 47 then (if a3 = 0 then (some (0, σ)) else (if a3 = 0 then none else (some ((a1 / a3), σ)))) else (if a2 = 60 then (if a3 ≤ a1 then (some (0, σ)) else (some (1, σ))) else (if a2 = 61 then (if a1 = a3 then (some (1, σ)) else (some (0, σ))) else (if a2 = 62 then (if a1 ≤ a3 then (some (0, σ)) else (some (1, σ))) else (if a2 = 124 then (if a1 = 0 then (if a3 = 0 then (some (0, σ)) else (some (1, σ))) else (some (1, σ))) else (some (0, σ))))))))))))
theorem w_X6_joined {Y : YT} (a1 : Int32) (a2 : Int32) (a3 : Int32)   (σ : St) : CtE (emI FC Y) FC Y yX6_joined cX6_joined 3 (some .int) 0 [.int a1, .int a2, .int a3] σ (f_X6_joined a1 a2 a3 σ) := by
  refine Ct.ofG (by decide) (Nat.le_of_ble_eq_true rfl) (fun X C0 => ?_)
  have C : Cx FC Y X cX6_joined 3 RX6 (some .int) 0 (0, 0) := C0
  show G FC Y X 3 (emI FC Y) (0, 0) (0, 0) 0 [(0, .int a1), (1, .int a2), (2, .int a3)] [] (RepS FC Y σ) (f_X6_joined a1 a2 a3 σ)
  rw [f_X6_joined]
  refine q_iload_n C 1 dX6_joined_0 rfl ?_
  refine G.ite (fun h1 => ?_) (fun h1 => ?_)
  · refine q_lsw C 177 dX6_joined_1 (by decide) (off := 176) ?_ rfl ?_
    · rw [h1]; decide +kernel
    refine q_iload_n C 2 dX6_joined_177 rfl ?_
    refine q_if_ne C 185 dX6_joined_178 rfl (fun _ => ?_) (fun _ => ?_)
    · refine q_iload_n C 0 dX6_joined_185 rfl ?_
      refine q_iload_n C 2 dX6_joined_186 rfl ?_
      refine q_iremz C dX6_joined_187 (fun _ => ?_)
      exact q_ireti C rfl dX6_joined_188
    refine q_iconst C (v := 0) dX6_joined_181 (by decide) ?_
    refine q_goto C 188 dX6_joined_182 rfl ?_
    exact q_ireti C rfl dX6_joined_188
  refine G.ite (fun h2 => ?_) (fun h2 => ?_)
  · refine q_lsw C 106 dX6_joined_1 (by decide) (off := 105) ?_ rfl ?_
    · rw [h2]; decide +kernel
    refine q_iload_n C 0 dX6_joined_106 rfl ?_
    refine q_if_eq C 118 dX6_joined_107 rfl (fun _ => ?_) (fun _ => ?_)
    · refine q_iconst C (v := 0) dX6_joined_118 (by decide) ?_
      exact q_ireti C rfl dX6_joined_119
    refine q_iload_n C 2 dX6_joined_110 rfl ?_
    refine q_if_eq C 118 dX6_joined_111 rfl (fun _ => ?_) (fun _ => ?_)
    · refine q_iconst C (v := 0) dX6_joined_118 (by decide) ?_
      exact q_ireti C rfl dX6_joined_119
    refine q_iconst C (v := 1) dX6_joined_114 (by decide) ?_
    refine q_goto C 119 dX6_joined_115 rfl ?_
    exact q_ireti C rfl dX6_joined_119
  refine G.ite (fun h3 => ?_) (fun h3 => ?_)
  · refine q_lsw C 161 dX6_joined_1 (by decide) (off := 160) ?_ rfl ?_
    · rw [h3]; decide +kernel
    refine q_iload_n C 0 dX6_joined_161 rfl ?_
    refine q_iload_n C 2 dX6_joined_162 rfl ?_
    refine q_imul C dX6_joined_163 ?_
    exact q_ireti C rfl dX6_joined_164
  refine G.ite (fun h4 => ?_) (fun h4 => ?_)
  · refine q_lsw C 153 dX6_joined_1 (by decide) (off := 152) ?_ rfl ?_
    · rw [h4]; decide +kernel
    refine q_iload_n C 0 dX6_joined_153 rfl ?_
    refine q_iload_n C 2 dX6_joined_154 rfl ?_
    refine q_iadd C dX6_joined_155 ?_
    exact q_ireti C rfl dX6_joined_156
  refine G.ite (fun h5 => ?_) (fun h5 => ?_)
  · refine q_lsw C 157 dX6_joined_1 (by decide) (off := 156) ?_ rfl ?_
    · rw [h5]; decide +kernel
    refine q_iload_n C 0 dX6_joined_157 rfl ?_
    refine q_iload_n C 2 dX6_joined_158 rfl ?_
    refine q_isub C dX6_joined_159 ?_
    exact q_ireti C rfl dX6_joined_160
  refine G.ite (fun h6 => ?_) (fun h6 => ?_)
  · refine q_lsw C 165 dX6_joined_1 (by decide) (off := 164) ?_ rfl ?_
    · rw [h6]; decide +kernel
    refine q_iload_n C 2 dX6_joined_165 rfl ?_
    refine q_if_ne C 173 dX6_joined_166 rfl (fun _ => ?_) (fun _ => ?_)
    · refine q_iload_n C 0 dX6_joined_173 rfl ?_
      refine q_iload_n C 2 dX6_joined_174 rfl ?_
      refine q_idivz C dX6_joined_175 (fun _ => ?_)
      exact q_ireti C rfl dX6_joined_176
    refine q_iconst C (v := 0) dX6_joined_169 (by decide) ?_
    refine q_goto C 176 dX6_joined_170 rfl ?_
    exact q_ireti C rfl dX6_joined_176
  refine G.ite (fun h7 => ?_) (fun h7 => ?_)
  · refine q_lsw C 120 dX6_joined_1 (by decide) (off := 119) ?_ rfl ?_
    · rw [h7]; decide +kernel
    refine q_iload_n C 0 dX6_joined_120 rfl ?_
    refine q_iload_n C 2 dX6_joined_121 rfl ?_
    refine q_icmp_ge C 129 dX6_joined_122 rfl (fun _ => ?_) (fun _ => ?_)
    · refine q_iconst C (v := 0) dX6_joined_129 (by decide) ?_
      exact q_ireti C rfl dX6_joined_130
    refine q_iconst C (v := 1) dX6_joined_125 (by decide) ?_
    refine q_goto C 130 dX6_joined_126 rfl ?_
    exact q_ireti C rfl dX6_joined_130
  refine G.ite (fun h8 => ?_) (fun h8 => ?_)
  · refine q_lsw C 131 dX6_joined_1 (by decide) (off := 130) ?_ rfl ?_
    · rw [h8]; decide +kernel
    refine q_iload_n C 0 dX6_joined_131 rfl ?_
    refine q_iload_n C 2 dX6_joined_132 rfl ?_
    refine q_icmp_ne C 140 dX6_joined_133 rfl (fun _ => ?_) (fun _ => ?_)
    · refine q_iconst C (v := 0) dX6_joined_140 (by decide) ?_
      exact q_ireti C rfl dX6_joined_141
    refine q_iconst C (v := 1) dX6_joined_136 (by decide) ?_
    refine q_goto C 141 dX6_joined_137 rfl ?_
    exact q_ireti C rfl dX6_joined_141
  refine G.ite (fun h9 => ?_) (fun h9 => ?_)
  · refine q_lsw C 142 dX6_joined_1 (by decide) (off := 141) ?_ rfl ?_
    · rw [h9]; decide +kernel
    refine q_iload_n C 0 dX6_joined_142 rfl ?_
    refine q_iload_n C 2 dX6_joined_143 rfl ?_
    refine q_icmp_le C 151 dX6_joined_144 rfl (fun _ => ?_) (fun _ => ?_)
    · refine q_iconst C (v := 0) dX6_joined_151 (by decide) ?_
      exact q_ireti C rfl dX6_joined_152
    refine q_iconst C (v := 1) dX6_joined_147 (by decide) ?_
    refine q_goto C 152 dX6_joined_148 rfl ?_
    exact q_ireti C rfl dX6_joined_152
  refine G.ite (fun h10 => ?_) (fun h10 => ?_)
  · refine q_lsw C 92 dX6_joined_1 (by decide) (off := 91) ?_ rfl ?_
    · rw [h10]; decide +kernel
    refine q_iload_n C 0 dX6_joined_92 rfl ?_
    refine q_if_ne C 100 dX6_joined_93 rfl (fun _ => ?_) (fun _ => ?_)
    · refine q_iconst C (v := 1) dX6_joined_100 (by decide) ?_
      refine q_goto C 105 dX6_joined_101 rfl ?_
      exact q_ireti C rfl dX6_joined_105
    refine q_iload_n C 2 dX6_joined_96 rfl ?_
    refine q_if_eq C 104 dX6_joined_97 rfl (fun _ => ?_) (fun _ => ?_)
    · refine q_iconst C (v := 0) dX6_joined_104 (by decide) ?_
      exact q_ireti C rfl dX6_joined_105
    refine q_iconst C (v := 1) dX6_joined_100 (by decide) ?_
    refine q_goto C 105 dX6_joined_101 rfl ?_
    exact q_ireti C rfl dX6_joined_105
  refine q_lsw C 189 dX6_joined_1 (by decide) (off := 188) ?_ rfl ?_
  · exact (lv_osw h1 (by decide)).trans ((lv_osw h2 (by decide)).trans ((lv_osw h3 (by decide)).trans ((lv_osw h4 (by decide)).trans ((lv_osw h5 (by decide)).trans ((lv_osw h6 (by decide)).trans ((lv_osw h7 (by decide)).trans ((lv_osw h8 (by decide)).trans ((lv_osw h9 (by decide)).trans ((lv_osw h10 (by decide)).trans (rfl))))))))))
  refine q_iconst C (v := 0) dX6_joined_189 (by decide) ?_
  exact q_ireti C rfl dX6_joined_190
theorem lk_X6_27 : LkV RX6 27 yX2_size cX2_size 1 (some .int) 0 := ⟨TB_p [537, 446, 447, 72, 448] (by decide +kernel) (by decide +kernel), by decide +kernel, by decide +kernel, by decide +kernel⟩
theorem lk_X6_35 : LkV RX6 35 yX2_clear cX2_clear 1 none 0 := ⟨TB_p [542, 389, 390, 72, 391] (by decide +kernel) (by decide +kernel), by decide +kernel, by decide +kernel, by decide +kernel⟩
theorem lk_X6_31 : LkV RX6 31 yX6_held cX6_held 3 (some .int) 1 := ⟨TB_p [538, 540, 1, 76, 541] (by decide +kernel) (by decide +kernel), by decide +kernel, by decide +kernel, by decide +kernel⟩
theorem lk_X6_44 : LkV RX6 44 yX2_removeLast cX2_removeLast 1 (some .int) 0 := ⟨TB_p [545, 546, 547, 72, 548] (by decide +kernel) (by decide +kernel), by decide +kernel, by decide +kernel, by decide +kernel⟩
theorem lk_X6_38 : LkV RX6 38 yX2_get cX2_get 2 (some .int) 1 := ⟨TB_p [543, 433, 434, 72, 435] (by decide +kernel) (by decide +kernel), by decide +kernel, by decide +kernel, by decide +kernel⟩
theorem lk_X6_47 : LkS RX6 47 yX6_joined cX6_joined 3 (some .int) 3 := ⟨TB_p [549, 550, 76, 551] (by decide +kernel) (by decide +kernel), by decide +kernel, by decide +kernel, by decide +kernel⟩
theorem lk_X6_41 : LkV RX6 41 yX2_add cX2_add 2 none 1 := ⟨TB_p [544, 393, 394, 72, 395] (by decide +kernel) (by decide +kernel), by decide +kernel, by decide +kernel, by decide +kernel⟩
def f_X6_gives_L41 (k : Nat) : Nat → Int32 → Int32 → Int32 → Int32 → St → Option (Int32 × St)
  | 0, _, _, _, _, _ => none
  | n + 1, v1, v2, v3, v4, σ => (Option.bind (f_X2_size (k + 1) σ) fun r5 => (if r5.1 ≤ v4 then (Option.bind (f_X2_removeLast (k + 3) r5.2) fun r6 => (Option.bind (f_X6_held k r6.1 r6.2) fun r7 => (some (r7.1, r7.2)))) else (Option.bind (f_X2_get (k + 1) v4 r5.2) fun r8 => (if r8.1 < 0 then (if r8.1 < (-3) then (if r8.1 = (-33) then (Option.bind (f_X2_removeLast (k + 3) r8.2) fun r13 => (if r13.1 = 0 then (Option.bind (f_X2_add (k + 3) 1 r13.2) fun r15 => ((f_X6_gives_L41 k n) v1 v2 v3 (v4 + 1) r15)) else (Option.bind (f_X2_add (k + 3) 0 r13.2) fun r14 => ((f_X6_gives_L41 k n) v1 v2 v3 (v4 + 1) r14)))) else (Option.bind (f_X2_removeLast (k + 3) r8.2) fun r9 => (Option.bind (f_X2_removeLast (k + 3) r9.2) fun r10 => (Option.bind (f_X6_joined r10.1 (-r8.1) r9.1 r10.2) fun r11 => (Option.bind (f_X2_add (k + 3) r11.1 r11.2) fun r12 => ((f_X6_gives_L41 k n) v1 v2 v3 (v4 + 1) r12)))))) else (if r8.1 = (-1) then (Option.bind (f_X2_add (k + 3) v1 r8.2) fun r18 => ((f_X6_gives_L41 k n) v1 v2 v3 (v4 + 1) r18)) else (if r8.1 = (-2) then (Option.bind (f_X2_add (k + 3) v2 r8.2) fun r17 => ((f_X6_gives_L41 k n) v1 v2 v3 (v4 + 1) r17)) else (Option.bind (f_X2_add (k + 3) v3 r8.2) fun r16 => ((f_X6_gives_L41 k n) v1 v2 v3 (v4 + 1) r16))))) else (Option.bind (f_X2_add (k + 3) r8.1 r8.2) fun r19 => ((f_X6_gives_L41 k n) v1 v2 v3 (v4 + 1) r19))))))
theorem w_X6_gives_L41 {Y : YT} {X : XT} (C : Cx FC Y X cX6_gives 8 RX6 (some .int) 1 (0, 0)) (k : Nat) (hk : shC k = 6) : ∀ (n : Nat), ∀ (v1 : Int32), ∀ (v2 : Int32), ∀ (v3 : Int32), ∀ (v4 : Int32), ∀ (σ : St), G FC Y X 8 (emI FC Y) (0, 0) (0, 0) 41 [(0, Rf Y k), (1, .int v1), (2, .int v2), (3, .int v3), (4, .int v4)] [] (RepS FC Y σ) (f_X6_gives_L41 k n v1 v2 v3 v4 σ) := by
  intro n
  induction n with
  | zero =>
    intro v1 v2 v3 v4 σ
    rw [f_X6_gives_L41]; exact G.none
  | succ n ih =>
    intro v1 v2 v3 v4 σ
    rw [f_X6_gives_L41]
    refine q_iload C 4 dX6_gives_41 rfl ?_
    refine q_aload_n C 0 dX6_gives_43 rfl ?_
    refine gf_X6_14 C hk dX6_gives_44 ?_
    refine q_cVI C lk_X6_27 (w_X2_size (Y := Y) (k + 1) (sf_6_0 hk) σ) (Nat.le_of_ble_eq_true rfl) rfl (sf_6_0 hk) (ltC (sf_6_0 hk) rfl) recv_2 (rest := [.int v4]) rfl rfl (Nat.le_of_ble_eq_true rfl) dX6_gives_47 (fun r5 => ?_)
    refine q_icmp_ge C 193 dX6_gives_50 rfl (fun _ => ?_) (fun _ => ?_)
    · refine q_aload_n C 0 dX6_gives_193 rfl ?_
      refine q_aload_n C 0 dX6_gives_194 rfl ?_
      refine gf_X6_20 C hk dX6_gives_195 ?_
      refine q_cVI C lk_X6_44 (w_X2_removeLast (Y := Y) (k + 3) (sf_6_1 hk) r5.2) (Nat.le_of_ble_eq_true rfl) rfl (sf_6_1 hk) (ltC (sf_6_1 hk) rfl) recv_2 (rest := [Rf Y k]) rfl rfl (Nat.le_of_ble_eq_true rfl) dX6_gives_198 (fun r6 => ?_)
      refine q_cVI C lk_X6_31 (w_X6_held (Y := Y) k r6.1 hk r6.2) (Nat.le_of_ble_eq_true rfl) rfl hk (ltC hk rfl) recv_6 (rest := []) rfl rfl (Nat.le_of_ble_eq_true rfl) dX6_gives_201 (fun r7 => ?_)
      exact q_ireti C rfl dX6_gives_204
    refine q_aload_n C 0 dX6_gives_53 rfl ?_
    refine gf_X6_14 C hk dX6_gives_54 ?_
    refine q_iload C 4 dX6_gives_57 rfl ?_
    refine q_cVI C lk_X6_38 (w_X2_get (Y := Y) (k + 1) v4 (sf_6_0 hk) r5.2) (Nat.le_of_ble_eq_true rfl) rfl (sf_6_0 hk) (ltC (sf_6_0 hk) rfl) recv_2 (rest := []) rfl rfl (Nat.le_of_ble_eq_true rfl) dX6_gives_59 (fun r8 => ?_)
    refine q_istore C [(5, .int r8.1), (0, Rf Y k), (1, .int v1), (2, .int v2), (3, .int v3), (4, .int v4)] dX6_gives_62 rfl rfl ?_
    refine q_iload C 0 dX6_gives_64 rfl ?_
    refine q_if_lt C 81 dX6_gives_66 rfl (fun _ => ?_) (fun _ => ?_)
    · refine q_iload C 0 dX6_gives_81 rfl ?_
      refine q_bipush C (v := (-3)) dX6_gives_83 (by decide) ?_
      refine q_icmp_lt C 120 dX6_gives_85 rfl (fun _ => ?_) (fun _ => ?_)
      · refine q_iload C 0 dX6_gives_120 rfl ?_
        refine q_bipush C (v := (-33)) dX6_gives_122 (by decide) ?_
        refine q_icmp_ne C 152 dX6_gives_124 rfl (fun _ => ?_) (fun _ => ?_)
        · refine q_aload_n C 1 dX6_gives_152 rfl ?_
          refine gf_X6_20 C hk dX6_gives_153 ?_
          refine q_cVI C lk_X6_44 (w_X2_removeLast (Y := Y) (k + 3) (sf_6_1 hk) r8.2) (Nat.le_of_ble_eq_true rfl) rfl (sf_6_1 hk) (ltC (sf_6_1 hk) rfl) recv_2 (rest := []) rfl rfl (Nat.le_of_ble_eq_true rfl) dX6_gives_156 (fun r9 => ?_)
          refine q_istore C [(6, .int r9.1), (5, .int r8.1), (0, Rf Y k), (1, .int v1), (2, .int v2), (3, .int v3), (4, .int v4)] dX6_gives_159 rfl rfl ?_
          refine q_aload_n C 2 dX6_gives_161 rfl ?_
          refine gf_X6_20 C hk dX6_gives_162 ?_
          refine q_cVI C lk_X6_44 (w_X2_removeLast (Y := Y) (k + 3) (sf_6_1 hk) r9.2) (Nat.le_of_ble_eq_true rfl) rfl (sf_6_1 hk) (ltC (sf_6_1 hk) rfl) recv_2 (rest := []) rfl rfl (Nat.le_of_ble_eq_true rfl) dX6_gives_165 (fun r10 => ?_)
          refine q_istore C [(7, .int r10.1), (6, .int r9.1), (5, .int r8.1), (0, Rf Y k), (1, .int v1), (2, .int v2), (3, .int v3), (4, .int v4)] dX6_gives_168 rfl rfl ?_
          refine q_aload_n C 3 dX6_gives_170 rfl ?_
          refine gf_X6_20 C hk dX6_gives_171 ?_
          refine q_iload C 0 dX6_gives_174 rfl ?_
          refine q_iload C 2 dX6_gives_176 rfl ?_
          refine q_ineg C dX6_gives_178 ?_
          refine q_iload C 1 dX6_gives_179 rfl ?_
          refine q_cSI C lk_X6_47 (w_X6_joined (Y := Y) r10.1 (-r8.1) r9.1 r10.2) (Nat.le_of_ble_eq_true rfl) rfl (rest := [Rf Y (k + 3)]) rfl rfl (Nat.le_of_ble_eq_true rfl) dX6_gives_181 (fun r11 => ?_)
          refine q_cVV C lk_X6_41 (w_X2_add (Y := Y) (k + 3) r11.1 (sf_6_1 hk) r11.2) (Nat.le_of_ble_eq_true rfl) rfl (sf_6_1 hk) (ltC (sf_6_1 hk) rfl) recv_2 (rest := []) rfl rfl (Nat.le_of_ble_eq_true rfl) dX6_gives_184 (fun r12 => ?_)
          refine q_iinc C 7 [(4, .int (v4 + 1)), (7, .int r10.1), (6, .int r9.1), (5, .int r8.1), (0, Rf Y k), (1, .int v1), (2, .int v2), (3, .int v3)] dX6_gives_187 rfl rfl rfl rfl ?_
          refine q_goto C 41 dX6_gives_190 rfl ?_
          refine G.sub [4, 5, 6, 7, 0] (lv' := [(0, Rf Y k), (1, .int v1), (2, .int v2), (3, .int v3), (4, .int (v4 + 1))]) rfl ?_
          exact ih v1 v2 v3 (v4 + 1) r12
        refine q_aload_n C 1 dX6_gives_127 rfl ?_
        refine gf_X6_20 C hk dX6_gives_128 ?_
        refine q_aload_n C 1 dX6_gives_131 rfl ?_
        refine gf_X6_20 C hk dX6_gives_132 ?_
        refine q_cVI C lk_X6_44 (w_X2_removeLast (Y := Y) (k + 3) (sf_6_1 hk) r8.2) (Nat.le_of_ble_eq_true rfl) rfl (sf_6_1 hk) (ltC (sf_6_1 hk) rfl) recv_2 (rest := [Rf Y (k + 3)]) rfl rfl (Nat.le_of_ble_eq_true rfl) dX6_gives_135 (fun r13 => ?_)
        refine q_if_ne C 145 dX6_gives_138 rfl (fun _ => ?_) (fun _ => ?_)
        · refine q_iconst C (v := 0) dX6_gives_145 (by decide) ?_
          refine q_cVV C lk_X6_41 (w_X2_add (Y := Y) (k + 3) 0 (sf_6_1 hk) r13.2) (Nat.le_of_ble_eq_true rfl) rfl (sf_6_1 hk) (ltC (sf_6_1 hk) rfl) recv_2 (rest := []) rfl rfl (Nat.le_of_ble_eq_true rfl) dX6_gives_146 (fun r14 => ?_)
          refine q_goto C 187 dX6_gives_149 rfl ?_
          refine q_iinc C 5 [(4, .int (v4 + 1)), (5, .int r8.1), (0, Rf Y k), (1, .int v1), (2, .int v2), (3, .int v3)] dX6_gives_187 rfl rfl rfl rfl ?_
          refine q_goto C 41 dX6_gives_190 rfl ?_
          refine G.sub [2, 3, 4, 5, 0] (lv' := [(0, Rf Y k), (1, .int v1), (2, .int v2), (3, .int v3), (4, .int (v4 + 1))]) rfl ?_
          exact ih v1 v2 v3 (v4 + 1) r14
        refine q_iconst C (v := 1) dX6_gives_141 (by decide) ?_
        refine q_goto C 146 dX6_gives_142 rfl ?_
        refine q_cVV C lk_X6_41 (w_X2_add (Y := Y) (k + 3) 1 (sf_6_1 hk) r13.2) (Nat.le_of_ble_eq_true rfl) rfl (sf_6_1 hk) (ltC (sf_6_1 hk) rfl) recv_2 (rest := []) rfl rfl (Nat.le_of_ble_eq_true rfl) dX6_gives_146 (fun r15 => ?_)
        refine q_goto C 187 dX6_gives_149 rfl ?_
        refine q_iinc C 5 [(4, .int (v4 + 1)), (5, .int r8.1), (0, Rf Y k), (1, .int v1), (2, .int v2), (3, .int v3)] dX6_gives_187 rfl rfl rfl rfl ?_
        refine q_goto C 41 dX6_gives_190 rfl ?_
        refine G.sub [2, 3, 4, 5, 0] (lv' := [(0, Rf Y k), (1, .int v1), (2, .int v2), (3, .int v3), (4, .int (v4 + 1))]) rfl ?_
        exact ih v1 v2 v3 (v4 + 1) r15
      refine q_aload_n C 1 dX6_gives_88 rfl ?_
      refine gf_X6_20 C hk dX6_gives_89 ?_
      refine q_iload C 0 dX6_gives_92 rfl ?_
      refine q_iconst C (v := (-1)) dX6_gives_94 (by decide) ?_
      refine q_icmp_ne C 102 dX6_gives_95 rfl (fun _ => ?_) (fun _ => ?_)
      · refine q_iload C 0 dX6_gives_102 rfl ?_
        refine q_bipush C (v := (-2)) dX6_gives_104 (by decide) ?_
        refine q_icmp_ne C 113 dX6_gives_106 rfl (fun _ => ?_) (fun _ => ?_)
        · refine q_iload_n C 4 dX6_gives_113 rfl ?_
          refine q_cVV C lk_X6_41 (w_X2_add (Y := Y) (k + 3) v3 (sf_6_1 hk) r8.2) (Nat.le_of_ble_eq_true rfl) rfl (sf_6_1 hk) (ltC (sf_6_1 hk) rfl) recv_2 (rest := []) rfl rfl (Nat.le_of_ble_eq_true rfl) dX6_gives_114 (fun r16 => ?_)
          refine q_goto C 187 dX6_gives_117 rfl ?_
          refine q_iinc C 5 [(4, .int (v4 + 1)), (5, .int r8.1), (0, Rf Y k), (1, .int v1), (2, .int v2), (3, .int v3)] dX6_gives_187 rfl rfl rfl rfl ?_
          refine q_goto C 41 dX6_gives_190 rfl ?_
          refine G.sub [2, 3, 4, 5, 0] (lv' := [(0, Rf Y k), (1, .int v1), (2, .int v2), (3, .int v3), (4, .int (v4 + 1))]) rfl ?_
          exact ih v1 v2 v3 (v4 + 1) r16
        refine q_iload_n C 3 dX6_gives_109 rfl ?_
        refine q_goto C 114 dX6_gives_110 rfl ?_
        refine q_cVV C lk_X6_41 (w_X2_add (Y := Y) (k + 3) v2 (sf_6_1 hk) r8.2) (Nat.le_of_ble_eq_true rfl) rfl (sf_6_1 hk) (ltC (sf_6_1 hk) rfl) recv_2 (rest := []) rfl rfl (Nat.le_of_ble_eq_true rfl) dX6_gives_114 (fun r17 => ?_)
        refine q_goto C 187 dX6_gives_117 rfl ?_
        refine q_iinc C 5 [(4, .int (v4 + 1)), (5, .int r8.1), (0, Rf Y k), (1, .int v1), (2, .int v2), (3, .int v3)] dX6_gives_187 rfl rfl rfl rfl ?_
        refine q_goto C 41 dX6_gives_190 rfl ?_
        refine G.sub [2, 3, 4, 5, 0] (lv' := [(0, Rf Y k), (1, .int v1), (2, .int v2), (3, .int v3), (4, .int (v4 + 1))]) rfl ?_
        exact ih v1 v2 v3 (v4 + 1) r17
      refine q_iload_n C 2 dX6_gives_98 rfl ?_
      refine q_goto C 114 dX6_gives_99 rfl ?_
      refine q_cVV C lk_X6_41 (w_X2_add (Y := Y) (k + 3) v1 (sf_6_1 hk) r8.2) (Nat.le_of_ble_eq_true rfl) rfl (sf_6_1 hk) (ltC (sf_6_1 hk) rfl) recv_2 (rest := []) rfl rfl (Nat.le_of_ble_eq_true rfl) dX6_gives_114 (fun r18 => ?_)
      refine q_goto C 187 dX6_gives_117 rfl ?_
      refine q_iinc C 5 [(4, .int (v4 + 1)), (5, .int r8.1), (0, Rf Y k), (1, .int v1), (2, .int v2), (3, .int v3)] dX6_gives_187 rfl rfl rfl rfl ?_
      refine q_goto C 41 dX6_gives_190 rfl ?_
      refine G.sub [2, 3, 4, 5, 0] (lv' := [(0, Rf Y k), (1, .int v1), (2, .int v2), (3, .int v3), (4, .int (v4 + 1))]) rfl ?_
      exact ih v1 v2 v3 (v4 + 1) r18
    refine q_aload_n C 1 dX6_gives_69 rfl ?_
    refine gf_X6_20 C hk dX6_gives_70 ?_
    refine q_iload C 0 dX6_gives_73 rfl ?_
    refine q_cVV C lk_X6_41 (w_X2_add (Y := Y) (k + 3) r8.1 (sf_6_1 hk) r8.2) (Nat.le_of_ble_eq_true rfl) rfl (sf_6_1 hk) (ltC (sf_6_1 hk) rfl) recv_2 (rest := []) rfl rfl (Nat.le_of_ble_eq_true rfl) dX6_gives_75 (fun r19 => ?_)
    refine q_goto C 187 dX6_gives_78 rfl ?_
    refine q_iinc C 5 [(4, .int (v4 + 1)), (5, .int r8.1), (0, Rf Y k), (1, .int v1), (2, .int v2), (3, .int v3)] dX6_gives_187 rfl rfl rfl rfl ?_
    refine q_goto C 41 dX6_gives_190 rfl ?_
    refine G.sub [2, 3, 4, 5, 0] (lv' := [(0, Rf Y k), (1, .int v1), (2, .int v2), (3, .int v3), (4, .int (v4 + 1))]) rfl ?_
    exact ih v1 v2 v3 (v4 + 1) r19
def f_X6_gives (k : Nat) (a1 : Int32) (a2 : Int32) (a3 : Int32) (σ : St) : Option (Int32 × St) := (Option.bind (f_X2_size (k + 1) σ) fun r1 => (if r1.1 = 0 then (if (r1.2 k 2) = 0 then (Option.bind (f_X6_held k (1 + (a3 / 2)) r1.2) fun r4 => (some (r4.1, r4.2))) else (Option.bind (f_X6_held k 1 r1.2) fun r3 => (some (r3.1, r3.2)))) else (Option.bind (f_X2_clear (k + 3) r1.2) fun r2 => (f_X6_gives_L41 k 400 a1 a2 a3 0 r2))))
theorem w_X6_gives {Y : YT} (k : Nat) (a1 : Int32) (a2 : Int32) (a3 : Int32)  (hk : shC k = 6) (σ : St) : CtE (emI FC Y) FC Y yX6_gives cX6_gives 8 (some .int) 1 [Rf Y k, .int a1, .int a2, .int a3] σ (f_X6_gives k a1 a2 a3 σ) := by
  refine Ct.ofG (by decide) (Nat.le_of_ble_eq_true rfl) (fun X C0 => ?_)
  have C : Cx FC Y X cX6_gives 8 RX6 (some .int) 1 (0, 0) := C0
  show G FC Y X 8 (emI FC Y) (0, 0) (0, 0) 0 [(0, Rf Y k), (1, .int a1), (2, .int a2), (3, .int a3)] [] (RepS FC Y σ) (f_X6_gives k a1 a2 a3 σ)
  rw [f_X6_gives]
  refine q_aload_n C 0 dX6_gives_0 rfl ?_
  refine gf_X6_14 C hk dX6_gives_1 ?_
  refine q_cVI C lk_X6_27 (w_X2_size (Y := Y) (k + 1) (sf_6_0 hk) σ) (Nat.le_of_ble_eq_true rfl) rfl (sf_6_0 hk) (ltC (sf_6_0 hk) rfl) recv_2 (rest := []) rfl rfl (Nat.le_of_ble_eq_true rfl) dX6_gives_4 (fun r1 => ?_)
  refine q_if_ne C 31 dX6_gives_7 rfl (fun _ => ?_) (fun _ => ?_)
  · refine q_aload_n C 0 dX6_gives_31 rfl ?_
    refine gf_X6_20 C hk dX6_gives_32 ?_
    refine q_cVV C lk_X6_35 (w_X2_clear (Y := Y) (k + 3) (sf_6_1 hk) r1.2) (Nat.le_of_ble_eq_true rfl) rfl (sf_6_1 hk) (ltC (sf_6_1 hk) rfl) recv_2 (rest := []) rfl rfl (Nat.le_of_ble_eq_true rfl) dX6_gives_35 (fun r2 => ?_)
    refine q_iconst C (v := 0) dX6_gives_38 (by decide) ?_
    refine q_istore C [(4, .int 0), (0, Rf Y k), (1, .int a1), (2, .int a2), (3, .int a3)] dX6_gives_39 rfl rfl ?_
    refine G.sub [1, 2, 3, 4, 0] (lv' := [(0, Rf Y k), (1, .int a1), (2, .int a2), (3, .int a3), (4, .int 0)]) rfl ?_
    exact w_X6_gives_L41 C k hk 400 a1 a2 a3 0 r2
  refine q_aload_n C 0 dX6_gives_10 rfl ?_
  refine q_aload_n C 0 dX6_gives_11 rfl ?_
  refine gf_X6_23 C hk dX6_gives_12 ?_
  refine q_if_ne C 26 dX6_gives_15 rfl (fun _ => ?_) (fun _ => ?_)
  · refine q_iconst C (v := 1) dX6_gives_26 (by decide) ?_
    refine q_cVI C lk_X6_31 (w_X6_held (Y := Y) k 1 hk r1.2) (Nat.le_of_ble_eq_true rfl) rfl hk (ltC hk rfl) recv_6 (rest := []) rfl rfl (Nat.le_of_ble_eq_true rfl) dX6_gives_27 (fun r3 => ?_)
    exact q_ireti C rfl dX6_gives_30
  refine q_iconst C (v := 1) dX6_gives_18 (by decide) ?_
  refine q_iload_n C 3 dX6_gives_19 rfl ?_
  refine q_iconst C (v := 2) dX6_gives_20 (by decide) ?_
  refine q_idiv C dX6_gives_21 (by decide) ?_
  refine q_iadd C dX6_gives_22 ?_
  refine q_goto C 27 dX6_gives_23 rfl ?_
  refine q_cVI C lk_X6_31 (w_X6_held (Y := Y) k (1 + (a3 / 2)) hk r1.2) (Nat.le_of_ble_eq_true rfl) rfl hk (ltC hk rfl) recv_6 (rest := []) rfl rfl (Nat.le_of_ble_eq_true rfl) dX6_gives_27 (fun r4 => ?_)
  exact q_ireti C rfl dX6_gives_30
theorem lk_X9_49 : LkV RX9 49 yX2_copyFrom cX2_copyFrom 3 none 1 := ⟨TB_p [996, 656, 657, 72, 658] (by decide +kernel) (by decide +kernel), by decide +kernel, by decide +kernel, by decide +kernel⟩
def f_X9_copyFrom (k : Nat) (a1 : Nat) (σ : St) : Option (St) := (Option.bind (f_X2_copyFrom (k + 1) (a1 + 1) σ) fun r1 => (Option.bind (f_X2_copyFrom (k + 3) (a1 + 3) r1) fun r2 => (Option.bind (f_X2_copyFrom (k + 5) (a1 + 5) r2) fun r3 => (Bst (up r3 k 3 (r3 a1 3)) fun s4 => (some s4)))))
theorem w_X9_copyFrom {Y : YT} (k : Nat) (a1 : Nat)  (hk : shC k = 9) (ha1 : shC a1 = 9) (σ : St) : CtE (emV FC Y) FC Y yX9_copyFrom cX9_copyFrom 2 none 2 [Rf Y k, Rf Y a1] σ (f_X9_copyFrom k a1 σ) := by
  refine Ct.ofG (by decide) (Nat.le_of_ble_eq_true rfl) (fun X C0 => ?_)
  have C : Cx FC Y X cX9_copyFrom 2 RX9 none 2 (0, 0) := C0
  show G FC Y X 2 (emV FC Y) (0, 0) (0, 0) 0 [(0, Rf Y k), (1, Rf Y a1)] [] (RepS FC Y σ) (f_X9_copyFrom k a1 σ)
  rw [f_X9_copyFrom]
  refine q_aload_n C 0 dX9_copyFrom_0 rfl ?_
  refine gf_X9_14 C hk dX9_copyFrom_1 ?_
  refine q_aload_n C 1 dX9_copyFrom_4 rfl ?_
  refine gf_X9_14 C ha1 dX9_copyFrom_5 ?_
  refine q_cVV C lk_X9_49 (w_X2_copyFrom (Y := Y) (k + 1) (a1 + 1) (sf_9_0 hk) (sf_9_0 ha1) σ) (Nat.le_of_ble_eq_true rfl) rfl (sf_9_0 hk) (ltC (sf_9_0 hk) rfl) recv_2 (rest := []) rfl rfl (Nat.le_of_ble_eq_true rfl) dX9_copyFrom_8 (fun r1 => ?_)
  refine q_aload_n C 0 dX9_copyFrom_11 rfl ?_
  refine gf_X9_20 C hk dX9_copyFrom_12 ?_
  refine q_aload_n C 1 dX9_copyFrom_15 rfl ?_
  refine gf_X9_20 C ha1 dX9_copyFrom_16 ?_
  refine q_cVV C lk_X9_49 (w_X2_copyFrom (Y := Y) (k + 3) (a1 + 3) (sf_9_1 hk) (sf_9_1 ha1) r1) (Nat.le_of_ble_eq_true rfl) rfl (sf_9_1 hk) (ltC (sf_9_1 hk) rfl) recv_2 (rest := []) rfl rfl (Nat.le_of_ble_eq_true rfl) dX9_copyFrom_19 (fun r2 => ?_)
  refine q_aload_n C 0 dX9_copyFrom_22 rfl ?_
  refine gf_X9_23 C hk dX9_copyFrom_23 ?_
  refine q_aload_n C 1 dX9_copyFrom_26 rfl ?_
  refine gf_X9_23 C ha1 dX9_copyFrom_27 ?_
  refine q_cVV C lk_X9_49 (w_X2_copyFrom (Y := Y) (k + 5) (a1 + 5) (sf_9_2 hk) (sf_9_2 ha1) r2) (Nat.le_of_ble_eq_true rfl) rfl (sf_9_2 hk) (ltC (sf_9_2 hk) rfl) recv_2 (rest := []) rfl rfl (Nat.le_of_ble_eq_true rfl) dX9_copyFrom_30 (fun r3 => ?_)
  refine q_aload_n C 0 dX9_copyFrom_33 rfl ?_
  refine q_aload_n C 1 dX9_copyFrom_34 rfl ?_
  refine gf_X9_26 C ha1 dX9_copyFrom_35 ?_
  refine pf_X9_26 C hk dX9_copyFrom_38 (fun s4 => ?_)
  exact q_vret C rfl dX9_copyFrom_41
theorem lk_X7_80 : LkV RX7 80 yX9_copyFrom cX9_copyFrom 2 none 1 := ⟨TB_p [992, 993, 994, 71, 995] (by decide +kernel) (by decide +kernel), by decide +kernel, by decide +kernel, by decide +kernel⟩
theorem lk_X7_84 : LkV RX7 84 yX4_copyFrom cX4_copyFrom 2 none 1 := ⟨TB_p [997, 998, 999, 74, 1000] (by decide +kernel) (by decide +kernel), by decide +kernel, by decide +kernel, by decide +kernel⟩
theorem lk_X7_87 : LkV RX7 87 yX0_copyFrom cX0_copyFrom 2 none 1 := ⟨TB_p [1002, 1003, 1004, 75, 1005] (by decide +kernel) (by decide +kernel), by decide +kernel, by decide +kernel, by decide +kernel⟩
theorem lk_X7_90 : LkV RX7 90 yX2_copyFrom cX2_copyFrom 3 none 1 := ⟨TB_p [1007, 656, 657, 72, 658] (by decide +kernel) (by decide +kernel), by decide +kernel, by decide +kernel, by decide +kernel⟩
def f_X7_copyFrom (k : Nat) (a1 : Nat) (σ : St) : Option (St) := (Bst (up σ k 0 (σ a1 0)) fun s1 => (Bst (up s1 k 1 (s1 a1 1)) fun s2 => (Bst (up s2 k 2 (s2 a1 2)) fun s3 => (Bst (up s3 k 3 (s3 a1 3)) fun s4 => (Option.bind (f_X9_copyFrom (k + 1) (a1 + 1) s4) fun r5 => (Option.bind (f_X4_copyFrom (k + 8) (a1 + 8) r5) fun r6 => (Option.bind (f_X0_copyFrom (k + 21) (a1 + 21) r6) fun r7 => (Option.bind (f_X2_copyFrom (k + 26) (a1 + 26) r7) fun r8 => (Option.bind (f_X2_copyFrom (k + 28) (a1 + 28) r8) fun r9 => (Option.bind (f_X2_copyFrom ((k + 30) + 1) ((a1 + 30) + 1) r9) fun r10 => (Option.bind (f_X2_copyFrom ((k + 35) + 1) ((a1 + 35) + 1) r10) fun r11 => (some r11))))))))))))
theorem w_X7_copyFrom {Y : YT} (k : Nat) (a1 : Nat)  (hk : shC k = 7) (ha1 : shC a1 = 7) (σ : St) : CtE (emV FC Y) FC Y yX7_copyFrom cX7_copyFrom 2 none 3 [Rf Y k, Rf Y a1] σ (f_X7_copyFrom k a1 σ) := by
  refine Ct.ofG (by decide) (Nat.le_of_ble_eq_true rfl) (fun X C0 => ?_)
  have C : Cx FC Y X cX7_copyFrom 2 RX7 none 3 (0, 0) := C0
  show G FC Y X 2 (emV FC Y) (0, 0) (0, 0) 0 [(0, Rf Y k), (1, Rf Y a1)] [] (RepS FC Y σ) (f_X7_copyFrom k a1 σ)
  rw [f_X7_copyFrom]
  refine q_aload_n C 0 dX7_copyFrom_0 rfl ?_
  refine q_aload_n C 1 dX7_copyFrom_1 rfl ?_
  refine gf_X7_9 C ha1 dX7_copyFrom_2 ?_
  refine pf_X7_9 C hk dX7_copyFrom_5 (fun s1 => ?_)
  refine q_aload_n C 0 dX7_copyFrom_8 rfl ?_
  refine q_aload_n C 1 dX7_copyFrom_9 rfl ?_
  refine gf_X7_15 C ha1 dX7_copyFrom_10 ?_
  refine pf_X7_15 C hk dX7_copyFrom_13 (fun s2 => ?_)
  refine q_aload_n C 0 dX7_copyFrom_16 rfl ?_
  refine q_aload_n C 1 dX7_copyFrom_17 rfl ?_
  refine gf_X7_18 C ha1 dX7_copyFrom_18 ?_
  refine pf_X7_18 C hk dX7_copyFrom_21 (fun s3 => ?_)
  refine q_aload_n C 0 dX7_copyFrom_24 rfl ?_
  refine q_aload_n C 1 dX7_copyFrom_25 rfl ?_
  refine gf_X7_21 C ha1 dX7_copyFrom_26 ?_
  refine pf_X7_21 C hk dX7_copyFrom_29 (fun s4 => ?_)
  refine q_aload_n C 0 dX7_copyFrom_32 rfl ?_
  refine gf_X7_27 C hk dX7_copyFrom_33 ?_
  refine q_aload_n C 1 dX7_copyFrom_36 rfl ?_
  refine gf_X7_27 C ha1 dX7_copyFrom_37 ?_
  refine q_cVV C lk_X7_80 (w_X9_copyFrom (Y := Y) (k + 1) (a1 + 1) (sf_7_4 hk) (sf_7_4 ha1) s4) (Nat.le_of_ble_eq_true rfl) rfl (sf_7_4 hk) (ltC (sf_7_4 hk) rfl) recv_9 (rest := []) rfl rfl (Nat.le_of_ble_eq_true rfl) dX7_copyFrom_40 (fun r5 => ?_)
  refine q_aload_n C 0 dX7_copyFrom_43 rfl ?_
  refine gf_X7_34 C hk dX7_copyFrom_44 ?_
  refine q_aload_n C 1 dX7_copyFrom_47 rfl ?_
  refine gf_X7_34 C ha1 dX7_copyFrom_48 ?_
  refine q_cVV C lk_X7_84 (w_X4_copyFrom (Y := Y) (k + 8) (a1 + 8) (sf_7_5 hk) (sf_7_5 ha1) r5) (Nat.le_of_ble_eq_true rfl) rfl (sf_7_5 hk) (ltC (sf_7_5 hk) rfl) recv_4 (rest := []) rfl rfl (Nat.le_of_ble_eq_true rfl) dX7_copyFrom_51 (fun r6 => ?_)
  refine q_aload_n C 0 dX7_copyFrom_54 rfl ?_
  refine gf_X7_41 C hk dX7_copyFrom_55 ?_
  refine q_aload_n C 1 dX7_copyFrom_58 rfl ?_
  refine gf_X7_41 C ha1 dX7_copyFrom_59 ?_
  refine q_cVV C lk_X7_87 (w_X0_copyFrom (Y := Y) (k + 21) (a1 + 21) (sf_7_6 hk) (sf_7_6 ha1) r6) (Nat.le_of_ble_eq_true rfl) rfl (sf_7_6 hk) (ltC (sf_7_6 hk) rfl) recv_0 (rest := []) rfl rfl (Nat.le_of_ble_eq_true rfl) dX7_copyFrom_62 (fun r7 => ?_)
  refine q_aload_n C 0 dX7_copyFrom_65 rfl ?_
  refine gf_X7_50 C hk dX7_copyFrom_66 ?_
  refine q_aload_n C 1 dX7_copyFrom_69 rfl ?_
  refine gf_X7_50 C ha1 dX7_copyFrom_70 ?_
  refine q_cVV C lk_X7_90 (w_X2_copyFrom (Y := Y) (k + 26) (a1 + 26) (sf_7_7 hk) (sf_7_7 ha1) r7) (Nat.le_of_ble_eq_true rfl) rfl (sf_7_7 hk) (ltC (sf_7_7 hk) rfl) recv_2 (rest := []) rfl rfl (Nat.le_of_ble_eq_true rfl) dX7_copyFrom_73 (fun r8 => ?_)
  refine q_aload_n C 0 dX7_copyFrom_76 rfl ?_
  refine gf_X7_54 C hk dX7_copyFrom_77 ?_
  refine q_aload_n C 1 dX7_copyFrom_80 rfl ?_
  refine gf_X7_54 C ha1 dX7_copyFrom_81 ?_
  refine q_cVV C lk_X7_90 (w_X2_copyFrom (Y := Y) (k + 28) (a1 + 28) (sf_7_8 hk) (sf_7_8 ha1) r8) (Nat.le_of_ble_eq_true rfl) rfl (sf_7_8 hk) (ltC (sf_7_8 hk) rfl) recv_2 (rest := []) rfl rfl (Nat.le_of_ble_eq_true rfl) dX7_copyFrom_84 (fun r9 => ?_)
  refine q_aload_n C 0 dX7_copyFrom_87 rfl ?_
  refine gf_X7_60 C hk dX7_copyFrom_88 ?_
  refine gf_X7_93 C (sf_7_9 hk) dX7_copyFrom_91 ?_
  refine q_aload_n C 1 dX7_copyFrom_94 rfl ?_
  refine gf_X7_60 C ha1 dX7_copyFrom_95 ?_
  refine gf_X7_93 C (sf_7_9 ha1) dX7_copyFrom_98 ?_
  refine q_cVV C lk_X7_90 (w_X2_copyFrom (Y := Y) ((k + 30) + 1) ((a1 + 30) + 1) (sf_6_0 (sf_7_9 hk)) (sf_6_0 (sf_7_9 ha1)) r9) (Nat.le_of_ble_eq_true rfl) rfl (sf_6_0 (sf_7_9 hk)) (ltC (sf_6_0 (sf_7_9 hk)) rfl) recv_2 (rest := []) rfl rfl (Nat.le_of_ble_eq_true rfl) dX7_copyFrom_101 (fun r10 => ?_)
  refine q_aload_n C 0 dX7_copyFrom_104 rfl ?_
  refine gf_X7_64 C hk dX7_copyFrom_105 ?_
  refine gf_X7_93 C (sf_7_10 hk) dX7_copyFrom_108 ?_
  refine q_aload_n C 1 dX7_copyFrom_111 rfl ?_
  refine gf_X7_64 C ha1 dX7_copyFrom_112 ?_
  refine gf_X7_93 C (sf_7_10 ha1) dX7_copyFrom_115 ?_
  refine q_cVV C lk_X7_90 (w_X2_copyFrom (Y := Y) ((k + 35) + 1) ((a1 + 35) + 1) (sf_6_0 (sf_7_10 hk)) (sf_6_0 (sf_7_10 ha1)) r10) (Nat.le_of_ble_eq_true rfl) rfl (sf_6_0 (sf_7_10 hk)) (ltC (sf_6_0 (sf_7_10 hk)) rfl) recv_2 (rest := []) rfl rfl (Nat.le_of_ble_eq_true rfl) dX7_copyFrom_118 (fun r11 => ?_)
  exact q_vret C rfl dX7_copyFrom_121
def f_X10_within (a1 : Int32) (a2 : Int32) (a3 : Int32) (σ : St) : Option (Int32 × St) := (if a1 < a2 then (some (0, σ)) else (if a3 < a1 then (some (0, σ)) else (some (1, σ))))
theorem w_X10_within {Y : YT} (a1 : Int32) (a2 : Int32) (a3 : Int32)   (σ : St) : CtE (emI FC Y) FC Y yX10_within cX10_within 3 (some .boolean) 0 [.int a1, .int a2, .int a3] σ (f_X10_within a1 a2 a3 σ) := by
  refine Ct.ofG (by decide) (Nat.le_of_ble_eq_true rfl) (fun X C0 => ?_)
  have C : Cx FC Y X cX10_within 3 RX10 (some .boolean) 0 (0, 0) := C0
  show G FC Y X 3 (emI FC Y) (0, 0) (0, 0) 0 [(0, .int a1), (1, .int a2), (2, .int a3)] [] (RepS FC Y σ) (f_X10_within a1 a2 a3 σ)
  rw [f_X10_within]
  refine q_iload_n C 0 dX10_within_0 rfl ?_
  refine q_iload_n C 1 dX10_within_1 rfl ?_
  refine q_icmp_lt C 14 dX10_within_2 rfl (fun _ => ?_) (fun _ => ?_)
  · refine q_iconst C (v := 0) dX10_within_14 (by decide) ?_
    exact q_iretz C (by decide) rfl dX10_within_15
  refine q_iload_n C 0 dX10_within_5 rfl ?_
  refine q_iload_n C 2 dX10_within_6 rfl ?_
  refine q_icmp_gt C 14 dX10_within_7 rfl (fun _ => ?_) (fun _ => ?_)
  · refine q_iconst C (v := 0) dX10_within_14 (by decide) ?_
    exact q_iretz C (by decide) rfl dX10_within_15
  refine q_iconst C (v := 1) dX10_within_10 (by decide) ?_
  refine q_goto C 15 dX10_within_11 rfl ?_
  exact q_iretz C (by decide) rfl dX10_within_15
