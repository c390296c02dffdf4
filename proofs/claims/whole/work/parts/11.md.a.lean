def f_X11_finding (a1 : Int32) (σ : St) : Option (Int32 × St) := (if inb ((-1000000000) - a1) (shM 4 - 100) = true then (if inb ((-1000000000) - a1) (shM 4 - 100) = true then (Bst (up σ 4 ((-1000000000) - a1).toNatClampNeg ((σ 4 ((-1000000000) - a1).toNatClampNeg) + 1)) fun s2 => (some (a1, s2))) else none) else none)
theorem w_X11_finding {Y : YT} (a1 : Int32)   (σ : St) : CtE (emI FM Y) FM Y yX11_finding cX11_finding 2 (some .int) 0 [Rf Y 0, .int a1] σ (f_X11_finding a1 σ) := by
  refine Ct.ofG (by decide) (Nat.le_of_ble_eq_true rfl) (fun X C0 => ?_)
  have C : Cx FM Y X cX11_finding 2 RX11 (some .int) 0 (0, 0) := C0
  show G FM Y X 2 (emI FM Y) (0, 0) (0, 0) 0 [(0, Rf Y 0), (1, .int a1)] [] (RepS FM Y σ) (f_X11_finding a1 σ)
  rw [f_X11_finding]
  refine q_aload_n C 0 dX11_finding_0 rfl ?_
  refine gf_X11_19 C skM_0 dX11_finding_1 ?_
  refine q_ldc C (v := (-1000000000)) (TB_of (List.mem_of_getElem? (i := 1124) (by decide +kernel)) rfl) dX11_finding_4 ?_
  refine q_iload_n C 1 dX11_finding_6 rfl ?_
  refine q_isub C dX11_finding_7 ?_
  refine q_dup2 C dX11_finding_8 rfl rfl ?_
  refine q_aldS C saM_4 (ltMa saM_4) dX11_finding_9 (fun _ => ?_)
  refine q_iconst C (v := 1) dX11_finding_10 (by decide) ?_
  refine q_iadd C dX11_finding_11 ?_
  refine q_astS C saM_4 (ltMa saM_4) dX11_finding_12 (fun _ s2 => ?_)
  refine q_iload_n C 1 dX11_finding_13 rfl ?_
  exact q_ireti C rfl dX11_finding_14
def f_X11_within (a1 : Int32) (a2 : Int32) (a3 : Int32) (σ : St) : Option (Int32 × St) := (if a1 < a2 then (some (0, σ)) else (if a3 < a1 then (some (0, σ)) else (some (1, σ))))
theorem w_X11_within {Y : YT} (a1 : Int32) (a2 : Int32) (a3 : Int32)   (σ : St) : CtE (emI FM Y) FM Y yX11_within cX11_within 3 (some .boolean) 0 [.int a1, .int a2, .int a3] σ (f_X11_within a1 a2 a3 σ) := by
  refine Ct.ofG (by decide) (Nat.le_of_ble_eq_true rfl) (fun X C0 => ?_)
  have C : Cx FM Y X cX11_within 3 RX11 (some .boolean) 0 (0, 0) := C0
  show G FM Y X 3 (emI FM Y) (0, 0) (0, 0) 0 [(0, .int a1), (1, .int a2), (2, .int a3)] [] (RepS FM Y σ) (f_X11_within a1 a2 a3 σ)
  rw [f_X11_within]
  refine q_iload_n C 0 dX11_within_0 rfl ?_
  refine q_iload_n C 1 dX11_within_1 rfl ?_
  refine q_icmp_lt C 14 dX11_within_2 rfl (fun _ => ?_) (fun _ => ?_)
  · refine q_iconst C (v := 0) dX11_within_14 (by decide) ?_
    exact q_iretz C (by decide) rfl dX11_within_15
  refine q_iload_n C 0 dX11_within_5 rfl ?_
  refine q_iload_n C 2 dX11_within_6 rfl ?_
  refine q_icmp_gt C 14 dX11_within_7 rfl (fun _ => ?_) (fun _ => ?_)
  · refine q_iconst C (v := 0) dX11_within_14 (by decide) ?_
    exact q_iretz C (by decide) rfl dX11_within_15
  refine q_iconst C (v := 1) dX11_within_10 (by decide) ?_
  refine q_goto C 15 dX11_within_11 rfl ?_
  exact q_iretz C (by decide) rfl dX11_within_15
def f_X11_held (a1 : Int32) (a2 : Int32) (a3 : Int32) (σ : St) : Option (Int32 × St) := (some ((imax a2 (imin a3 a1)), σ))
theorem w_X11_held {Y : YT} (a1 : Int32) (a2 : Int32) (a3 : Int32)   (σ : St) : CtE (emI FM Y) FM Y yX11_held cX11_held 3 (some .int) 1 [.int a1, .int a2, .int a3] σ (f_X11_held a1 a2 a3 σ) := by
  refine Ct.ofG (by decide) (Nat.le_of_ble_eq_true rfl) (fun X C0 => ?_)
  have C : Cx FM Y X cX11_held 3 RX11 (some .int) 1 (0, 0) := C0
  show G FM Y X 3 (emI FM Y) (0, 0) (0, 0) 0 [(0, .int a1), (1, .int a2), (2, .int a3)] [] (RepS FM Y σ) (f_X11_held a1 a2 a3 σ)
  rw [f_X11_held]
  refine q_iload_n C 1 dX11_held_0 rfl ?_
  refine q_iload_n C 2 dX11_held_1 rfl ?_
  refine q_iload_n C 0 dX11_held_2 rfl ?_
  refine q_mmin C (idx := 57) (TB_of (List.mem_of_getElem? (i := 1214) (by decide +kernel)) rfl) (Nat.le_of_ble_eq_true rfl) (Nat.le_of_ble_eq_true rfl) dX11_held_3 ?_
  refine q_mmax C (idx := 63) (TB_of (List.mem_of_getElem? (i := 1215) (by decide +kernel)) rfl) (Nat.le_of_ble_eq_true rfl) (Nat.le_of_ble_eq_true rfl) dX11_held_6 ?_
  exact q_ireti C rfl dX11_held_9
def f_X11_copy_L2 : Nat → Nat → Nat → Int32 → St → Option (St)
  | 0, _, _, _, _ => none
  | n + 1, v0, v1, v2, σ => (if 273 ≤ v2 then (some σ) else (if inb v2 (shM v0 - 100) = true then (if inb v2 (shM v1 - 100) = true then (Bst (up σ v1 v2.toNatClampNeg (σ v0 v2.toNatClampNeg)) fun s2 => ((f_X11_copy_L2 n) v0 v1 (v2 + 1) s2)) else none) else none))
theorem w_X11_copy_L2 {Y : YT} {X : XT} (C : Cx FM Y X cX11_copy 3 RX11 none 0 (0, 0)) : ∀ (n : Nat), ∀ (v0 : Nat), ∀ (v1 : Nat), ∀ (v2 : Int32), 100 ≤ shM v0 → 100 ≤ shM v1 → ∀ (σ : St), G FM Y X 3 (emV FM Y) (0, 0) (0, 0) 2 [(0, Rf Y v0), (1, Rf Y v1), (2, .int v2)] [] (RepS FM Y σ) (f_X11_copy_L2 n v0 v1 v2 σ) := by
  intro n
  induction n with
  | zero =>
    intro v0 v1 v2 hv0 hv1 σ
    rw [f_X11_copy_L2]; exact G.none
  | succ n ih =>
    intro v0 v1 v2 hv0 hv1 σ
    rw [f_X11_copy_L2]
    refine q_iload_n C 2 dX11_copy_2 rfl ?_
    refine q_sipush C (v := 273) dX11_copy_3 (by decide) ?_
    refine q_icmp_ge C 21 dX11_copy_6 rfl (fun _ => ?_) (fun _ => ?_)
    · exact q_vret C rfl dX11_copy_21
    refine q_aload_n C 1 dX11_copy_9 rfl ?_
    refine q_iload_n C 2 dX11_copy_10 rfl ?_
    refine q_aload_n C 0 dX11_copy_11 rfl ?_
    refine q_iload_n C 2 dX11_copy_12 rfl ?_
    refine q_aldS C hv0 (ltMa hv0) dX11_copy_13 (fun _ => ?_)
    refine q_astS C hv1 (ltMa hv1) dX11_copy_14 (fun _ s2 => ?_)
    refine q_iinc C 2 [(2, .int (v2 + 1)), (0, Rf Y v0), (1, Rf Y v1)] dX11_copy_15 rfl rfl rfl rfl ?_
    refine q_goto C 2 dX11_copy_18 rfl ?_
    refine G.sub [1, 2, 0] (lv' := [(0, Rf Y v0), (1, Rf Y v1), (2, .int (v2 + 1))]) rfl ?_
    exact ih v0 v1 (v2 + 1) hv0 hv1 s2
def f_X11_copy (a1 : Nat) (a2 : Nat) (σ : St) : Option (St) := (f_X11_copy_L2 400 a1 a2 0 σ)
theorem w_X11_copy {Y : YT} (a1 : Nat) (a2 : Nat)  (ha1 : 100 ≤ shM a1) (ha2 : 100 ≤ shM a2) (σ : St) : CtE (emV FM Y) FM Y yX11_copy cX11_copy 3 none 0 [Rf Y a1, Rf Y a2] σ (f_X11_copy a1 a2 σ) := by
  refine Ct.ofG (by decide) (Nat.le_of_ble_eq_true rfl) (fun X C0 => ?_)
  have C : Cx FM Y X cX11_copy 3 RX11 none 0 (0, 0) := C0
  show G FM Y X 3 (emV FM Y) (0, 0) (0, 0) 0 [(0, Rf Y a1), (1, Rf Y a2)] [] (RepS FM Y σ) (f_X11_copy a1 a2 σ)
  rw [f_X11_copy]
  refine q_iconst C (v := 0) dX11_copy_0 (by decide) ?_
  refine q_istore_n C [(2, .int 0), (0, Rf Y a1), (1, Rf Y a2)] dX11_copy_1 rfl rfl ?_
  refine G.sub [1, 2, 0] (lv' := [(0, Rf Y a1), (1, Rf Y a2), (2, .int 0)]) rfl ?_
  exact w_X11_copy_L2 C 400 a1 a2 0 ha1 ha2 σ
def f_X11_turn (a1 : Int32) (a2 : Int32) (σ : St) : Option (Int32 × St) := (if inb a1 (shM 1 - 100) = true then (if inb a1 (shM 1 - 100) = true then (Bst (up σ 1 a1.toNatClampNeg a2) fun s2 => (some ((σ 1 a1.toNatClampNeg), s2))) else none) else none)
theorem w_X11_turn {Y : YT} (a1 : Int32) (a2 : Int32)   (σ : St) : CtE (emI FM Y) FM Y yX11_turn cX11_turn 4 (some .int) 0 [Rf Y 0, .int a1, .int a2] σ (f_X11_turn a1 a2 σ) := by
  refine Ct.ofG (by decide) (Nat.le_of_ble_eq_true rfl) (fun X C0 => ?_)
  have C : Cx FM Y X cX11_turn 4 RX11 (some .int) 0 (0, 0) := C0
  show G FM Y X 4 (emI FM Y) (0, 0) (0, 0) 0 [(0, Rf Y 0), (1, .int a1), (2, .int a2)] [] (RepS FM Y σ) (f_X11_turn a1 a2 σ)
  rw [f_X11_turn]
  refine q_aload_n C 0 dX11_turn_0 rfl ?_
  refine gf_X11_9 C skM_0 dX11_turn_1 ?_
  refine q_iload_n C 1 dX11_turn_4 rfl ?_
  refine q_aldS C saM_1 (ltMa saM_1) dX11_turn_5 (fun _ => ?_)
  refine q_istore_n C [(3, .int (σ 1 a1.toNatClampNeg)), (0, Rf Y 0), (1, .int a1), (2, .int a2)] dX11_turn_6 rfl rfl ?_
  refine q_aload_n C 1 dX11_turn_7 rfl ?_
  refine gf_X11_9 C skM_0 dX11_turn_8 ?_
  refine q_iload_n C 2 dX11_turn_11 rfl ?_
  refine q_iload_n C 3 dX11_turn_12 rfl ?_
  refine q_astS C saM_1 (ltMa saM_1) dX11_turn_13 (fun _ s2 => ?_)
  refine q_iload_n C 0 dX11_turn_14 rfl ?_
  exact q_ireti C rfl dX11_turn_15
theorem lk_X11_66 : LkS RX11 66 yX11_copy cX11_copy 3 none 2 := ⟨TB_p [1398, 1399, 81, 1400] (by decide +kernel) (by decide +kernel), by decide +kernel, by decide +kernel, by decide +kernel⟩
def f_X11_putBack (a1 : Int32) (σ : St) : Option (Int32 × St) := (Option.bind (f_X11_copy 3 1 σ) fun r1 => (some (a1, r1)))
theorem w_X11_putBack {Y : YT} (a1 : Int32)   (σ : St) : CtE (emI FM Y) FM Y yX11_putBack cX11_putBack 2 (some .int) 1 [Rf Y 0, .int a1] σ (f_X11_putBack a1 σ) := by
  refine Ct.ofG (by decide) (Nat.le_of_ble_eq_true rfl) (fun X C0 => ?_)
  have C : Cx FM Y X cX11_putBack 2 RX11 (some .int) 1 (0, 0) := C0
  show G FM Y X 2 (emI FM Y) (0, 0) (0, 0) 0 [(0, Rf Y 0), (1, .int a1)] [] (RepS FM Y σ) (f_X11_putBack a1 σ)
  rw [f_X11_putBack]
  refine q_aload_n C 0 dX11_putBack_0 rfl ?_
  refine gf_X11_16 C skM_0 dX11_putBack_1 ?_
  refine q_aload_n C 0 dX11_putBack_4 rfl ?_
  refine gf_X11_9 C skM_0 dX11_putBack_5 ?_
  refine q_cSV C lk_X11_66 (w_X11_copy (Y := Y) 3 1 saM_3 saM_1 σ) (Nat.le_of_ble_eq_true rfl) rfl (rest := []) rfl rfl (Nat.le_of_ble_eq_true rfl) dX11_putBack_8 (fun r1 => ?_)
  refine q_iload_n C 1 dX11_putBack_11 rfl ?_
  exact q_ireti C rfl dX11_putBack_12
theorem lk_X11_70 : LkS RX11 70 yX11_within cX11_within 3 (some .boolean) 3 := ⟨TB_p [1116, 1117, 81, 1118] (by decide +kernel) (by decide +kernel), by decide +kernel, by decide +kernel, by decide +kernel⟩
theorem lk_X11_75 : LkV RX11 75 yX11_finding cX11_finding 2 (some .int) 1 := ⟨TB_p [1120, 1122, 15, 81, 1123] (by decide +kernel) (by decide +kernel), by decide +kernel, by decide +kernel, by decide +kernel⟩
def f_X11_feed_L41 : Nat → Int64 → Int32 → Int32 → St → Option (Int32 × St)
  | 0, _, _, _, _ => none
  | n + 1, v1, v3, v4, σ => (if v3 ≤ v4 then (some ((σ 1 7), σ)) else (if inb (99 + (σ 1 7)) (shM 1 - 100) = true then (Bst (up σ 1 (99 + (σ 1 7)).toNatClampNeg (Int64.toInt32 ((v1 >>> (Int32.toInt64 (8 * v4) &&& 63)) &&& 255))) fun s7 => (Bst (up s7 1 7 ((s7 1 7) + 1)) fun s9 => ((f_X11_feed_L41 n) v1 v3 (v4 + 1) s9))) else none))
theorem w_X11_feed_L41 {Y : YT} {X : XT} (C : Cx FM Y X cX11_feed 5 RX11 (some .int) 1 (0, 0)) : ∀ (n : Nat), ∀ (v1 : Int64), ∀ (v3 : Int32), ∀ (v4 : Int32), ∀ (σ : St), G FM Y X 5 (emI FM Y) (0, 0) (0, 0) 41 [(0, Rf Y 0), (1, .long v1), (3, .int v3), (4, .int v4)] [] (RepS FM Y σ) (f_X11_feed_L41 n v1 v3 v4 σ) := by
  intro n
  induction n with
  | zero =>
    intro v1 v3 v4 σ
    rw [f_X11_feed_L41]; exact G.none
  | succ n ih =>
    intro v1 v3 v4 σ
    rw [f_X11_feed_L41]
    refine q_iload C 3 dX11_feed_41 rfl ?_
    refine q_iload_n C 2 dX11_feed_43 rfl ?_
    refine q_icmp_ge C 91 dX11_feed_44 rfl (fun _ => ?_) (fun _ => ?_)
    · refine q_aload_n C 0 dX11_feed_91 rfl ?_
      refine gf_X11_9 C skM_0 dX11_feed_92 ?_
      refine q_bipush C (v := 7) dX11_feed_95 (by decide) ?_
      refine q_aldK C (j := 7) saM_1 (ltMa saM_1) (by decide +kernel) (by decide +kernel) dX11_feed_97 ?_
      exact q_ireti C rfl dX11_feed_98
    refine q_aload_n C 0 dX11_feed_47 rfl ?_
    refine gf_X11_9 C skM_0 dX11_feed_48 ?_
    refine q_bipush C (v := 99) dX11_feed_51 (by decide) ?_
    refine q_aload_n C 0 dX11_feed_53 rfl ?_
    refine gf_X11_9 C skM_0 dX11_feed_54 ?_
    refine q_bipush C (v := 7) dX11_feed_57 (by decide) ?_
    refine q_aldK C (j := 7) saM_1 (ltMa saM_1) (by decide +kernel) (by decide +kernel) dX11_feed_59 ?_
    refine q_iadd C dX11_feed_60 ?_
    refine q_lload_n C 1 dX11_feed_61 rfl ?_
    refine q_bipush C (v := 8) dX11_feed_62 (by decide) ?_
    refine q_iload C 3 dX11_feed_64 rfl ?_
    refine q_imul C dX11_feed_66 ?_
    refine q_lshr C dX11_feed_67 ?_
    refine q_ldc2 C (v := 255) (TB_of (List.mem_of_getElem? (i := 1126) (by decide +kernel)) rfl) dX11_feed_68 ?_
    refine q_land C dX11_feed_71 ?_
    refine q_l2i C dX11_feed_72 ?_
    refine q_astS C saM_1 (ltMa saM_1) dX11_feed_73 (fun _ s7 => ?_)
    refine q_aload_n C 0 dX11_feed_74 rfl ?_
    refine gf_X11_9 C skM_0 dX11_feed_75 ?_
    refine q_bipush C (v := 7) dX11_feed_78 (by decide) ?_
    refine q_dup2 C dX11_feed_80 rfl rfl ?_
    refine q_aldK C (j := 7) saM_1 (ltMa saM_1) (by decide +kernel) (by decide +kernel) dX11_feed_81 ?_
    refine q_iconst C (v := 1) dX11_feed_82 (by decide) ?_
    refine q_iadd C dX11_feed_83 ?_
    refine q_astK C (j := 7) saM_1 (ltMa saM_1) (by decide +kernel) (by decide +kernel) dX11_feed_84 (fun s9 => ?_)
    refine q_iinc C 3 [(4, .int (v4 + 1)), (0, Rf Y 0), (1, .long v1), (3, .int v3)] dX11_feed_85 rfl rfl rfl rfl ?_
    refine q_goto C 41 dX11_feed_88 rfl ?_
    refine G.sub [1, 2, 3, 0] (lv' := [(0, Rf Y 0), (1, .long v1), (3, .int v3), (4, .int (v4 + 1))]) rfl ?_
    exact ih v1 v3 (v4 + 1) s9
def f_X11_feed (a1 : Int64) (a2 : Int32) (σ : St) : Option (Int32 × St) := (Option.bind (f_X11_within a2 1 8 σ) fun r1 => (if r1.1 = 0 then (Option.bind (f_X11_finding (-1000000001) r1.2) fun r4 => (some (r4.1, r4.2))) else (if ((r1.2 1 7) + a2) ≤ 50 then (f_X11_feed_L41 400 a1 a2 0 r1.2) else (Option.bind (f_X11_finding (-1000000004) r1.2) fun r3 => (some (r3.1, r3.2))))))
theorem w_X11_feed {Y : YT} (a1 : Int64) (a2 : Int32)   (σ : St) : CtE (emI FM Y) FM Y yX11_feed cX11_feed 5 (some .int) 1 [Rf Y 0, .long a1, .int a2] σ (f_X11_feed a1 a2 σ) := by
  refine Ct.ofG (by decide) (Nat.le_of_ble_eq_true rfl) (fun X C0 => ?_)
  have C : Cx FM Y X cX11_feed 5 RX11 (some .int) 1 (0, 0) := C0
  show G FM Y X 5 (emI FM Y) (0, 0) (0, 0) 0 [(0, Rf Y 0), (1, .long a1), (3, .int a2)] [] (RepS FM Y σ) (f_X11_feed a1 a2 σ)
  rw [f_X11_feed]
  refine q_iload_n C 2 dX11_feed_0 rfl ?_
  refine q_iconst C (v := 1) dX11_feed_1 (by decide) ?_
  refine q_bipush C (v := 8) dX11_feed_2 (by decide) ?_
  refine q_cSI C lk_X11_70 (w_X11_within (Y := Y) a2 1 8 σ) (Nat.le_of_ble_eq_true rfl) rfl (rest := []) rfl rfl (Nat.le_of_ble_eq_true rfl) dX11_feed_4 (fun r1 => ?_)
  refine q_if_ne C 17 dX11_feed_7 rfl (fun _ => ?_) (fun _ => ?_)
  · refine q_aload_n C 0 dX11_feed_17 rfl ?_
    refine gf_X11_9 C skM_0 dX11_feed_18 ?_
    refine q_bipush C (v := 7) dX11_feed_21 (by decide) ?_
    refine q_aldK C (j := 7) saM_1 (ltMa saM_1) (by decide +kernel) (by decide +kernel) dX11_feed_23 ?_
    refine q_iload_n C 2 dX11_feed_24 rfl ?_
    refine q_iadd C dX11_feed_25 ?_
    refine q_bipush C (v := 50) dX11_feed_26 (by decide) ?_
    refine q_icmp_le C 38 dX11_feed_28 rfl (fun _ => ?_) (fun _ => ?_)
    · refine q_iconst C (v := 0) dX11_feed_38 (by decide) ?_
      refine q_istore C [(4, .int 0), (0, Rf Y 0), (1, .long a1), (3, .int a2)] dX11_feed_39 rfl rfl ?_
      refine G.sub [1, 2, 3, 0] (lv' := [(0, Rf Y 0), (1, .long a1), (3, .int a2), (4, .int 0)]) rfl ?_
      exact w_X11_feed_L41 C 400 a1 a2 0 r1.2
    refine q_aload_n C 0 dX11_feed_31 rfl ?_
    refine q_ldc C (v := (-1000000004)) (TB_of (List.mem_of_getElem? (i := 1125) (by decide +kernel)) rfl) dX11_feed_32 ?_
    refine q_cVI C lk_X11_75 (w_X11_finding (Y := Y) (-1000000004) r1.2) (Nat.le_of_ble_eq_true rfl) rfl skM_0 (ltM skM_0 rfl) recv_11 (rest := []) rfl rfl (Nat.le_of_ble_eq_true rfl) dX11_feed_34 (fun r3 => ?_)
    exact q_ireti C rfl dX11_feed_37
  refine q_aload_n C 0 dX11_feed_10 rfl ?_
  refine q_ldc C (v := (-1000000001)) (TB_of (List.mem_of_getElem? (i := 1119) (by decide +kernel)) rfl) dX11_feed_11 ?_
  refine q_cVI C lk_X11_75 (w_X11_finding (Y := Y) (-1000000001) r1.2) (Nat.le_of_ble_eq_true rfl) rfl skM_0 (ltM skM_0 rfl) recv_11 (rest := []) rfl rfl (Nat.le_of_ble_eq_true rfl) dX11_feed_13 (fun r4 => ?_)
  exact q_ireti C rfl dX11_feed_16
def f_X11_here  (σ : St) : Option (Int32 × St) := (if (σ 0 9) = 0 then (if (σ 1 7) ≤ (σ 0 6) then (some ((-1), σ)) else (if inb (99 + (σ 0 6)) (shM 1 - 100) = true then (some ((σ 1 (99 + (σ 0 6)).toNatClampNeg), σ)) else none)) else (some ((-1), σ)))
theorem w_X11_here {Y : YT}    (σ : St) : CtE (emI FM Y) FM Y yX11_here cX11_here 1 (some .int) 0 [Rf Y 0] σ (f_X11_here σ) := by
  refine Ct.ofG (by decide) (Nat.le_of_ble_eq_true rfl) (fun X C0 => ?_)
  have C : Cx FM Y X cX11_here 1 RX11 (some .int) 0 (0, 0) := C0
  show G FM Y X 1 (emI FM Y) (0, 0) (0, 0) 0 [(0, Rf Y 0)] [] (RepS FM Y σ) (f_X11_here σ)
  rw [f_X11_here]
  refine q_aload_n C 0 dX11_here_0 rfl ?_
  refine gf_X11_82 C skM_0 dX11_here_1 ?_
  refine q_if_ne C 36 dX11_here_4 rfl (fun _ => ?_) (fun _ => ?_)
  · refine q_iconst C (v := (-1)) dX11_here_36 (by decide) ?_
    exact q_ireti C rfl dX11_here_37
  refine q_aload_n C 0 dX11_here_7 rfl ?_
  refine gf_X11_86 C skM_0 dX11_here_8 ?_
  refine q_aload_n C 0 dX11_here_11 rfl ?_
  refine gf_X11_9 C skM_0 dX11_here_12 ?_
  refine q_bipush C (v := 7) dX11_here_15 (by decide) ?_
  refine q_aldK C (j := 7) saM_1 (ltMa saM_1) (by decide +kernel) (by decide +kernel) dX11_here_17 ?_
  refine q_icmp_ge C 36 dX11_here_18 rfl (fun _ => ?_) (fun _ => ?_)
  · refine q_iconst C (v := (-1)) dX11_here_36 (by decide) ?_
    exact q_ireti C rfl dX11_here_37
  refine q_aload_n C 0 dX11_here_21 rfl ?_
  refine gf_X11_9 C skM_0 dX11_here_22 ?_
  refine q_bipush C (v := 99) dX11_here_25 (by decide) ?_
  refine q_aload_n C 0 dX11_here_27 rfl ?_
  refine gf_X11_86 C skM_0 dX11_here_28 ?_
  refine q_iadd C dX11_here_31 ?_
  refine q_aldS C saM_1 (ltMa saM_1) dX11_here_32 (fun _ => ?_)
  refine q_goto C 37 dX11_here_33 rfl ?_
  exact q_ireti C rfl dX11_here_37
theorem lk_X11_90 : LkV RX11 90 yX11_here cX11_here 1 (some .int) 0 := ⟨TB_p [1155, 1157, 22, 81, 1158] (by decide +kernel) (by decide +kernel), by decide +kernel, by decide +kernel, by decide +kernel⟩
def f_X11_takes_L13 (w0 : Int32) (σ : St) : Option (Int32 × St) := (if w0 = 0 then (Bst (up σ 0 6 ((σ 0 6) + 0)) fun s2 => (if w0 = 0 ∨ w0 = 1 then (some (w0, s2)) else none)) else (Bst (up σ 0 6 ((σ 0 6) + 1)) fun s3 => (if w0 = 0 ∨ w0 = 1 then (some (w0, s3)) else none)))
theorem w_X11_takes_L13 {Y : YT} {X : XT} (C : Cx FM Y X cX11_takes 3 RX11 (some .boolean) 1 (0, 0)) : ∀ (w0 : Int32), ∀ (σ : St), G FM Y X 3 (emI FM Y) (0, 0) (0, 0) 13 [(0, Rf Y 0)] [.int w0] (RepS FM Y σ) (f_X11_takes_L13 w0 σ) := by
  intro w0 σ
  rw [f_X11_takes_L13]
  refine q_istore_n C [(2, .int w0), (0, Rf Y 0)] dX11_takes_13 rfl rfl ?_
  refine q_aload_n C 1 dX11_takes_14 rfl ?_
  refine q_dup C dX11_takes_15 rfl ?_
  refine gf_X11_86 C skM_0 dX11_takes_16 ?_
  refine q_iload_n C 0 dX11_takes_19 rfl ?_
  refine q_if_eq C 27 dX11_takes_20 rfl (fun _ => ?_) (fun _ => ?_)
  · refine q_iconst C (v := 0) dX11_takes_27 (by decide) ?_
    refine q_iadd C dX11_takes_28 ?_
    refine pf_X11_86 C skM_0 dX11_takes_29 (fun s2 => ?_)
    refine q_iload_n C 0 dX11_takes_32 rfl ?_
    exact G.ite (fun h => q_iretz C h rfl dX11_takes_33) (fun _ => G.none)
  refine q_iconst C (v := 1) dX11_takes_23 (by decide) ?_
  refine q_goto C 28 dX11_takes_24 rfl ?_
  refine q_iadd C dX11_takes_28 ?_
  refine pf_X11_86 C skM_0 dX11_takes_29 (fun s3 => ?_)
  refine q_iload_n C 0 dX11_takes_32 rfl ?_
  exact G.ite (fun h => q_iretz C h rfl dX11_takes_33) (fun _ => G.none)
def f_X11_takes (a1 : Int32) (σ : St) : Option (Int32 × St) := (Option.bind (f_X11_here σ) fun r1 => (if r1.1 = a1 then (f_X11_takes_L13 1 r1.2) else (f_X11_takes_L13 0 r1.2)))
theorem w_X11_takes {Y : YT} (a1 : Int32)   (σ : St) : CtE (emI FM Y) FM Y yX11_takes cX11_takes 3 (some .boolean) 1 [Rf Y 0, .int a1] σ (f_X11_takes a1 σ) := by
  refine Ct.ofG (by decide) (Nat.le_of_ble_eq_true rfl) (fun X C0 => ?_)
  have C : Cx FM Y X cX11_takes 3 RX11 (some .boolean) 1 (0, 0) := C0
  show G FM Y X 3 (emI FM Y) (0, 0) (0, 0) 0 [(0, Rf Y 0), (1, .int a1)] [] (RepS FM Y σ) (f_X11_takes a1 σ)
  rw [f_X11_takes]
  refine q_aload_n C 0 dX11_takes_0 rfl ?_
  refine q_cVI C lk_X11_90 (w_X11_here (Y := Y) σ) (Nat.le_of_ble_eq_true rfl) rfl skM_0 (ltM skM_0 rfl) recv_11 (rest := []) rfl rfl (Nat.le_of_ble_eq_true rfl) dX11_takes_1 (fun r1 => ?_)
  refine q_iload_n C 1 dX11_takes_4 rfl ?_
  refine q_icmp_ne C 12 dX11_takes_5 rfl (fun _ => ?_) (fun _ => ?_)
  · refine q_iconst C (v := 0) dX11_takes_12 (by decide) ?_
    refine G.sub [0] (lv' := [(0, Rf Y 0)]) rfl ?_
    exact w_X11_takes_L13 C 0 r1.2
  refine q_iconst C (v := 1) dX11_takes_8 (by decide) ?_
  refine q_goto C 13 dX11_takes_9 rfl ?_
  refine G.sub [0] (lv' := [(0, Rf Y 0)]) rfl ?_
  exact w_X11_takes_L13 C 1 r1.2
def f_X11_codes (a1 : Int32) (σ : St) : Option (St) := (if (σ 0 9) = 0 then (if inb (σ 0 11) (shM 6 - 100) = true then (Bst (up σ 6 (σ 0 11).toNatClampNeg a1) fun s1 => (Bst (up s1 0 11 ((s1 0 11) + 1)) fun s2 => (some s2))) else none) else (some σ))
theorem w_X11_codes {Y : YT} (a1 : Int32)   (σ : St) : CtE (emV FM Y) FM Y yX11_codes cX11_codes 2 none 0 [Rf Y 0, .int a1] σ (f_X11_codes a1 σ) := by
  refine Ct.ofG (by decide) (Nat.le_of_ble_eq_true rfl) (fun X C0 => ?_)
  have C : Cx FM Y X cX11_codes 2 RX11 none 0 (0, 0) := C0
  show G FM Y X 2 (emV FM Y) (0, 0) (0, 0) 0 [(0, Rf Y 0), (1, .int a1)] [] (RepS FM Y σ) (f_X11_codes a1 σ)
  rw [f_X11_codes]
  refine q_aload_n C 0 dX11_codes_0 rfl ?_
  refine gf_X11_82 C skM_0 dX11_codes_1 ?_
  refine q_if_ne C 27 dX11_codes_4 rfl (fun _ => ?_) (fun _ => ?_)
  · exact q_vret C rfl dX11_codes_27
  refine q_aload_n C 0 dX11_codes_7 rfl ?_
  refine gf_X11_32 C skM_0 dX11_codes_8 ?_
  refine q_aload_n C 0 dX11_codes_11 rfl ?_
  refine gf_X11_94 C skM_0 dX11_codes_12 ?_
  refine q_iload_n C 1 dX11_codes_15 rfl ?_
  refine q_astS C saM_6 (ltMa saM_6) dX11_codes_16 (fun _ s1 => ?_)
  refine q_aload_n C 0 dX11_codes_17 rfl ?_
  refine q_dup C dX11_codes_18 rfl ?_
  refine gf_X11_94 C skM_0 dX11_codes_19 ?_
  refine q_iconst C (v := 1) dX11_codes_22 (by decide) ?_
  refine q_iadd C dX11_codes_23 ?_
  refine pf_X11_94 C skM_0 dX11_codes_24 (fun s2 => ?_)
  exact q_vret C rfl dX11_codes_27
theorem lk_X11_123 : LkV RX11 123 yJ0_length_8abf5 cJ0_length_8abf5 1 (some .int) 0 := ⟨TB_p [1171, 698, 699, 82, 700] (by decide +kernel) (by decide +kernel), by decide +kernel, by decide +kernel, by decide +kernel⟩
theorem lk_X11_126 : LkV RX11 126 yJ0_charAt_5068e cJ0_charAt_5068e 2 (some .char) 1 := ⟨TB_p [1172, 1173, 1174, 82, 1175] (by decide +kernel) (by decide +kernel), by decide +kernel, by decide +kernel, by decide +kernel⟩
def f_X11_nameOf_L4 : Nat → Int32 → Int32 → Int32 → St → Option (Int32 × St)
  | 0, _, _, _, _ => none
  | n + 1, v1, v2, v3, σ => (if inb (σ 0 8) 2 = true then (if (nI (lenS.getD ((σ 0 8).toNatClampNeg + 1) 0)) ≤ v3 then (some (v2, σ)) else (if inb (σ 0 8) 2 = true then (if inb v3 (lenS.getD ((σ 0 8).toNatClampNeg + 1) 0) = true then (if (schr ((σ 0 8).toNatClampNeg + 1) v3) = v1 then ((f_X11_nameOf_L4 n) v1 v3 (v3 + 1) σ) else ((f_X11_nameOf_L4 n) v1 v2 (v3 + 1) σ)) else none) else none)) else none)
theorem w_X11_nameOf_L4 {Y : YT} {X : XT} (C : Cx FM Y X cX11_nameOf 4 RX11 (some .int) 6 (0, 0)) : ∀ (n : Nat), ∀ (v1 : Int32), ∀ (v2 : Int32), ∀ (v3 : Int32), ∀ (σ : St), G FM Y X 4 (emI FM Y) (0, 0) (0, 0) 4 [(0, Rf Y 0), (1, .int v1), (2, .int v2), (3, .int v3)] [] (RepS FM Y σ) (f_X11_nameOf_L4 n v1 v2 v3 σ) := by
  intro n
  induction n with
  | zero =>
    intro v1 v2 v3 σ
    rw [f_X11_nameOf_L4]; exact G.none
  | succ n ih =>
    intro v1 v2 v3 σ
    rw [f_X11_nameOf_L4]
    refine q_iload_n C 3 dX11_nameOf_4 rfl ?_
    refine q_aload_n C 0 dX11_nameOf_5 rfl ?_
    refine gf_X11_28 C skM_0 dX11_nameOf_6 ?_
    refine q_aload_n C 0 dX11_nameOf_9 rfl ?_
    refine gf_X11_120 C skM_0 dX11_nameOf_10 ?_
    refine q_aald2 C skM_5 (ltM skM_5 rfl) dX11_nameOf_13 (fun h1 => ?_)
    refine q_slen C lk_X11_123 (two_lt h1) (Nat.le_of_ble_eq_true rfl) (Nat.le_of_ble_eq_true rfl) dX11_nameOf_14 ?_
    refine q_icmp_ge C 49 dX11_nameOf_17 rfl (fun _ => ?_) (fun _ => ?_)
    · refine q_iload_n C 2 dX11_nameOf_49 rfl ?_
      exact q_ireti C rfl dX11_nameOf_50
    refine q_aload_n C 0 dX11_nameOf_20 rfl ?_
    refine gf_X11_28 C skM_0 dX11_nameOf_21 ?_
    refine q_aload_n C 0 dX11_nameOf_24 rfl ?_
    refine gf_X11_120 C skM_0 dX11_nameOf_25 ?_
    refine q_aald2 C skM_5 (ltM skM_5 rfl) dX11_nameOf_28 (fun h2 => ?_)
    refine q_iload_n C 3 dX11_nameOf_29 rfl ?_
    refine G.ite (fun h3 => ?_) (fun _ => G.none)
    refine q_schr C lk_X11_126 (two_lt h2) h3 (Nat.le_of_ble_eq_true rfl) (Nat.le_of_ble_eq_true rfl) dX11_nameOf_30 ?_
    refine q_iload_n C 1 dX11_nameOf_33 rfl ?_
    refine q_icmp_ne C 41 dX11_nameOf_34 rfl (fun _ => ?_) (fun _ => ?_)
    · refine q_iload_n C 2 dX11_nameOf_41 rfl ?_
      refine q_istore_n C [(2, .int v2), (0, Rf Y 0), (1, .int v1), (3, .int v3)] dX11_nameOf_42 rfl rfl ?_
      refine q_iinc C 3 [(3, .int (v3 + 1)), (2, .int v2), (0, Rf Y 0), (1, .int v1)] dX11_nameOf_43 rfl rfl rfl rfl ?_
      refine q_goto C 4 dX11_nameOf_46 rfl ?_
      refine G.sub [2, 3, 1, 0] (lv' := [(0, Rf Y 0), (1, .int v1), (2, .int v2), (3, .int (v3 + 1))]) rfl ?_
      exact ih v1 v2 (v3 + 1) σ
    refine q_iload_n C 3 dX11_nameOf_37 rfl ?_
    refine q_goto C 42 dX11_nameOf_38 rfl ?_
    refine q_istore_n C [(2, .int v3), (0, Rf Y 0), (1, .int v1), (3, .int v3)] dX11_nameOf_42 rfl rfl ?_
    refine q_iinc C 3 [(3, .int (v3 + 1)), (2, .int v3), (0, Rf Y 0), (1, .int v1)] dX11_nameOf_43 rfl rfl rfl rfl ?_
    refine q_goto C 4 dX11_nameOf_46 rfl ?_
    refine G.sub [2, 3, 1, 0] (lv' := [(0, Rf Y 0), (1, .int v1), (2, .int v3), (3, .int (v3 + 1))]) rfl ?_
    exact ih v1 v3 (v3 + 1) σ
def f_X11_nameOf (a1 : Int32) (σ : St) : Option (Int32 × St) := (f_X11_nameOf_L4 400 a1 (-1) 0 σ)
theorem w_X11_nameOf {Y : YT} (a1 : Int32)   (σ : St) : CtE (emI FM Y) FM Y yX11_nameOf cX11_nameOf 4 (some .int) 6 [Rf Y 0, .int a1] σ (f_X11_nameOf a1 σ) := by
  refine Ct.ofG (by decide) (Nat.le_of_ble_eq_true rfl) (fun X C0 => ?_)
  have C : Cx FM Y X cX11_nameOf 4 RX11 (some .int) 6 (0, 0) := C0
  show G FM Y X 4 (emI FM Y) (0, 0) (0, 0) 0 [(0, Rf Y 0), (1, .int a1)] [] (RepS FM Y σ) (f_X11_nameOf a1 σ)
  rw [f_X11_nameOf]
  refine q_iconst C (v := (-1)) dX11_nameOf_0 (by decide) ?_
  refine q_istore_n C [(2, .int (-1)), (0, Rf Y 0), (1, .int a1)] dX11_nameOf_1 rfl rfl ?_
  refine q_iconst C (v := 0) dX11_nameOf_2 (by decide) ?_
  refine q_istore_n C [(3, .int 0), (2, .int (-1)), (0, Rf Y 0), (1, .int a1)] dX11_nameOf_3 rfl rfl ?_
  refine G.sub [2, 3, 1, 0] (lv' := [(0, Rf Y 0), (1, .int a1), (2, .int (-1)), (3, .int 0)]) rfl ?_
  exact w_X11_nameOf_L4 C 400 a1 (-1) 0 σ
abbrev FamT_X11 : Type := (St → Option (St)) × (St → Option (St)) × (St → Option (St)) × (St → Option (St)) × (St → Option (St)) × (St → Option (St))
def FamOK_X11 (Y : YT) (n : Nat) (q : FamT_X11) : Prop := (∀ (σ : St), CtE (emV FM Y) FM Y yX11_both cX11_both 1 none (7 + n) [Rf Y 0] σ (q.1 σ)) ∧ (∀ (σ : St), CtE (emV FM Y) FM Y yX11_compared cX11_compared 2 none (7 + n) [Rf Y 0] σ (q.2.1 σ)) ∧ (∀ (σ : St), CtE (emV FM Y) FM Y yX11_either cX11_either 1 none (7 + n) [Rf Y 0] σ (q.2.2.1 σ)) ∧ (∀ (σ : St), CtE (emV FM Y) FM Y yX11_one cX11_one 4 none (7 + n) [Rf Y 0] σ (q.2.2.2.1 σ)) ∧ (∀ (σ : St), CtE (emV FM Y) FM Y yX11_product cX11_product 2 none (7 + n) [Rf Y 0] σ (q.2.2.2.2.1 σ)) ∧ (∀ (σ : St), CtE (emV FM Y) FM Y yX11_sum cX11_sum 2 none (7 + n) [Rf Y 0] σ (q.2.2.2.2.2 σ))
theorem lk_X11_108 : LkV RX11 108 yX11_compared cX11_compared 2 none 0 := ⟨TB_p [1139, 1141, 18, 81, 1142] (by decide +kernel) (by decide +kernel), by decide +kernel, by decide +kernel, by decide +kernel⟩
theorem lk_X11_100 : LkV RX11 100 yX11_takes cX11_takes 3 (some .boolean) 1 := ⟨TB_p [1163, 1165, 24, 81, 1166] (by decide +kernel) (by decide +kernel), by decide +kernel, by decide +kernel, by decide +kernel⟩
theorem lk_X11_104 : LkV RX11 104 yX11_codes cX11_codes 2 none 1 := ⟨TB_p [1159, 1161, 23, 81, 1162] (by decide +kernel) (by decide +kernel), by decide +kernel, by decide +kernel, by decide +kernel⟩
def f_X11_both_L4 (q : FamT_X11) : Nat → St → Option (St)
  | 0, _ => none
  | n + 1, σ => (Option.bind (f_X11_takes 38 σ) fun r2 => (if r2.1 = 0 then (some r2.2) else (Option.bind (q.2.1 r2.2) fun r3 => (Option.bind (f_X11_codes 20001 r3) fun r4 => ((f_X11_both_L4 q n) r4)))))
theorem w_X11_both_L4 {Y : YT} {X : XT} {nq : Nat} (C : Cx FM Y X cX11_both 1 RX11 none (7 + nq + 1) (0, 0)) (q : FamT_X11) (hq : FamOK_X11 Y nq q) : ∀ (n : Nat), ∀ (σ : St), G FM Y X 1 (emV FM Y) (0, 0) (0, 0) 4 [(0, Rf Y 0)] [] (RepS FM Y σ) (f_X11_both_L4 q n σ) := by
  intro n
  induction n with
  | zero =>
    intro σ
    rw [f_X11_both_L4]; exact G.none
  | succ n ih =>
    intro σ
    rw [f_X11_both_L4]
    refine q_aload_n C 0 dX11_both_4 rfl ?_
    refine q_bipush C (v := 38) dX11_both_5 (by decide) ?_
    refine q_cVI C lk_X11_100 (w_X11_takes (Y := Y) 38 σ) (by omega) rfl skM_0 (ltM skM_0 rfl) recv_11 (rest := []) rfl rfl (Nat.le_of_ble_eq_true rfl) dX11_both_7 (fun r2 => ?_)
    refine q_if_eq C 27 dX11_both_10 rfl (fun _ => ?_) (fun _ => ?_)
    · exact q_vret C rfl dX11_both_27
    refine q_aload_n C 0 dX11_both_13 rfl ?_
    refine q_cVV C lk_X11_108 (hq.2.1 r2.2) (Nat.le_refl _) rfl skM_0 (ltM skM_0 rfl) recv_11 (rest := []) rfl rfl (Nat.le_of_ble_eq_true rfl) dX11_both_14 (fun r3 => ?_)
    refine q_aload_n C 0 dX11_both_17 rfl ?_
    refine q_sipush C (v := 20001) dX11_both_18 (by decide) ?_
    refine q_cVV C lk_X11_104 (w_X11_codes (Y := Y) 20001 r3) (by omega) rfl skM_0 (ltM skM_0 rfl) recv_11 (rest := []) rfl rfl (Nat.le_of_ble_eq_true rfl) dX11_both_21 (fun r4 => ?_)
    refine q_goto C 4 dX11_both_24 rfl ?_
    exact ih r4
def f_X11_both (q : FamT_X11)  (σ : St) : Option (St) := (Option.bind (q.2.1 σ) fun r1 => (f_X11_both_L4 q 400 r1))
theorem w_X11_both {Y : YT} {nq : Nat} (q : FamT_X11) (hq : FamOK_X11 Y nq q)    (σ : St) : CtE (emV FM Y) FM Y yX11_both cX11_both 1 none (7 + nq + 1) [Rf Y 0] σ (f_X11_both q σ) := by
  refine Ct.ofG (by decide) (Nat.le_of_ble_eq_true rfl) (fun X C0 => ?_)
  have C : Cx FM Y X cX11_both 1 RX11 none (7 + nq + 1) (0, 0) := C0
  show G FM Y X 1 (emV FM Y) (0, 0) (0, 0) 0 [(0, Rf Y 0)] [] (RepS FM Y σ) (f_X11_both q σ)
  rw [f_X11_both]
  refine q_aload_n C 0 dX11_both_0 rfl ?_
  refine q_cVV C lk_X11_108 (hq.2.1 σ) (Nat.le_refl _) rfl skM_0 (ltM skM_0 rfl) recv_11 (rest := []) rfl rfl (Nat.le_of_ble_eq_true rfl) dX11_both_1 (fun r1 => ?_)
  exact w_X11_both_L4 C q hq 400 r1
theorem lk_X11_111 : LkV RX11 111 yX11_sum cX11_sum 2 none 0 := ⟨TB_p [1143, 1145, 19, 81, 1146] (by decide +kernel) (by decide +kernel), by decide +kernel, by decide +kernel, by decide +kernel⟩
def f_X11_compared (q : FamT_X11)  (σ : St) : Option (St) := (Option.bind (q.2.2.2.2.2 σ) fun r1 => (Option.bind (f_X11_takes 60 r1) fun r2 => (if r2.1 = 0 then (Option.bind (f_X11_takes 61 r2.2) fun r3 => (if r3.1 = 0 then (Option.bind (f_X11_takes 62 r3.2) fun r4 => (if r4.1 = 0 then (if (0 : Int32) ≤ 0 then (some r4.2) else (Option.bind (q.2.2.2.2.2 r4.2) fun r5 => (Option.bind (f_X11_codes 0 r5) fun r6 => (some r6)))) else (if (20004 : Int32) ≤ 0 then (some r4.2) else (Option.bind (q.2.2.2.2.2 r4.2) fun r7 => (Option.bind (f_X11_codes 20004 r7) fun r8 => (some r8)))))) else (if (20003 : Int32) ≤ 0 then (some r3.2) else (Option.bind (q.2.2.2.2.2 r3.2) fun r9 => (Option.bind (f_X11_codes 20003 r9) fun r10 => (some r10)))))) else (if (20002 : Int32) ≤ 0 then (some r2.2) else (Option.bind (q.2.2.2.2.2 r2.2) fun r11 => (Option.bind (f_X11_codes 20002 r11) fun r12 => (some r12)))))))
theorem w_X11_compared {Y : YT} {nq : Nat} (q : FamT_X11) (hq : FamOK_X11 Y nq q)    (σ : St) : CtE (emV FM Y) FM Y yX11_compared cX11_compared 2 none (7 + nq + 1) [Rf Y 0] σ (f_X11_compared q σ) := by
  refine Ct.ofG (by decide) (Nat.le_of_ble_eq_true rfl) (fun X C0 => ?_)
  have C : Cx FM Y X cX11_compared 2 RX11 none (7 + nq + 1) (0, 0) := C0
  show G FM Y X 2 (emV FM Y) (0, 0) (0, 0) 0 [(0, Rf Y 0)] [] (RepS FM Y σ) (f_X11_compared q σ)
  rw [f_X11_compared]
  refine q_aload_n C 0 dX11_compared_0 rfl ?_
  refine q_cVV C lk_X11_111 (hq.2.2.2.2.2 σ) (Nat.le_refl _) rfl skM_0 (ltM skM_0 rfl) recv_11 (rest := []) rfl rfl (Nat.le_of_ble_eq_true rfl) dX11_compared_1 (fun r1 => ?_)
  refine q_aload_n C 0 dX11_compared_4 rfl ?_
  refine q_bipush C (v := 60) dX11_compared_5 (by decide) ?_
  refine q_cVI C lk_X11_100 (w_X11_takes (Y := Y) 60 r1) (by omega) rfl skM_0 (ltM skM_0 rfl) recv_11 (rest := []) rfl rfl (Nat.le_of_ble_eq_true rfl) dX11_compared_7 (fun r2 => ?_)
  refine q_if_eq C 19 dX11_compared_10 rfl (fun _ => ?_) (fun _ => ?_)
  · refine q_aload_n C 0 dX11_compared_19 rfl ?_
    refine q_bipush C (v := 61) dX11_compared_20 (by decide) ?_
    refine q_cVI C lk_X11_100 (w_X11_takes (Y := Y) 61 r2.2) (by omega) rfl skM_0 (ltM skM_0 rfl) recv_11 (rest := []) rfl rfl (Nat.le_of_ble_eq_true rfl) dX11_compared_22 (fun r3 => ?_)
    refine q_if_eq C 34 dX11_compared_25 rfl (fun _ => ?_) (fun _ => ?_)
    · refine q_aload_n C 0 dX11_compared_34 rfl ?_
      refine q_bipush C (v := 62) dX11_compared_35 (by decide) ?_
      refine q_cVI C lk_X11_100 (w_X11_takes (Y := Y) 62 r3.2) (by omega) rfl skM_0 (ltM skM_0 rfl) recv_11 (rest := []) rfl rfl (Nat.le_of_ble_eq_true rfl) dX11_compared_37 (fun r4 => ?_)
      refine q_if_eq C 49 dX11_compared_40 rfl (fun _ => ?_) (fun _ => ?_)
      · refine q_iconst C (v := 0) dX11_compared_49 (by decide) ?_
        refine q_istore_n C [(1, .int 0), (0, Rf Y 0)] dX11_compared_50 rfl rfl ?_
        refine q_iload_n C 0 dX11_compared_51 rfl ?_
        refine q_if_le C 64 dX11_compared_52 rfl (fun _ => ?_) (fun _ => ?_)
        · exact q_vret C rfl dX11_compared_64
        refine q_aload_n C 1 dX11_compared_55 rfl ?_
        refine q_cVV C lk_X11_111 (hq.2.2.2.2.2 r4.2) (Nat.le_refl _) rfl skM_0 (ltM skM_0 rfl) recv_11 (rest := []) rfl rfl (Nat.le_of_ble_eq_true rfl) dX11_compared_56 (fun r5 => ?_)
        refine q_aload_n C 1 dX11_compared_59 rfl ?_
        refine q_iload_n C 0 dX11_compared_60 rfl ?_
        refine q_cVV C lk_X11_104 (w_X11_codes (Y := Y) 0 r5) (by omega) rfl skM_0 (ltM skM_0 rfl) recv_11 (rest := []) rfl rfl (Nat.le_of_ble_eq_true rfl) dX11_compared_61 (fun r6 => ?_)
        exact q_vret C rfl dX11_compared_64
      refine q_sipush C (v := 20004) dX11_compared_43 (by decide) ?_
      refine q_goto C 50 dX11_compared_46 rfl ?_
      refine q_istore_n C [(1, .int 20004), (0, Rf Y 0)] dX11_compared_50 rfl rfl ?_
      refine q_iload_n C 0 dX11_compared_51 rfl ?_
      refine q_if_le C 64 dX11_compared_52 rfl (fun _ => ?_) (fun _ => ?_)
      · exact q_vret C rfl dX11_compared_64
      refine q_aload_n C 1 dX11_compared_55 rfl ?_
      refine q_cVV C lk_X11_111 (hq.2.2.2.2.2 r4.2) (Nat.le_refl _) rfl skM_0 (ltM skM_0 rfl) recv_11 (rest := []) rfl rfl (Nat.le_of_ble_eq_true rfl) dX11_compared_56 (fun r7 => ?_)
      refine q_aload_n C 1 dX11_compared_59 rfl ?_
      refine q_iload_n C 0 dX11_compared_60 rfl ?_
      refine q_cVV C lk_X11_104 (w_X11_codes (Y := Y) 20004 r7) (by omega) rfl skM_0 (ltM skM_0 rfl) recv_11 (rest := []) rfl rfl (Nat.le_of_ble_eq_true rfl) dX11_compared_61 (fun r8 => ?_)
      exact q_vret C rfl dX11_compared_64
    refine q_sipush C (v := 20003) dX11_compared_28 (by decide) ?_
    refine q_goto C 50 dX11_compared_31 rfl ?_
    refine q_istore_n C [(1, .int 20003), (0, Rf Y 0)] dX11_compared_50 rfl rfl ?_
    refine q_iload_n C 0 dX11_compared_51 rfl ?_
    refine q_if_le C 64 dX11_compared_52 rfl (fun _ => ?_) (fun _ => ?_)
    · exact q_vret C rfl dX11_compared_64
    refine q_aload_n C 1 dX11_compared_55 rfl ?_
    refine q_cVV C lk_X11_111 (hq.2.2.2.2.2 r3.2) (Nat.le_refl _) rfl skM_0 (ltM skM_0 rfl) recv_11 (rest := []) rfl rfl (Nat.le_of_ble_eq_true rfl) dX11_compared_56 (fun r9 => ?_)
    refine q_aload_n C 1 dX11_compared_59 rfl ?_
    refine q_iload_n C 0 dX11_compared_60 rfl ?_
    refine q_cVV C lk_X11_104 (w_X11_codes (Y := Y) 20003 r9) (by omega) rfl skM_0 (ltM skM_0 rfl) recv_11 (rest := []) rfl rfl (Nat.le_of_ble_eq_true rfl) dX11_compared_61 (fun r10 => ?_)
    exact q_vret C rfl dX11_compared_64
  refine q_sipush C (v := 20002) dX11_compared_13 (by decide) ?_
  refine q_goto C 50 dX11_compared_16 rfl ?_
  refine q_istore_n C [(1, .int 20002), (0, Rf Y 0)] dX11_compared_50 rfl rfl ?_
  refine q_iload_n C 0 dX11_compared_51 rfl ?_
  refine q_if_le C 64 dX11_compared_52 rfl (fun _ => ?_) (fun _ => ?_)
  · exact q_vret C rfl dX11_compared_64
  refine q_aload_n C 1 dX11_compared_55 rfl ?_
  refine q_cVV C lk_X11_111 (hq.2.2.2.2.2 r2.2) (Nat.le_refl _) rfl skM_0 (ltM skM_0 rfl) recv_11 (rest := []) rfl rfl (Nat.le_of_ble_eq_true rfl) dX11_compared_56 (fun r11 => ?_)
  refine q_aload_n C 1 dX11_compared_59 rfl ?_
  refine q_iload_n C 0 dX11_compared_60 rfl ?_
  refine q_cVV C lk_X11_104 (w_X11_codes (Y := Y) 20002 r11) (by omega) rfl skM_0 (ltM skM_0 rfl) recv_11 (rest := []) rfl rfl (Nat.le_of_ble_eq_true rfl) dX11_compared_61 (fun r12 => ?_)
  exact q_vret C rfl dX11_compared_64
theorem lk_X11_97 : LkV RX11 97 yX11_both cX11_both 1 none 0 := ⟨TB_p [1135, 1137, 17, 81, 1138] (by decide +kernel) (by decide +kernel), by decide +kernel, by decide +kernel, by decide +kernel⟩
def f_X11_either_L4 (q : FamT_X11) : Nat → St → Option (St)
  | 0, _ => none
  | n + 1, σ => (Option.bind (f_X11_takes 124 σ) fun r2 => (if r2.1 = 0 then (some r2.2) else (Option.bind (q.1 r2.2) fun r3 => (Option.bind (f_X11_codes 20000 r3) fun r4 => ((f_X11_either_L4 q n) r4)))))
theorem w_X11_either_L4 {Y : YT} {X : XT} {nq : Nat} (C : Cx FM Y X cX11_either 1 RX11 none (7 + nq + 1) (0, 0)) (q : FamT_X11) (hq : FamOK_X11 Y nq q) : ∀ (n : Nat), ∀ (σ : St), G FM Y X 1 (emV FM Y) (0, 0) (0, 0) 4 [(0, Rf Y 0)] [] (RepS FM Y σ) (f_X11_either_L4 q n σ) := by
  intro n
  induction n with
  | zero =>
    intro σ
    rw [f_X11_either_L4]; exact G.none
  | succ n ih =>
    intro σ
    rw [f_X11_either_L4]
    refine q_aload_n C 0 dX11_either_4 rfl ?_
    refine q_bipush C (v := 124) dX11_either_5 (by decide) ?_
    refine q_cVI C lk_X11_100 (w_X11_takes (Y := Y) 124 σ) (by omega) rfl skM_0 (ltM skM_0 rfl) recv_11 (rest := []) rfl rfl (Nat.le_of_ble_eq_true rfl) dX11_either_7 (fun r2 => ?_)
    refine q_if_eq C 27 dX11_either_10 rfl (fun _ => ?_) (fun _ => ?_)
    · exact q_vret C rfl dX11_either_27
    refine q_aload_n C 0 dX11_either_13 rfl ?_
    refine q_cVV C lk_X11_97 (hq.1 r2.2) (Nat.le_refl _) rfl skM_0 (ltM skM_0 rfl) recv_11 (rest := []) rfl rfl (Nat.le_of_ble_eq_true rfl) dX11_either_14 (fun r3 => ?_)
    refine q_aload_n C 0 dX11_either_17 rfl ?_
    refine q_sipush C (v := 20000) dX11_either_18 (by decide) ?_
    refine q_cVV C lk_X11_104 (w_X11_codes (Y := Y) 20000 r3) (by omega) rfl skM_0 (ltM skM_0 rfl) recv_11 (rest := []) rfl rfl (Nat.le_of_ble_eq_true rfl) dX11_either_21 (fun r4 => ?_)
    refine q_goto C 4 dX11_either_24 rfl ?_
    exact ih r4
def f_X11_either (q : FamT_X11)  (σ : St) : Option (St) := (Option.bind (q.1 σ) fun r1 => (f_X11_either_L4 q 400 r1))
theorem w_X11_either {Y : YT} {nq : Nat} (q : FamT_X11) (hq : FamOK_X11 Y nq q)    (σ : St) : CtE (emV FM Y) FM Y yX11_either cX11_either 1 none (7 + nq + 1) [Rf Y 0] σ (f_X11_either q σ) := by
  refine Ct.ofG (by decide) (Nat.le_of_ble_eq_true rfl) (fun X C0 => ?_)
  have C : Cx FM Y X cX11_either 1 RX11 none (7 + nq + 1) (0, 0) := C0
  show G FM Y X 1 (emV FM Y) (0, 0) (0, 0) 0 [(0, Rf Y 0)] [] (RepS FM Y σ) (f_X11_either q σ)
  rw [f_X11_either]
  refine q_aload_n C 0 dX11_either_0 rfl ?_
  refine q_cVV C lk_X11_97 (hq.1 σ) (Nat.le_refl _) rfl skM_0 (ltM skM_0 rfl) recv_11 (rest := []) rfl rfl (Nat.le_of_ble_eq_true rfl) dX11_either_1 (fun r1 => ?_)
  exact w_X11_either_L4 C q hq 400 r1
theorem lk_X11_136 : LkV RX11 136 yX11_nameOf cX11_nameOf 4 (some .int) 1 := ⟨TB_p [1167, 1169, 25, 81, 1170] (by decide +kernel) (by decide +kernel), by decide +kernel, by decide +kernel, by decide +kernel⟩
theorem lk_X11_133 : LkV RX11 133 yX11_either cX11_either 1 none 0 := ⟨TB_p [1131, 1133, 16, 81, 1134] (by decide +kernel) (by decide +kernel), by decide +kernel, by decide +kernel, by decide +kernel⟩
theorem lk_X11_117 : LkV RX11 117 yX11_one cX11_one 4 none 0 := ⟨TB_p [1151, 1153, 21, 81, 1154] (by decide +kernel) (by decide +kernel), by decide +kernel, by decide +kernel, by decide +kernel⟩
def f_X11_one_L31 (q : FamT_X11) (v1 : Int32) (w1 : Int32) (σ : St) : Option (St) := (if w1 = 0 ∨ w1 = 1 then (Bst (up σ 0 9 w1) fun s4 => (if (s4 0 9) = 0 then (Bst (up s4 0 7 ((s4 0 7) + 1)) fun s6 => (Bst (up s6 0 6 ((s6 0 6) + 1)) fun s7 => (if v1 = 33 then (Option.bind (q.2.2.2.1 s7) fun r14 => (Option.bind (f_X11_codes 20010 r14) fun r15 => (Bst (up r15 0 7 ((r15 0 7) - 1)) fun s16 => (some s16)))) else (Option.bind (q.2.2.1 s7) fun r8 => (Option.bind (f_X11_takes 41 r8) fun r9 => (if r9.1 = 0 then (Bst (up r9.2 0 9 1) fun s12 => (Bst (up s12 0 7 ((s12 0 7) - 1)) fun s13 => (some s13))) else (Bst (up r9.2 0 9 0) fun s10 => (Bst (up s10 0 7 ((s10 0 7) - 1)) fun s11 => (some s11))))))))) else (some s4))) else none)
theorem w_X11_one_L31 {Y : YT} {X : XT} {nq : Nat} (C : Cx FM Y X cX11_one 4 RX11 none (7 + nq + 1) (0, 0)) (q : FamT_X11) (hq : FamOK_X11 Y nq q) : ∀ (v1 : Int32), ∀ (w1 : Int32), ∀ (σ : St), G FM Y X 4 (emV FM Y) (0, 0) (0, 0) 31 [(0, Rf Y 0), (1, .int v1)] [.int w1, Rf Y 0] (RepS FM Y σ) (f_X11_one_L31 q v1 w1 σ) := by
  intro v1 w1 σ
  rw [f_X11_one_L31]
  refine G.ite (fun h5 => ?_) (fun _ => G.none)
  refine pf_X11_82 C skM_0 h5 dX11_one_31 (fun s4 => ?_)
  refine q_aload_n C 0 dX11_one_34 rfl ?_
  refine gf_X11_82 C skM_0 dX11_one_35 ?_
  refine q_if_ne C 247 dX11_one_38 rfl (fun _ => ?_) (fun _ => ?_)
  · exact q_vret C rfl dX11_one_247
  refine q_aload_n C 0 dX11_one_41 rfl ?_
  refine q_dup C dX11_one_42 rfl ?_
  refine gf_X11_130 C skM_0 dX11_one_43 ?_
  refine q_iconst C (v := 1) dX11_one_46 (by decide) ?_
  refine q_iadd C dX11_one_47 ?_
  refine pf_X11_130 C skM_0 dX11_one_48 (fun s6 => ?_)
  refine q_aload_n C 0 dX11_one_51 rfl ?_
  refine q_dup C dX11_one_52 rfl ?_
  refine gf_X11_86 C skM_0 dX11_one_53 ?_
  refine q_iconst C (v := 1) dX11_one_56 (by decide) ?_
  refine q_iadd C dX11_one_57 ?_
  refine pf_X11_86 C skM_0 dX11_one_58 (fun s7 => ?_)
  refine q_iload_n C 1 dX11_one_61 rfl ?_
  refine q_bipush C (v := 33) dX11_one_62 (by decide) ?_
  refine q_icmp_ne C 81 dX11_one_64 rfl (fun _ => ?_) (fun _ => ?_)
  · refine q_aload_n C 0 dX11_one_81 rfl ?_
    refine q_cVV C lk_X11_133 (hq.2.2.1 s7) (Nat.le_refl _) rfl skM_0 (ltM skM_0 rfl) recv_11 (rest := []) rfl rfl (Nat.le_of_ble_eq_true rfl) dX11_one_82 (fun r8 => ?_)
    refine q_aload_n C 0 dX11_one_85 rfl ?_
    refine q_aload_n C 0 dX11_one_86 rfl ?_
    refine q_bipush C (v := 41) dX11_one_87 (by decide) ?_
    refine q_cVI C lk_X11_100 (w_X11_takes (Y := Y) 41 r8) (by omega) rfl skM_0 (ltM skM_0 rfl) recv_11 (rest := [Rf Y 0]) rfl rfl (Nat.le_of_ble_eq_true rfl) dX11_one_89 (fun r9 => ?_)
    refine q_if_ne C 99 dX11_one_92 rfl (fun _ => ?_) (fun _ => ?_)
    · refine q_iconst C (v := 0) dX11_one_99 (by decide) ?_
      refine pf_X11_82 C skM_0 (by decide) dX11_one_100 (fun s10 => ?_)
      refine q_aload_n C 0 dX11_one_103 rfl ?_
      refine q_dup C dX11_one_104 rfl ?_
      refine gf_X11_130 C skM_0 dX11_one_105 ?_
      refine q_iconst C (v := 1) dX11_one_108 (by decide) ?_
      refine q_isub C dX11_one_109 ?_
      refine pf_X11_130 C skM_0 dX11_one_110 (fun s11 => ?_)
      refine q_goto C 247 dX11_one_113 rfl ?_
      exact q_vret C rfl dX11_one_247
    refine q_iconst C (v := 1) dX11_one_95 (by decide) ?_
    refine q_goto C 100 dX11_one_96 rfl ?_
    refine pf_X11_82 C skM_0 (by decide) dX11_one_100 (fun s12 => ?_)
    refine q_aload_n C 0 dX11_one_103 rfl ?_
    refine q_dup C dX11_one_104 rfl ?_
    refine gf_X11_130 C skM_0 dX11_one_105 ?_
    refine q_iconst C (v := 1) dX11_one_108 (by decide) ?_
    refine q_isub C dX11_one_109 ?_
    refine pf_X11_130 C skM_0 dX11_one_110 (fun s13 => ?_)
    refine q_goto C 247 dX11_one_113 rfl ?_
    exact q_vret C rfl dX11_one_247
  refine q_aload_n C 0 dX11_one_67 rfl ?_
  refine q_cVV C lk_X11_117 (hq.2.2.2.1 s7) (Nat.le_refl _) rfl skM_0 (ltM skM_0 rfl) recv_11 (rest := []) rfl rfl (Nat.le_of_ble_eq_true rfl) dX11_one_68 (fun r14 => ?_)
  refine q_aload_n C 0 dX11_one_71 rfl ?_
  refine q_sipush C (v := 20010) dX11_one_72 (by decide) ?_
  refine q_cVV C lk_X11_104 (w_X11_codes (Y := Y) 20010 r14) (by omega) rfl skM_0 (ltM skM_0 rfl) recv_11 (rest := []) rfl rfl (Nat.le_of_ble_eq_true rfl) dX11_one_75 (fun r15 => ?_)
  refine q_goto C 103 dX11_one_78 rfl ?_
  refine q_aload_n C 0 dX11_one_103 rfl ?_
  refine q_dup C dX11_one_104 rfl ?_
  refine gf_X11_130 C skM_0 dX11_one_105 ?_
  refine q_iconst C (v := 1) dX11_one_108 (by decide) ?_
  refine q_isub C dX11_one_109 ?_
  refine pf_X11_130 C skM_0 dX11_one_110 (fun s16 => ?_)
  refine q_goto C 247 dX11_one_113 rfl ?_
  exact q_vret C rfl dX11_one_247
def f_X11_one_L218 (q : FamT_X11) (v2 : Int32) (w1 : Int32) (σ : St) : Option (St) := (if w1 = 0 ∨ w1 = 1 then (Bst (up σ 0 9 w1) fun s17 => (if (s17 0 9) = 0 then (Option.bind (f_X11_codes (10000 + v2) s17) fun r19 => (Bst (up r19 0 6 ((r19 0 6) + 1)) fun s20 => (some s20))) else (some s17))) else none)
theorem w_X11_one_L218 {Y : YT} {X : XT} {nq : Nat} (C : Cx FM Y X cX11_one 4 RX11 none (7 + nq + 1) (0, 0)) (q : FamT_X11) (hq : FamOK_X11 Y nq q) : ∀ (v2 : Int32), ∀ (w1 : Int32), ∀ (σ : St), G FM Y X 4 (emV FM Y) (0, 0) (0, 0) 218 [(0, Rf Y 0), (2, .int v2)] [.int w1, Rf Y 0] (RepS FM Y σ) (f_X11_one_L218 q v2 w1 σ) := by
  intro v2 w1 σ
  rw [f_X11_one_L218]
  refine G.ite (fun h18 => ?_) (fun _ => G.none)
  refine pf_X11_82 C skM_0 h18 dX11_one_218 (fun s17 => ?_)
  refine q_aload_n C 0 dX11_one_221 rfl ?_
  refine gf_X11_82 C skM_0 dX11_one_222 ?_
  refine q_if_ne C 247 dX11_one_225 rfl (fun _ => ?_) (fun _ => ?_)
  · exact q_vret C rfl dX11_one_247
  refine q_aload_n C 0 dX11_one_228 rfl ?_
  refine q_sipush C (v := 10000) dX11_one_229 (by decide) ?_
  refine q_iload_n C 1 dX11_one_232 rfl ?_
  refine q_iadd C dX11_one_233 ?_
  refine q_cVV C lk_X11_104 (w_X11_codes (Y := Y) (10000 + v2) s17) (by omega) rfl skM_0 (ltM skM_0 rfl) recv_11 (rest := []) rfl rfl (Nat.le_of_ble_eq_true rfl) dX11_one_234 (fun r19 => ?_)
  refine q_aload_n C 0 dX11_one_237 rfl ?_
  refine q_dup C dX11_one_238 rfl ?_
  refine gf_X11_86 C skM_0 dX11_one_239 ?_
  refine q_iconst C (v := 1) dX11_one_242 (by decide) ?_
  refine q_iadd C dX11_one_243 ?_
  refine pf_X11_86 C skM_0 dX11_one_244 (fun s20 => ?_)
  exact q_vret C rfl dX11_one_247
def f_X11_one_L131 (q : FamT_X11) : Nat → Int32 → Int32 → St → Option (St)
  | 0, _, _, _ => none
  | n + 1, v2, v3, σ => (if 4 ≤ v3 then (Option.bind (f_X11_codes v2 σ) fun r21 => (some r21)) else (Option.bind (f_X11_here σ) fun r22 => (Option.bind (f_X11_within r22.1 48 57 r22.2) fun r23 => (if r23.1 = 0 then (Option.bind (f_X11_codes v2 r23.2) fun r24 => (some r24)) else (Option.bind (f_X11_here r23.2) fun r25 => (Bst (up r25.2 0 6 ((r25.2 0 6) + 1)) fun s26 => ((f_X11_one_L131 q n) (((10 * v2) + r25.1) - 48) (v3 + 1) s26)))))))
theorem w_X11_one_L131 {Y : YT} {X : XT} {nq : Nat} (C : Cx FM Y X cX11_one 4 RX11 none (7 + nq + 1) (0, 0)) (q : FamT_X11) (hq : FamOK_X11 Y nq q) : ∀ (n : Nat), ∀ (v2 : Int32), ∀ (v3 : Int32), ∀ (σ : St), G FM Y X 4 (emV FM Y) (0, 0) (0, 0) 131 [(0, Rf Y 0), (2, .int v2), (3, .int v3)] [] (RepS FM Y σ) (f_X11_one_L131 q n v2 v3 σ) := by
  intro n
  induction n with
  | zero =>
    intro v2 v3 σ
    rw [f_X11_one_L131]; exact G.none
  | succ n ih =>
    intro v2 v3 σ
    rw [f_X11_one_L131]
    refine q_iload_n C 2 dX11_one_131 rfl ?_
    refine q_iconst C (v := 4) dX11_one_132 (by decide) ?_
    refine q_icmp_ge C 179 dX11_one_133 rfl (fun _ => ?_) (fun _ => ?_)
    · refine q_aload_n C 0 dX11_one_179 rfl ?_
      refine q_iload_n C 1 dX11_one_180 rfl ?_
      refine q_cVV C lk_X11_104 (w_X11_codes (Y := Y) v2 σ) (by omega) rfl skM_0 (ltM skM_0 rfl) recv_11 (rest := []) rfl rfl (Nat.le_of_ble_eq_true rfl) dX11_one_181 (fun r21 => ?_)
      refine q_goto C 247 dX11_one_184 rfl ?_
      exact q_vret C rfl dX11_one_247
    refine q_aload_n C 0 dX11_one_136 rfl ?_
    refine q_cVI C lk_X11_90 (w_X11_here (Y := Y) σ) (by omega) rfl skM_0 (ltM skM_0 rfl) recv_11 (rest := []) rfl rfl (Nat.le_of_ble_eq_true rfl) dX11_one_137 (fun r22 => ?_)
    refine q_bipush C (v := 48) dX11_one_140 (by decide) ?_
    refine q_bipush C (v := 57) dX11_one_142 (by decide) ?_
    refine q_cSI C lk_X11_70 (w_X11_within (Y := Y) r22.1 48 57 r22.2) (by omega) rfl (rest := []) rfl rfl (Nat.le_of_ble_eq_true rfl) dX11_one_144 (fun r23 => ?_)
    refine q_if_eq C 179 dX11_one_147 rfl (fun _ => ?_) (fun _ => ?_)
    · refine q_aload_n C 0 dX11_one_179 rfl ?_
      refine q_iload_n C 1 dX11_one_180 rfl ?_
      refine q_cVV C lk_X11_104 (w_X11_codes (Y := Y) v2 r23.2) (by omega) rfl skM_0 (ltM skM_0 rfl) recv_11 (rest := []) rfl rfl (Nat.le_of_ble_eq_true rfl) dX11_one_181 (fun r24 => ?_)
      refine q_goto C 247 dX11_one_184 rfl ?_
      exact q_vret C rfl dX11_one_247
    refine q_bipush C (v := 10) dX11_one_150 (by decide) ?_
    refine q_iload_n C 1 dX11_one_152 rfl ?_
    refine q_imul C dX11_one_153 ?_
    refine q_aload_n C 0 dX11_one_154 rfl ?_
    refine q_cVI C lk_X11_90 (w_X11_here (Y := Y) r23.2) (by omega) rfl skM_0 (ltM skM_0 rfl) recv_11 (rest := [.int (10 * v2)]) rfl rfl (Nat.le_of_ble_eq_true rfl) dX11_one_155 (fun r25 => ?_)
    refine q_iadd C dX11_one_158 ?_
    refine q_bipush C (v := 48) dX11_one_159 (by decide) ?_
    refine q_isub C dX11_one_161 ?_
    refine q_istore_n C [(2, .int (((10 * v2) + r25.1) - 48)), (0, Rf Y 0), (3, .int v3)] dX11_one_162 rfl rfl ?_
    refine q_aload_n C 1 dX11_one_163 rfl ?_
    refine q_dup C dX11_one_164 rfl ?_
    refine gf_X11_86 C skM_0 dX11_one_165 ?_
    refine q_iconst C (v := 1) dX11_one_168 (by decide) ?_
    refine q_iadd C dX11_one_169 ?_
    refine pf_X11_86 C skM_0 dX11_one_170 (fun s26 => ?_)
    refine q_iinc C 2 [(3, .int (v3 + 1)), (2, .int (((10 * v2) + r25.1) - 48)), (0, Rf Y 0)] dX11_one_173 rfl rfl rfl rfl ?_
    refine q_goto C 131 dX11_one_176 rfl ?_
    refine G.sub [2, 1, 0] (lv' := [(0, Rf Y 0), (2, .int (((10 * v2) + r25.1) - 48)), (3, .int (v3 + 1))]) rfl ?_
    exact ih (((10 * v2) + r25.1) - 48) (v3 + 1) s26
def f_X11_one (q : FamT_X11)  (σ : St) : Option (St) := (Option.bind (f_X11_here σ) fun r1 => (if r1.1 = 33 then (if (r1.2 0 7) = 5 then (f_X11_one_L31 q r1.1 1 r1.2) else (f_X11_one_L31 q r1.1 0 r1.2)) else (if r1.1 = 40 then (if (r1.2 0 7) = 5 then (f_X11_one_L31 q r1.1 1 r1.2) else (f_X11_one_L31 q r1.1 0 r1.2)) else (Option.bind (f_X11_within r1.1 48 57 r1.2) fun r2 => (if r2.1 = 0 then (if 0 ≤ r1.1 then (Option.bind (f_X11_nameOf r1.1 r2.2) fun r3 => (if (r3.2 0 9) = 0 then (if 0 ≤ r3.1 then (f_X11_one_L218 q r3.1 0 r3.2) else (f_X11_one_L218 q r3.1 1 r3.2)) else (f_X11_one_L218 q r3.1 1 r3.2))) else (if (r2.2 0 9) = 0 then (if 0 ≤ (-1 : Int32) then (f_X11_one_L218 q (-1) 0 r2.2) else (f_X11_one_L218 q (-1) 1 r2.2)) else (f_X11_one_L218 q (-1) 1 r2.2))) else (f_X11_one_L131 q 400 0 0 r2.2))))))
theorem w_X11_one {Y : YT} {nq : Nat} (q : FamT_X11) (hq : FamOK_X11 Y nq q)    (σ : St) : CtE (emV FM Y) FM Y yX11_one cX11_one 4 none (7 + nq + 1) [Rf Y 0] σ (f_X11_one q σ) := by
  refine Ct.ofG (by decide) (Nat.le_of_ble_eq_true rfl) (fun X C0 => ?_)
  have C : Cx FM Y X cX11_one 4 RX11 none (7 + nq + 1) (0, 0) := C0
  show G FM Y X 4 (emV FM Y) (0, 0) (0, 0) 0 [(0, Rf Y 0)] [] (RepS FM Y σ) (f_X11_one q σ)
  rw [f_X11_one]
  refine q_aload_n C 0 dX11_one_0 rfl ?_
  refine q_cVI C lk_X11_90 (w_X11_here (Y := Y) σ) (by omega) rfl skM_0 (ltM skM_0 rfl) recv_11 (rest := []) rfl rfl (Nat.le_of_ble_eq_true rfl) dX11_one_1 (fun r1 => ?_)
  refine q_istore_n C [(1, .int r1.1), (0, Rf Y 0)] dX11_one_4 rfl rfl ?_
  refine q_iload_n C 0 dX11_one_5 rfl ?_
  refine q_bipush C (v := 33) dX11_one_6 (by decide) ?_
  refine q_icmp_eq C 17 dX11_one_8 rfl (fun _ => ?_) (fun _ => ?_)
  · refine q_aload_n C 1 dX11_one_17 rfl ?_
    refine q_aload_n C 1 dX11_one_18 rfl ?_
    refine gf_X11_130 C skM_0 dX11_one_19 ?_
    refine q_iconst C (v := 5) dX11_one_22 (by decide) ?_
    refine q_icmp_ne C 30 dX11_one_23 rfl (fun _ => ?_) (fun _ => ?_)
    · refine q_iconst C (v := 0) dX11_one_30 (by decide) ?_
      refine G.sub [1, 0] (lv' := [(0, Rf Y 0), (1, .int r1.1)]) rfl ?_
      exact w_X11_one_L31 C q hq r1.1 0 r1.2
    refine q_iconst C (v := 1) dX11_one_26 (by decide) ?_
    refine q_goto C 31 dX11_one_27 rfl ?_
    refine G.sub [1, 0] (lv' := [(0, Rf Y 0), (1, .int r1.1)]) rfl ?_
    exact w_X11_one_L31 C q hq r1.1 1 r1.2
  refine q_iload_n C 0 dX11_one_11 rfl ?_
  refine q_bipush C (v := 40) dX11_one_12 (by decide) ?_
  refine q_icmp_ne C 116 dX11_one_14 rfl (fun _ => ?_) (fun _ => ?_)
  · refine q_iload_n C 0 dX11_one_116 rfl ?_
    refine q_bipush C (v := 48) dX11_one_117 (by decide) ?_
    refine q_bipush C (v := 57) dX11_one_119 (by decide) ?_
    refine q_cSI C lk_X11_70 (w_X11_within (Y := Y) r1.1 48 57 r1.2) (by omega) rfl (rest := []) rfl rfl (Nat.le_of_ble_eq_true rfl) dX11_one_121 (fun r2 => ?_)
    refine q_if_eq C 187 dX11_one_124 rfl (fun _ => ?_) (fun _ => ?_)
    · refine q_iload_n C 0 dX11_one_187 rfl ?_
      refine q_if_ge C 195 dX11_one_188 rfl (fun _ => ?_) (fun _ => ?_)
      · refine q_aload_n C 1 dX11_one_195 rfl ?_
        refine q_iload_n C 0 dX11_one_196 rfl ?_
        refine q_cVI C lk_X11_136 (w_X11_nameOf (Y := Y) r1.1 r2.2) (by omega) rfl skM_0 (ltM skM_0 rfl) recv_11 (rest := []) rfl rfl (Nat.le_of_ble_eq_true rfl) dX11_one_197 (fun r3 => ?_)
        refine q_istore_n C [(2, .int r3.1), (1, .int r1.1), (0, Rf Y 0)] dX11_one_200 rfl rfl ?_
        refine q_aload_n C 2 dX11_one_201 rfl ?_
        refine q_aload_n C 2 dX11_one_202 rfl ?_
        refine gf_X11_82 C skM_0 dX11_one_203 ?_
        refine q_if_ne C 213 dX11_one_206 rfl (fun _ => ?_) (fun _ => ?_)
        · refine q_iconst C (v := 1) dX11_one_213 (by decide) ?_
          refine q_goto C 218 dX11_one_214 rfl ?_
          refine G.sub [2, 0] (lv' := [(0, Rf Y 0), (2, .int r3.1)]) rfl ?_
          exact w_X11_one_L218 C q hq r3.1 1 r3.2
        refine q_iload_n C 0 dX11_one_209 rfl ?_
        refine q_if_ge C 217 dX11_one_210 rfl (fun _ => ?_) (fun _ => ?_)
        · refine q_iconst C (v := 0) dX11_one_217 (by decide) ?_
          refine G.sub [2, 0] (lv' := [(0, Rf Y 0), (2, .int r3.1)]) rfl ?_
          exact w_X11_one_L218 C q hq r3.1 0 r3.2
        refine q_iconst C (v := 1) dX11_one_213 (by decide) ?_
        refine q_goto C 218 dX11_one_214 rfl ?_
        refine G.sub [2, 0] (lv' := [(0, Rf Y 0), (2, .int r3.1)]) rfl ?_
        exact w_X11_one_L218 C q hq r3.1 1 r3.2
      refine q_iconst C (v := (-1)) dX11_one_191 (by decide) ?_
      refine q_goto C 200 dX11_one_192 rfl ?_
      refine q_istore_n C [(2, .int (-1)), (1, .int r1.1), (0, Rf Y 0)] dX11_one_200 rfl rfl ?_
      refine q_aload_n C 2 dX11_one_201 rfl ?_
      refine q_aload_n C 2 dX11_one_202 rfl ?_
      refine gf_X11_82 C skM_0 dX11_one_203 ?_
      refine q_if_ne C 213 dX11_one_206 rfl (fun _ => ?_) (fun _ => ?_)
      · refine q_iconst C (v := 1) dX11_one_213 (by decide) ?_
        refine q_goto C 218 dX11_one_214 rfl ?_
        refine G.sub [2, 0] (lv' := [(0, Rf Y 0), (2, .int (-1))]) rfl ?_
        exact w_X11_one_L218 C q hq (-1) 1 r2.2
      refine q_iload_n C 0 dX11_one_209 rfl ?_
      refine q_if_ge C 217 dX11_one_210 rfl (fun _ => ?_) (fun _ => ?_)
      · refine q_iconst C (v := 0) dX11_one_217 (by decide) ?_
        refine G.sub [2, 0] (lv' := [(0, Rf Y 0), (2, .int (-1))]) rfl ?_
        exact w_X11_one_L218 C q hq (-1) 0 r2.2
      refine q_iconst C (v := 1) dX11_one_213 (by decide) ?_
      refine q_goto C 218 dX11_one_214 rfl ?_
      refine G.sub [2, 0] (lv' := [(0, Rf Y 0), (2, .int (-1))]) rfl ?_
      exact w_X11_one_L218 C q hq (-1) 1 r2.2
    refine q_iconst C (v := 0) dX11_one_127 (by decide) ?_
    refine q_istore_n C [(2, .int 0), (1, .int r1.1), (0, Rf Y 0)] dX11_one_128 rfl rfl ?_
    refine q_iconst C (v := 0) dX11_one_129 (by decide) ?_
    refine q_istore_n C [(3, .int 0), (2, .int 0), (1, .int r1.1), (0, Rf Y 0)] dX11_one_130 rfl rfl ?_
    refine G.sub [3, 1, 0] (lv' := [(0, Rf Y 0), (2, .int 0), (3, .int 0)]) rfl ?_
    exact w_X11_one_L131 C q hq 400 0 0 r2.2
  refine q_aload_n C 1 dX11_one_17 rfl ?_
  refine q_aload_n C 1 dX11_one_18 rfl ?_
  refine gf_X11_130 C skM_0 dX11_one_19 ?_
  refine q_iconst C (v := 5) dX11_one_22 (by decide) ?_
  refine q_icmp_ne C 30 dX11_one_23 rfl (fun _ => ?_) (fun _ => ?_)
  · refine q_iconst C (v := 0) dX11_one_30 (by decide) ?_
    refine G.sub [1, 0] (lv' := [(0, Rf Y 0), (1, .int r1.1)]) rfl ?_
    exact w_X11_one_L31 C q hq r1.1 0 r1.2
  refine q_iconst C (v := 1) dX11_one_26 (by decide) ?_
  refine q_goto C 31 dX11_one_27 rfl ?_
  refine G.sub [1, 0] (lv' := [(0, Rf Y 0), (1, .int r1.1)]) rfl ?_
  exact w_X11_one_L31 C q hq r1.1 1 r1.2
def f_X11_product_L51 (q : FamT_X11) : Nat → Int32 → St → Option (St)
  | 0, _, _ => none
  | n + 1, v1, σ => (if v1 ≤ 0 then (some σ) else (Option.bind (q.2.2.2.1 σ) fun r5 => (Option.bind (f_X11_codes v1 r5) fun r6 => (Option.bind (f_X11_takes 42 r6) fun r7 => (if r7.1 = 0 then (Option.bind (f_X11_takes 47 r7.2) fun r8 => (if r8.1 = 0 then (Option.bind (f_X11_takes 37 r8.2) fun r9 => (if r9.1 = 0 then ((f_X11_product_L51 q n) 0 r9.2) else ((f_X11_product_L51 q n) 20009 r9.2))) else ((f_X11_product_L51 q n) 20008 r8.2))) else ((f_X11_product_L51 q n) 20007 r7.2))))))
theorem w_X11_product_L51 {Y : YT} {X : XT} {nq : Nat} (C : Cx FM Y X cX11_product 2 RX11 none (7 + nq + 1) (0, 0)) (q : FamT_X11) (hq : FamOK_X11 Y nq q) : ∀ (n : Nat), ∀ (v1 : Int32), ∀ (σ : St), G FM Y X 2 (emV FM Y) (0, 0) (0, 0) 51 [(0, Rf Y 0), (1, .int v1)] [] (RepS FM Y σ) (f_X11_product_L51 q n v1 σ) := by
  intro n
  induction n with
  | zero =>
    intro v1 σ
    rw [f_X11_product_L51]; exact G.none
  | succ n ih =>
    intro v1 σ
    rw [f_X11_product_L51]
    refine q_iload_n C 1 dX11_product_51 rfl ?_
    refine q_if_le C 114 dX11_product_52 rfl (fun _ => ?_) (fun _ => ?_)
    · exact q_vret C rfl dX11_product_114
    refine q_aload_n C 0 dX11_product_55 rfl ?_
    refine q_cVV C lk_X11_117 (hq.2.2.2.1 σ) (Nat.le_refl _) rfl skM_0 (ltM skM_0 rfl) recv_11 (rest := []) rfl rfl (Nat.le_of_ble_eq_true rfl) dX11_product_56 (fun r5 => ?_)
    refine q_aload_n C 0 dX11_product_59 rfl ?_
    refine q_iload_n C 1 dX11_product_60 rfl ?_
    refine q_cVV C lk_X11_104 (w_X11_codes (Y := Y) v1 r5) (by omega) rfl skM_0 (ltM skM_0 rfl) recv_11 (rest := []) rfl rfl (Nat.le_of_ble_eq_true rfl) dX11_product_61 (fun r6 => ?_)
    refine q_aload_n C 0 dX11_product_64 rfl ?_
    refine q_bipush C (v := 42) dX11_product_65 (by decide) ?_
    refine q_cVI C lk_X11_100 (w_X11_takes (Y := Y) 42 r6) (by omega) rfl skM_0 (ltM skM_0 rfl) recv_11 (rest := []) rfl rfl (Nat.le_of_ble_eq_true rfl) dX11_product_67 (fun r7 => ?_)
    refine q_if_eq C 79 dX11_product_70 rfl (fun _ => ?_) (fun _ => ?_)
    · refine q_aload_n C 0 dX11_product_79 rfl ?_
      refine q_bipush C (v := 47) dX11_product_80 (by decide) ?_
      refine q_cVI C lk_X11_100 (w_X11_takes (Y := Y) 47 r7.2) (by omega) rfl skM_0 (ltM skM_0 rfl) recv_11 (rest := []) rfl rfl (Nat.le_of_ble_eq_true rfl) dX11_product_82 (fun r8 => ?_)
      refine q_if_eq C 94 dX11_product_85 rfl (fun _ => ?_) (fun _ => ?_)
      · refine q_aload_n C 0 dX11_product_94 rfl ?_
        refine q_bipush C (v := 37) dX11_product_95 (by decide) ?_
        refine q_cVI C lk_X11_100 (w_X11_takes (Y := Y) 37 r8.2) (by omega) rfl skM_0 (ltM skM_0 rfl) recv_11 (rest := []) rfl rfl (Nat.le_of_ble_eq_true rfl) dX11_product_97 (fun r9 => ?_)
        refine q_if_eq C 109 dX11_product_100 rfl (fun _ => ?_) (fun _ => ?_)
        · refine q_iconst C (v := 0) dX11_product_109 (by decide) ?_
          refine q_istore_n C [(1, .int 0), (0, Rf Y 0)] dX11_product_110 rfl rfl ?_
          refine q_goto C 51 dX11_product_111 rfl ?_
          refine G.sub [1, 0] (lv' := [(0, Rf Y 0), (1, .int 0)]) rfl ?_
          exact ih 0 r9.2
        refine q_sipush C (v := 20009) dX11_product_103 (by decide) ?_
        refine q_goto C 110 dX11_product_106 rfl ?_
        refine q_istore_n C [(1, .int 20009), (0, Rf Y 0)] dX11_product_110 rfl rfl ?_
        refine q_goto C 51 dX11_product_111 rfl ?_
        refine G.sub [1, 0] (lv' := [(0, Rf Y 0), (1, .int 20009)]) rfl ?_
        exact ih 20009 r9.2
      refine q_sipush C (v := 20008) dX11_product_88 (by decide) ?_
      refine q_goto C 110 dX11_product_91 rfl ?_
      refine q_istore_n C [(1, .int 20008), (0, Rf Y 0)] dX11_product_110 rfl rfl ?_
      refine q_goto C 51 dX11_product_111 rfl ?_
      refine G.sub [1, 0] (lv' := [(0, Rf Y 0), (1, .int 20008)]) rfl ?_
      exact ih 20008 r8.2
    refine q_sipush C (v := 20007) dX11_product_73 (by decide) ?_
    refine q_goto C 110 dX11_product_76 rfl ?_
    refine q_istore_n C [(1, .int 20007), (0, Rf Y 0)] dX11_product_110 rfl rfl ?_
    refine q_goto C 51 dX11_product_111 rfl ?_
    refine G.sub [1, 0] (lv' := [(0, Rf Y 0), (1, .int 20007)]) rfl ?_
    exact ih 20007 r7.2
def f_X11_product (q : FamT_X11)  (σ : St) : Option (St) := (Option.bind (q.2.2.2.1 σ) fun r1 => (Option.bind (f_X11_takes 42 r1) fun r2 => (if r2.1 = 0 then (Option.bind (f_X11_takes 47 r2.2) fun r3 => (if r3.1 = 0 then (Option.bind (f_X11_takes 37 r3.2) fun r4 => (if r4.1 = 0 then (f_X11_product_L51 q 400 0 r4.2) else (f_X11_product_L51 q 400 20009 r4.2))) else (f_X11_product_L51 q 400 20008 r3.2))) else (f_X11_product_L51 q 400 20007 r2.2))))
theorem w_X11_product {Y : YT} {nq : Nat} (q : FamT_X11) (hq : FamOK_X11 Y nq q)    (σ : St) : CtE (emV FM Y) FM Y yX11_product cX11_product 2 none (7 + nq + 1) [Rf Y 0] σ (f_X11_product q σ) := by
  refine Ct.ofG (by decide) (Nat.le_of_ble_eq_true rfl) (fun X C0 => ?_)
  have C : Cx FM Y X cX11_product 2 RX11 none (7 + nq + 1) (0, 0) := C0
  show G FM Y X 2 (emV FM Y) (0, 0) (0, 0) 0 [(0, Rf Y 0)] [] (RepS FM Y σ) (f_X11_product q σ)
  rw [f_X11_product]
  refine q_aload_n C 0 dX11_product_0 rfl ?_
  refine q_cVV C lk_X11_117 (hq.2.2.2.1 σ) (Nat.le_refl _) rfl skM_0 (ltM skM_0 rfl) recv_11 (rest := []) rfl rfl (Nat.le_of_ble_eq_true rfl) dX11_product_1 (fun r1 => ?_)
  refine q_aload_n C 0 dX11_product_4 rfl ?_
  refine q_bipush C (v := 42) dX11_product_5 (by decide) ?_
  refine q_cVI C lk_X11_100 (w_X11_takes (Y := Y) 42 r1) (by omega) rfl skM_0 (ltM skM_0 rfl) recv_11 (rest := []) rfl rfl (Nat.le_of_ble_eq_true rfl) dX11_product_7 (fun r2 => ?_)
  refine q_if_eq C 19 dX11_product_10 rfl (fun _ => ?_) (fun _ => ?_)
  · refine q_aload_n C 0 dX11_product_19 rfl ?_
    refine q_bipush C (v := 47) dX11_product_20 (by decide) ?_
    refine q_cVI C lk_X11_100 (w_X11_takes (Y := Y) 47 r2.2) (by omega) rfl skM_0 (ltM skM_0 rfl) recv_11 (rest := []) rfl rfl (Nat.le_of_ble_eq_true rfl) dX11_product_22 (fun r3 => ?_)
    refine q_if_eq C 34 dX11_product_25 rfl (fun _ => ?_) (fun _ => ?_)
    · refine q_aload_n C 0 dX11_product_34 rfl ?_
      refine q_bipush C (v := 37) dX11_product_35 (by decide) ?_
      refine q_cVI C lk_X11_100 (w_X11_takes (Y := Y) 37 r3.2) (by omega) rfl skM_0 (ltM skM_0 rfl) recv_11 (rest := []) rfl rfl (Nat.le_of_ble_eq_true rfl) dX11_product_37 (fun r4 => ?_)
      refine q_if_eq C 49 dX11_product_40 rfl (fun _ => ?_) (fun _ => ?_)
      · refine q_iconst C (v := 0) dX11_product_49 (by decide) ?_
        refine q_istore_n C [(1, .int 0), (0, Rf Y 0)] dX11_product_50 rfl rfl ?_
        refine G.sub [1, 0] (lv' := [(0, Rf Y 0), (1, .int 0)]) rfl ?_
        exact w_X11_product_L51 C q hq 400 0 r4.2
      refine q_sipush C (v := 20009) dX11_product_43 (by decide) ?_
      refine q_goto C 50 dX11_product_46 rfl ?_
      refine q_istore_n C [(1, .int 20009), (0, Rf Y 0)] dX11_product_50 rfl rfl ?_
      refine G.sub [1, 0] (lv' := [(0, Rf Y 0), (1, .int 20009)]) rfl ?_
      exact w_X11_product_L51 C q hq 400 20009 r4.2
    refine q_sipush C (v := 20008) dX11_product_28 (by decide) ?_
    refine q_goto C 50 dX11_product_31 rfl ?_
    refine q_istore_n C [(1, .int 20008), (0, Rf Y 0)] dX11_product_50 rfl rfl ?_
    refine G.sub [1, 0] (lv' := [(0, Rf Y 0), (1, .int 20008)]) rfl ?_
    exact w_X11_product_L51 C q hq 400 20008 r3.2
  refine q_sipush C (v := 20007) dX11_product_13 (by decide) ?_
  refine q_goto C 50 dX11_product_16 rfl ?_
  refine q_istore_n C [(1, .int 20007), (0, Rf Y 0)] dX11_product_50 rfl rfl ?_
  refine G.sub [1, 0] (lv' := [(0, Rf Y 0), (1, .int 20007)]) rfl ?_
  exact w_X11_product_L51 C q hq 400 20007 r2.2
theorem lk_X11_114 : LkV RX11 114 yX11_product cX11_product 2 none 0 := ⟨TB_p [1147, 1149, 20, 81, 1150] (by decide +kernel) (by decide +kernel), by decide +kernel, by decide +kernel, by decide +kernel⟩
def f_X11_sum_L36 (q : FamT_X11) : Nat → Int32 → St → Option (St)
  | 0, _, _ => none
  | n + 1, v1, σ => (if v1 ≤ 0 then (some σ) else (Option.bind (q.2.2.2.2.1 σ) fun r4 => (Option.bind (f_X11_codes v1 r4) fun r5 => (Option.bind (f_X11_takes 43 r5) fun r6 => (if r6.1 = 0 then (Option.bind (f_X11_takes 45 r6.2) fun r7 => (if r7.1 = 0 then ((f_X11_sum_L36 q n) 0 r7.2) else ((f_X11_sum_L36 q n) 20006 r7.2))) else ((f_X11_sum_L36 q n) 20005 r6.2))))))
theorem w_X11_sum_L36 {Y : YT} {X : XT} {nq : Nat} (C : Cx FM Y X cX11_sum 2 RX11 none (7 + nq + 1) (0, 0)) (q : FamT_X11) (hq : FamOK_X11 Y nq q) : ∀ (n : Nat), ∀ (v1 : Int32), ∀ (σ : St), G FM Y X 2 (emV FM Y) (0, 0) (0, 0) 36 [(0, Rf Y 0), (1, .int v1)] [] (RepS FM Y σ) (f_X11_sum_L36 q n v1 σ) := by
  intro n
  induction n with
  | zero =>
    intro v1 σ
    rw [f_X11_sum_L36]; exact G.none
  | succ n ih =>
    intro v1 σ
    rw [f_X11_sum_L36]
    refine q_iload_n C 1 dX11_sum_36 rfl ?_
    refine q_if_le C 84 dX11_sum_37 rfl (fun _ => ?_) (fun _ => ?_)
    · exact q_vret C rfl dX11_sum_84
    refine q_aload_n C 0 dX11_sum_40 rfl ?_
    refine q_cVV C lk_X11_114 (hq.2.2.2.2.1 σ) (Nat.le_refl _) rfl skM_0 (ltM skM_0 rfl) recv_11 (rest := []) rfl rfl (Nat.le_of_ble_eq_true rfl) dX11_sum_41 (fun r4 => ?_)
    refine q_aload_n C 0 dX11_sum_44 rfl ?_
    refine q_iload_n C 1 dX11_sum_45 rfl ?_
    refine q_cVV C lk_X11_104 (w_X11_codes (Y := Y) v1 r4) (by omega) rfl skM_0 (ltM skM_0 rfl) recv_11 (rest := []) rfl rfl (Nat.le_of_ble_eq_true rfl) dX11_sum_46 (fun r5 => ?_)
    refine q_aload_n C 0 dX11_sum_49 rfl ?_
    refine q_bipush C (v := 43) dX11_sum_50 (by decide) ?_
    refine q_cVI C lk_X11_100 (w_X11_takes (Y := Y) 43 r5) (by omega) rfl skM_0 (ltM skM_0 rfl) recv_11 (rest := []) rfl rfl (Nat.le_of_ble_eq_true rfl) dX11_sum_52 (fun r6 => ?_)
    refine q_if_eq C 64 dX11_sum_55 rfl (fun _ => ?_) (fun _ => ?_)
    · refine q_aload_n C 0 dX11_sum_64 rfl ?_
      refine q_bipush C (v := 45) dX11_sum_65 (by decide) ?_
      refine q_cVI C lk_X11_100 (w_X11_takes (Y := Y) 45 r6.2) (by omega) rfl skM_0 (ltM skM_0 rfl) recv_11 (rest := []) rfl rfl (Nat.le_of_ble_eq_true rfl) dX11_sum_67 (fun r7 => ?_)
      refine q_if_eq C 79 dX11_sum_70 rfl (fun _ => ?_) (fun _ => ?_)
      · refine q_iconst C (v := 0) dX11_sum_79 (by decide) ?_
        refine q_istore_n C [(1, .int 0), (0, Rf Y 0)] dX11_sum_80 rfl rfl ?_
        refine q_goto C 36 dX11_sum_81 rfl ?_
        refine G.sub [1, 0] (lv' := [(0, Rf Y 0), (1, .int 0)]) rfl ?_
        exact ih 0 r7.2
      refine q_sipush C (v := 20006) dX11_sum_73 (by decide) ?_
      refine q_goto C 80 dX11_sum_76 rfl ?_
      refine q_istore_n C [(1, .int 20006), (0, Rf Y 0)] dX11_sum_80 rfl rfl ?_
      refine q_goto C 36 dX11_sum_81 rfl ?_
      refine G.sub [1, 0] (lv' := [(0, Rf Y 0), (1, .int 20006)]) rfl ?_
      exact ih 20006 r7.2
    refine q_sipush C (v := 20005) dX11_sum_58 (by decide) ?_
    refine q_goto C 80 dX11_sum_61 rfl ?_
    refine q_istore_n C [(1, .int 20005), (0, Rf Y 0)] dX11_sum_80 rfl rfl ?_
    refine q_goto C 36 dX11_sum_81 rfl ?_
    refine G.sub [1, 0] (lv' := [(0, Rf Y 0), (1, .int 20005)]) rfl ?_
    exact ih 20005 r6.2
def f_X11_sum (q : FamT_X11)  (σ : St) : Option (St) := (Option.bind (q.2.2.2.2.1 σ) fun r1 => (Option.bind (f_X11_takes 43 r1) fun r2 => (if r2.1 = 0 then (Option.bind (f_X11_takes 45 r2.2) fun r3 => (if r3.1 = 0 then (f_X11_sum_L36 q 400 0 r3.2) else (f_X11_sum_L36 q 400 20006 r3.2))) else (f_X11_sum_L36 q 400 20005 r2.2))))
theorem w_X11_sum {Y : YT} {nq : Nat} (q : FamT_X11) (hq : FamOK_X11 Y nq q)    (σ : St) : CtE (emV FM Y) FM Y yX11_sum cX11_sum 2 none (7 + nq + 1) [Rf Y 0] σ (f_X11_sum q σ) := by
  refine Ct.ofG (by decide) (Nat.le_of_ble_eq_true rfl) (fun X C0 => ?_)
  have C : Cx FM Y X cX11_sum 2 RX11 none (7 + nq + 1) (0, 0) := C0
  show G FM Y X 2 (emV FM Y) (0, 0) (0, 0) 0 [(0, Rf Y 0)] [] (RepS FM Y σ) (f_X11_sum q σ)
  rw [f_X11_sum]
  refine q_aload_n C 0 dX11_sum_0 rfl ?_
  refine q_cVV C lk_X11_114 (hq.2.2.2.2.1 σ) (Nat.le_refl _) rfl skM_0 (ltM skM_0 rfl) recv_11 (rest := []) rfl rfl (Nat.le_of_ble_eq_true rfl) dX11_sum_1 (fun r1 => ?_)
  refine q_aload_n C 0 dX11_sum_4 rfl ?_
  refine q_bipush C (v := 43) dX11_sum_5 (by decide) ?_
  refine q_cVI C lk_X11_100 (w_X11_takes (Y := Y) 43 r1) (by omega) rfl skM_0 (ltM skM_0 rfl) recv_11 (rest := []) rfl rfl (Nat.le_of_ble_eq_true rfl) dX11_sum_7 (fun r2 => ?_)
  refine q_if_eq C 19 dX11_sum_10 rfl (fun _ => ?_) (fun _ => ?_)
  · refine q_aload_n C 0 dX11_sum_19 rfl ?_
    refine q_bipush C (v := 45) dX11_sum_20 (by decide) ?_
    refine q_cVI C lk_X11_100 (w_X11_takes (Y := Y) 45 r2.2) (by omega) rfl skM_0 (ltM skM_0 rfl) recv_11 (rest := []) rfl rfl (Nat.le_of_ble_eq_true rfl) dX11_sum_22 (fun r3 => ?_)
    refine q_if_eq C 34 dX11_sum_25 rfl (fun _ => ?_) (fun _ => ?_)
    · refine q_iconst C (v := 0) dX11_sum_34 (by decide) ?_
      refine q_istore_n C [(1, .int 0), (0, Rf Y 0)] dX11_sum_35 rfl rfl ?_
      refine G.sub [1, 0] (lv' := [(0, Rf Y 0), (1, .int 0)]) rfl ?_
      exact w_X11_sum_L36 C q hq 400 0 r3.2
    refine q_sipush C (v := 20006) dX11_sum_28 (by decide) ?_
    refine q_goto C 35 dX11_sum_31 rfl ?_
    refine q_istore_n C [(1, .int 20006), (0, Rf Y 0)] dX11_sum_35 rfl rfl ?_
    refine G.sub [1, 0] (lv' := [(0, Rf Y 0), (1, .int 20006)]) rfl ?_
    exact w_X11_sum_L36 C q hq 400 20006 r3.2
  refine q_sipush C (v := 20005) dX11_sum_13 (by decide) ?_
  refine q_goto C 35 dX11_sum_16 rfl ?_
  refine q_istore_n C [(1, .int 20005), (0, Rf Y 0)] dX11_sum_35 rfl rfl ?_
  refine G.sub [1, 0] (lv' := [(0, Rf Y 0), (1, .int 20005)]) rfl ?_
  exact w_X11_sum_L36 C q hq 400 20005 r2.2
def fam_X11 : Nat → FamT_X11
  | 0 => (fun _ => none, fun _ => none, fun _ => none, fun _ => none, fun _ => none, fun _ => none)
  | n + 1 => (f_X11_both (fam_X11 n), f_X11_compared (fam_X11 n), f_X11_either (fam_X11 n), f_X11_one (fam_X11 n), f_X11_product (fam_X11 n), f_X11_sum (fam_X11 n))
theorem wfam_X11 {Y : YT} : ∀ n : Nat, FamOK_X11 Y n (fam_X11 n)
  | 0 => ⟨(fun _ r h => by cases h), (fun _ r h => by cases h), (fun _ r h => by cases h), (fun _ r h => by cases h), (fun _ r h => by cases h), (fun _ r h => by cases h)⟩
  | n + 1 => ⟨fun x0 => w_X11_both (nq := n) (fam_X11 n) (wfam_X11 n) x0, fun x0 => w_X11_compared (nq := n) (fam_X11 n) (wfam_X11 n) x0, fun x0 => w_X11_either (nq := n) (fam_X11 n) (wfam_X11 n) x0, fun x0 => w_X11_one (nq := n) (fam_X11 n) (wfam_X11 n) x0, fun x0 => w_X11_product (nq := n) (fam_X11 n) (wfam_X11 n) x0, fun x0 => w_X11_sum (nq := n) (fam_X11 n) (wfam_X11 n) x0⟩
def f_X11_text_L120 : Nat → Int32 → St → Option (Int32 × St)
  | 0, _, _ => none
  | n + 1, v2, σ => (if (σ 0 11) ≤ v2 then (some (1, σ)) else (if inb v2 (shM 6 - 100) = true then (if inb (((169 + (52 * (σ 0 8))) + 1) + v2) (shM 1 - 100) = true then (Bst (up σ 1 (((169 + (52 * (σ 0 8))) + 1) + v2).toNatClampNeg (σ 6 v2.toNatClampNeg)) fun s15 => ((f_X11_text_L120 n) (v2 + 1) s15)) else none) else none))
theorem w_X11_text_L120 {Y : YT} {X : XT} (C : Cx FM Y X cX11_text 3 RX11 (some .int) 128 (0, 0)) : ∀ (n : Nat), ∀ (v2 : Int32), ∀ (σ : St), G FM Y X 3 (emI FM Y) (0, 0) (0, 0) 120 [(0, Rf Y 0), (2, .int v2)] [] (RepS FM Y σ) (f_X11_text_L120 n v2 σ) := by
  intro n
  induction n with
  | zero =>
    intro v2 σ
    rw [f_X11_text_L120]; exact G.none
  | succ n ih =>
    intro v2 σ
    rw [f_X11_text_L120]
    refine q_iload_n C 1 dX11_text_120 rfl ?_
    refine q_aload_n C 0 dX11_text_121 rfl ?_
    refine gf_X11_94 C skM_0 dX11_text_122 ?_
    refine q_icmp_ge C 160 dX11_text_125 rfl (fun _ => ?_) (fun _ => ?_)
    · refine q_iconst C (v := 1) dX11_text_160 (by decide) ?_
      exact q_ireti C rfl dX11_text_161
    refine q_aload_n C 0 dX11_text_128 rfl ?_
    refine gf_X11_9 C skM_0 dX11_text_129 ?_
    refine q_sipush C (v := 169) dX11_text_132 (by decide) ?_
    refine q_bipush C (v := 52) dX11_text_135 (by decide) ?_
    refine q_aload_n C 0 dX11_text_137 rfl ?_
    refine gf_X11_120 C skM_0 dX11_text_138 ?_
    refine q_imul C dX11_text_141 ?_
    refine q_iadd C dX11_text_142 ?_
    refine q_iconst C (v := 1) dX11_text_143 (by decide) ?_
    refine q_iadd C dX11_text_144 ?_
    refine q_iload_n C 1 dX11_text_145 rfl ?_
    refine q_iadd C dX11_text_146 ?_
    refine q_aload_n C 0 dX11_text_147 rfl ?_
    refine gf_X11_32 C skM_0 dX11_text_148 ?_
    refine q_iload_n C 1 dX11_text_151 rfl ?_
    refine q_aldS C saM_6 (ltMa saM_6) dX11_text_152 (fun _ => ?_)
    refine q_astS C saM_1 (ltMa saM_1) dX11_text_153 (fun _ s15 => ?_)
    refine q_iinc C 1 [(2, .int (v2 + 1)), (0, Rf Y 0)] dX11_text_154 rfl rfl rfl rfl ?_
    refine q_goto C 120 dX11_text_157 rfl ?_
    refine G.sub [1, 0] (lv' := [(0, Rf Y 0), (2, .int (v2 + 1))]) rfl ?_
    exact ih (v2 + 1) s15
def f_X11_text_L72 (w1 : Int32) (σ : St) : Option (Int32 × St) := (if w1 = 0 ∨ w1 = 1 then (Bst (up σ 0 9 w1) fun s10 => (Bst (up s10 1 7 0) fun s12 => (if (s12 0 9) = 0 then (if inb (169 + (52 * (s12 0 8))) (shM 1 - 100) = true then (Bst (up s12 1 (169 + (52 * (s12 0 8))).toNatClampNeg (s12 0 11)) fun s13 => (f_X11_text_L120 400 0 s13)) else none) else (some (((-10) - (s12 0 6)), s12))))) else none)
theorem w_X11_text_L72 {Y : YT} {X : XT} (C : Cx FM Y X cX11_text 3 RX11 (some .int) 128 (0, 0)) : ∀ (w1 : Int32), ∀ (σ : St), G FM Y X 3 (emI FM Y) (0, 0) (0, 0) 72 [(0, Rf Y 0)] [.int w1, Rf Y 0] (RepS FM Y σ) (f_X11_text_L72 w1 σ) := by
  intro w1 σ
  rw [f_X11_text_L72]
  refine G.ite (fun h11 => ?_) (fun _ => G.none)
  refine pf_X11_82 C skM_0 h11 dX11_text_72 (fun s10 => ?_)
  refine q_aload_n C 0 dX11_text_75 rfl ?_
  refine gf_X11_9 C skM_0 dX11_text_76 ?_
  refine q_bipush C (v := 7) dX11_text_79 (by decide) ?_
  refine q_iconst C (v := 0) dX11_text_81 (by decide) ?_
  refine q_astK C (j := 7) saM_1 (ltMa saM_1) (by decide +kernel) (by decide +kernel) dX11_text_82 (fun s12 => ?_)
  refine q_aload_n C 0 dX11_text_83 rfl ?_
  refine gf_X11_82 C skM_0 dX11_text_84 ?_
  refine q_if_eq C 98 dX11_text_87 rfl (fun _ => ?_) (fun _ => ?_)
  · refine q_aload_n C 0 dX11_text_98 rfl ?_
    refine gf_X11_9 C skM_0 dX11_text_99 ?_
    refine q_sipush C (v := 169) dX11_text_102 (by decide) ?_
    refine q_bipush C (v := 52) dX11_text_105 (by decide) ?_
    refine q_aload_n C 0 dX11_text_107 rfl ?_
    refine gf_X11_120 C skM_0 dX11_text_108 ?_
    refine q_imul C dX11_text_111 ?_
    refine q_iadd C dX11_text_112 ?_
    refine q_aload_n C 0 dX11_text_113 rfl ?_
    refine gf_X11_94 C skM_0 dX11_text_114 ?_
    refine q_astS C saM_1 (ltMa saM_1) dX11_text_117 (fun _ s13 => ?_)
    refine q_iconst C (v := 0) dX11_text_118 (by decide) ?_
    refine q_istore_n C [(2, .int 0), (0, Rf Y 0)] dX11_text_119 rfl rfl ?_
    refine G.sub [1, 0] (lv' := [(0, Rf Y 0), (2, .int 0)]) rfl ?_
    exact w_X11_text_L120 C 400 0 s13
  refine q_bipush C (v := (-10)) dX11_text_90 (by decide) ?_
  refine q_aload_n C 0 dX11_text_92 rfl ?_
  refine gf_X11_86 C skM_0 dX11_text_93 ?_
  refine q_isub C dX11_text_96 ?_
  exact q_ireti C rfl dX11_text_97
def f_X11_text (a1 : Int32) (σ : St) : Option (Int32 × St) := (Option.bind (f_X11_within a1 0 1 σ) fun r1 => (if r1.1 = 0 then (Option.bind (f_X11_finding (-1000000001) r1.2) fun r9 => (some (r9.1, r9.2))) else (Bst (up r1.2 0 8 a1) fun s2 => (Bst (up s2 0 6 0) fun s3 => (Bst (up s3 0 7 0) fun s4 => (Bst (up s4 0 9 0) fun s5 => (Bst (up s5 0 11 0) fun s6 => (Option.bind ((fam_X11 120).2.2.1 s6) fun r7 => (if (r7 0 9) = 0 then (if (r7 1 7) ≤ (r7 0 6) then (f_X11_text_L72 0 r7) else (f_X11_text_L72 1 r7)) else (f_X11_text_L72 1 r7))))))))))
theorem w_X11_text {Y : YT} (a1 : Int32)   (σ : St) : CtE (emI FM Y) FM Y yX11_text cX11_text 3 (some .int) 128 [Rf Y 0, .int a1] σ (f_X11_text a1 σ) := by
  refine Ct.ofG (by decide) (Nat.le_of_ble_eq_true rfl) (fun X C0 => ?_)
  have C : Cx FM Y X cX11_text 3 RX11 (some .int) 128 (0, 0) := C0
  show G FM Y X 3 (emI FM Y) (0, 0) (0, 0) 0 [(0, Rf Y 0), (1, .int a1)] [] (RepS FM Y σ) (f_X11_text a1 σ)
  rw [f_X11_text]
  refine q_iload_n C 1 dX11_text_0 rfl ?_
  refine q_iconst C (v := 0) dX11_text_1 (by decide) ?_
  refine q_iconst C (v := 1) dX11_text_2 (by decide) ?_
  refine q_cSI C lk_X11_70 (w_X11_within (Y := Y) a1 0 1 σ) (Nat.le_of_ble_eq_true rfl) rfl (rest := []) rfl rfl (Nat.le_of_ble_eq_true rfl) dX11_text_3 (fun r1 => ?_)
  refine q_if_ne C 16 dX11_text_6 rfl (fun _ => ?_) (fun _ => ?_)
  · refine q_aload_n C 0 dX11_text_16 rfl ?_
    refine q_iload_n C 1 dX11_text_17 rfl ?_
    refine pf_X11_120 C skM_0 dX11_text_18 (fun s2 => ?_)
    refine q_aload_n C 0 dX11_text_21 rfl ?_
    refine q_iconst C (v := 0) dX11_text_22 (by decide) ?_
    refine pf_X11_86 C skM_0 dX11_text_23 (fun s3 => ?_)
    refine q_aload_n C 0 dX11_text_26 rfl ?_
    refine q_iconst C (v := 0) dX11_text_27 (by decide) ?_
    refine pf_X11_130 C skM_0 dX11_text_28 (fun s4 => ?_)
    refine q_aload_n C 0 dX11_text_31 rfl ?_
    refine q_iconst C (v := 0) dX11_text_32 (by decide) ?_
    refine pf_X11_82 C skM_0 (by decide) dX11_text_33 (fun s5 => ?_)
    refine q_aload_n C 0 dX11_text_36 rfl ?_
    refine q_iconst C (v := 0) dX11_text_37 (by decide) ?_
    refine pf_X11_94 C skM_0 dX11_text_38 (fun s6 => ?_)
    refine q_aload_n C 0 dX11_text_41 rfl ?_
    refine q_cVV C lk_X11_133 ((wfam_X11 (Y := Y) 120).2.2.1 s6) (Nat.le_of_ble_eq_true rfl) rfl skM_0 (ltM skM_0 rfl) recv_11 (rest := []) rfl rfl (Nat.le_of_ble_eq_true rfl) dX11_text_42 (fun r7 => ?_)
    refine q_aload_n C 0 dX11_text_45 rfl ?_
    refine q_aload_n C 0 dX11_text_46 rfl ?_
    refine gf_X11_82 C skM_0 dX11_text_47 ?_
    refine q_if_ne C 67 dX11_text_50 rfl (fun _ => ?_) (fun _ => ?_)
    · refine q_iconst C (v := 1) dX11_text_67 (by decide) ?_
      refine q_goto C 72 dX11_text_68 rfl ?_
      refine G.sub [0] (lv' := [(0, Rf Y 0)]) rfl ?_
      exact w_X11_text_L72 C 1 r7
    refine q_aload_n C 0 dX11_text_53 rfl ?_
    refine gf_X11_86 C skM_0 dX11_text_54 ?_
    refine q_aload_n C 0 dX11_text_57 rfl ?_
    refine gf_X11_9 C skM_0 dX11_text_58 ?_
    refine q_bipush C (v := 7) dX11_text_61 (by decide) ?_
    refine q_aldK C (j := 7) saM_1 (ltMa saM_1) (by decide +kernel) (by decide +kernel) dX11_text_63 ?_
    refine q_icmp_ge C 71 dX11_text_64 rfl (fun _ => ?_) (fun _ => ?_)
    · refine q_iconst C (v := 0) dX11_text_71 (by decide) ?_
      refine G.sub [0] (lv' := [(0, Rf Y 0)]) rfl ?_
      exact w_X11_text_L72 C 0 r7
    refine q_iconst C (v := 1) dX11_text_67 (by decide) ?_
    refine q_goto C 72 dX11_text_68 rfl ?_
    refine G.sub [0] (lv' := [(0, Rf Y 0)]) rfl ?_
    exact w_X11_text_L72 C 1 r7
  refine q_aload_n C 0 dX11_text_9 rfl ?_
  refine q_ldc C (v := (-1000000001)) (TB_of (List.mem_of_getElem? (i := 1119) (by decide +kernel)) rfl) dX11_text_10 ?_
  refine q_cVI C lk_X11_75 (w_X11_finding (Y := Y) (-1000000001) r1.2) (Nat.le_of_ble_eq_true rfl) rfl skM_0 (ltM skM_0 rfl) recv_11 (rest := []) rfl rfl (Nat.le_of_ble_eq_true rfl) dX11_text_12 (fun r9 => ?_)
  exact q_ireti C rfl dX11_text_15
def f_X11_done (a1 : Int32) (a2 : Int32) (a3 : Int32) (σ : St) : Option (Int32 × St) := (if a1 = 20000 then (if a2 = 0 then (if a3 = 0 then (some (0, σ)) else (some (1, σ))) else (some (1, σ))) else (if a1 = 20001 then (if a2 = 0 then (some (0, σ)) else (if a3 = 0 then (some (0, σ)) else (some (1, σ)))) else (if a1 = 20002 then (if a3 ≤ a2 then (some (0, σ)) else (some (1, σ))) else (if a1 = 20003 then (if a2 = a3 then (some (1, σ)) else (some (0, σ))) else (if a1 = 20004 then (if a2 ≤ a3 then (some (0, σ)) else (some (1, σ))) else (if a1 = 20005 then (some ((a2 + a3), σ)) else (if a1 = 20006 then (some ((a2 - a3), σ)) else (if a1 = 20007 then (some ((a2 * a3), σ)) else (if a1 = 20008 then (if a3 = 0 then (some (0, σ)) else (if a3 = 0 then none else (some ((a2 / a3), σ)))) else (if a3 = 0 then (some (0, σ)) else (if a3 = 0 then none else (some ((irm a2 a3), σ)))))))))))))
theorem w_X11_done {Y : YT} (a1 : Int32) (a2 : Int32) (a3 : Int32)   (σ : St) : CtE (emI FM Y) FM Y yX11_done cX11_done 3 (some .int) 0 [.int a1, .int a2, .int a3] σ (f_X11_done a1 a2 a3 σ) := by
  refine Ct.ofG (by decide) (Nat.le_of_ble_eq_true rfl) (fun X C0 => ?_)
  have C : Cx FM Y X cX11_done 3 RX11 (some .int) 0 (0, 0) := C0
  show G FM Y X 3 (emI FM Y) (0, 0) (0, 0) 0 [(0, .int a1), (1, .int a2), (2, .int a3)] [] (RepS FM Y σ) (f_X11_done a1 a2 a3 σ)
  rw [f_X11_done]
  refine q_iload_n C 0 dX11_done_0 rfl ?_
  refine G.ite (fun h1 => ?_) (fun h1 => ?_)
  · refine q_tsw_in C 52 dX11_done_1 h1 (by decide) (by decide) rfl rfl ?_
    refine q_iload_n C 1 dX11_done_52 rfl ?_
    refine q_if_ne C 60 dX11_done_53 rfl (fun _ => ?_) (fun _ => ?_)
    · refine q_iconst C (v := 1) dX11_done_60 (by decide) ?_
      refine q_goto C 65 dX11_done_61 rfl ?_
      exact q_ireti C rfl dX11_done_65
    refine q_iload_n C 2 dX11_done_56 rfl ?_
    refine q_if_eq C 64 dX11_done_57 rfl (fun _ => ?_) (fun _ => ?_)
    · refine q_iconst C (v := 0) dX11_done_64 (by decide) ?_
      exact q_ireti C rfl dX11_done_65
    refine q_iconst C (v := 1) dX11_done_60 (by decide) ?_
    refine q_goto C 65 dX11_done_61 rfl ?_
    exact q_ireti C rfl dX11_done_65
  refine G.ite (fun h2 => ?_) (fun h2 => ?_)
  · refine q_tsw_in C 66 dX11_done_1 h2 (by decide) (by decide) rfl rfl ?_
    refine q_iload_n C 1 dX11_done_66 rfl ?_
    refine q_if_eq C 78 dX11_done_67 rfl (fun _ => ?_) (fun _ => ?_)
    · refine q_iconst C (v := 0) dX11_done_78 (by decide) ?_
      exact q_ireti C rfl dX11_done_79
    refine q_iload_n C 2 dX11_done_70 rfl ?_
    refine q_if_eq C 78 dX11_done_71 rfl (fun _ => ?_) (fun _ => ?_)
    · refine q_iconst C (v := 0) dX11_done_78 (by decide) ?_
      exact q_ireti C rfl dX11_done_79
    refine q_iconst C (v := 1) dX11_done_74 (by decide) ?_
    refine q_goto C 79 dX11_done_75 rfl ?_
    exact q_ireti C rfl dX11_done_79
  refine G.ite (fun h3 => ?_) (fun h3 => ?_)
  · refine q_tsw_in C 80 dX11_done_1 h3 (by decide) (by decide) rfl rfl ?_
    refine q_iload_n C 1 dX11_done_80 rfl ?_
    refine q_iload_n C 2 dX11_done_81 rfl ?_
    refine q_icmp_ge C 89 dX11_done_82 rfl (fun _ => ?_) (fun _ => ?_)
    · refine q_iconst C (v := 0) dX11_done_89 (by decide) ?_
      exact q_ireti C rfl dX11_done_90
    refine q_iconst C (v := 1) dX11_done_85 (by decide) ?_
    refine q_goto C 90 dX11_done_86 rfl ?_
    exact q_ireti C rfl dX11_done_90
  refine G.ite (fun h4 => ?_) (fun h4 => ?_)
  · refine q_tsw_in C 91 dX11_done_1 h4 (by decide) (by decide) rfl rfl ?_
    refine q_iload_n C 1 dX11_done_91 rfl ?_
    refine q_iload_n C 2 dX11_done_92 rfl ?_
    refine q_icmp_ne C 100 dX11_done_93 rfl (fun _ => ?_) (fun _ => ?_)
    · refine q_iconst C (v := 0) dX11_done_100 (by decide) ?_
      exact q_ireti C rfl dX11_done_101
    refine q_iconst C (v := 1) dX11_done_96 (by decide) ?_
    refine q_goto C 101 dX11_done_97 rfl ?_
    exact q_ireti C rfl dX11_done_101
  refine G.ite (fun h5 => ?_) (fun h5 => ?_)
  · refine q_tsw_in C 102 dX11_done_1 h5 (by decide) (by decide) rfl rfl ?_
    refine q_iload_n C 1 dX11_done_102 rfl ?_
    refine q_iload_n C 2 dX11_done_103 rfl ?_
    refine q_icmp_le C 111 dX11_done_104 rfl (fun _ => ?_) (fun _ => ?_)
    · refine q_iconst C (v := 0) dX11_done_111 (by decide) ?_
      exact q_ireti C rfl dX11_done_112
    refine q_iconst C (v := 1) dX11_done_107 (by decide) ?_
    refine q_goto C 112 dX11_done_108 rfl ?_
    exact q_ireti C rfl dX11_done_112
  refine G.ite (fun h6 => ?_) (fun h6 => ?_)
  · refine q_tsw_in C 113 dX11_done_1 h6 (by decide) (by decide) rfl rfl ?_
    refine q_iload_n C 1 dX11_done_113 rfl ?_
    refine q_iload_n C 2 dX11_done_114 rfl ?_
    refine q_iadd C dX11_done_115 ?_
    exact q_ireti C rfl dX11_done_116
  refine G.ite (fun h7 => ?_) (fun h7 => ?_)
  · refine q_tsw_in C 117 dX11_done_1 h7 (by decide) (by decide) rfl rfl ?_
    refine q_iload_n C 1 dX11_done_117 rfl ?_
    refine q_iload_n C 2 dX11_done_118 rfl ?_
    refine q_isub C dX11_done_119 ?_
    exact q_ireti C rfl dX11_done_120
  refine G.ite (fun h8 => ?_) (fun h8 => ?_)
  · refine q_tsw_in C 121 dX11_done_1 h8 (by decide) (by decide) rfl rfl ?_
    refine q_iload_n C 1 dX11_done_121 rfl ?_
    refine q_iload_n C 2 dX11_done_122 rfl ?_
    refine q_imul C dX11_done_123 ?_
    exact q_ireti C rfl dX11_done_124
  refine G.ite (fun h9 => ?_) (fun h9 => ?_)
  · refine q_tsw_in C 125 dX11_done_1 h9 (by decide) (by decide) rfl rfl ?_
    refine q_iload_n C 2 dX11_done_125 rfl ?_
    refine q_if_ne C 133 dX11_done_126 rfl (fun _ => ?_) (fun _ => ?_)
    · refine q_iload_n C 1 dX11_done_133 rfl ?_
      refine q_iload_n C 2 dX11_done_134 rfl ?_
      refine q_idivz C dX11_done_135 (fun _ => ?_)
      exact q_ireti C rfl dX11_done_136
    refine q_iconst C (v := 0) dX11_done_129 (by decide) ?_
    refine q_goto C 136 dX11_done_130 rfl ?_
    exact q_ireti C rfl dX11_done_136
  refine q_tsw_out C 137 dX11_done_1 ?_ rfl ?_
  · have hsw := sw_out 20000 9 (by decide) (by decide) ⟨h1, h2, h3, h4, h5, h6, h7, h8, h9, trivial⟩
    omega
  refine q_iload_n C 2 dX11_done_137 rfl ?_
  refine q_if_ne C 145 dX11_done_138 rfl (fun _ => ?_) (fun _ => ?_)
  · refine q_iload_n C 1 dX11_done_145 rfl ?_
    refine q_iload_n C 2 dX11_done_146 rfl ?_
    refine q_iremz C dX11_done_147 (fun _ => ?_)
    exact q_ireti C rfl dX11_done_148
  refine q_iconst C (v := 0) dX11_done_141 (by decide) ?_
  refine q_goto C 148 dX11_done_142 rfl ?_
  exact q_ireti C rfl dX11_done_148
theorem lk_X11_139 : LkS RX11 139 yX11_done cX11_done 3 (some .int) 3 := ⟨TB_p [1208, 1209, 81, 1210] (by decide +kernel) (by decide +kernel), by decide +kernel, by decide +kernel, by decide +kernel⟩
def f_X11_worked_L4 : Nat → Int32 → Int32 → Int32 → St → Option (Int32 × St)
  | 0, _, _, _, _ => none
  | n + 1, v1, v2, v3, σ => (if inb (v1 - 1) (shM 1 - 100) = true then (if (v1 + (σ 1 (v1 - 1).toNatClampNeg)) ≤ v3 then (some ((σ 8 0), σ)) else (if inb v3 (shM 1 - 100) = true then (if 20000 ≤ (σ 1 v3.toNatClampNeg) then (if (σ 1 v3.toNatClampNeg) = 20010 then (if inb (v2 - 1) (shM 8 - 100) = true then (if (σ 8 (v2 - 1).toNatClampNeg) = 0 then (if inb (v2 - 1) (shM 8 - 100) = true then (Bst (up σ 8 (v2 - 1).toNatClampNeg 1) fun s10 => ((f_X11_worked_L4 n) v1 v2 (v3 + 1) s10)) else none) else (if inb (v2 - 1) (shM 8 - 100) = true then (Bst (up σ 8 (v2 - 1).toNatClampNeg 0) fun s9 => ((f_X11_worked_L4 n) v1 v2 (v3 + 1) s9)) else none)) else none) else (if inb ((v2 + (-1)) - 1) (shM 8 - 100) = true then (if inb (v2 + (-1)) (shM 8 - 100) = true then (Option.bind (f_X11_done (σ 1 v3.toNatClampNeg) (σ 8 ((v2 + (-1)) - 1).toNatClampNeg) (σ 8 (v2 + (-1)).toNatClampNeg) σ) fun r6 => (if inb ((v2 + (-1)) - 1) (shM 8 - 100) = true then (Bst (up r6.2 8 ((v2 + (-1)) - 1).toNatClampNeg r6.1) fun s7 => ((f_X11_worked_L4 n) v1 (v2 + (-1)) (v3 + 1) s7)) else none)) else none) else none)) else (if 10000 ≤ (σ 1 v3.toNatClampNeg) then (if inb ((σ 1 v3.toNatClampNeg) - 10000) (shM 7 - 100) = true then (if inb v2 (shM 8 - 100) = true then (Bst (up σ 8 v2.toNatClampNeg (σ 7 ((σ 1 v3.toNatClampNeg) - 10000).toNatClampNeg)) fun s12 => ((f_X11_worked_L4 n) v1 (v2 + 1) (v3 + 1) s12)) else none) else none) else (if inb v2 (shM 8 - 100) = true then (Bst (up σ 8 v2.toNatClampNeg (σ 1 v3.toNatClampNeg)) fun s13 => ((f_X11_worked_L4 n) v1 (v2 + 1) (v3 + 1) s13)) else none))) else none)) else none)
theorem w_X11_worked_L4 {Y : YT} {X : XT} (C : Cx FM Y X cX11_worked 5 RX11 (some .int) 1 (0, 0)) : ∀ (n : Nat), ∀ (v1 : Int32), ∀ (v2 : Int32), ∀ (v3 : Int32), ∀ (σ : St), G FM Y X 5 (emI FM Y) (0, 0) (0, 0) 4 [(0, Rf Y 0), (1, .int v1), (2, .int v2), (3, .int v3)] [] (RepS FM Y σ) (f_X11_worked_L4 n v1 v2 v3 σ) := by
  intro n
  induction n with
  | zero =>
    intro v1 v2 v3 σ
    rw [f_X11_worked_L4]; exact G.none
  | succ n ih =>
    intro v1 v2 v3 σ
    rw [f_X11_worked_L4]
    refine q_iload_n C 3 dX11_worked_4 rfl ?_
    refine q_iload_n C 1 dX11_worked_5 rfl ?_
    refine q_aload_n C 0 dX11_worked_6 rfl ?_
    refine gf_X11_9 C skM_0 dX11_worked_7 ?_
    refine q_iload_n C 1 dX11_worked_10 rfl ?_
    refine q_iconst C (v := 1) dX11_worked_11 (by decide) ?_
    refine q_isub C dX11_worked_12 ?_
    refine q_aldS C saM_1 (ltMa saM_1) dX11_worked_13 (fun _ => ?_)
    refine q_iadd C dX11_worked_14 ?_
    refine q_icmp_ge C 141 dX11_worked_15 rfl (fun _ => ?_) (fun _ => ?_)
    · refine q_aload_n C 0 dX11_worked_141 rfl ?_
      refine gf_X11_38 C skM_0 dX11_worked_142 ?_
      refine q_iconst C (v := 0) dX11_worked_145 (by decide) ?_
      refine q_aldK C (j := 0) saM_8 (ltMa saM_8) (by decide +kernel) (by decide +kernel) dX11_worked_146 ?_
      exact q_ireti C rfl dX11_worked_147
    refine q_aload_n C 0 dX11_worked_18 rfl ?_
    refine gf_X11_9 C skM_0 dX11_worked_19 ?_
    refine q_iload_n C 3 dX11_worked_22 rfl ?_
    refine q_aldS C saM_1 (ltMa saM_1) dX11_worked_23 (fun _ => ?_)
    refine q_istore C [(4, .int (σ 1 v3.toNatClampNeg)), (0, Rf Y 0), (1, .int v1), (2, .int v2), (3, .int v3)] dX11_worked_24 rfl rfl ?_
    refine q_iload C 0 dX11_worked_26 rfl ?_
    refine q_sipush C (v := 20000) dX11_worked_28 (by decide) ?_
    refine q_icmp_ge C 70 dX11_worked_31 rfl (fun _ => ?_) (fun _ => ?_)
    · refine q_iload C 0 dX11_worked_70 rfl ?_
      refine q_sipush C (v := 20010) dX11_worked_72 (by decide) ?_
      refine q_icmp_ne C 105 dX11_worked_75 rfl (fun _ => ?_) (fun _ => ?_)
      · refine q_iinc C 3 [(2, .int (v2 + (-1))), (4, .int (σ 1 v3.toNatClampNeg)), (0, Rf Y 0), (1, .int v1), (3, .int v3)] dX11_worked_105 rfl rfl rfl rfl ?_
        refine q_aload_n C 2 dX11_worked_108 rfl ?_
        refine gf_X11_38 C skM_0 dX11_worked_109 ?_
        refine q_iload_n C 0 dX11_worked_112 rfl ?_
        refine q_iconst C (v := 1) dX11_worked_113 (by decide) ?_
        refine q_isub C dX11_worked_114 ?_
        refine q_iload C 1 dX11_worked_115 rfl ?_
        refine q_aload_n C 2 dX11_worked_117 rfl ?_
        refine gf_X11_38 C skM_0 dX11_worked_118 ?_
        refine q_iload_n C 0 dX11_worked_121 rfl ?_
        refine q_iconst C (v := 1) dX11_worked_122 (by decide) ?_
        refine q_isub C dX11_worked_123 ?_
        refine q_aldS C saM_8 (ltMa saM_8) dX11_worked_124 (fun _ => ?_)
        refine q_aload_n C 2 dX11_worked_125 rfl ?_
        refine gf_X11_38 C skM_0 dX11_worked_126 ?_
        refine q_iload_n C 0 dX11_worked_129 rfl ?_
        refine q_aldS C saM_8 (ltMa saM_8) dX11_worked_130 (fun _ => ?_)
        refine q_cSI C lk_X11_139 (w_X11_done (Y := Y) (σ 1 v3.toNatClampNeg) (σ 8 ((v2 + (-1)) - 1).toNatClampNeg) (σ 8 (v2 + (-1)).toNatClampNeg) σ) (Nat.le_of_ble_eq_true rfl) rfl (rest := [.int ((v2 + (-1)) - 1), Rf Y 8]) rfl rfl (Nat.le_of_ble_eq_true rfl) dX11_worked_131 (fun r6 => ?_)
        refine q_astS C saM_8 (ltMa saM_8) dX11_worked_134 (fun _ s7 => ?_)
        refine q_iinc C 4 [(3, .int (v3 + 1)), (2, .int (v2 + (-1))), (4, .int (σ 1 v3.toNatClampNeg)), (0, Rf Y 0), (1, .int v1)] dX11_worked_135 rfl rfl rfl rfl ?_
        refine q_goto C 4 dX11_worked_138 rfl ?_
        refine G.sub [3, 4, 1, 0] (lv' := [(0, Rf Y 0), (1, .int v1), (2, .int (v2 + (-1))), (3, .int (v3 + 1))]) rfl ?_
        exact ih v1 (v2 + (-1)) (v3 + 1) s7
      refine q_aload_n C 1 dX11_worked_78 rfl ?_
      refine gf_X11_38 C skM_0 dX11_worked_79 ?_
      refine q_iload_n C 3 dX11_worked_82 rfl ?_
      refine q_iconst C (v := 1) dX11_worked_83 (by decide) ?_
      refine q_isub C dX11_worked_84 ?_
      refine q_aload_n C 1 dX11_worked_85 rfl ?_
      refine gf_X11_38 C skM_0 dX11_worked_86 ?_
      refine q_iload_n C 3 dX11_worked_89 rfl ?_
      refine q_iconst C (v := 1) dX11_worked_90 (by decide) ?_
      refine q_isub C dX11_worked_91 ?_
      refine q_aldS C saM_8 (ltMa saM_8) dX11_worked_92 (fun _ => ?_)
      refine q_if_ne C 100 dX11_worked_93 rfl (fun _ => ?_) (fun _ => ?_)
      · refine q_iconst C (v := 0) dX11_worked_100 (by decide) ?_
        refine q_astS C saM_8 (ltMa saM_8) dX11_worked_101 (fun _ s9 => ?_)
        refine q_goto C 135 dX11_worked_102 rfl ?_
        refine q_iinc C 4 [(3, .int (v3 + 1)), (4, .int (σ 1 v3.toNatClampNeg)), (0, Rf Y 0), (1, .int v1), (2, .int v2)] dX11_worked_135 rfl rfl rfl rfl ?_
        refine q_goto C 4 dX11_worked_138 rfl ?_
        refine G.sub [2, 3, 4, 0] (lv' := [(0, Rf Y 0), (1, .int v1), (2, .int v2), (3, .int (v3 + 1))]) rfl ?_
        exact ih v1 v2 (v3 + 1) s9
      refine q_iconst C (v := 1) dX11_worked_96 (by decide) ?_
      refine q_goto C 101 dX11_worked_97 rfl ?_
      refine q_astS C saM_8 (ltMa saM_8) dX11_worked_101 (fun _ s10 => ?_)
      refine q_goto C 135 dX11_worked_102 rfl ?_
      refine q_iinc C 4 [(3, .int (v3 + 1)), (4, .int (σ 1 v3.toNatClampNeg)), (0, Rf Y 0), (1, .int v1), (2, .int v2)] dX11_worked_135 rfl rfl rfl rfl ?_
      refine q_goto C 4 dX11_worked_138 rfl ?_
      refine G.sub [2, 3, 4, 0] (lv' := [(0, Rf Y 0), (1, .int v1), (2, .int v2), (3, .int (v3 + 1))]) rfl ?_
      exact ih v1 v2 (v3 + 1) s10
    refine q_aload_n C 1 dX11_worked_34 rfl ?_
    refine gf_X11_38 C skM_0 dX11_worked_35 ?_
    refine q_iload_n C 3 dX11_worked_38 rfl ?_
    refine q_iload C 0 dX11_worked_39 rfl ?_
    refine q_sipush C (v := 10000) dX11_worked_41 (by decide) ?_
    refine q_icmp_ge C 52 dX11_worked_44 rfl (fun _ => ?_) (fun _ => ?_)
    · refine q_aload_n C 1 dX11_worked_52 rfl ?_
      refine gf_X11_35 C skM_0 dX11_worked_53 ?_
      refine q_iload C 0 dX11_worked_56 rfl ?_
      refine q_sipush C (v := 10000) dX11_worked_58 (by decide) ?_
      refine q_isub C dX11_worked_61 ?_
      refine q_aldS C saM_7 (ltMa saM_7) dX11_worked_62 (fun _ => ?_)
      refine q_astS C saM_8 (ltMa saM_8) dX11_worked_63 (fun _ s12 => ?_)
      refine q_iinc C 3 [(2, .int (v2 + 1)), (4, .int (σ 1 v3.toNatClampNeg)), (0, Rf Y 0), (1, .int v1), (3, .int v3)] dX11_worked_64 rfl rfl rfl rfl ?_
      refine q_goto C 135 dX11_worked_67 rfl ?_
      refine q_iinc C 4 [(3, .int (v3 + 1)), (2, .int (v2 + 1)), (4, .int (σ 1 v3.toNatClampNeg)), (0, Rf Y 0), (1, .int v1)] dX11_worked_135 rfl rfl rfl rfl ?_
      refine q_goto C 4 dX11_worked_138 rfl ?_
      refine G.sub [3, 4, 1, 0] (lv' := [(0, Rf Y 0), (1, .int v1), (2, .int (v2 + 1)), (3, .int (v3 + 1))]) rfl ?_
      exact ih v1 (v2 + 1) (v3 + 1) s12
    refine q_iload C 0 dX11_worked_47 rfl ?_
    refine q_goto C 63 dX11_worked_49 rfl ?_
    refine q_astS C saM_8 (ltMa saM_8) dX11_worked_63 (fun _ s13 => ?_)
    refine q_iinc C 3 [(2, .int (v2 + 1)), (4, .int (σ 1 v3.toNatClampNeg)), (0, Rf Y 0), (1, .int v1), (3, .int v3)] dX11_worked_64 rfl rfl rfl rfl ?_
    refine q_goto C 135 dX11_worked_67 rfl ?_
    refine q_iinc C 4 [(3, .int (v3 + 1)), (2, .int (v2 + 1)), (4, .int (σ 1 v3.toNatClampNeg)), (0, Rf Y 0), (1, .int v1)] dX11_worked_135 rfl rfl rfl rfl ?_
    refine q_goto C 4 dX11_worked_138 rfl ?_
    refine G.sub [3, 4, 1, 0] (lv' := [(0, Rf Y 0), (1, .int v1), (2, .int (v2 + 1)), (3, .int (v3 + 1))]) rfl ?_
    exact ih v1 (v2 + 1) (v3 + 1) s13
def f_X11_worked (a1 : Int32) (σ : St) : Option (Int32 × St) := (f_X11_worked_L4 400 a1 0 a1 σ)
theorem w_X11_worked {Y : YT} (a1 : Int32)   (σ : St) : CtE (emI FM Y) FM Y yX11_worked cX11_worked 5 (some .int) 1 [Rf Y 0, .int a1] σ (f_X11_worked a1 σ) := by
  refine Ct.ofG (by decide) (Nat.le_of_ble_eq_true rfl) (fun X C0 => ?_)
  have C : Cx FM Y X cX11_worked 5 RX11 (some .int) 1 (0, 0) := C0
  show G FM Y X 5 (emI FM Y) (0, 0) (0, 0) 0 [(0, Rf Y 0), (1, .int a1)] [] (RepS FM Y σ) (f_X11_worked a1 σ)
  rw [f_X11_worked]
  refine q_iconst C (v := 0) dX11_worked_0 (by decide) ?_
  refine q_istore_n C [(2, .int 0), (0, Rf Y 0), (1, .int a1)] dX11_worked_1 rfl rfl ?_
  refine q_iload_n C 2 dX11_worked_2 rfl ?_
  refine q_istore_n C [(3, .int a1), (2, .int 0), (0, Rf Y 0), (1, .int a1)] dX11_worked_3 rfl rfl ?_
  refine G.sub [2, 3, 1, 0] (lv' := [(0, Rf Y 0), (1, .int a1), (2, .int 0), (3, .int a1)]) rfl ?_
  exact w_X11_worked_L4 C 400 a1 0 a1 σ
def f_X11_hasText (a1 : Int32) (σ : St) : Option (Int32 × St) := (if inb (169 + (52 * a1)) (shM 1 - 100) = true then (if (σ 1 (169 + (52 * a1)).toNatClampNeg) ≤ 0 then (some (0, σ)) else (some (1, σ))) else none)
theorem w_X11_hasText {Y : YT} (a1 : Int32)   (σ : St) : CtE (emI FM Y) FM Y yX11_hasText cX11_hasText 2 (some .boolean) 0 [Rf Y 0, .int a1] σ (f_X11_hasText a1 σ) := by
  refine Ct.ofG (by decide) (Nat.le_of_ble_eq_true rfl) (fun X C0 => ?_)
  have C : Cx FM Y X cX11_hasText 2 RX11 (some .boolean) 0 (0, 0) := C0
  show G FM Y X 2 (emI FM Y) (0, 0) (0, 0) 0 [(0, Rf Y 0), (1, .int a1)] [] (RepS FM Y σ) (f_X11_hasText a1 σ)
  rw [f_X11_hasText]
  refine q_aload_n C 0 dX11_hasText_0 rfl ?_
  refine gf_X11_9 C skM_0 dX11_hasText_1 ?_
  refine q_sipush C (v := 169) dX11_hasText_4 (by decide) ?_
  refine q_bipush C (v := 52) dX11_hasText_7 (by decide) ?_
  refine q_iload_n C 1 dX11_hasText_9 rfl ?_
  refine q_imul C dX11_hasText_10 ?_
  refine q_iadd C dX11_hasText_11 ?_
  refine q_aldS C saM_1 (ltMa saM_1) dX11_hasText_12 (fun _ => ?_)
  refine q_if_le C 20 dX11_hasText_13 rfl (fun _ => ?_) (fun _ => ?_)
  · refine q_iconst C (v := 0) dX11_hasText_20 (by decide) ?_
    exact q_iretz C (by decide) rfl dX11_hasText_21
  refine q_iconst C (v := 1) dX11_hasText_16 (by decide) ?_
  refine q_goto C 21 dX11_hasText_17 rfl ?_
  exact q_iretz C (by decide) rfl dX11_hasText_21
theorem lk_X11_143 : LkV RX11 143 yX11_hasText cX11_hasText 2 (some .boolean) 1 := ⟨TB_p [1200, 1202, 27, 81, 1203] (by decide +kernel) (by decide +kernel), by decide +kernel, by decide +kernel, by decide +kernel⟩
theorem lk_X11_149 : LkS RX11 149 yX11_held cX11_held 3 (some .int) 3 := ⟨TB_p [1211, 1212, 81, 1213] (by decide +kernel) (by decide +kernel), by decide +kernel, by decide +kernel, by decide +kernel⟩
theorem lk_X11_146 : LkV RX11 146 yX11_worked cX11_worked 5 (some .int) 1 := ⟨TB_p [1204, 1206, 28, 81, 1207] (by decide +kernel) (by decide +kernel), by decide +kernel, by decide +kernel, by decide +kernel⟩
def f_X11_given_L36 (v1 : Int32) (w0 : Int32) (σ : St) : Option (Int32 × St) := (Option.bind (f_X11_hasText v1 σ) fun r4 => (if r4.1 = 0 then (if v1 = 0 then (Option.bind (f_X11_held w0 0 99 r4.2) fun r6 => (some (r6.1, r6.2))) else (Option.bind (f_X11_held w0 0 1 r4.2) fun r5 => (some (r5.1, r5.2)))) else (Option.bind (f_X11_worked ((169 + (52 * v1)) + 1) r4.2) fun r7 => (if v1 = 0 then (Option.bind (f_X11_held r7.1 0 99 r7.2) fun r9 => (some (r9.1, r9.2))) else (Option.bind (f_X11_held r7.1 0 1 r7.2) fun r8 => (some (r8.1, r8.2)))))))
theorem w_X11_given_L36 {Y : YT} {X : XT} (C : Cx FM Y X cX11_given 6 RX11 (some .int) 2 (0, 0)) : ∀ (v1 : Int32), ∀ (w0 : Int32), ∀ (σ : St), G FM Y X 6 (emI FM Y) (0, 0) (0, 0) 36 [(0, Rf Y 0), (1, .int v1)] [.int w0] (RepS FM Y σ) (f_X11_given_L36 v1 w0 σ) := by
  intro v1 w0 σ
  rw [f_X11_given_L36]
  refine q_istore C [(5, .int w0), (0, Rf Y 0), (1, .int v1)] dX11_given_36 rfl rfl ?_
  refine q_aload_n C 1 dX11_given_38 rfl ?_
  refine q_iload_n C 2 dX11_given_39 rfl ?_
  refine q_cVI C lk_X11_143 (w_X11_hasText (Y := Y) v1 σ) (Nat.le_of_ble_eq_true rfl) rfl skM_0 (ltM skM_0 rfl) recv_11 (rest := []) rfl rfl (Nat.le_of_ble_eq_true rfl) dX11_given_40 (fun r4 => ?_)
  refine q_if_eq C 63 dX11_given_43 rfl (fun _ => ?_) (fun _ => ?_)
  · refine q_iload C 0 dX11_given_63 rfl ?_
    refine q_iconst C (v := 0) dX11_given_65 (by decide) ?_
    refine q_iload_n C 2 dX11_given_66 rfl ?_
    refine q_if_ne C 75 dX11_given_67 rfl (fun _ => ?_) (fun _ => ?_)
    · refine q_iconst C (v := 1) dX11_given_75 (by decide) ?_
      refine q_cSI C lk_X11_149 (w_X11_held (Y := Y) w0 0 1 r4.2) (Nat.le_of_ble_eq_true rfl) rfl (rest := []) rfl rfl (Nat.le_of_ble_eq_true rfl) dX11_given_76 (fun r5 => ?_)
      exact q_ireti C rfl dX11_given_79
    refine q_bipush C (v := 99) dX11_given_70 (by decide) ?_
    refine q_goto C 76 dX11_given_72 rfl ?_
    refine q_cSI C lk_X11_149 (w_X11_held (Y := Y) w0 0 99 r4.2) (Nat.le_of_ble_eq_true rfl) rfl (rest := []) rfl rfl (Nat.le_of_ble_eq_true rfl) dX11_given_76 (fun r6 => ?_)
    exact q_ireti C rfl dX11_given_79
  refine q_aload_n C 1 dX11_given_46 rfl ?_
  refine q_sipush C (v := 169) dX11_given_47 (by decide) ?_
  refine q_bipush C (v := 52) dX11_given_50 (by decide) ?_
  refine q_iload_n C 2 dX11_given_52 rfl ?_
  refine q_imul C dX11_given_53 ?_
  refine q_iadd C dX11_given_54 ?_
  refine q_iconst C (v := 1) dX11_given_55 (by decide) ?_
  refine q_iadd C dX11_given_56 ?_
  refine q_cVI C lk_X11_146 (w_X11_worked (Y := Y) ((169 + (52 * v1)) + 1) r4.2) (Nat.le_of_ble_eq_true rfl) rfl skM_0 (ltM skM_0 rfl) recv_11 (rest := []) rfl rfl (Nat.le_of_ble_eq_true rfl) dX11_given_57 (fun r7 => ?_)
  refine q_goto C 65 dX11_given_60 rfl ?_
  refine q_iconst C (v := 0) dX11_given_65 (by decide) ?_
  refine q_iload_n C 2 dX11_given_66 rfl ?_
  refine q_if_ne C 75 dX11_given_67 rfl (fun _ => ?_) (fun _ => ?_)
  · refine q_iconst C (v := 1) dX11_given_75 (by decide) ?_
    refine q_cSI C lk_X11_149 (w_X11_held (Y := Y) r7.1 0 1 r7.2) (Nat.le_of_ble_eq_true rfl) rfl (rest := []) rfl rfl (Nat.le_of_ble_eq_true rfl) dX11_given_76 (fun r8 => ?_)
    exact q_ireti C rfl dX11_given_79
  refine q_bipush C (v := 99) dX11_given_70 (by decide) ?_
  refine q_goto C 76 dX11_given_72 rfl ?_
  refine q_cSI C lk_X11_149 (w_X11_held (Y := Y) r7.1 0 99 r7.2) (Nat.le_of_ble_eq_true rfl) rfl (rest := []) rfl rfl (Nat.le_of_ble_eq_true rfl) dX11_given_76 (fun r9 => ?_)
  exact q_ireti C rfl dX11_given_79
def f_X11_given (a1 : Int32) (a2 : Int32) (a3 : Int32) (a4 : Int32) (σ : St) : Option (Int32 × St) := (Bst (up σ 7 0 a2) fun s1 => (Bst (up s1 7 1 a3) fun s2 => (Bst (up s2 7 2 a4) fun s3 => (if a1 = 0 then (f_X11_given_L36 a1 (1 + (a4 / 2)) s3) else (f_X11_given_L36 a1 1 s3)))))
theorem w_X11_given {Y : YT} (a1 : Int32) (a2 : Int32) (a3 : Int32) (a4 : Int32)   (σ : St) : CtE (emI FM Y) FM Y yX11_given cX11_given 6 (some .int) 2 [Rf Y 0, .int a1, .int a2, .int a3, .int a4] σ (f_X11_given a1 a2 a3 a4 σ) := by
  refine Ct.ofG (by decide) (Nat.le_of_ble_eq_true rfl) (fun X C0 => ?_)
  have C : Cx FM Y X cX11_given 6 RX11 (some .int) 2 (0, 0) := C0
  show G FM Y X 6 (emI FM Y) (0, 0) (0, 0) 0 [(0, Rf Y 0), (1, .int a1), (2, .int a2), (3, .int a3), (4, .int a4)] [] (RepS FM Y σ) (f_X11_given a1 a2 a3 a4 σ)
  rw [f_X11_given]
  refine q_aload_n C 0 dX11_given_0 rfl ?_
  refine gf_X11_35 C skM_0 dX11_given_1 ?_
  refine q_iconst C (v := 0) dX11_given_4 (by decide) ?_
  refine q_iload_n C 2 dX11_given_5 rfl ?_
  refine q_astK C (j := 0) saM_7 (ltMa saM_7) (by decide +kernel) (by decide +kernel) dX11_given_6 (fun s1 => ?_)
  refine q_aload_n C 0 dX11_given_7 rfl ?_
  refine gf_X11_35 C skM_0 dX11_given_8 ?_
  refine q_iconst C (v := 1) dX11_given_11 (by decide) ?_
  refine q_iload_n C 3 dX11_given_12 rfl ?_
  refine q_astK C (j := 1) saM_7 (ltMa saM_7) (by decide +kernel) (by decide +kernel) dX11_given_13 (fun s2 => ?_)
  refine q_aload_n C 0 dX11_given_14 rfl ?_
  refine gf_X11_35 C skM_0 dX11_given_15 ?_
  refine q_iconst C (v := 2) dX11_given_18 (by decide) ?_
  refine q_iload C 4 dX11_given_19 rfl ?_
  refine q_astK C (j := 2) saM_7 (ltMa saM_7) (by decide +kernel) (by decide +kernel) dX11_given_21 (fun s3 => ?_)
  refine q_iload_n C 1 dX11_given_22 rfl ?_
  refine q_if_ne C 35 dX11_given_23 rfl (fun _ => ?_) (fun _ => ?_)
  · refine q_iconst C (v := 1) dX11_given_35 (by decide) ?_
    refine G.sub [0, 1] (lv' := [(0, Rf Y 0), (1, .int a1)]) rfl ?_
    exact w_X11_given_L36 C a1 1 s3
  refine q_iconst C (v := 1) dX11_given_26 (by decide) ?_
  refine q_iload C 4 dX11_given_27 rfl ?_
  refine q_iconst C (v := 2) dX11_given_29 (by decide) ?_
  refine q_idiv C dX11_given_30 (by decide) ?_
  refine q_iadd C dX11_given_31 ?_
  refine q_goto C 36 dX11_given_32 rfl ?_
  refine G.sub [0, 1] (lv' := [(0, Rf Y 0), (1, .int a1)]) rfl ?_
  exact w_X11_given_L36 C a1 (1 + (a4 / 2)) s3
theorem lk_X11_152 : LkV RX11 152 yX11_given cX11_given 6 (some .int) 4 := ⟨TB_p [1196, 1198, 26, 81, 1199] (by decide +kernel) (by decide +kernel), by decide +kernel, by decide +kernel, by decide +kernel⟩
def f_X11_law (a1 : Int32) (a2 : Int32) (a3 : Int32) (a4 : Int32) (σ : St) : Option (Int32 × St) := (Option.bind (f_X11_within a1 0 1 σ) fun r1 => (if r1.1 = 0 then (Option.bind (f_X11_finding (-1000000001) r1.2) fun r2 => (some (r2.1, r2.2))) else (Option.bind (f_X11_given a1 a2 a3 a4 r1.2) fun r3 => (some (r3.1, r3.2)))))
theorem w_X11_law {Y : YT} (a1 : Int32) (a2 : Int32) (a3 : Int32) (a4 : Int32)   (σ : St) : CtE (emI FM Y) FM Y yX11_law cX11_law 5 (some .int) 3 [Rf Y 0, .int a1, .int a2, .int a3, .int a4] σ (f_X11_law a1 a2 a3 a4 σ) := by
  refine Ct.ofG (by decide) (Nat.le_of_ble_eq_true rfl) (fun X C0 => ?_)
  have C : Cx FM Y X cX11_law 5 RX11 (some .int) 3 (0, 0) := C0
  show G FM Y X 5 (emI FM Y) (0, 0) (0, 0) 0 [(0, Rf Y 0), (1, .int a1), (2, .int a2), (3, .int a3), (4, .int a4)] [] (RepS FM Y σ) (f_X11_law a1 a2 a3 a4 σ)
  rw [f_X11_law]
  refine q_iload_n C 1 dX11_law_0 rfl ?_
  refine q_iconst C (v := 0) dX11_law_1 (by decide) ?_
  refine q_iconst C (v := 1) dX11_law_2 (by decide) ?_
  refine q_cSI C lk_X11_70 (w_X11_within (Y := Y) a1 0 1 σ) (Nat.le_of_ble_eq_true rfl) rfl (rest := []) rfl rfl (Nat.le_of_ble_eq_true rfl) dX11_law_3 (fun r1 => ?_)
  refine q_if_eq C 21 dX11_law_6 rfl (fun _ => ?_) (fun _ => ?_)
  · refine q_aload_n C 0 dX11_law_21 rfl ?_
    refine q_ldc C (v := (-1000000001)) (TB_of (List.mem_of_getElem? (i := 1119) (by decide +kernel)) rfl) dX11_law_22 ?_
    refine q_cVI C lk_X11_75 (w_X11_finding (Y := Y) (-1000000001) r1.2) (Nat.le_of_ble_eq_true rfl) rfl skM_0 (ltM skM_0 rfl) recv_11 (rest := []) rfl rfl (Nat.le_of_ble_eq_true rfl) dX11_law_24 (fun r2 => ?_)
    exact q_ireti C rfl dX11_law_27
  refine q_aload_n C 0 dX11_law_9 rfl ?_
  refine q_iload_n C 1 dX11_law_10 rfl ?_
  refine q_iload_n C 2 dX11_law_11 rfl ?_
  refine q_iload_n C 3 dX11_law_12 rfl ?_
  refine q_iload C 4 dX11_law_13 rfl ?_
  refine q_cVI C lk_X11_152 (w_X11_given (Y := Y) a1 a2 a3 a4 r1.2) (Nat.le_of_ble_eq_true rfl) rfl skM_0 (ltM skM_0 rfl) recv_11 (rest := []) rfl rfl (Nat.le_of_ble_eq_true rfl) dX11_law_15 (fun r3 => ?_)
  refine q_goto C 27 dX11_law_18 rfl ?_
  exact q_ireti C rfl dX11_law_27
def f_X11_hasBit (a1 : Int32) (a2 : Int32) (σ : St) : Option (Int32 × St) := (if ((a1 >>> (a2 &&& 31)) &&& 1) = 1 then (some (1, σ)) else (some (0, σ)))
theorem w_X11_hasBit {Y : YT} (a1 : Int32) (a2 : Int32)   (σ : St) : CtE (emI FM Y) FM Y yX11_hasBit cX11_hasBit 2 (some .boolean) 0 [.int a1, .int a2] σ (f_X11_hasBit a1 a2 σ) := by
  refine Ct.ofG (by decide) (Nat.le_of_ble_eq_true rfl) (fun X C0 => ?_)
  have C : Cx FM Y X cX11_hasBit 2 RX11 (some .boolean) 0 (0, 0) := C0
  show G FM Y X 2 (emI FM Y) (0, 0) (0, 0) 0 [(0, .int a1), (1, .int a2)] [] (RepS FM Y σ) (f_X11_hasBit a1 a2 σ)
  rw [f_X11_hasBit]
  refine q_iload_n C 0 dX11_hasBit_0 rfl ?_
  refine q_iload_n C 1 dX11_hasBit_1 rfl ?_
  refine q_ishr C dX11_hasBit_2 ?_
  refine q_iconst C (v := 1) dX11_hasBit_3 (by decide) ?_
  refine q_iand C dX11_hasBit_4 ?_
  refine q_iconst C (v := 1) dX11_hasBit_5 (by decide) ?_
  refine q_icmp_ne C 13 dX11_hasBit_6 rfl (fun _ => ?_) (fun _ => ?_)
  · refine q_iconst C (v := 0) dX11_hasBit_13 (by decide) ?_
    exact q_iretz C (by decide) rfl dX11_hasBit_14
  refine q_iconst C (v := 1) dX11_hasBit_9 (by decide) ?_
  refine q_goto C 14 dX11_hasBit_10 rfl ?_
  exact q_iretz C (by decide) rfl dX11_hasBit_14
def f_X11_bits_L4 : Nat → Int32 → Int32 → St → Option (Int32 × St)
  | 0, _, _, _ => none
  | n + 1, v1, v2, σ => (if v2 = 0 then (some (v1, σ)) else ((f_X11_bits_L4 n) (v1 + 1) (v2 &&& (v2 - 1)) σ))
theorem w_X11_bits_L4 {Y : YT} {X : XT} (C : Cx FM Y X cX11_bits 3 RX11 (some .int) 0 (0, 0)) : ∀ (n : Nat), ∀ (v1 : Int32), ∀ (v2 : Int32), ∀ (σ : St), G FM Y X 3 (emI FM Y) (0, 0) (0, 0) 4 [(1, .int v1), (2, .int v2)] [] (RepS FM Y σ) (f_X11_bits_L4 n v1 v2 σ) := by
  intro n
  induction n with
  | zero =>
    intro v1 v2 σ
    rw [f_X11_bits_L4]; exact G.none
  | succ n ih =>
    intro v1 v2 σ
    rw [f_X11_bits_L4]
    refine q_iload_n C 1 dX11_bits_4 rfl ?_
    refine q_if_eq C 20 dX11_bits_5 rfl (fun _ => ?_) (fun _ => ?_)
    · refine q_iload_n C 0 dX11_bits_20 rfl ?_
      exact q_ireti C rfl dX11_bits_21
    refine q_iinc C 0 [(1, .int (v1 + 1)), (2, .int v2)] dX11_bits_8 rfl rfl rfl rfl ?_
    refine q_iload_n C 1 dX11_bits_11 rfl ?_
    refine q_iload_n C 1 dX11_bits_12 rfl ?_
    refine q_iconst C (v := 1) dX11_bits_13 (by decide) ?_
    refine q_isub C dX11_bits_14 ?_
    refine q_iand C dX11_bits_15 ?_
    refine q_istore_n C [(2, .int (v2 &&& (v2 - 1))), (1, .int (v1 + 1))] dX11_bits_16 rfl rfl ?_
    refine q_goto C 4 dX11_bits_17 rfl ?_
    refine G.sub [1, 0] (lv' := [(1, .int (v1 + 1)), (2, .int (v2 &&& (v2 - 1)))]) rfl ?_
    exact ih (v1 + 1) (v2 &&& (v2 - 1)) σ
def f_X11_bits (a1 : Int32) (σ : St) : Option (Int32 × St) := (f_X11_bits_L4 400 0 a1 σ)
theorem w_X11_bits {Y : YT} (a1 : Int32)   (σ : St) : CtE (emI FM Y) FM Y yX11_bits cX11_bits 3 (some .int) 0 [.int a1] σ (f_X11_bits a1 σ) := by
  refine Ct.ofG (by decide) (Nat.le_of_ble_eq_true rfl) (fun X C0 => ?_)
  have C : Cx FM Y X cX11_bits 3 RX11 (some .int) 0 (0, 0) := C0
  show G FM Y X 3 (emI FM Y) (0, 0) (0, 0) 0 [(0, .int a1)] [] (RepS FM Y σ) (f_X11_bits a1 σ)
  rw [f_X11_bits]
  refine q_iconst C (v := 0) dX11_bits_0 (by decide) ?_
  refine q_istore_n C [(1, .int 0), (0, .int a1)] dX11_bits_1 rfl rfl ?_
  refine q_iload_n C 1 dX11_bits_2 rfl ?_
  refine q_istore_n C [(2, .int a1), (1, .int 0), (0, .int a1)] dX11_bits_3 rfl rfl ?_
  refine G.sub [1, 0] (lv' := [(1, .int 0), (2, .int a1)]) rfl ?_
  exact w_X11_bits_L4 C 400 0 a1 σ
def f_X11_isWell (a1 : Int32) (σ : St) : Option (Int32 × St) := (Option.bind (f_X11_within a1 0 ((σ 1 1) - 1) σ) fun r2 => (if r2.1 = 0 ∨ r2.1 = 1 then (some (r2.1, r2.2)) else none))
theorem w_X11_isWell {Y : YT} (a1 : Int32)   (σ : St) : CtE (emI FM Y) FM Y yX11_isWell cX11_isWell 2 (some .boolean) 1 [Rf Y 0, .int a1] σ (f_X11_isWell a1 σ) := by
  refine Ct.ofG (by decide) (Nat.le_of_ble_eq_true rfl) (fun X C0 => ?_)
  have C : Cx FM Y X cX11_isWell 2 RX11 (some .boolean) 1 (0, 0) := C0
  show G FM Y X 2 (emI FM Y) (0, 0) (0, 0) 0 [(0, Rf Y 0), (1, .int a1)] [] (RepS FM Y σ) (f_X11_isWell a1 σ)
  rw [f_X11_isWell]
  refine q_iload_n C 1 dX11_isWell_0 rfl ?_
  refine q_iconst C (v := 0) dX11_isWell_1 (by decide) ?_
  refine q_aload_n C 0 dX11_isWell_2 rfl ?_
  refine gf_X11_9 C skM_0 dX11_isWell_3 ?_
  refine q_iconst C (v := 1) dX11_isWell_6 (by decide) ?_
  refine q_aldK C (j := 1) saM_1 (ltMa saM_1) (by decide +kernel) (by decide +kernel) dX11_isWell_7 ?_
  refine q_iconst C (v := 1) dX11_isWell_8 (by decide) ?_
  refine q_isub C dX11_isWell_9 ?_
  refine q_cSI C lk_X11_70 (w_X11_within (Y := Y) a1 0 ((σ 1 1) - 1) σ) (Nat.le_of_ble_eq_true rfl) rfl (rest := []) rfl rfl (Nat.le_of_ble_eq_true rfl) dX11_isWell_10 (fun r2 => ?_)
  exact G.ite (fun h => q_iretz C h rfl dX11_isWell_13) (fun _ => G.none)
def f_X11_isWay (a1 : Int32) (σ : St) : Option (Int32 × St) := (Option.bind (f_X11_within a1 0 ((σ 1 2) - 1) σ) fun r2 => (if r2.1 = 0 ∨ r2.1 = 1 then (some (r2.1, r2.2)) else none))
theorem w_X11_isWay {Y : YT} (a1 : Int32)   (σ : St) : CtE (emI FM Y) FM Y yX11_isWay cX11_isWay 2 (some .boolean) 1 [Rf Y 0, .int a1] σ (f_X11_isWay a1 σ) := by
  refine Ct.ofG (by decide) (Nat.le_of_ble_eq_true rfl) (fun X C0 => ?_)
  have C : Cx FM Y X cX11_isWay 2 RX11 (some .boolean) 1 (0, 0) := C0
  show G FM Y X 2 (emI FM Y) (0, 0) (0, 0) 0 [(0, Rf Y 0), (1, .int a1)] [] (RepS FM Y σ) (f_X11_isWay a1 σ)
  rw [f_X11_isWay]
  refine q_iload_n C 1 dX11_isWay_0 rfl ?_
  refine q_iconst C (v := 0) dX11_isWay_1 (by decide) ?_
  refine q_aload_n C 0 dX11_isWay_2 rfl ?_
  refine gf_X11_9 C skM_0 dX11_isWay_3 ?_
  refine q_iconst C (v := 2) dX11_isWay_6 (by decide) ?_
  refine q_aldK C (j := 2) saM_1 (ltMa saM_1) (by decide +kernel) (by decide +kernel) dX11_isWay_7 ?_
  refine q_iconst C (v := 1) dX11_isWay_8 (by decide) ?_
  refine q_isub C dX11_isWay_9 ?_
  refine q_cSI C lk_X11_70 (w_X11_within (Y := Y) a1 0 ((σ 1 2) - 1) σ) (Nat.le_of_ble_eq_true rfl) rfl (rest := []) rfl rfl (Nat.le_of_ble_eq_true rfl) dX11_isWay_10 (fun r2 => ?_)
  exact G.ite (fun h => q_iretz C h rfl dX11_isWay_13) (fun _ => G.none)
def f_X11_isSaying (a1 : Int32) (σ : St) : Option (Int32 × St) := (Option.bind (f_X11_within a1 0 ((σ 1 3) - 1) σ) fun r2 => (if r2.1 = 0 ∨ r2.1 = 1 then (some (r2.1, r2.2)) else none))
theorem w_X11_isSaying {Y : YT} (a1 : Int32)   (σ : St) : CtE (emI FM Y) FM Y yX11_isSaying cX11_isSaying 2 (some .boolean) 1 [Rf Y 0, .int a1] σ (f_X11_isSaying a1 σ) := by
  refine Ct.ofG (by decide) (Nat.le_of_ble_eq_true rfl) (fun X C0 => ?_)
  have C : Cx FM Y X cX11_isSaying 2 RX11 (some .boolean) 1 (0, 0) := C0
  show G FM Y X 2 (emI FM Y) (0, 0) (0, 0) 0 [(0, Rf Y 0), (1, .int a1)] [] (RepS FM Y σ) (f_X11_isSaying a1 σ)
  rw [f_X11_isSaying]
  refine q_iload_n C 1 dX11_isSaying_0 rfl ?_
  refine q_iconst C (v := 0) dX11_isSaying_1 (by decide) ?_
  refine q_aload_n C 0 dX11_isSaying_2 rfl ?_
  refine gf_X11_9 C skM_0 dX11_isSaying_3 ?_
  refine q_iconst C (v := 3) dX11_isSaying_6 (by decide) ?_
  refine q_aldK C (j := 3) saM_1 (ltMa saM_1) (by decide +kernel) (by decide +kernel) dX11_isSaying_7 ?_
  refine q_iconst C (v := 1) dX11_isSaying_8 (by decide) ?_
  refine q_isub C dX11_isSaying_9 ?_
  refine q_cSI C lk_X11_70 (w_X11_within (Y := Y) a1 0 ((σ 1 3) - 1) σ) (Nat.le_of_ble_eq_true rfl) rfl (rest := []) rfl rfl (Nat.le_of_ble_eq_true rfl) dX11_isSaying_10 (fun r2 => ?_)
  exact G.ite (fun h => q_iretz C h rfl dX11_isSaying_13) (fun _ => G.none)
def f_X11_isOne (a1 : Int32) (σ : St) : Option (Int32 × St) := (Option.bind (f_X11_within a1 0 ((σ 1 4) - 1) σ) fun r2 => (if r2.1 = 0 ∨ r2.1 = 1 then (some (r2.1, r2.2)) else none))
theorem w_X11_isOne {Y : YT} (a1 : Int32)   (σ : St) : CtE (emI FM Y) FM Y yX11_isOne cX11_isOne 2 (some .boolean) 1 [Rf Y 0, .int a1] σ (f_X11_isOne a1 σ) := by
  refine Ct.ofG (by decide) (Nat.le_of_ble_eq_true rfl) (fun X C0 => ?_)
  have C : Cx FM Y X cX11_isOne 2 RX11 (some .boolean) 1 (0, 0) := C0
  show G FM Y X 2 (emI FM Y) (0, 0) (0, 0) 0 [(0, Rf Y 0), (1, .int a1)] [] (RepS FM Y σ) (f_X11_isOne a1 σ)
  rw [f_X11_isOne]
  refine q_iload_n C 1 dX11_isOne_0 rfl ?_
  refine q_iconst C (v := 0) dX11_isOne_1 (by decide) ?_
  refine q_aload_n C 0 dX11_isOne_2 rfl ?_
  refine gf_X11_9 C skM_0 dX11_isOne_3 ?_
  refine q_iconst C (v := 4) dX11_isOne_6 (by decide) ?_
  refine q_aldK C (j := 4) saM_1 (ltMa saM_1) (by decide +kernel) (by decide +kernel) dX11_isOne_7 ?_
  refine q_iconst C (v := 1) dX11_isOne_8 (by decide) ?_
  refine q_isub C dX11_isOne_9 ?_
  refine q_cSI C lk_X11_70 (w_X11_within (Y := Y) a1 0 ((σ 1 4) - 1) σ) (Nat.le_of_ble_eq_true rfl) rfl (rest := []) rfl rfl (Nat.le_of_ble_eq_true rfl) dX11_isOne_10 (fun r2 => ?_)
  exact G.ite (fun h => q_iretz C h rfl dX11_isOne_13) (fun _ => G.none)
def f_X11_isStrength (a1 : Int32) (σ : St) : Option (Int32 × St) := (Option.bind (f_X11_within a1 0 99 σ) fun r1 => (if r1.1 = 0 ∨ r1.1 = 1 then (some (r1.1, r1.2)) else none))
theorem w_X11_isStrength {Y : YT} (a1 : Int32)   (σ : St) : CtE (emI FM Y) FM Y yX11_isStrength cX11_isStrength 1 (some .boolean) 1 [.int a1] σ (f_X11_isStrength a1 σ) := by
  refine Ct.ofG (by decide) (Nat.le_of_ble_eq_true rfl) (fun X C0 => ?_)
  have C : Cx FM Y X cX11_isStrength 1 RX11 (some .boolean) 1 (0, 0) := C0
  show G FM Y X 1 (emI FM Y) (0, 0) (0, 0) 0 [(0, .int a1)] [] (RepS FM Y σ) (f_X11_isStrength a1 σ)
  rw [f_X11_isStrength]
  refine q_iload_n C 0 dX11_isStrength_0 rfl ?_
  refine q_iconst C (v := 0) dX11_isStrength_1 (by decide) ?_
  refine q_bipush C (v := 99) dX11_isStrength_2 (by decide) ?_
  refine q_cSI C lk_X11_70 (w_X11_within (Y := Y) a1 0 99 σ) (Nat.le_of_ble_eq_true rfl) rfl (rest := []) rfl rfl (Nat.le_of_ble_eq_true rfl) dX11_isStrength_4 (fun r1 => ?_)
  exact G.ite (fun h => q_iretz C h rfl dX11_isStrength_7) (fun _ => G.none)
def f_X11_wayAt (a1 : Int32) (a2 : Int32) (σ : St) : Option (Int32 × St) := (some (((9 + (4 * a1)) + a2), σ))
theorem w_X11_wayAt {Y : YT} (a1 : Int32) (a2 : Int32)   (σ : St) : CtE (emI FM Y) FM Y yX11_wayAt cX11_wayAt 2 (some .int) 0 [.int a1, .int a2] σ (f_X11_wayAt a1 a2 σ) := by
  refine Ct.ofG (by decide) (Nat.le_of_ble_eq_true rfl) (fun X C0 => ?_)
  have C : Cx FM Y X cX11_wayAt 2 RX11 (some .int) 0 (0, 0) := C0
  show G FM Y X 2 (emI FM Y) (0, 0) (0, 0) 0 [(0, .int a1), (1, .int a2)] [] (RepS FM Y σ) (f_X11_wayAt a1 a2 σ)
  rw [f_X11_wayAt]
  refine q_bipush C (v := 9) dX11_wayAt_0 (by decide) ?_
  refine q_iconst C (v := 4) dX11_wayAt_2 (by decide) ?_
  refine q_iload_n C 0 dX11_wayAt_3 rfl ?_
  refine q_imul C dX11_wayAt_4 ?_
  refine q_iadd C dX11_wayAt_5 ?_
  refine q_iload_n C 1 dX11_wayAt_6 rfl ?_
  refine q_iadd C dX11_wayAt_7 ?_
  exact q_ireti C rfl dX11_wayAt_8
theorem lk_X11_156 : LkS RX11 156 yX11_wayAt cX11_wayAt 2 (some .int) 2 := ⟨TB_p [1237, 1238, 81, 1239] (by decide +kernel) (by decide +kernel), by decide +kernel, by decide +kernel, by decide +kernel⟩
def f_X11_wayIs (a1 : Int32) (a2 : Int32) (σ : St) : Option (Int32 × St) := (Option.bind (f_X11_wayAt a1 a2 σ) fun r1 => (if inb r1.1 (shM 1 - 100) = true then (some ((r1.2 1 r1.1.toNatClampNeg), r1.2)) else none))
theorem w_X11_wayIs {Y : YT} (a1 : Int32) (a2 : Int32)   (σ : St) : CtE (emI FM Y) FM Y yX11_wayIs cX11_wayIs 3 (some .int) 1 [Rf Y 0, .int a1, .int a2] σ (f_X11_wayIs a1 a2 σ) := by
  refine Ct.ofG (by decide) (Nat.le_of_ble_eq_true rfl) (fun X C0 => ?_)
  have C : Cx FM Y X cX11_wayIs 3 RX11 (some .int) 1 (0, 0) := C0
  show G FM Y X 3 (emI FM Y) (0, 0) (0, 0) 0 [(0, Rf Y 0), (1, .int a1), (2, .int a2)] [] (RepS FM Y σ) (f_X11_wayIs a1 a2 σ)
  rw [f_X11_wayIs]
  refine q_aload_n C 0 dX11_wayIs_0 rfl ?_
  refine gf_X11_9 C skM_0 dX11_wayIs_1 ?_
  refine q_iload_n C 1 dX11_wayIs_4 rfl ?_
  refine q_iload_n C 2 dX11_wayIs_5 rfl ?_
  refine q_cSI C lk_X11_156 (w_X11_wayAt (Y := Y) a1 a2 σ) (Nat.le_of_ble_eq_true rfl) rfl (rest := [Rf Y 1]) rfl rfl (Nat.le_of_ble_eq_true rfl) dX11_wayIs_6 (fun r1 => ?_)
  refine q_aldS C saM_1 (ltMa saM_1) dX11_wayIs_9 (fun _ => ?_)
  exact q_ireti C rfl dX11_wayIs_10
def f_X11_sayingAt (a1 : Int32) (a2 : Int32) (σ : St) : Option (Int32 × St) := (some (((41 + (5 * a1)) + a2), σ))
theorem w_X11_sayingAt {Y : YT} (a1 : Int32) (a2 : Int32)   (σ : St) : CtE (emI FM Y) FM Y yX11_sayingAt cX11_sayingAt 2 (some .int) 0 [.int a1, .int a2] σ (f_X11_sayingAt a1 a2 σ) := by
  refine Ct.ofG (by decide) (Nat.le_of_ble_eq_true rfl) (fun X C0 => ?_)
  have C : Cx FM Y X cX11_sayingAt 2 RX11 (some .int) 0 (0, 0) := C0
  show G FM Y X 2 (emI FM Y) (0, 0) (0, 0) 0 [(0, .int a1), (1, .int a2)] [] (RepS FM Y σ) (f_X11_sayingAt a1 a2 σ)
  rw [f_X11_sayingAt]
  refine q_bipush C (v := 41) dX11_sayingAt_0 (by decide) ?_
  refine q_iconst C (v := 5) dX11_sayingAt_2 (by decide) ?_
  refine q_iload_n C 0 dX11_sayingAt_3 rfl ?_
  refine q_imul C dX11_sayingAt_4 ?_
  refine q_iadd C dX11_sayingAt_5 ?_
  refine q_iload_n C 1 dX11_sayingAt_6 rfl ?_
  refine q_iadd C dX11_sayingAt_7 ?_
  exact q_ireti C rfl dX11_sayingAt_8
theorem lk_X11_159 : LkS RX11 159 yX11_sayingAt cX11_sayingAt 2 (some .int) 2 := ⟨TB_p [1274, 1275, 81, 1276] (by decide +kernel) (by decide +kernel), by decide +kernel, by decide +kernel, by decide +kernel⟩
def f_X11_sayingIs (a1 : Int32) (a2 : Int32) (σ : St) : Option (Int32 × St) := (Option.bind (f_X11_sayingAt a1 a2 σ) fun r1 => (if inb r1.1 (shM 1 - 100) = true then (some ((r1.2 1 r1.1.toNatClampNeg), r1.2)) else none))
theorem w_X11_sayingIs {Y : YT} (a1 : Int32) (a2 : Int32)   (σ : St) : CtE (emI FM Y) FM Y yX11_sayingIs cX11_sayingIs 3 (some .int) 1 [Rf Y 0, .int a1, .int a2] σ (f_X11_sayingIs a1 a2 σ) := by
  refine Ct.ofG (by decide) (Nat.le_of_ble_eq_true rfl) (fun X C0 => ?_)
  have C : Cx FM Y X cX11_sayingIs 3 RX11 (some .int) 1 (0, 0) := C0
  show G FM Y X 3 (emI FM Y) (0, 0) (0, 0) 0 [(0, Rf Y 0), (1, .int a1), (2, .int a2)] [] (RepS FM Y σ) (f_X11_sayingIs a1 a2 σ)
  rw [f_X11_sayingIs]
  refine q_aload_n C 0 dX11_sayingIs_0 rfl ?_
  refine gf_X11_9 C skM_0 dX11_sayingIs_1 ?_
  refine q_iload_n C 1 dX11_sayingIs_4 rfl ?_
  refine q_iload_n C 2 dX11_sayingIs_5 rfl ?_
  refine q_cSI C lk_X11_159 (w_X11_sayingAt (Y := Y) a1 a2 σ) (Nat.le_of_ble_eq_true rfl) rfl (rest := [Rf Y 1]) rfl rfl (Nat.le_of_ble_eq_true rfl) dX11_sayingIs_6 (fun r1 => ?_)
  refine q_aldS C saM_1 (ltMa saM_1) dX11_sayingIs_9 (fun _ => ?_)
  exact q_ireti C rfl dX11_sayingIs_10
def f_X11_folkAt (a1 : Int32) (a2 : Int32) (σ : St) : Option (Int32 × St) := (some (((81 + (3 * a1)) + a2), σ))
theorem w_X11_folkAt {Y : YT} (a1 : Int32) (a2 : Int32)   (σ : St) : CtE (emI FM Y) FM Y yX11_folkAt cX11_folkAt 2 (some .int) 0 [.int a1, .int a2] σ (f_X11_folkAt a1 a2 σ) := by
  refine Ct.ofG (by decide) (Nat.le_of_ble_eq_true rfl) (fun X C0 => ?_)
  have C : Cx FM Y X cX11_folkAt 2 RX11 (some .int) 0 (0, 0) := C0
  show G FM Y X 2 (emI FM Y) (0, 0) (0, 0) 0 [(0, .int a1), (1, .int a2)] [] (RepS FM Y σ) (f_X11_folkAt a1 a2 σ)
  rw [f_X11_folkAt]
  refine q_bipush C (v := 81) dX11_folkAt_0 (by decide) ?_
  refine q_iconst C (v := 3) dX11_folkAt_2 (by decide) ?_
  refine q_iload_n C 0 dX11_folkAt_3 rfl ?_
  refine q_imul C dX11_folkAt_4 ?_
  refine q_iadd C dX11_folkAt_5 ?_
  refine q_iload_n C 1 dX11_folkAt_6 rfl ?_
  refine q_iadd C dX11_folkAt_7 ?_
  exact q_ireti C rfl dX11_folkAt_8
theorem lk_X11_162 : LkS RX11 162 yX11_folkAt cX11_folkAt 2 (some .int) 2 := ⟨TB_p [1309, 1310, 81, 1311] (by decide +kernel) (by decide +kernel), by decide +kernel, by decide +kernel, by decide +kernel⟩
def f_X11_folkIs (a1 : Int32) (a2 : Int32) (σ : St) : Option (Int32 × St) := (Option.bind (f_X11_folkAt a1 a2 σ) fun r1 => (if inb r1.1 (shM 1 - 100) = true then (some ((r1.2 1 r1.1.toNatClampNeg), r1.2)) else none))
theorem w_X11_folkIs {Y : YT} (a1 : Int32) (a2 : Int32)   (σ : St) : CtE (emI FM Y) FM Y yX11_folkIs cX11_folkIs 3 (some .int) 1 [Rf Y 0, .int a1, .int a2] σ (f_X11_folkIs a1 a2 σ) := by
  refine Ct.ofG (by decide) (Nat.le_of_ble_eq_true rfl) (fun X C0 => ?_)
  have C : Cx FM Y X cX11_folkIs 3 RX11 (some .int) 1 (0, 0) := C0
  show G FM Y X 3 (emI FM Y) (0, 0) (0, 0) 0 [(0, Rf Y 0), (1, .int a1), (2, .int a2)] [] (RepS FM Y σ) (f_X11_folkIs a1 a2 σ)
  rw [f_X11_folkIs]
  refine q_aload_n C 0 dX11_folkIs_0 rfl ?_
  refine gf_X11_9 C skM_0 dX11_folkIs_1 ?_
  refine q_iload_n C 1 dX11_folkIs_4 rfl ?_
  refine q_iload_n C 2 dX11_folkIs_5 rfl ?_
  refine q_cSI C lk_X11_162 (w_X11_folkAt (Y := Y) a1 a2 σ) (Nat.le_of_ble_eq_true rfl) rfl (rest := [Rf Y 1]) rfl rfl (Nat.le_of_ble_eq_true rfl) dX11_folkIs_6 (fun r1 => ?_)
  refine q_aldS C saM_1 (ltMa saM_1) dX11_folkIs_9 (fun _ => ?_)
  exact q_ireti C rfl dX11_folkIs_10
theorem lk_X11_166 : LkV RX11 166 yX11_turn cX11_turn 4 (some .int) 2 := ⟨TB_p [1221, 1223, 29, 81, 1224] (by decide +kernel) (by decide +kernel), by decide +kernel, by decide +kernel, by decide +kernel⟩
def f_X11_wells (a1 : Int32) (σ : St) : Option (Int32 × St) := (Option.bind (f_X11_within a1 2 8 σ) fun r1 => (if r1.1 = 0 then (Option.bind (f_X11_finding (-1000000001) r1.2) fun r7 => (some (r7.1, r7.2))) else (if (((r1.2 1 2) + (r1.2 1 3)) + (r1.2 1 4)) ≤ 0 then (Option.bind (f_X11_turn 1 a1 r1.2) fun r5 => (some (r5.1, r5.2))) else (Option.bind (f_X11_finding (-1000000003) r1.2) fun r6 => (some (r6.1, r6.2))))))
theorem w_X11_wells {Y : YT} (a1 : Int32)   (σ : St) : CtE (emI FM Y) FM Y yX11_wells cX11_wells 2 (some .int) 1 [Rf Y 0, .int a1] σ (f_X11_wells a1 σ) := by
  refine Ct.ofG (by decide) (Nat.le_of_ble_eq_true rfl) (fun X C0 => ?_)
  have C : Cx FM Y X cX11_wells 2 RX11 (some .int) 1 (0, 0) := C0
  show G FM Y X 2 (emI FM Y) (0, 0) (0, 0) 0 [(0, Rf Y 0), (1, .int a1)] [] (RepS FM Y σ) (f_X11_wells a1 σ)
  rw [f_X11_wells]
  refine q_iload_n C 1 dX11_wells_0 rfl ?_
  refine q_iconst C (v := 2) dX11_wells_1 (by decide) ?_
  refine q_bipush C (v := 8) dX11_wells_2 (by decide) ?_
  refine q_cSI C lk_X11_70 (w_X11_within (Y := Y) a1 2 8 σ) (Nat.le_of_ble_eq_true rfl) rfl (rest := []) rfl rfl (Nat.le_of_ble_eq_true rfl) dX11_wells_4 (fun r1 => ?_)
  refine q_if_ne C 17 dX11_wells_7 rfl (fun _ => ?_) (fun _ => ?_)
  · refine q_aload_n C 0 dX11_wells_17 rfl ?_
    refine gf_X11_9 C skM_0 dX11_wells_18 ?_
    refine q_iconst C (v := 2) dX11_wells_21 (by decide) ?_
    refine q_aldK C (j := 2) saM_1 (ltMa saM_1) (by decide +kernel) (by decide +kernel) dX11_wells_22 ?_
    refine q_aload_n C 0 dX11_wells_23 rfl ?_
    refine gf_X11_9 C skM_0 dX11_wells_24 ?_
    refine q_iconst C (v := 3) dX11_wells_27 (by decide) ?_
    refine q_aldK C (j := 3) saM_1 (ltMa saM_1) (by decide +kernel) (by decide +kernel) dX11_wells_28 ?_
    refine q_iadd C dX11_wells_29 ?_
    refine q_aload_n C 0 dX11_wells_30 rfl ?_
    refine gf_X11_9 C skM_0 dX11_wells_31 ?_
    refine q_iconst C (v := 4) dX11_wells_34 (by decide) ?_
    refine q_aldK C (j := 4) saM_1 (ltMa saM_1) (by decide +kernel) (by decide +kernel) dX11_wells_35 ?_
    refine q_iadd C dX11_wells_36 ?_
    refine q_if_le C 49 dX11_wells_37 rfl (fun _ => ?_) (fun _ => ?_)
    · refine q_aload_n C 0 dX11_wells_49 rfl ?_
      refine q_iconst C (v := 1) dX11_wells_50 (by decide) ?_
      refine q_iload_n C 1 dX11_wells_51 rfl ?_
      refine q_cVI C lk_X11_166 (w_X11_turn (Y := Y) 1 a1 r1.2) (Nat.le_of_ble_eq_true rfl) rfl skM_0 (ltM skM_0 rfl) recv_11 (rest := []) rfl rfl (Nat.le_of_ble_eq_true rfl) dX11_wells_52 (fun r5 => ?_)
      exact q_ireti C rfl dX11_wells_55
    refine q_aload_n C 0 dX11_wells_40 rfl ?_
    refine q_ldc C (v := (-1000000003)) (TB_of (List.mem_of_getElem? (i := 1220) (by decide +kernel)) rfl) dX11_wells_41 ?_
    refine q_cVI C lk_X11_75 (w_X11_finding (Y := Y) (-1000000003) r1.2) (Nat.le_of_ble_eq_true rfl) rfl skM_0 (ltM skM_0 rfl) recv_11 (rest := []) rfl rfl (Nat.le_of_ble_eq_true rfl) dX11_wells_43 (fun r6 => ?_)
    refine q_goto C 55 dX11_wells_46 rfl ?_
    exact q_ireti C rfl dX11_wells_55
  refine q_aload_n C 0 dX11_wells_10 rfl ?_
  refine q_ldc C (v := (-1000000001)) (TB_of (List.mem_of_getElem? (i := 1119) (by decide +kernel)) rfl) dX11_wells_11 ?_
  refine q_cVI C lk_X11_75 (w_X11_finding (Y := Y) (-1000000001) r1.2) (Nat.le_of_ble_eq_true rfl) rfl skM_0 (ltM skM_0 rfl) recv_11 (rest := []) rfl rfl (Nat.le_of_ble_eq_true rfl) dX11_wells_13 (fun r7 => ?_)
  exact q_ireti C rfl dX11_wells_16
def f_X11_wayComes (a1 : Int32) (a2 : Int32) (a3 : Int32) (σ : St) : Option (Int32 × St) := (Option.bind (f_X11_wayAt (σ 1 2) 0 σ) fun r2 => (if inb r2.1 (shM 1 - 100) = true then (Bst (up r2.2 1 r2.1.toNatClampNeg a1) fun s3 => (Option.bind (f_X11_wayAt (σ 1 2) 1 s3) fun r4 => (if inb r4.1 (shM 1 - 100) = true then (Bst (up r4.2 1 r4.1.toNatClampNeg a2) fun s5 => (Option.bind (f_X11_wayAt (σ 1 2) 2 s5) fun r6 => (if inb r6.1 (shM 1 - 100) = true then (Bst (up r6.2 1 r6.1.toNatClampNeg a3) fun s7 => (Option.bind (f_X11_wayAt (σ 1 2) 3 s7) fun r8 => (if inb r8.1 (shM 1 - 100) = true then (Bst (up r8.2 1 r8.1.toNatClampNeg 0) fun s9 => (Bst (up s9 1 2 ((s9 1 2) + 1)) fun s11 => (some ((σ 1 2), s11)))) else none))) else none))) else none))) else none))
theorem w_X11_wayComes {Y : YT} (a1 : Int32) (a2 : Int32) (a3 : Int32)   (σ : St) : CtE (emI FM Y) FM Y yX11_wayComes cX11_wayComes 5 (some .int) 1 [Rf Y 0, .int a1, .int a2, .int a3] σ (f_X11_wayComes a1 a2 a3 σ) := by
  refine Ct.ofG (by decide) (Nat.le_of_ble_eq_true rfl) (fun X C0 => ?_)
  have C : Cx FM Y X cX11_wayComes 5 RX11 (some .int) 1 (0, 0) := C0
  show G FM Y X 5 (emI FM Y) (0, 0) (0, 0) 0 [(0, Rf Y 0), (1, .int a1), (2, .int a2), (3, .int a3)] [] (RepS FM Y σ) (f_X11_wayComes a1 a2 a3 σ)
  rw [f_X11_wayComes]
  refine q_aload_n C 0 dX11_wayComes_0 rfl ?_
  refine gf_X11_9 C skM_0 dX11_wayComes_1 ?_
  refine q_iconst C (v := 2) dX11_wayComes_4 (by decide) ?_
  refine q_aldK C (j := 2) saM_1 (ltMa saM_1) (by decide +kernel) (by decide +kernel) dX11_wayComes_5 ?_
  refine q_istore C [(4, .int (σ 1 2)), (0, Rf Y 0), (1, .int a1), (2, .int a2), (3, .int a3)] dX11_wayComes_6 rfl rfl ?_
  refine q_aload_n C 1 dX11_wayComes_8 rfl ?_
  refine gf_X11_9 C skM_0 dX11_wayComes_9 ?_
  refine q_iload C 0 dX11_wayComes_12 rfl ?_
  refine q_iconst C (v := 0) dX11_wayComes_14 (by decide) ?_
  refine q_cSI C lk_X11_156 (w_X11_wayAt (Y := Y) (σ 1 2) 0 σ) (Nat.le_of_ble_eq_true rfl) rfl (rest := [Rf Y 1]) rfl rfl (Nat.le_of_ble_eq_true rfl) dX11_wayComes_15 (fun r2 => ?_)
  refine q_iload_n C 2 dX11_wayComes_18 rfl ?_
  refine q_astS C saM_1 (ltMa saM_1) dX11_wayComes_19 (fun _ s3 => ?_)
  refine q_aload_n C 1 dX11_wayComes_20 rfl ?_
  refine gf_X11_9 C skM_0 dX11_wayComes_21 ?_
  refine q_iload C 0 dX11_wayComes_24 rfl ?_
  refine q_iconst C (v := 1) dX11_wayComes_26 (by decide) ?_
  refine q_cSI C lk_X11_156 (w_X11_wayAt (Y := Y) (σ 1 2) 1 s3) (Nat.le_of_ble_eq_true rfl) rfl (rest := [Rf Y 1]) rfl rfl (Nat.le_of_ble_eq_true rfl) dX11_wayComes_27 (fun r4 => ?_)
  refine q_iload_n C 3 dX11_wayComes_30 rfl ?_
  refine q_astS C saM_1 (ltMa saM_1) dX11_wayComes_31 (fun _ s5 => ?_)
  refine q_aload_n C 1 dX11_wayComes_32 rfl ?_
  refine gf_X11_9 C skM_0 dX11_wayComes_33 ?_
  refine q_iload C 0 dX11_wayComes_36 rfl ?_
  refine q_iconst C (v := 2) dX11_wayComes_38 (by decide) ?_
  refine q_cSI C lk_X11_156 (w_X11_wayAt (Y := Y) (σ 1 2) 2 s5) (Nat.le_of_ble_eq_true rfl) rfl (rest := [Rf Y 1]) rfl rfl (Nat.le_of_ble_eq_true rfl) dX11_wayComes_39 (fun r6 => ?_)
  refine q_iload_n C 4 dX11_wayComes_42 rfl ?_
  refine q_astS C saM_1 (ltMa saM_1) dX11_wayComes_43 (fun _ s7 => ?_)
  refine q_aload_n C 1 dX11_wayComes_44 rfl ?_
  refine gf_X11_9 C skM_0 dX11_wayComes_45 ?_
  refine q_iload C 0 dX11_wayComes_48 rfl ?_
  refine q_iconst C (v := 3) dX11_wayComes_50 (by decide) ?_
  refine q_cSI C lk_X11_156 (w_X11_wayAt (Y := Y) (σ 1 2) 3 s7) (Nat.le_of_ble_eq_true rfl) rfl (rest := [Rf Y 1]) rfl rfl (Nat.le_of_ble_eq_true rfl) dX11_wayComes_51 (fun r8 => ?_)
  refine q_iconst C (v := 0) dX11_wayComes_54 (by decide) ?_
  refine q_astS C saM_1 (ltMa saM_1) dX11_wayComes_55 (fun _ s9 => ?_)
  refine q_aload_n C 1 dX11_wayComes_56 rfl ?_
  refine gf_X11_9 C skM_0 dX11_wayComes_57 ?_
  refine q_iconst C (v := 2) dX11_wayComes_60 (by decide) ?_
  refine q_dup2 C dX11_wayComes_61 rfl rfl ?_
  refine q_aldK C (j := 2) saM_1 (ltMa saM_1) (by decide +kernel) (by decide +kernel) dX11_wayComes_62 ?_
  refine q_iconst C (v := 1) dX11_wayComes_63 (by decide) ?_
  refine q_iadd C dX11_wayComes_64 ?_
  refine q_astK C (j := 2) saM_1 (ltMa saM_1) (by decide +kernel) (by decide +kernel) dX11_wayComes_65 (fun s11 => ?_)
  refine q_iload C 0 dX11_wayComes_66 rfl ?_
  exact q_ireti C rfl dX11_wayComes_68
theorem lk_X11_169 : LkV RX11 169 yX11_isWell cX11_isWell 2 (some .boolean) 1 := ⟨TB_p [1229, 1231, 30, 81, 1232] (by decide +kernel) (by decide +kernel), by decide +kernel, by decide +kernel, by decide +kernel⟩
theorem lk_X11_172 : LkV RX11 172 yX11_wayComes cX11_wayComes 5 (some .int) 3 := ⟨TB_p [1233, 1235, 31, 81, 1236] (by decide +kernel) (by decide +kernel), by decide +kernel, by decide +kernel, by decide +kernel⟩
def f_X11_way (a1 : Int32) (a2 : Int32) (a3 : Int32) (σ : St) : Option (Int32 × St) := (Option.bind (f_X11_isWell a1 σ) fun r1 => (if r1.1 = 0 then (Option.bind (f_X11_finding (-1000000001) r1.2) fun r2 => (some (r2.1, r2.2))) else (Option.bind (f_X11_isWell a2 r1.2) fun r3 => (if r3.1 = 0 then (Option.bind (f_X11_finding (-1000000001) r3.2) fun r4 => (some (r4.1, r4.2))) else (if a1 = a2 then (Option.bind (f_X11_finding (-1000000001) r3.2) fun r5 => (some (r5.1, r5.2))) else (Option.bind (f_X11_within a3 1 9 r3.2) fun r6 => (if r6.1 = 0 then (Option.bind (f_X11_finding (-1000000001) r6.2) fun r10 => (some (r10.1, r10.2))) else (if (r6.2 1 2) = 8 then (Option.bind (f_X11_finding (-1000000004) r6.2) fun r9 => (some (r9.1, r9.2))) else (Option.bind (f_X11_wayComes a1 a2 a3 r6.2) fun r8 => (some (r8.1, r8.2)))))))))))
theorem w_X11_way {Y : YT} (a1 : Int32) (a2 : Int32) (a3 : Int32)   (σ : St) : CtE (emI FM Y) FM Y yX11_way cX11_way 4 (some .int) 2 [Rf Y 0, .int a1, .int a2, .int a3] σ (f_X11_way a1 a2 a3 σ) := by
  refine Ct.ofG (by decide) (Nat.le_of_ble_eq_true rfl) (fun X C0 => ?_)
  have C : Cx FM Y X cX11_way 4 RX11 (some .int) 2 (0, 0) := C0
  show G FM Y X 4 (emI FM Y) (0, 0) (0, 0) 0 [(0, Rf Y 0), (1, .int a1), (2, .int a2), (3, .int a3)] [] (RepS FM Y σ) (f_X11_way a1 a2 a3 σ)
  rw [f_X11_way]
  refine q_aload_n C 0 dX11_way_0 rfl ?_
  refine q_iload_n C 1 dX11_way_1 rfl ?_
  refine q_cVI C lk_X11_169 (w_X11_isWell (Y := Y) a1 σ) (Nat.le_of_ble_eq_true rfl) rfl skM_0 (ltM skM_0 rfl) recv_11 (rest := []) rfl rfl (Nat.le_of_ble_eq_true rfl) dX11_way_2 (fun r1 => ?_)
  refine q_if_eq C 31 dX11_way_5 rfl (fun _ => ?_) (fun _ => ?_)
  · refine q_aload_n C 0 dX11_way_31 rfl ?_
    refine q_ldc C (v := (-1000000001)) (TB_of (List.mem_of_getElem? (i := 1119) (by decide +kernel)) rfl) dX11_way_32 ?_
    refine q_cVI C lk_X11_75 (w_X11_finding (Y := Y) (-1000000001) r1.2) (Nat.le_of_ble_eq_true rfl) rfl skM_0 (ltM skM_0 rfl) recv_11 (rest := []) rfl rfl (Nat.le_of_ble_eq_true rfl) dX11_way_34 (fun r2 => ?_)
    exact q_ireti C rfl dX11_way_37
  refine q_aload_n C 0 dX11_way_8 rfl ?_
  refine q_iload_n C 2 dX11_way_9 rfl ?_
  refine q_cVI C lk_X11_169 (w_X11_isWell (Y := Y) a2 r1.2) (Nat.le_of_ble_eq_true rfl) rfl skM_0 (ltM skM_0 rfl) recv_11 (rest := []) rfl rfl (Nat.le_of_ble_eq_true rfl) dX11_way_10 (fun r3 => ?_)
  refine q_if_eq C 31 dX11_way_13 rfl (fun _ => ?_) (fun _ => ?_)
  · refine q_aload_n C 0 dX11_way_31 rfl ?_
    refine q_ldc C (v := (-1000000001)) (TB_of (List.mem_of_getElem? (i := 1119) (by decide +kernel)) rfl) dX11_way_32 ?_
    refine q_cVI C lk_X11_75 (w_X11_finding (Y := Y) (-1000000001) r3.2) (Nat.le_of_ble_eq_true rfl) rfl skM_0 (ltM skM_0 rfl) recv_11 (rest := []) rfl rfl (Nat.le_of_ble_eq_true rfl) dX11_way_34 (fun r4 => ?_)
    exact q_ireti C rfl dX11_way_37
  refine q_iload_n C 1 dX11_way_16 rfl ?_
  refine q_iload_n C 2 dX11_way_17 rfl ?_
  refine q_icmp_eq C 31 dX11_way_18 rfl (fun _ => ?_) (fun _ => ?_)
  · refine q_aload_n C 0 dX11_way_31 rfl ?_
    refine q_ldc C (v := (-1000000001)) (TB_of (List.mem_of_getElem? (i := 1119) (by decide +kernel)) rfl) dX11_way_32 ?_
    refine q_cVI C lk_X11_75 (w_X11_finding (Y := Y) (-1000000001) r3.2) (Nat.le_of_ble_eq_true rfl) rfl skM_0 (ltM skM_0 rfl) recv_11 (rest := []) rfl rfl (Nat.le_of_ble_eq_true rfl) dX11_way_34 (fun r5 => ?_)
    exact q_ireti C rfl dX11_way_37
  refine q_iload_n C 3 dX11_way_21 rfl ?_
  refine q_iconst C (v := 1) dX11_way_22 (by decide) ?_
  refine q_bipush C (v := 9) dX11_way_23 (by decide) ?_
  refine q_cSI C lk_X11_70 (w_X11_within (Y := Y) a3 1 9 r3.2) (Nat.le_of_ble_eq_true rfl) rfl (rest := []) rfl rfl (Nat.le_of_ble_eq_true rfl) dX11_way_25 (fun r6 => ?_)
  refine q_if_ne C 38 dX11_way_28 rfl (fun _ => ?_) (fun _ => ?_)
  · refine q_aload_n C 0 dX11_way_38 rfl ?_
    refine gf_X11_9 C skM_0 dX11_way_39 ?_
    refine q_iconst C (v := 2) dX11_way_42 (by decide) ?_
    refine q_aldK C (j := 2) saM_1 (ltMa saM_1) (by decide +kernel) (by decide +kernel) dX11_way_43 ?_
    refine q_bipush C (v := 8) dX11_way_44 (by decide) ?_
    refine q_icmp_ne C 58 dX11_way_46 rfl (fun _ => ?_) (fun _ => ?_)
    · refine q_aload_n C 0 dX11_way_58 rfl ?_
      refine q_iload_n C 1 dX11_way_59 rfl ?_
      refine q_iload_n C 2 dX11_way_60 rfl ?_
      refine q_iload_n C 3 dX11_way_61 rfl ?_
      refine q_cVI C lk_X11_172 (w_X11_wayComes (Y := Y) a1 a2 a3 r6.2) (Nat.le_of_ble_eq_true rfl) rfl skM_0 (ltM skM_0 rfl) recv_11 (rest := []) rfl rfl (Nat.le_of_ble_eq_true rfl) dX11_way_62 (fun r8 => ?_)
      exact q_ireti C rfl dX11_way_65
    refine q_aload_n C 0 dX11_way_49 rfl ?_
    refine q_ldc C (v := (-1000000004)) (TB_of (List.mem_of_getElem? (i := 1125) (by decide +kernel)) rfl) dX11_way_50 ?_
    refine q_cVI C lk_X11_75 (w_X11_finding (Y := Y) (-1000000004) r6.2) (Nat.le_of_ble_eq_true rfl) rfl skM_0 (ltM skM_0 rfl) recv_11 (rest := []) rfl rfl (Nat.le_of_ble_eq_true rfl) dX11_way_52 (fun r9 => ?_)
    refine q_goto C 65 dX11_way_55 rfl ?_
    exact q_ireti C rfl dX11_way_65
  refine q_aload_n C 0 dX11_way_31 rfl ?_
  refine q_ldc C (v := (-1000000001)) (TB_of (List.mem_of_getElem? (i := 1119) (by decide +kernel)) rfl) dX11_way_32 ?_
  refine q_cVI C lk_X11_75 (w_X11_finding (Y := Y) (-1000000001) r6.2) (Nat.le_of_ble_eq_true rfl) rfl skM_0 (ltM skM_0 rfl) recv_11 (rest := []) rfl rfl (Nat.le_of_ble_eq_true rfl) dX11_way_34 (fun r10 => ?_)
  exact q_ireti C rfl dX11_way_37
theorem lk_X11_175 : LkV RX11 175 yX11_isWay cX11_isWay 2 (some .boolean) 1 := ⟨TB_p [1244, 1246, 32, 81, 1247] (by decide +kernel) (by decide +kernel), by decide +kernel, by decide +kernel, by decide +kernel⟩
theorem lk_X11_178 : LkV RX11 178 yX11_wayIs cX11_wayIs 3 (some .int) 2 := ⟨TB_p [1248, 1250, 33, 81, 1251] (by decide +kernel) (by decide +kernel), by decide +kernel, by decide +kernel, by decide +kernel⟩
def f_X11_ofWay (a1 : Int32) (a2 : Int32) (σ : St) : Option (Int32 × St) := (Option.bind (f_X11_isWay a1 σ) fun r1 => (if r1.1 = 0 then (Option.bind (f_X11_finding (-1000000001) r1.2) fun r2 => (some (r2.1, r2.2))) else (Option.bind (f_X11_within a2 0 3 r1.2) fun r3 => (if r3.1 = 0 then (Option.bind (f_X11_finding (-1000000001) r3.2) fun r4 => (some (r4.1, r4.2))) else (Option.bind (f_X11_wayIs a1 a2 r3.2) fun r5 => (some (r5.1, r5.2)))))))
theorem w_X11_ofWay {Y : YT} (a1 : Int32) (a2 : Int32)   (σ : St) : CtE (emI FM Y) FM Y yX11_ofWay cX11_ofWay 3 (some .int) 2 [Rf Y 0, .int a1, .int a2] σ (f_X11_ofWay a1 a2 σ) := by
  refine Ct.ofG (by decide) (Nat.le_of_ble_eq_true rfl) (fun X C0 => ?_)
  have C : Cx FM Y X cX11_ofWay 3 RX11 (some .int) 2 (0, 0) := C0
  show G FM Y X 3 (emI FM Y) (0, 0) (0, 0) 0 [(0, Rf Y 0), (1, .int a1), (2, .int a2)] [] (RepS FM Y σ) (f_X11_ofWay a1 a2 σ)
  rw [f_X11_ofWay]
  refine q_aload_n C 0 dX11_ofWay_0 rfl ?_
  refine q_iload_n C 1 dX11_ofWay_1 rfl ?_
  refine q_cVI C lk_X11_175 (w_X11_isWay (Y := Y) a1 σ) (Nat.le_of_ble_eq_true rfl) rfl skM_0 (ltM skM_0 rfl) recv_11 (rest := []) rfl rfl (Nat.le_of_ble_eq_true rfl) dX11_ofWay_2 (fun r1 => ?_)
  refine q_if_eq C 26 dX11_ofWay_5 rfl (fun _ => ?_) (fun _ => ?_)
  · refine q_aload_n C 0 dX11_ofWay_26 rfl ?_
    refine q_ldc C (v := (-1000000001)) (TB_of (List.mem_of_getElem? (i := 1119) (by decide +kernel)) rfl) dX11_ofWay_27 ?_
    refine q_cVI C lk_X11_75 (w_X11_finding (Y := Y) (-1000000001) r1.2) (Nat.le_of_ble_eq_true rfl) rfl skM_0 (ltM skM_0 rfl) recv_11 (rest := []) rfl rfl (Nat.le_of_ble_eq_true rfl) dX11_ofWay_29 (fun r2 => ?_)
    exact q_ireti C rfl dX11_ofWay_32
  refine q_iload_n C 2 dX11_ofWay_8 rfl ?_
  refine q_iconst C (v := 0) dX11_ofWay_9 (by decide) ?_
  refine q_iconst C (v := 3) dX11_ofWay_10 (by decide) ?_
  refine q_cSI C lk_X11_70 (w_X11_within (Y := Y) a2 0 3 r1.2) (Nat.le_of_ble_eq_true rfl) rfl (rest := []) rfl rfl (Nat.le_of_ble_eq_true rfl) dX11_ofWay_11 (fun r3 => ?_)
  refine q_if_eq C 26 dX11_ofWay_14 rfl (fun _ => ?_) (fun _ => ?_)
  · refine q_aload_n C 0 dX11_ofWay_26 rfl ?_
    refine q_ldc C (v := (-1000000001)) (TB_of (List.mem_of_getElem? (i := 1119) (by decide +kernel)) rfl) dX11_ofWay_27 ?_
    refine q_cVI C lk_X11_75 (w_X11_finding (Y := Y) (-1000000001) r3.2) (Nat.le_of_ble_eq_true rfl) rfl skM_0 (ltM skM_0 rfl) recv_11 (rest := []) rfl rfl (Nat.le_of_ble_eq_true rfl) dX11_ofWay_29 (fun r4 => ?_)
    exact q_ireti C rfl dX11_ofWay_32
  refine q_aload_n C 0 dX11_ofWay_17 rfl ?_
  refine q_iload_n C 1 dX11_ofWay_18 rfl ?_
  refine q_iload_n C 2 dX11_ofWay_19 rfl ?_
  refine q_cVI C lk_X11_178 (w_X11_wayIs (Y := Y) a1 a2 r3.2) (Nat.le_of_ble_eq_true rfl) rfl skM_0 (ltM skM_0 rfl) recv_11 (rest := []) rfl rfl (Nat.le_of_ble_eq_true rfl) dX11_ofWay_20 (fun r5 => ?_)
  refine q_goto C 32 dX11_ofWay_23 rfl ?_
  exact q_ireti C rfl dX11_ofWay_32
def f_X11_stop (a1 : Int32) (a2 : Int32) (σ : St) : Option (Int32 × St) := (Option.bind (f_X11_isWay a1 σ) fun r1 => (if r1.1 = 0 then (Option.bind (f_X11_finding (-1000000001) r1.2) fun r2 => (some (r2.1, r2.2))) else (Option.bind (f_X11_within a2 0 1 r1.2) fun r3 => (if r3.1 = 0 then (Option.bind (f_X11_finding (-1000000001) r3.2) fun r4 => (some (r4.1, r4.2))) else (Option.bind (f_X11_wayAt a1 3 r3.2) fun r5 => (Option.bind (f_X11_turn r5.1 a2 r5.2) fun r6 => (some (r6.1, r6.2))))))))
theorem w_X11_stop {Y : YT} (a1 : Int32) (a2 : Int32)   (σ : St) : CtE (emI FM Y) FM Y yX11_stop cX11_stop 3 (some .int) 2 [Rf Y 0, .int a1, .int a2] σ (f_X11_stop a1 a2 σ) := by
  refine Ct.ofG (by decide) (Nat.le_of_ble_eq_true rfl) (fun X C0 => ?_)
  have C : Cx FM Y X cX11_stop 3 RX11 (some .int) 2 (0, 0) := C0
  show G FM Y X 3 (emI FM Y) (0, 0) (0, 0) 0 [(0, Rf Y 0), (1, .int a1), (2, .int a2)] [] (RepS FM Y σ) (f_X11_stop a1 a2 σ)
  rw [f_X11_stop]
  refine q_aload_n C 0 dX11_stop_0 rfl ?_
  refine q_iload_n C 1 dX11_stop_1 rfl ?_
  refine q_cVI C lk_X11_175 (w_X11_isWay (Y := Y) a1 σ) (Nat.le_of_ble_eq_true rfl) rfl skM_0 (ltM skM_0 rfl) recv_11 (rest := []) rfl rfl (Nat.le_of_ble_eq_true rfl) dX11_stop_2 (fun r1 => ?_)
  refine q_if_eq C 30 dX11_stop_5 rfl (fun _ => ?_) (fun _ => ?_)
  · refine q_aload_n C 0 dX11_stop_30 rfl ?_
    refine q_ldc C (v := (-1000000001)) (TB_of (List.mem_of_getElem? (i := 1119) (by decide +kernel)) rfl) dX11_stop_31 ?_
    refine q_cVI C lk_X11_75 (w_X11_finding (Y := Y) (-1000000001) r1.2) (Nat.le_of_ble_eq_true rfl) rfl skM_0 (ltM skM_0 rfl) recv_11 (rest := []) rfl rfl (Nat.le_of_ble_eq_true rfl) dX11_stop_33 (fun r2 => ?_)
    exact q_ireti C rfl dX11_stop_36
  refine q_iload_n C 2 dX11_stop_8 rfl ?_
  refine q_iconst C (v := 0) dX11_stop_9 (by decide) ?_
  refine q_iconst C (v := 1) dX11_stop_10 (by decide) ?_
  refine q_cSI C lk_X11_70 (w_X11_within (Y := Y) a2 0 1 r1.2) (Nat.le_of_ble_eq_true rfl) rfl (rest := []) rfl rfl (Nat.le_of_ble_eq_true rfl) dX11_stop_11 (fun r3 => ?_)
  refine q_if_eq C 30 dX11_stop_14 rfl (fun _ => ?_) (fun _ => ?_)
  · refine q_aload_n C 0 dX11_stop_30 rfl ?_
    refine q_ldc C (v := (-1000000001)) (TB_of (List.mem_of_getElem? (i := 1119) (by decide +kernel)) rfl) dX11_stop_31 ?_
    refine q_cVI C lk_X11_75 (w_X11_finding (Y := Y) (-1000000001) r3.2) (Nat.le_of_ble_eq_true rfl) rfl skM_0 (ltM skM_0 rfl) recv_11 (rest := []) rfl rfl (Nat.le_of_ble_eq_true rfl) dX11_stop_33 (fun r4 => ?_)
    exact q_ireti C rfl dX11_stop_36
  refine q_aload_n C 0 dX11_stop_17 rfl ?_
  refine q_iload_n C 1 dX11_stop_18 rfl ?_
  refine q_iconst C (v := 3) dX11_stop_19 (by decide) ?_
  refine q_cSI C lk_X11_156 (w_X11_wayAt (Y := Y) a1 3 r3.2) (Nat.le_of_ble_eq_true rfl) rfl (rest := [Rf Y 0]) rfl rfl (Nat.le_of_ble_eq_true rfl) dX11_stop_20 (fun r5 => ?_)
  refine q_iload_n C 2 dX11_stop_23 rfl ?_
  refine q_cVI C lk_X11_166 (w_X11_turn (Y := Y) r5.1 a2 r5.2) (Nat.le_of_ble_eq_true rfl) rfl skM_0 (ltM skM_0 rfl) recv_11 (rest := []) rfl rfl (Nat.le_of_ble_eq_true rfl) dX11_stop_24 (fun r6 => ?_)
  refine q_goto C 36 dX11_stop_27 rfl ?_
  exact q_ireti C rfl dX11_stop_36
def f_X11_rain (a1 : Int32) (σ : St) : Option (Int32 × St) := (Option.bind (f_X11_within a1 0 9 σ) fun r1 => (if r1.1 = 0 then (Option.bind (f_X11_finding (-1000000001) r1.2) fun r2 => (some (r2.1, r2.2))) else (Option.bind (f_X11_turn 5 a1 r1.2) fun r3 => (some (r3.1, r3.2)))))
theorem w_X11_rain {Y : YT} (a1 : Int32)   (σ : St) : CtE (emI FM Y) FM Y yX11_rain cX11_rain 2 (some .int) 1 [Rf Y 0, .int a1] σ (f_X11_rain a1 σ) := by
  refine Ct.ofG (by decide) (Nat.le_of_ble_eq_true rfl) (fun X C0 => ?_)
  have C : Cx FM Y X cX11_rain 2 RX11 (some .int) 1 (0, 0) := C0
  show G FM Y X 2 (emI FM Y) (0, 0) (0, 0) 0 [(0, Rf Y 0), (1, .int a1)] [] (RepS FM Y σ) (f_X11_rain a1 σ)
  rw [f_X11_rain]
  refine q_iload_n C 1 dX11_rain_0 rfl ?_
  refine q_iconst C (v := 0) dX11_rain_1 (by decide) ?_
  refine q_bipush C (v := 9) dX11_rain_2 (by decide) ?_
  refine q_cSI C lk_X11_70 (w_X11_within (Y := Y) a1 0 9 σ) (Nat.le_of_ble_eq_true rfl) rfl (rest := []) rfl rfl (Nat.le_of_ble_eq_true rfl) dX11_rain_4 (fun r1 => ?_)
  refine q_if_eq C 19 dX11_rain_7 rfl (fun _ => ?_) (fun _ => ?_)
  · refine q_aload_n C 0 dX11_rain_19 rfl ?_
    refine q_ldc C (v := (-1000000001)) (TB_of (List.mem_of_getElem? (i := 1119) (by decide +kernel)) rfl) dX11_rain_20 ?_
    refine q_cVI C lk_X11_75 (w_X11_finding (Y := Y) (-1000000001) r1.2) (Nat.le_of_ble_eq_true rfl) rfl skM_0 (ltM skM_0 rfl) recv_11 (rest := []) rfl rfl (Nat.le_of_ble_eq_true rfl) dX11_rain_22 (fun r2 => ?_)
    exact q_ireti C rfl dX11_rain_25
  refine q_aload_n C 0 dX11_rain_10 rfl ?_
  refine q_iconst C (v := 5) dX11_rain_11 (by decide) ?_
  refine q_iload_n C 1 dX11_rain_12 rfl ?_
  refine q_cVI C lk_X11_166 (w_X11_turn (Y := Y) 5 a1 r1.2) (Nat.le_of_ble_eq_true rfl) rfl skM_0 (ltM skM_0 rfl) recv_11 (rest := []) rfl rfl (Nat.le_of_ble_eq_true rfl) dX11_rain_13 (fun r3 => ?_)
  refine q_goto C 25 dX11_rain_16 rfl ?_
  exact q_ireti C rfl dX11_rain_25
def f_X11_isKindM (a1 : Int32) (σ : St) : Option (Int32 × St) := (Option.bind (f_X11_within a1 0 69 σ) fun r1 => (if r1.1 = 0 ∨ r1.1 = 1 then (some (r1.1, r1.2)) else none))
theorem w_X11_isKindM {Y : YT} (a1 : Int32)   (σ : St) : CtE (emI FM Y) FM Y yX11_isKindM cX11_isKindM 1 (some .boolean) 1 [.int a1] σ (f_X11_isKindM a1 σ) := by
  refine Ct.ofG (by decide) (Nat.le_of_ble_eq_true rfl) (fun X C0 => ?_)
  have C : Cx FM Y X cX11_isKindM 1 RX11 (some .boolean) 1 (0, 0) := C0
  show G FM Y X 1 (emI FM Y) (0, 0) (0, 0) 0 [(0, .int a1)] [] (RepS FM Y σ) (f_X11_isKindM a1 σ)
  rw [f_X11_isKindM]
  refine q_iload_n C 0 dX11_isKindM_0 rfl ?_
  refine q_iconst C (v := 0) dX11_isKindM_1 (by decide) ?_
  refine q_bipush C (v := 69) dX11_isKindM_2 (by decide) ?_
  refine q_cSI C lk_X11_70 (w_X11_within (Y := Y) a1 0 69 σ) (Nat.le_of_ble_eq_true rfl) rfl (rest := []) rfl rfl (Nat.le_of_ble_eq_true rfl) dX11_isKindM_4 (fun r1 => ?_)
  exact G.ite (fun h => q_iretz C h rfl dX11_isKindM_7) (fun _ => G.none)
def f_X11_sayingComes (a1 : Int32) (a2 : Int32) (a3 : Int32) (σ : St) : Option (Int32 × St) := (Option.bind (f_X11_sayingAt (σ 1 3) 0 σ) fun r2 => (if inb r2.1 (shM 1 - 100) = true then (Bst (up r2.2 1 r2.1.toNatClampNeg (a1 / 10)) fun s3 => (Option.bind (f_X11_sayingAt (σ 1 3) 1 s3) fun r4 => (if inb r4.1 (shM 1 - 100) = true then (Bst (up r4.2 1 r4.1.toNatClampNeg (irm a1 10)) fun s5 => (Option.bind (f_X11_sayingAt (σ 1 3) 2 s5) fun r6 => (if inb r6.1 (shM 1 - 100) = true then (Bst (up r6.2 1 r6.1.toNatClampNeg a2) fun s7 => (Option.bind (f_X11_sayingAt (σ 1 3) 3 s7) fun r8 => (if inb r8.1 (shM 1 - 100) = true then (Bst (up r8.2 1 r8.1.toNatClampNeg a3) fun s9 => (Option.bind (f_X11_sayingAt (σ 1 3) 4 s9) fun r10 => (if inb r10.1 (shM 1 - 100) = true then (Bst (up r10.2 1 r10.1.toNatClampNeg 0) fun s11 => (Bst (up s11 1 3 ((s11 1 3) + 1)) fun s13 => (some ((σ 1 3), s13)))) else none))) else none))) else none))) else none))) else none))
theorem w_X11_sayingComes {Y : YT} (a1 : Int32) (a2 : Int32) (a3 : Int32)   (σ : St) : CtE (emI FM Y) FM Y yX11_sayingComes cX11_sayingComes 5 (some .int) 1 [Rf Y 0, .int a1, .int a2, .int a3] σ (f_X11_sayingComes a1 a2 a3 σ) := by
  refine Ct.ofG (by decide) (Nat.le_of_ble_eq_true rfl) (fun X C0 => ?_)
  have C : Cx FM Y X cX11_sayingComes 5 RX11 (some .int) 1 (0, 0) := C0
  show G FM Y X 5 (emI FM Y) (0, 0) (0, 0) 0 [(0, Rf Y 0), (1, .int a1), (2, .int a2), (3, .int a3)] [] (RepS FM Y σ) (f_X11_sayingComes a1 a2 a3 σ)
  rw [f_X11_sayingComes]
  refine q_aload_n C 0 dX11_sayingComes_0 rfl ?_
  refine gf_X11_9 C skM_0 dX11_sayingComes_1 ?_
  refine q_iconst C (v := 3) dX11_sayingComes_4 (by decide) ?_
  refine q_aldK C (j := 3) saM_1 (ltMa saM_1) (by decide +kernel) (by decide +kernel) dX11_sayingComes_5 ?_
  refine q_istore C [(4, .int (σ 1 3)), (0, Rf Y 0), (1, .int a1), (2, .int a2), (3, .int a3)] dX11_sayingComes_6 rfl rfl ?_
  refine q_aload_n C 1 dX11_sayingComes_8 rfl ?_
  refine gf_X11_9 C skM_0 dX11_sayingComes_9 ?_
  refine q_iload C 0 dX11_sayingComes_12 rfl ?_
  refine q_iconst C (v := 0) dX11_sayingComes_14 (by decide) ?_
  refine q_cSI C lk_X11_159 (w_X11_sayingAt (Y := Y) (σ 1 3) 0 σ) (Nat.le_of_ble_eq_true rfl) rfl (rest := [Rf Y 1]) rfl rfl (Nat.le_of_ble_eq_true rfl) dX11_sayingComes_15 (fun r2 => ?_)
  refine q_iload_n C 2 dX11_sayingComes_18 rfl ?_
  refine q_bipush C (v := 10) dX11_sayingComes_19 (by decide) ?_
  refine q_idiv C dX11_sayingComes_21 (by decide) ?_
  refine q_astS C saM_1 (ltMa saM_1) dX11_sayingComes_22 (fun _ s3 => ?_)
  refine q_aload_n C 1 dX11_sayingComes_23 rfl ?_
  refine gf_X11_9 C skM_0 dX11_sayingComes_24 ?_
  refine q_iload C 0 dX11_sayingComes_27 rfl ?_
  refine q_iconst C (v := 1) dX11_sayingComes_29 (by decide) ?_
  refine q_cSI C lk_X11_159 (w_X11_sayingAt (Y := Y) (σ 1 3) 1 s3) (Nat.le_of_ble_eq_true rfl) rfl (rest := [Rf Y 1]) rfl rfl (Nat.le_of_ble_eq_true rfl) dX11_sayingComes_30 (fun r4 => ?_)
  refine q_iload_n C 2 dX11_sayingComes_33 rfl ?_
  refine q_bipush C (v := 10) dX11_sayingComes_34 (by decide) ?_
  refine q_irem C dX11_sayingComes_36 (by decide) ?_
  refine q_astS C saM_1 (ltMa saM_1) dX11_sayingComes_37 (fun _ s5 => ?_)
  refine q_aload_n C 1 dX11_sayingComes_38 rfl ?_
  refine gf_X11_9 C skM_0 dX11_sayingComes_39 ?_
  refine q_iload C 0 dX11_sayingComes_42 rfl ?_
  refine q_iconst C (v := 2) dX11_sayingComes_44 (by decide) ?_
  refine q_cSI C lk_X11_159 (w_X11_sayingAt (Y := Y) (σ 1 3) 2 s5) (Nat.le_of_ble_eq_true rfl) rfl (rest := [Rf Y 1]) rfl rfl (Nat.le_of_ble_eq_true rfl) dX11_sayingComes_45 (fun r6 => ?_)
  refine q_iload_n C 3 dX11_sayingComes_48 rfl ?_
  refine q_astS C saM_1 (ltMa saM_1) dX11_sayingComes_49 (fun _ s7 => ?_)
  refine q_aload_n C 1 dX11_sayingComes_50 rfl ?_
  refine gf_X11_9 C skM_0 dX11_sayingComes_51 ?_
  refine q_iload C 0 dX11_sayingComes_54 rfl ?_
  refine q_iconst C (v := 3) dX11_sayingComes_56 (by decide) ?_
  refine q_cSI C lk_X11_159 (w_X11_sayingAt (Y := Y) (σ 1 3) 3 s7) (Nat.le_of_ble_eq_true rfl) rfl (rest := [Rf Y 1]) rfl rfl (Nat.le_of_ble_eq_true rfl) dX11_sayingComes_57 (fun r8 => ?_)
  refine q_iload_n C 4 dX11_sayingComes_60 rfl ?_
  refine q_astS C saM_1 (ltMa saM_1) dX11_sayingComes_61 (fun _ s9 => ?_)
  refine q_aload_n C 1 dX11_sayingComes_62 rfl ?_
  refine gf_X11_9 C skM_0 dX11_sayingComes_63 ?_
  refine q_iload C 0 dX11_sayingComes_66 rfl ?_
  refine q_iconst C (v := 4) dX11_sayingComes_68 (by decide) ?_
  refine q_cSI C lk_X11_159 (w_X11_sayingAt (Y := Y) (σ 1 3) 4 s9) (Nat.le_of_ble_eq_true rfl) rfl (rest := [Rf Y 1]) rfl rfl (Nat.le_of_ble_eq_true rfl) dX11_sayingComes_69 (fun r10 => ?_)
  refine q_iconst C (v := 0) dX11_sayingComes_72 (by decide) ?_
  refine q_astS C saM_1 (ltMa saM_1) dX11_sayingComes_73 (fun _ s11 => ?_)
  refine q_aload_n C 1 dX11_sayingComes_74 rfl ?_
  refine gf_X11_9 C skM_0 dX11_sayingComes_75 ?_
  refine q_iconst C (v := 3) dX11_sayingComes_78 (by decide) ?_
  refine q_dup2 C dX11_sayingComes_79 rfl rfl ?_
  refine q_aldK C (j := 3) saM_1 (ltMa saM_1) (by decide +kernel) (by decide +kernel) dX11_sayingComes_80 ?_
  refine q_iconst C (v := 1) dX11_sayingComes_81 (by decide) ?_
  refine q_iadd C dX11_sayingComes_82 ?_
  refine q_astK C (j := 3) saM_1 (ltMa saM_1) (by decide +kernel) (by decide +kernel) dX11_sayingComes_83 (fun s13 => ?_)
  refine q_iload C 0 dX11_sayingComes_84 rfl ?_
  exact q_ireti C rfl dX11_sayingComes_86
theorem lk_X11_181 : LkS RX11 181 yX11_isKindM cX11_isKindM 1 (some .boolean) 1 := ⟨TB_p [1264, 1265, 81, 1266] (by decide +kernel) (by decide +kernel), by decide +kernel, by decide +kernel, by decide +kernel⟩
theorem lk_X11_184 : LkS RX11 184 yX11_isStrength cX11_isStrength 1 (some .boolean) 1 := ⟨TB_p [1267, 1268, 81, 1269] (by decide +kernel) (by decide +kernel), by decide +kernel, by decide +kernel, by decide +kernel⟩
theorem lk_X11_187 : LkV RX11 187 yX11_sayingComes cX11_sayingComes 5 (some .int) 3 := ⟨TB_p [1270, 1272, 34, 81, 1273] (by decide +kernel) (by decide +kernel), by decide +kernel, by decide +kernel, by decide +kernel⟩
def f_X11_call (a1 : Int32) (a2 : Int32) (a3 : Int32) (σ : St) : Option (Int32 × St) := (Option.bind (f_X11_isKindM a1 σ) fun r1 => (if r1.1 = 0 then (Option.bind (f_X11_finding (-1000000001) r1.2) fun r2 => (some (r2.1, r2.2))) else (Option.bind (f_X11_isWell a2 r1.2) fun r3 => (if r3.1 = 0 then (Option.bind (f_X11_finding (-1000000001) r3.2) fun r4 => (some (r4.1, r4.2))) else (Option.bind (f_X11_isStrength a3 r3.2) fun r5 => (if r5.1 = 0 then (Option.bind (f_X11_finding (-1000000001) r5.2) fun r9 => (some (r9.1, r9.2))) else (if (r5.2 1 3) = 8 then (Option.bind (f_X11_finding (-1000000004) r5.2) fun r8 => (some (r8.1, r8.2))) else (Option.bind (f_X11_sayingComes a1 a2 a3 r5.2) fun r7 => (some (r7.1, r7.2))))))))))
theorem w_X11_call {Y : YT} (a1 : Int32) (a2 : Int32) (a3 : Int32)   (σ : St) : CtE (emI FM Y) FM Y yX11_call cX11_call 4 (some .int) 2 [Rf Y 0, .int a1, .int a2, .int a3] σ (f_X11_call a1 a2 a3 σ) := by
  refine Ct.ofG (by decide) (Nat.le_of_ble_eq_true rfl) (fun X C0 => ?_)
  have C : Cx FM Y X cX11_call 4 RX11 (some .int) 2 (0, 0) := C0
  show G FM Y X 4 (emI FM Y) (0, 0) (0, 0) 0 [(0, Rf Y 0), (1, .int a1), (2, .int a2), (3, .int a3)] [] (RepS FM Y σ) (f_X11_call a1 a2 a3 σ)
  rw [f_X11_call]
  refine q_iload_n C 1 dX11_call_0 rfl ?_
  refine q_cSI C lk_X11_181 (w_X11_isKindM (Y := Y) a1 σ) (Nat.le_of_ble_eq_true rfl) rfl (rest := []) rfl rfl (Nat.le_of_ble_eq_true rfl) dX11_call_1 (fun r1 => ?_)
  refine q_if_eq C 22 dX11_call_4 rfl (fun _ => ?_) (fun _ => ?_)
  · refine q_aload_n C 0 dX11_call_22 rfl ?_
    refine q_ldc C (v := (-1000000001)) (TB_of (List.mem_of_getElem? (i := 1119) (by decide +kernel)) rfl) dX11_call_23 ?_
    refine q_cVI C lk_X11_75 (w_X11_finding (Y := Y) (-1000000001) r1.2) (Nat.le_of_ble_eq_true rfl) rfl skM_0 (ltM skM_0 rfl) recv_11 (rest := []) rfl rfl (Nat.le_of_ble_eq_true rfl) dX11_call_25 (fun r2 => ?_)
    exact q_ireti C rfl dX11_call_28
  refine q_aload_n C 0 dX11_call_7 rfl ?_
  refine q_iload_n C 2 dX11_call_8 rfl ?_
  refine q_cVI C lk_X11_169 (w_X11_isWell (Y := Y) a2 r1.2) (Nat.le_of_ble_eq_true rfl) rfl skM_0 (ltM skM_0 rfl) recv_11 (rest := []) rfl rfl (Nat.le_of_ble_eq_true rfl) dX11_call_9 (fun r3 => ?_)
  refine q_if_eq C 22 dX11_call_12 rfl (fun _ => ?_) (fun _ => ?_)
  · refine q_aload_n C 0 dX11_call_22 rfl ?_
    refine q_ldc C (v := (-1000000001)) (TB_of (List.mem_of_getElem? (i := 1119) (by decide +kernel)) rfl) dX11_call_23 ?_
    refine q_cVI C lk_X11_75 (w_X11_finding (Y := Y) (-1000000001) r3.2) (Nat.le_of_ble_eq_true rfl) rfl skM_0 (ltM skM_0 rfl) recv_11 (rest := []) rfl rfl (Nat.le_of_ble_eq_true rfl) dX11_call_25 (fun r4 => ?_)
    exact q_ireti C rfl dX11_call_28
  refine q_iload_n C 3 dX11_call_15 rfl ?_
  refine q_cSI C lk_X11_184 (w_X11_isStrength (Y := Y) a3 r3.2) (Nat.le_of_ble_eq_true rfl) rfl (rest := []) rfl rfl (Nat.le_of_ble_eq_true rfl) dX11_call_16 (fun r5 => ?_)
  refine q_if_ne C 29 dX11_call_19 rfl (fun _ => ?_) (fun _ => ?_)
  · refine q_aload_n C 0 dX11_call_29 rfl ?_
    refine gf_X11_9 C skM_0 dX11_call_30 ?_
    refine q_iconst C (v := 3) dX11_call_33 (by decide) ?_
    refine q_aldK C (j := 3) saM_1 (ltMa saM_1) (by decide +kernel) (by decide +kernel) dX11_call_34 ?_
    refine q_bipush C (v := 8) dX11_call_35 (by decide) ?_
    refine q_icmp_ne C 49 dX11_call_37 rfl (fun _ => ?_) (fun _ => ?_)
    · refine q_aload_n C 0 dX11_call_49 rfl ?_
      refine q_iload_n C 1 dX11_call_50 rfl ?_
      refine q_iload_n C 2 dX11_call_51 rfl ?_
      refine q_iload_n C 3 dX11_call_52 rfl ?_
      refine q_cVI C lk_X11_187 (w_X11_sayingComes (Y := Y) a1 a2 a3 r5.2) (Nat.le_of_ble_eq_true rfl) rfl skM_0 (ltM skM_0 rfl) recv_11 (rest := []) rfl rfl (Nat.le_of_ble_eq_true rfl) dX11_call_53 (fun r7 => ?_)
      exact q_ireti C rfl dX11_call_56
    refine q_aload_n C 0 dX11_call_40 rfl ?_
    refine q_ldc C (v := (-1000000004)) (TB_of (List.mem_of_getElem? (i := 1125) (by decide +kernel)) rfl) dX11_call_41 ?_
    refine q_cVI C lk_X11_75 (w_X11_finding (Y := Y) (-1000000004) r5.2) (Nat.le_of_ble_eq_true rfl) rfl skM_0 (ltM skM_0 rfl) recv_11 (rest := []) rfl rfl (Nat.le_of_ble_eq_true rfl) dX11_call_43 (fun r8 => ?_)
    refine q_goto C 56 dX11_call_46 rfl ?_
    exact q_ireti C rfl dX11_call_56
  refine q_aload_n C 0 dX11_call_22 rfl ?_
  refine q_ldc C (v := (-1000000001)) (TB_of (List.mem_of_getElem? (i := 1119) (by decide +kernel)) rfl) dX11_call_23 ?_
  refine q_cVI C lk_X11_75 (w_X11_finding (Y := Y) (-1000000001) r5.2) (Nat.le_of_ble_eq_true rfl) rfl skM_0 (ltM skM_0 rfl) recv_11 (rest := []) rfl rfl (Nat.le_of_ble_eq_true rfl) dX11_call_25 (fun r9 => ?_)
  exact q_ireti C rfl dX11_call_28
def f_X11_above (a1 : Int32) (σ : St) : Option (Int32 × St) := (if a1 = 0 then (some ((-1), σ)) else (if a1 = 4 then (some (1, σ)) else (if a1 = 5 then (some (2, σ)) else (if a1 = 6 then (some (3, σ)) else (some (0, σ))))))
theorem w_X11_above {Y : YT} (a1 : Int32)   (σ : St) : CtE (emI FM Y) FM Y yX11_above cX11_above 1 (some .int) 0 [.int a1] σ (f_X11_above a1 σ) := by
  refine Ct.ofG (by decide) (Nat.le_of_ble_eq_true rfl) (fun X C0 => ?_)
  have C : Cx FM Y X cX11_above 1 RX11 (some .int) 0 (0, 0) := C0
  show G FM Y X 1 (emI FM Y) (0, 0) (0, 0) 0 [(0, .int a1)] [] (RepS FM Y σ) (f_X11_above a1 σ)
  rw [f_X11_above]
  refine q_iload_n C 0 dX11_above_0 rfl ?_
  refine q_if_ne C 8 dX11_above_1 rfl (fun _ => ?_) (fun _ => ?_)
  · refine q_iload_n C 0 dX11_above_8 rfl ?_
    refine q_iconst C (v := 4) dX11_above_9 (by decide) ?_
    refine q_icmp_ne C 17 dX11_above_10 rfl (fun _ => ?_) (fun _ => ?_)
    · refine q_iload_n C 0 dX11_above_17 rfl ?_
      refine q_iconst C (v := 5) dX11_above_18 (by decide) ?_
      refine q_icmp_ne C 26 dX11_above_19 rfl (fun _ => ?_) (fun _ => ?_)
      · refine q_iload_n C 0 dX11_above_26 rfl ?_
        refine q_bipush C (v := 6) dX11_above_27 (by decide) ?_
        refine q_icmp_ne C 36 dX11_above_29 rfl (fun _ => ?_) (fun _ => ?_)
        · refine q_iconst C (v := 0) dX11_above_36 (by decide) ?_
          exact q_ireti C rfl dX11_above_37
        refine q_iconst C (v := 3) dX11_above_32 (by decide) ?_
        refine q_goto C 37 dX11_above_33 rfl ?_
        exact q_ireti C rfl dX11_above_37
      refine q_iconst C (v := 2) dX11_above_22 (by decide) ?_
      refine q_goto C 37 dX11_above_23 rfl ?_
      exact q_ireti C rfl dX11_above_37
    refine q_iconst C (v := 1) dX11_above_13 (by decide) ?_
    refine q_goto C 37 dX11_above_14 rfl ?_
    exact q_ireti C rfl dX11_above_37
  refine q_iconst C (v := (-1)) dX11_above_4 (by decide) ?_
  refine q_goto C 37 dX11_above_5 rfl ?_
  exact q_ireti C rfl dX11_above_37
theorem lk_X11_190 : LkS RX11 190 yX11_above cX11_above 1 (some .int) 1 := ⟨TB_p [1322, 1323, 81, 1324] (by decide +kernel) (by decide +kernel), by decide +kernel, by decide +kernel, by decide +kernel⟩
def f_X11_isUnder_L2 : Nat → Int32 → Int32 → St → Option (Int32 × St)
  | 0, _, _, _ => none
  | n + 1, v1, v2, σ => (if v2 < 0 then (if v2 < 0 then (some (0, σ)) else (some (1, σ))) else (if v2 = v1 then (if v2 < 0 then (some (0, σ)) else (some (1, σ))) else (Option.bind (f_X11_above v2 σ) fun r1 => ((f_X11_isUnder_L2 n) v1 r1.1 r1.2))))
theorem w_X11_isUnder_L2 {Y : YT} {X : XT} (C : Cx FM Y X cX11_isUnder 3 RX11 (some .boolean) 1 (0, 0)) : ∀ (n : Nat), ∀ (v1 : Int32), ∀ (v2 : Int32), ∀ (σ : St), G FM Y X 3 (emI FM Y) (0, 0) (0, 0) 2 [(1, .int v1), (2, .int v2)] [] (RepS FM Y σ) (f_X11_isUnder_L2 n v1 v2 σ) := by
  intro n
  induction n with
  | zero =>
    intro v1 v2 σ
    rw [f_X11_isUnder_L2]; exact G.none
  | succ n ih =>
    intro v1 v2 σ
    rw [f_X11_isUnder_L2]
    refine q_iload_n C 1 dX11_isUnder_2 rfl ?_
    refine q_if_lt C 19 dX11_isUnder_3 rfl (fun _ => ?_) (fun _ => ?_)
    · refine q_iload_n C 1 dX11_isUnder_19 rfl ?_
      refine q_if_lt C 27 dX11_isUnder_20 rfl (fun _ => ?_) (fun _ => ?_)
      · refine q_iconst C (v := 0) dX11_isUnder_27 (by decide) ?_
        exact q_iretz C (by decide) rfl dX11_isUnder_28
      refine q_iconst C (v := 1) dX11_isUnder_23 (by decide) ?_
      refine q_goto C 28 dX11_isUnder_24 rfl ?_
      exact q_iretz C (by decide) rfl dX11_isUnder_28
    refine q_iload_n C 1 dX11_isUnder_6 rfl ?_
    refine q_iload_n C 0 dX11_isUnder_7 rfl ?_
    refine q_icmp_eq C 19 dX11_isUnder_8 rfl (fun _ => ?_) (fun _ => ?_)
    · refine q_iload_n C 1 dX11_isUnder_19 rfl ?_
      refine q_if_lt C 27 dX11_isUnder_20 rfl (fun _ => ?_) (fun _ => ?_)
      · refine q_iconst C (v := 0) dX11_isUnder_27 (by decide) ?_
        exact q_iretz C (by decide) rfl dX11_isUnder_28
      refine q_iconst C (v := 1) dX11_isUnder_23 (by decide) ?_
      refine q_goto C 28 dX11_isUnder_24 rfl ?_
      exact q_iretz C (by decide) rfl dX11_isUnder_28
    refine q_iload_n C 1 dX11_isUnder_11 rfl ?_
    refine q_cSI C lk_X11_190 (w_X11_above (Y := Y) v2 σ) (Nat.le_of_ble_eq_true rfl) rfl (rest := []) rfl rfl (Nat.le_of_ble_eq_true rfl) dX11_isUnder_12 (fun r1 => ?_)
    refine q_istore_n C [(2, .int r1.1), (1, .int v1)] dX11_isUnder_15 rfl rfl ?_
    refine q_goto C 2 dX11_isUnder_16 rfl ?_
    refine G.sub [1, 0] (lv' := [(1, .int v1), (2, .int r1.1)]) rfl ?_
    exact ih v1 r1.1 r1.2
def f_X11_isUnder (a1 : Int32) (a2 : Int32) (σ : St) : Option (Int32 × St) := (f_X11_isUnder_L2 400 a2 a1 σ)
theorem w_X11_isUnder {Y : YT} (a1 : Int32) (a2 : Int32)   (σ : St) : CtE (emI FM Y) FM Y yX11_isUnder cX11_isUnder 3 (some .boolean) 1 [.int a1, .int a2] σ (f_X11_isUnder a1 a2 σ) := by
  refine Ct.ofG (by decide) (Nat.le_of_ble_eq_true rfl) (fun X C0 => ?_)
  have C : Cx FM Y X cX11_isUnder 3 RX11 (some .boolean) 1 (0, 0) := C0
  show G FM Y X 3 (emI FM Y) (0, 0) (0, 0) 0 [(0, .int a1), (1, .int a2)] [] (RepS FM Y σ) (f_X11_isUnder a1 a2 σ)
  rw [f_X11_isUnder]
  refine q_iload_n C 0 dX11_isUnder_0 rfl ?_
  refine q_istore_n C [(2, .int a1), (0, .int a1), (1, .int a2)] dX11_isUnder_1 rfl rfl ?_
  refine G.sub [2, 0] (lv' := [(1, .int a2), (2, .int a1)]) rfl ?_
  exact w_X11_isUnder_L2 C 400 a2 a1 σ
theorem lk_X11_193 : LkV RX11 193 yX11_sayingIs cX11_sayingIs 3 (some .int) 2 := ⟨TB_p [1289, 1291, 37, 81, 1292] (by decide +kernel) (by decide +kernel), by decide +kernel, by decide +kernel, by decide +kernel⟩
def f_X11_weakens (a1 : Int32) (σ : St) : Option (Int32 × St) := (Option.bind (f_X11_sayingIs a1 1 σ) fun r1 => (Option.bind (f_X11_sayingIs a1 3 r1.2) fun r2 => (Option.bind (f_X11_given 0 r2.1 r1.1 (r2.2 1 5) r2.2) fun r4 => (Option.bind (f_X11_sayingIs a1 0 r4.2) fun r5 => (if r5.1 = 1 then (some ((imax 0 (r4.1 - 1)), r5.2)) else (if r5.1 = 2 then (some ((2 * r4.1), r5.2)) else (if r5.1 = 3 then (some (0, r5.2)) else (if r5.1 = 4 then (some ((imax 0 ((imax 0 (r4.1 - 1)) - (irm r1.1 3))), r5.2)) else (if r5.1 = 5 then (some (((2 * r4.1) + 1), r5.2)) else (if r5.1 = 6 then (some ((r4.1 / 2), r5.2)) else (some (r4.1, r5.2))))))))))))
theorem w_X11_weakens {Y : YT} (a1 : Int32)   (σ : St) : CtE (emI FM Y) FM Y yX11_weakens cX11_weakens 4 (some .int) 3 [Rf Y 0, .int a1] σ (f_X11_weakens a1 σ) := by
  refine Ct.ofG (by decide) (Nat.le_of_ble_eq_true rfl) (fun X C0 => ?_)
  have C : Cx FM Y X cX11_weakens 4 RX11 (some .int) 3 (0, 0) := C0
  show G FM Y X 4 (emI FM Y) (0, 0) (0, 0) 0 [(0, Rf Y 0), (1, .int a1)] [] (RepS FM Y σ) (f_X11_weakens a1 σ)
  rw [f_X11_weakens]
  refine q_aload_n C 0 dX11_weakens_0 rfl ?_
  refine q_iload_n C 1 dX11_weakens_1 rfl ?_
  refine q_iconst C (v := 1) dX11_weakens_2 (by decide) ?_
  refine q_cVI C lk_X11_193 (w_X11_sayingIs (Y := Y) a1 1 σ) (Nat.le_of_ble_eq_true rfl) rfl skM_0 (ltM skM_0 rfl) recv_11 (rest := []) rfl rfl (Nat.le_of_ble_eq_true rfl) dX11_weakens_3 (fun r1 => ?_)
  refine q_istore_n C [(2, .int r1.1), (0, Rf Y 0), (1, .int a1)] dX11_weakens_6 rfl rfl ?_
  refine q_aload_n C 1 dX11_weakens_7 rfl ?_
  refine q_iconst C (v := 0) dX11_weakens_8 (by decide) ?_
  refine q_aload_n C 1 dX11_weakens_9 rfl ?_
  refine q_iload_n C 2 dX11_weakens_10 rfl ?_
  refine q_iconst C (v := 3) dX11_weakens_11 (by decide) ?_
  refine q_cVI C lk_X11_193 (w_X11_sayingIs (Y := Y) a1 3 r1.2) (Nat.le_of_ble_eq_true rfl) rfl skM_0 (ltM skM_0 rfl) recv_11 (rest := [.int 0, Rf Y 0]) rfl rfl (Nat.le_of_ble_eq_true rfl) dX11_weakens_12 (fun r2 => ?_)
  refine q_iload_n C 0 dX11_weakens_15 rfl ?_
  refine q_aload_n C 1 dX11_weakens_16 rfl ?_
  refine gf_X11_9 C skM_0 dX11_weakens_17 ?_
  refine q_iconst C (v := 5) dX11_weakens_20 (by decide) ?_
  refine q_aldK C (j := 5) saM_1 (ltMa saM_1) (by decide +kernel) (by decide +kernel) dX11_weakens_21 ?_
  refine q_cVI C lk_X11_152 (w_X11_given (Y := Y) 0 r2.1 r1.1 (r2.2 1 5) r2.2) (Nat.le_of_ble_eq_true rfl) rfl skM_0 (ltM skM_0 rfl) recv_11 (rest := []) rfl rfl (Nat.le_of_ble_eq_true rfl) dX11_weakens_22 (fun r4 => ?_)
  refine q_istore_n C [(3, .int r4.1), (2, .int r1.1), (0, Rf Y 0), (1, .int a1)] dX11_weakens_25 rfl rfl ?_
  refine q_aload_n C 2 dX11_weakens_26 rfl ?_
  refine q_iload_n C 3 dX11_weakens_27 rfl ?_
  refine q_iconst C (v := 0) dX11_weakens_28 (by decide) ?_
  refine q_cVI C lk_X11_193 (w_X11_sayingIs (Y := Y) a1 0 r4.2) (Nat.le_of_ble_eq_true rfl) rfl skM_0 (ltM skM_0 rfl) recv_11 (rest := []) rfl rfl (Nat.le_of_ble_eq_true rfl) dX11_weakens_29 (fun r5 => ?_)
  refine G.ite (fun h6 => ?_) (fun h6 => ?_)
  · refine q_tsw_in C 72 dX11_weakens_32 h6 (by decide) (by decide) rfl rfl ?_
    refine q_iconst C (v := 0) dX11_weakens_72 (by decide) ?_
    refine q_iload_n C 0 dX11_weakens_73 rfl ?_
    refine q_iconst C (v := 1) dX11_weakens_74 (by decide) ?_
    refine q_isub C dX11_weakens_75 ?_
    refine q_mmax C (idx := 63) (TB_of (List.mem_of_getElem? (i := 1215) (by decide +kernel)) rfl) (Nat.le_of_ble_eq_true rfl) (Nat.le_of_ble_eq_true rfl) dX11_weakens_76 ?_
    exact q_ireti C rfl dX11_weakens_79
  refine G.ite (fun h7 => ?_) (fun h7 => ?_)
  · refine q_tsw_in C 96 dX11_weakens_32 h7 (by decide) (by decide) rfl rfl ?_
    refine q_iconst C (v := 2) dX11_weakens_96 (by decide) ?_
    refine q_iload_n C 0 dX11_weakens_97 rfl ?_
    refine q_imul C dX11_weakens_98 ?_
    exact q_ireti C rfl dX11_weakens_99
  refine G.ite (fun h8 => ?_) (fun h8 => ?_)
  · refine q_tsw_in C 106 dX11_weakens_32 h8 (by decide) (by decide) rfl rfl ?_
    refine q_iconst C (v := 0) dX11_weakens_106 (by decide) ?_
    exact q_ireti C rfl dX11_weakens_107
  refine G.ite (fun h9 => ?_) (fun h9 => ?_)
  · refine q_tsw_in C 80 dX11_weakens_32 h9 (by decide) (by decide) rfl rfl ?_
    refine q_iconst C (v := 0) dX11_weakens_80 (by decide) ?_
    refine q_iconst C (v := 0) dX11_weakens_81 (by decide) ?_
    refine q_iload_n C 0 dX11_weakens_82 rfl ?_
    refine q_iconst C (v := 1) dX11_weakens_83 (by decide) ?_
    refine q_isub C dX11_weakens_84 ?_
    refine q_mmax C (idx := 63) (TB_of (List.mem_of_getElem? (i := 1215) (by decide +kernel)) rfl) (Nat.le_of_ble_eq_true rfl) (Nat.le_of_ble_eq_true rfl) dX11_weakens_85 ?_
    refine q_iload_n C 1 dX11_weakens_88 rfl ?_
    refine q_iconst C (v := 3) dX11_weakens_89 (by decide) ?_
    refine q_irem C dX11_weakens_90 (by decide) ?_
    refine q_isub C dX11_weakens_91 ?_
    refine q_mmax C (idx := 63) (TB_of (List.mem_of_getElem? (i := 1215) (by decide +kernel)) rfl) (Nat.le_of_ble_eq_true rfl) (Nat.le_of_ble_eq_true rfl) dX11_weakens_92 ?_
    exact q_ireti C rfl dX11_weakens_95
  refine G.ite (fun h10 => ?_) (fun h10 => ?_)
  · refine q_tsw_in C 100 dX11_weakens_32 h10 (by decide) (by decide) rfl rfl ?_
    refine q_iconst C (v := 2) dX11_weakens_100 (by decide) ?_
    refine q_iload_n C 0 dX11_weakens_101 rfl ?_
    refine q_imul C dX11_weakens_102 ?_
    refine q_iconst C (v := 1) dX11_weakens_103 (by decide) ?_
    refine q_iadd C dX11_weakens_104 ?_
    exact q_ireti C rfl dX11_weakens_105
  refine G.ite (fun h11 => ?_) (fun h11 => ?_)
  · refine q_tsw_in C 108 dX11_weakens_32 h11 (by decide) (by decide) rfl rfl ?_
    refine q_iload_n C 0 dX11_weakens_108 rfl ?_
    refine q_iconst C (v := 2) dX11_weakens_109 (by decide) ?_
    refine q_idiv C dX11_weakens_110 (by decide) ?_
    exact q_ireti C rfl dX11_weakens_111
  refine q_tsw_out C 112 dX11_weakens_32 ?_ rfl ?_
  · have hsw := sw_out 1 6 (by decide) (by decide) ⟨h6, h7, h8, h9, h10, h11, trivial⟩
    omega
  refine q_iload_n C 0 dX11_weakens_112 rfl ?_
  exact q_ireti C rfl dX11_weakens_113
theorem lk_X11_196 : LkV RX11 196 yX11_folkIs cX11_folkIs 3 (some .int) 2 := ⟨TB_p [1305, 1307, 41, 81, 1308] (by decide +kernel) (by decide +kernel), by decide +kernel, by decide +kernel, by decide +kernel⟩
theorem lk_X11_199 : LkS RX11 199 yX11_hasBit cX11_hasBit 2 (some .boolean) 2 := ⟨TB_p [1316, 1317, 81, 1318] (by decide +kernel) (by decide +kernel), by decide +kernel, by decide +kernel, by decide +kernel⟩
def f_X11_knowers_L4 : Nat → Int32 → Int32 → Int32 → St → Option (Int32 × St)
  | 0, _, _, _, _ => none
  | n + 1, v1, v2, v3, σ => (if (σ 1 4) ≤ v3 then (some (v2, σ)) else (Option.bind (f_X11_folkIs v3 2 σ) fun r2 => (Option.bind (f_X11_hasBit r2.1 v1 r2.2) fun r3 => (if r3.1 = 0 then ((f_X11_knowers_L4 n) v1 (v2 ||| 0) (v3 + 1) r3.2) else ((f_X11_knowers_L4 n) v1 (v2 ||| (1 <<< (v3 &&& 31))) (v3 + 1) r3.2)))))
theorem w_X11_knowers_L4 {Y : YT} {X : XT} (C : Cx FM Y X cX11_knowers 4 RX11 (some .int) 2 (0, 0)) : ∀ (n : Nat), ∀ (v1 : Int32), ∀ (v2 : Int32), ∀ (v3 : Int32), ∀ (σ : St), G FM Y X 4 (emI FM Y) (0, 0) (0, 0) 4 [(0, Rf Y 0), (1, .int v1), (2, .int v2), (3, .int v3)] [] (RepS FM Y σ) (f_X11_knowers_L4 n v1 v2 v3 σ) := by
  intro n
  induction n with
  | zero =>
    intro v1 v2 v3 σ
    rw [f_X11_knowers_L4]; exact G.none
  | succ n ih =>
    intro v1 v2 v3 σ
    rw [f_X11_knowers_L4]
    refine q_iload_n C 3 dX11_knowers_4 rfl ?_
    refine q_aload_n C 0 dX11_knowers_5 rfl ?_
    refine gf_X11_9 C skM_0 dX11_knowers_6 ?_
    refine q_iconst C (v := 4) dX11_knowers_9 (by decide) ?_
    refine q_aldK C (j := 4) saM_1 (ltMa saM_1) (by decide +kernel) (by decide +kernel) dX11_knowers_10 ?_
    refine q_icmp_ge C 43 dX11_knowers_11 rfl (fun _ => ?_) (fun _ => ?_)
    · refine q_iload_n C 2 dX11_knowers_43 rfl ?_
      exact q_ireti C rfl dX11_knowers_44
    refine q_iload_n C 2 dX11_knowers_14 rfl ?_
    refine q_aload_n C 0 dX11_knowers_15 rfl ?_
    refine q_iload_n C 3 dX11_knowers_16 rfl ?_
    refine q_iconst C (v := 2) dX11_knowers_17 (by decide) ?_
    refine q_cVI C lk_X11_196 (w_X11_folkIs (Y := Y) v3 2 σ) (Nat.le_of_ble_eq_true rfl) rfl skM_0 (ltM skM_0 rfl) recv_11 (rest := [.int v2]) rfl rfl (Nat.le_of_ble_eq_true rfl) dX11_knowers_18 (fun r2 => ?_)
    refine q_iload_n C 1 dX11_knowers_21 rfl ?_
    refine q_cSI C lk_X11_199 (w_X11_hasBit (Y := Y) r2.1 v1 r2.2) (Nat.le_of_ble_eq_true rfl) rfl (rest := [.int v2]) rfl rfl (Nat.le_of_ble_eq_true rfl) dX11_knowers_22 (fun r3 => ?_)
    refine q_if_eq C 34 dX11_knowers_25 rfl (fun _ => ?_) (fun _ => ?_)
    · refine q_iconst C (v := 0) dX11_knowers_34 (by decide) ?_
      refine q_ior C dX11_knowers_35 ?_
      refine q_istore_n C [(2, .int (v2 ||| 0)), (0, Rf Y 0), (1, .int v1), (3, .int v3)] dX11_knowers_36 rfl rfl ?_
      refine q_iinc C 3 [(3, .int (v3 + 1)), (2, .int (v2 ||| 0)), (0, Rf Y 0), (1, .int v1)] dX11_knowers_37 rfl rfl rfl rfl ?_
      refine q_goto C 4 dX11_knowers_40 rfl ?_
      refine G.sub [2, 3, 1, 0] (lv' := [(0, Rf Y 0), (1, .int v1), (2, .int (v2 ||| 0)), (3, .int (v3 + 1))]) rfl ?_
      exact ih v1 (v2 ||| 0) (v3 + 1) r3.2
    refine q_iconst C (v := 1) dX11_knowers_28 (by decide) ?_
    refine q_iload_n C 3 dX11_knowers_29 rfl ?_
    refine q_ishl C dX11_knowers_30 ?_
    refine q_goto C 35 dX11_knowers_31 rfl ?_
    refine q_ior C dX11_knowers_35 ?_
    refine q_istore_n C [(2, .int (v2 ||| (1 <<< (v3 &&& 31)))), (0, Rf Y 0), (1, .int v1), (3, .int v3)] dX11_knowers_36 rfl rfl ?_
    refine q_iinc C 3 [(3, .int (v3 + 1)), (2, .int (v2 ||| (1 <<< (v3 &&& 31)))), (0, Rf Y 0), (1, .int v1)] dX11_knowers_37 rfl rfl rfl rfl ?_
    refine q_goto C 4 dX11_knowers_40 rfl ?_
    refine G.sub [2, 3, 1, 0] (lv' := [(0, Rf Y 0), (1, .int v1), (2, .int (v2 ||| (1 <<< (v3 &&& 31)))), (3, .int (v3 + 1))]) rfl ?_
    exact ih v1 (v2 ||| (1 <<< (v3 &&& 31))) (v3 + 1) r3.2
def f_X11_knowers (a1 : Int32) (σ : St) : Option (Int32 × St) := (f_X11_knowers_L4 400 a1 0 0 σ)
theorem w_X11_knowers {Y : YT} (a1 : Int32)   (σ : St) : CtE (emI FM Y) FM Y yX11_knowers cX11_knowers 4 (some .int) 2 [Rf Y 0, .int a1] σ (f_X11_knowers a1 σ) := by
  refine Ct.ofG (by decide) (Nat.le_of_ble_eq_true rfl) (fun X C0 => ?_)
  have C : Cx FM Y X cX11_knowers 4 RX11 (some .int) 2 (0, 0) := C0
  show G FM Y X 4 (emI FM Y) (0, 0) (0, 0) 0 [(0, Rf Y 0), (1, .int a1)] [] (RepS FM Y σ) (f_X11_knowers a1 σ)
  rw [f_X11_knowers]
  refine q_iconst C (v := 0) dX11_knowers_0 (by decide) ?_
  refine q_istore_n C [(2, .int 0), (0, Rf Y 0), (1, .int a1)] dX11_knowers_1 rfl rfl ?_
  refine q_iconst C (v := 0) dX11_knowers_2 (by decide) ?_
  refine q_istore_n C [(3, .int 0), (2, .int 0), (0, Rf Y 0), (1, .int a1)] dX11_knowers_3 rfl rfl ?_
  refine G.sub [2, 3, 1, 0] (lv' := [(0, Rf Y 0), (1, .int a1), (2, .int 0), (3, .int 0)]) rfl ?_
  exact w_X11_knowers_L4 C 400 a1 0 0 σ
def f_X11_drinkers_L4 : Nat → Int32 → Int32 → Int32 → St → Option (Int32 × St)
  | 0, _, _, _, _ => none
  | n + 1, v1, v2, v3, σ => (if (σ 1 4) ≤ v3 then (some (v2, σ)) else (Option.bind (f_X11_folkIs v3 0 σ) fun r2 => (if r2.1 = v1 then ((f_X11_drinkers_L4 n) v1 (v2 ||| (1 <<< (v3 &&& 31))) (v3 + 1) r2.2) else ((f_X11_drinkers_L4 n) v1 (v2 ||| 0) (v3 + 1) r2.2))))
theorem w_X11_drinkers_L4 {Y : YT} {X : XT} (C : Cx FM Y X cX11_drinkers 4 RX11 (some .int) 2 (0, 0)) : ∀ (n : Nat), ∀ (v1 : Int32), ∀ (v2 : Int32), ∀ (v3 : Int32), ∀ (σ : St), G FM Y X 4 (emI FM Y) (0, 0) (0, 0) 4 [(0, Rf Y 0), (1, .int v1), (2, .int v2), (3, .int v3)] [] (RepS FM Y σ) (f_X11_drinkers_L4 n v1 v2 v3 σ) := by
  intro n
  induction n with
  | zero =>
    intro v1 v2 v3 σ
    rw [f_X11_drinkers_L4]; exact G.none
  | succ n ih =>
    intro v1 v2 v3 σ
    rw [f_X11_drinkers_L4]
    refine q_iload_n C 3 dX11_drinkers_4 rfl ?_
    refine q_aload_n C 0 dX11_drinkers_5 rfl ?_
    refine gf_X11_9 C skM_0 dX11_drinkers_6 ?_
    refine q_iconst C (v := 4) dX11_drinkers_9 (by decide) ?_
    refine q_aldK C (j := 4) saM_1 (ltMa saM_1) (by decide +kernel) (by decide +kernel) dX11_drinkers_10 ?_
    refine q_icmp_ge C 40 dX11_drinkers_11 rfl (fun _ => ?_) (fun _ => ?_)
    · refine q_iload_n C 2 dX11_drinkers_40 rfl ?_
      exact q_ireti C rfl dX11_drinkers_41
    refine q_iload_n C 2 dX11_drinkers_14 rfl ?_
    refine q_aload_n C 0 dX11_drinkers_15 rfl ?_
    refine q_iload_n C 3 dX11_drinkers_16 rfl ?_
    refine q_iconst C (v := 0) dX11_drinkers_17 (by decide) ?_
    refine q_cVI C lk_X11_196 (w_X11_folkIs (Y := Y) v3 0 σ) (Nat.le_of_ble_eq_true rfl) rfl skM_0 (ltM skM_0 rfl) recv_11 (rest := [.int v2]) rfl rfl (Nat.le_of_ble_eq_true rfl) dX11_drinkers_18 (fun r2 => ?_)
    refine q_iload_n C 1 dX11_drinkers_21 rfl ?_
    refine q_icmp_ne C 31 dX11_drinkers_22 rfl (fun _ => ?_) (fun _ => ?_)
    · refine q_iconst C (v := 0) dX11_drinkers_31 (by decide) ?_
      refine q_ior C dX11_drinkers_32 ?_
      refine q_istore_n C [(2, .int (v2 ||| 0)), (0, Rf Y 0), (1, .int v1), (3, .int v3)] dX11_drinkers_33 rfl rfl ?_
      refine q_iinc C 3 [(3, .int (v3 + 1)), (2, .int (v2 ||| 0)), (0, Rf Y 0), (1, .int v1)] dX11_drinkers_34 rfl rfl rfl rfl ?_
      refine q_goto C 4 dX11_drinkers_37 rfl ?_
      refine G.sub [2, 3, 1, 0] (lv' := [(0, Rf Y 0), (1, .int v1), (2, .int (v2 ||| 0)), (3, .int (v3 + 1))]) rfl ?_
      exact ih v1 (v2 ||| 0) (v3 + 1) r2.2
    refine q_iconst C (v := 1) dX11_drinkers_25 (by decide) ?_
    refine q_iload_n C 3 dX11_drinkers_26 rfl ?_
    refine q_ishl C dX11_drinkers_27 ?_
    refine q_goto C 32 dX11_drinkers_28 rfl ?_
    refine q_ior C dX11_drinkers_32 ?_
    refine q_istore_n C [(2, .int (v2 ||| (1 <<< (v3 &&& 31)))), (0, Rf Y 0), (1, .int v1), (3, .int v3)] dX11_drinkers_33 rfl rfl ?_
    refine q_iinc C 3 [(3, .int (v3 + 1)), (2, .int (v2 ||| (1 <<< (v3 &&& 31)))), (0, Rf Y 0), (1, .int v1)] dX11_drinkers_34 rfl rfl rfl rfl ?_
    refine q_goto C 4 dX11_drinkers_37 rfl ?_
    refine G.sub [2, 3, 1, 0] (lv' := [(0, Rf Y 0), (1, .int v1), (2, .int (v2 ||| (1 <<< (v3 &&& 31)))), (3, .int (v3 + 1))]) rfl ?_
    exact ih v1 (v2 ||| (1 <<< (v3 &&& 31))) (v3 + 1) r2.2
def f_X11_drinkers (a1 : Int32) (σ : St) : Option (Int32 × St) := (f_X11_drinkers_L4 400 a1 0 0 σ)
theorem w_X11_drinkers {Y : YT} (a1 : Int32)   (σ : St) : CtE (emI FM Y) FM Y yX11_drinkers cX11_drinkers 4 (some .int) 2 [Rf Y 0, .int a1] σ (f_X11_drinkers a1 σ) := by
  refine Ct.ofG (by decide) (Nat.le_of_ble_eq_true rfl) (fun X C0 => ?_)
  have C : Cx FM Y X cX11_drinkers 4 RX11 (some .int) 2 (0, 0) := C0
  show G FM Y X 4 (emI FM Y) (0, 0) (0, 0) 0 [(0, Rf Y 0), (1, .int a1)] [] (RepS FM Y σ) (f_X11_drinkers a1 σ)
  rw [f_X11_drinkers]
  refine q_iconst C (v := 0) dX11_drinkers_0 (by decide) ?_
  refine q_istore_n C [(2, .int 0), (0, Rf Y 0), (1, .int a1)] dX11_drinkers_1 rfl rfl ?_
  refine q_iconst C (v := 0) dX11_drinkers_2 (by decide) ?_
  refine q_istore_n C [(3, .int 0), (2, .int 0), (0, Rf Y 0), (1, .int a1)] dX11_drinkers_3 rfl rfl ?_
  refine G.sub [2, 3, 1, 0] (lv' := [(0, Rf Y 0), (1, .int a1), (2, .int 0), (3, .int 0)]) rfl ?_
  exact w_X11_drinkers_L4 C 400 a1 0 0 σ
def f_X11_isOpen (a1 : Int32) (a2 : Int32) (σ : St) : Option (Int32 × St) := (Option.bind (f_X11_wayIs a1 0 σ) fun r1 => (if r1.1 = a2 then (Option.bind (f_X11_wayIs a1 3 r1.2) fun r2 => (if r2.1 = 0 then (some (1, r2.2)) else (some (0, r2.2)))) else (some (0, r1.2))))
theorem w_X11_isOpen {Y : YT} (a1 : Int32) (a2 : Int32)   (σ : St) : CtE (emI FM Y) FM Y yX11_isOpen cX11_isOpen 3 (some .boolean) 2 [Rf Y 0, .int a1, .int a2] σ (f_X11_isOpen a1 a2 σ) := by
  refine Ct.ofG (by decide) (Nat.le_of_ble_eq_true rfl) (fun X C0 => ?_)
  have C : Cx FM Y X cX11_isOpen 3 RX11 (some .boolean) 2 (0, 0) := C0
  show G FM Y X 3 (emI FM Y) (0, 0) (0, 0) 0 [(0, Rf Y 0), (1, .int a1), (2, .int a2)] [] (RepS FM Y σ) (f_X11_isOpen a1 a2 σ)
  rw [f_X11_isOpen]
  refine q_aload_n C 0 dX11_isOpen_0 rfl ?_
  refine q_iload_n C 1 dX11_isOpen_1 rfl ?_
  refine q_iconst C (v := 0) dX11_isOpen_2 (by decide) ?_
  refine q_cVI C lk_X11_178 (w_X11_wayIs (Y := Y) a1 0 σ) (Nat.le_of_ble_eq_true rfl) rfl skM_0 (ltM skM_0 rfl) recv_11 (rest := []) rfl rfl (Nat.le_of_ble_eq_true rfl) dX11_isOpen_3 (fun r1 => ?_)
  refine q_iload_n C 2 dX11_isOpen_6 rfl ?_
  refine q_icmp_ne C 23 dX11_isOpen_7 rfl (fun _ => ?_) (fun _ => ?_)
  · refine q_iconst C (v := 0) dX11_isOpen_23 (by decide) ?_
    exact q_iretz C (by decide) rfl dX11_isOpen_24
  refine q_aload_n C 0 dX11_isOpen_10 rfl ?_
  refine q_iload_n C 1 dX11_isOpen_11 rfl ?_
  refine q_iconst C (v := 3) dX11_isOpen_12 (by decide) ?_
  refine q_cVI C lk_X11_178 (w_X11_wayIs (Y := Y) a1 3 r1.2) (Nat.le_of_ble_eq_true rfl) rfl skM_0 (ltM skM_0 rfl) recv_11 (rest := []) rfl rfl (Nat.le_of_ble_eq_true rfl) dX11_isOpen_13 (fun r2 => ?_)
  refine q_if_ne C 23 dX11_isOpen_16 rfl (fun _ => ?_) (fun _ => ?_)
  · refine q_iconst C (v := 0) dX11_isOpen_23 (by decide) ?_
    exact q_iretz C (by decide) rfl dX11_isOpen_24
  refine q_iconst C (v := 1) dX11_isOpen_19 (by decide) ?_
  refine q_goto C 24 dX11_isOpen_20 rfl ?_
  exact q_iretz C (by decide) rfl dX11_isOpen_24
theorem lk_X11_212 : LkS RX11 212 yX11_isUnder cX11_isUnder 3 (some .boolean) 2 := ⟨TB_p [1319, 1320, 81, 1321] (by decide +kernel) (by decide +kernel), by decide +kernel, by decide +kernel, by decide +kernel⟩
theorem lk_X11_206 : LkV RX11 206 yX11_drinkers cX11_drinkers 4 (some .int) 1 := ⟨TB_p [1301, 1303, 40, 81, 1304] (by decide +kernel) (by decide +kernel), by decide +kernel, by decide +kernel, by decide +kernel⟩
theorem lk_X11_209 : LkV RX11 209 yX11_knowers cX11_knowers 4 (some .int) 1 := ⟨TB_p [1312, 1314, 42, 81, 1315] (by decide +kernel) (by decide +kernel), by decide +kernel, by decide +kernel, by decide +kernel⟩
theorem lk_X11_203 : LkV RX11 203 yX11_isOpen cX11_isOpen 3 (some .boolean) 2 := ⟨TB_p [1297, 1299, 39, 81, 1300] (by decide +kernel) (by decide +kernel), by decide +kernel, by decide +kernel, by decide +kernel⟩
def f_X11_goesOn_L109 (v3 : Int32) (v4 : Int32) (v5 : Int32) (σ : St) : Option (Int32 × St) := (if (1 : Int32) = 0 then (Option.bind (f_X11_isUnder v3 2 σ) fun r9 => (if r9.1 = 0 then (some (v4, r9.2)) else (some (v5, r9.2)))) else (some ((-1), σ)))
theorem w_X11_goesOn_L109 {Y : YT} {X : XT} (C : Cx FM Y X cX11_goesOn 7 RX11 (some .int) 3 (0, 0)) : ∀ (v3 : Int32), ∀ (v4 : Int32), ∀ (v5 : Int32), ∀ (σ : St), G FM Y X 7 (emI FM Y) (0, 0) (0, 0) 109 [(3, .int v3), (4, .int v4), (5, .int v5)] [] (RepS FM Y σ) (f_X11_goesOn_L109 v3 v4 v5 σ) := by
  intro v3 v4 v5 σ
  rw [f_X11_goesOn_L109]
  refine q_iconst C (v := 1) dX11_goesOn_109 (by decide) ?_
  refine q_goto C 114 dX11_goesOn_110 rfl ?_
  refine q_istore C [(6, .int 1), (3, .int v3), (4, .int v4), (5, .int v5)] dX11_goesOn_114 rfl rfl ?_
  refine q_iload C 0 dX11_goesOn_116 rfl ?_
  refine q_if_eq C 125 dX11_goesOn_118 rfl (fun _ => ?_) (fun _ => ?_)
  · refine q_iload_n C 1 dX11_goesOn_125 rfl ?_
    refine q_iconst C (v := 2) dX11_goesOn_126 (by decide) ?_
    refine q_cSI C lk_X11_212 (w_X11_isUnder (Y := Y) v3 2 σ) (Nat.le_of_ble_eq_true rfl) rfl (rest := []) rfl rfl (Nat.le_of_ble_eq_true rfl) dX11_goesOn_127 (fun r9 => ?_)
    refine q_if_eq C 138 dX11_goesOn_130 rfl (fun _ => ?_) (fun _ => ?_)
    · refine q_iload C 2 dX11_goesOn_138 rfl ?_
      exact q_ireti C rfl dX11_goesOn_140
    refine q_iload C 3 dX11_goesOn_133 rfl ?_
    refine q_goto C 140 dX11_goesOn_135 rfl ?_
    exact q_ireti C rfl dX11_goesOn_140
  refine q_iconst C (v := (-1)) dX11_goesOn_121 (by decide) ?_
  refine q_goto C 140 dX11_goesOn_122 rfl ?_
  exact q_ireti C rfl dX11_goesOn_140
def f_X11_goesOn_L56 (rf23 : Int32 → Int32 → Int32 → Int32 → Int32 → Int32 → St → Option (Int32 × St)) (v1 : Int32) (v2 : Int32) (v3 : Int32) (v5 : Int32) (v6 : Int32) (w0 : Int32) (σ : St) : Option (Int32 × St) := (Option.bind (f_X11_isOpen v6 v2 σ) fun r10 => (if r10.1 = 0 then (rf23 v1 v2 v3 w0 v5 (v6 + 1) r10.2) else (rf23 v1 v2 v3 w0 v6 (v6 + 1) r10.2)))
theorem w_X11_goesOn_L56 {Y : YT} {X : XT} (C : Cx FM Y X cX11_goesOn 7 RX11 (some .int) 3 (0, 0)) {rf23 : Int32 → Int32 → Int32 → Int32 → Int32 → Int32 → St → Option (Int32 × St)} (ih23 : ∀ (v1 : Int32), ∀ (v2 : Int32), ∀ (v3 : Int32), ∀ (v4 : Int32), ∀ (v5 : Int32), ∀ (v6 : Int32), ∀ (σ : St), G FM Y X 7 (emI FM Y) (0, 0) (0, 0) 23 [(0, Rf Y 0), (1, .int v1), (2, .int v2), (3, .int v3), (4, .int v4), (5, .int v5), (6, .int v6)] [] (RepS FM Y σ) (rf23 v1 v2 v3 v4 v5 v6 σ)) : ∀ (v1 : Int32), ∀ (v2 : Int32), ∀ (v3 : Int32), ∀ (v5 : Int32), ∀ (v6 : Int32), ∀ (w0 : Int32), ∀ (σ : St), G FM Y X 7 (emI FM Y) (0, 0) (0, 0) 56 [(0, Rf Y 0), (1, .int v1), (2, .int v2), (3, .int v3), (5, .int v5), (6, .int v6)] [.int w0] (RepS FM Y σ) (f_X11_goesOn_L56 rf23 v1 v2 v3 v5 v6 w0 σ) := by
  intro v1 v2 v3 v5 v6 w0 σ
  rw [f_X11_goesOn_L56]
  refine q_istore C [(4, .int w0), (0, Rf Y 0), (1, .int v1), (2, .int v2), (3, .int v3), (5, .int v5), (6, .int v6)] dX11_goesOn_56 rfl rfl ?_
  refine q_aload_n C 1 dX11_goesOn_58 rfl ?_
  refine q_iload C 6 dX11_goesOn_59 rfl ?_
  refine q_iload_n C 3 dX11_goesOn_61 rfl ?_
  refine q_cVI C lk_X11_203 (w_X11_isOpen (Y := Y) v6 v2 σ) (Nat.le_of_ble_eq_true rfl) rfl skM_0 (ltM skM_0 rfl) recv_11 (rest := []) rfl rfl (Nat.le_of_ble_eq_true rfl) dX11_goesOn_62 (fun r10 => ?_)
  refine q_if_eq C 73 dX11_goesOn_65 rfl (fun _ => ?_) (fun _ => ?_)
  · refine q_iload C 5 dX11_goesOn_73 rfl ?_
    refine q_istore C [(5, .int v5), (4, .int w0), (0, Rf Y 0), (1, .int v1), (2, .int v2), (3, .int v3), (6, .int v6)] dX11_goesOn_75 rfl rfl ?_
    refine q_iinc C 6 [(6, .int (v6 + 1)), (5, .int v5), (4, .int w0), (0, Rf Y 0), (1, .int v1), (2, .int v2), (3, .int v3)] dX11_goesOn_77 rfl rfl rfl rfl ?_
    refine q_goto C 23 dX11_goesOn_80 rfl ?_
    refine G.sub [3, 4, 5, 6, 2, 1, 0] (lv' := [(0, Rf Y 0), (1, .int v1), (2, .int v2), (3, .int v3), (4, .int w0), (5, .int v5), (6, .int (v6 + 1))]) rfl ?_
    exact ih23 v1 v2 v3 w0 v5 (v6 + 1) r10.2
  refine q_iload C 6 dX11_goesOn_68 rfl ?_
  refine q_goto C 75 dX11_goesOn_70 rfl ?_
  refine q_istore C [(5, .int v6), (4, .int w0), (0, Rf Y 0), (1, .int v1), (2, .int v2), (3, .int v3), (6, .int v6)] dX11_goesOn_75 rfl rfl ?_
  refine q_iinc C 6 [(6, .int (v6 + 1)), (5, .int v6), (4, .int w0), (0, Rf Y 0), (1, .int v1), (2, .int v2), (3, .int v3)] dX11_goesOn_77 rfl rfl rfl rfl ?_
  refine q_goto C 23 dX11_goesOn_80 rfl ?_
  refine G.sub [3, 4, 5, 6, 2, 1, 0] (lv' := [(0, Rf Y 0), (1, .int v1), (2, .int v2), (3, .int v3), (4, .int w0), (5, .int v6), (6, .int (v6 + 1))]) rfl ?_
  exact ih23 v1 v2 v3 w0 v6 (v6 + 1) r10.2
def f_X11_goesOn_L23 : Nat → Int32 → Int32 → Int32 → Int32 → Int32 → Int32 → St → Option (Int32 × St)
  | 0, _, _, _, _, _, _, _ => none
  | n + 1, v1, v2, v3, v4, v5, v6, σ => (if (σ 1 2) ≤ v6 then (if v3 = 3 then (f_X11_goesOn_L109 v3 v4 v5 σ) else (if v3 = 4 then (Option.bind (f_X11_drinkers v2 σ) fun r5 => (Option.bind (f_X11_knowers v1 r5.2) fun r6 => (if (r5.1 &&& (r6.1 ^^^ (-1))) = 0 then (if (0 : Int32) = 0 then (Option.bind (f_X11_isUnder v3 2 r6.2) fun r7 => (if r7.1 = 0 then (some (v4, r7.2)) else (some (v5, r7.2)))) else (some ((-1), r6.2))) else (f_X11_goesOn_L109 v3 v4 v5 r6.2)))) else (if (0 : Int32) = 0 then (Option.bind (f_X11_isUnder v3 2 σ) fun r4 => (if r4.1 = 0 then (some (v4, r4.2)) else (some (v5, r4.2)))) else (some ((-1), σ))))) else (if 0 ≤ v4 then (f_X11_goesOn_L56 (f_X11_goesOn_L23 n) v1 v2 v3 v5 v6 v4 σ) else (Option.bind (f_X11_isOpen v6 v2 σ) fun r8 => (if r8.1 = 0 then (f_X11_goesOn_L56 (f_X11_goesOn_L23 n) v1 v2 v3 v5 v6 v4 r8.2) else (f_X11_goesOn_L56 (f_X11_goesOn_L23 n) v1 v2 v3 v5 v6 v6 r8.2)))))
theorem w_X11_goesOn_L23 {Y : YT} {X : XT} (C : Cx FM Y X cX11_goesOn 7 RX11 (some .int) 3 (0, 0)) : ∀ (n : Nat), ∀ (v1 : Int32), ∀ (v2 : Int32), ∀ (v3 : Int32), ∀ (v4 : Int32), ∀ (v5 : Int32), ∀ (v6 : Int32), ∀ (σ : St), G FM Y X 7 (emI FM Y) (0, 0) (0, 0) 23 [(0, Rf Y 0), (1, .int v1), (2, .int v2), (3, .int v3), (4, .int v4), (5, .int v5), (6, .int v6)] [] (RepS FM Y σ) (f_X11_goesOn_L23 n v1 v2 v3 v4 v5 v6 σ) := by
  intro n
  induction n with
  | zero =>
    intro v1 v2 v3 v4 v5 v6 σ
    rw [f_X11_goesOn_L23]; exact G.none
  | succ n ih =>
    intro v1 v2 v3 v4 v5 v6 σ
    rw [f_X11_goesOn_L23]
    refine q_iload C 6 dX11_goesOn_23 rfl ?_
    refine q_aload_n C 0 dX11_goesOn_25 rfl ?_
    refine gf_X11_9 C skM_0 dX11_goesOn_26 ?_
    refine q_iconst C (v := 2) dX11_goesOn_29 (by decide) ?_
    refine q_aldK C (j := 2) saM_1 (ltMa saM_1) (by decide +kernel) (by decide +kernel) dX11_goesOn_30 ?_
    refine q_icmp_ge C 83 dX11_goesOn_31 rfl (fun _ => ?_) (fun _ => ?_)
    · refine q_iload_n C 3 dX11_goesOn_83 rfl ?_
      refine q_iconst C (v := 3) dX11_goesOn_84 (by decide) ?_
      refine q_icmp_eq C 109 dX11_goesOn_85 rfl (fun _ => ?_) (fun _ => ?_)
      · refine G.sub [3, 4, 5] (lv' := [(3, .int v3), (4, .int v4), (5, .int v5)]) rfl ?_
        exact w_X11_goesOn_L109 C v3 v4 v5 σ
      refine q_iload_n C 3 dX11_goesOn_88 rfl ?_
      refine q_iconst C (v := 4) dX11_goesOn_89 (by decide) ?_
      refine q_icmp_ne C 113 dX11_goesOn_90 rfl (fun _ => ?_) (fun _ => ?_)
      · refine q_iconst C (v := 0) dX11_goesOn_113 (by decide) ?_
        refine q_istore C [(6, .int 0), (0, Rf Y 0), (1, .int v1), (2, .int v2), (3, .int v3), (4, .int v4), (5, .int v5)] dX11_goesOn_114 rfl rfl ?_
        refine q_iload C 0 dX11_goesOn_116 rfl ?_
        refine q_if_eq C 125 dX11_goesOn_118 rfl (fun _ => ?_) (fun _ => ?_)
        · refine q_iload_n C 4 dX11_goesOn_125 rfl ?_
          refine q_iconst C (v := 2) dX11_goesOn_126 (by decide) ?_
          refine q_cSI C lk_X11_212 (w_X11_isUnder (Y := Y) v3 2 σ) (Nat.le_of_ble_eq_true rfl) rfl (rest := []) rfl rfl (Nat.le_of_ble_eq_true rfl) dX11_goesOn_127 (fun r4 => ?_)
          refine q_if_eq C 138 dX11_goesOn_130 rfl (fun _ => ?_) (fun _ => ?_)
          · refine q_iload C 5 dX11_goesOn_138 rfl ?_
            exact q_ireti C rfl dX11_goesOn_140
          refine q_iload C 6 dX11_goesOn_133 rfl ?_
          refine q_goto C 140 dX11_goesOn_135 rfl ?_
          exact q_ireti C rfl dX11_goesOn_140
        refine q_iconst C (v := (-1)) dX11_goesOn_121 (by decide) ?_
        refine q_goto C 140 dX11_goesOn_122 rfl ?_
        exact q_ireti C rfl dX11_goesOn_140
      refine q_aload_n C 0 dX11_goesOn_93 rfl ?_
      refine q_iload_n C 2 dX11_goesOn_94 rfl ?_
      refine q_cVI C lk_X11_206 (w_X11_drinkers (Y := Y) v2 σ) (Nat.le_of_ble_eq_true rfl) rfl skM_0 (ltM skM_0 rfl) recv_11 (rest := []) rfl rfl (Nat.le_of_ble_eq_true rfl) dX11_goesOn_95 (fun r5 => ?_)
      refine q_aload_n C 0 dX11_goesOn_98 rfl ?_
      refine q_iload_n C 1 dX11_goesOn_99 rfl ?_
      refine q_cVI C lk_X11_209 (w_X11_knowers (Y := Y) v1 r5.2) (Nat.le_of_ble_eq_true rfl) rfl skM_0 (ltM skM_0 rfl) recv_11 (rest := [.int r5.1]) rfl rfl (Nat.le_of_ble_eq_true rfl) dX11_goesOn_100 (fun r6 => ?_)
      refine q_iconst C (v := (-1)) dX11_goesOn_103 (by decide) ?_
      refine q_ixor C dX11_goesOn_104 ?_
      refine q_iand C dX11_goesOn_105 ?_
      refine q_if_eq C 113 dX11_goesOn_106 rfl (fun _ => ?_) (fun _ => ?_)
      · refine q_iconst C (v := 0) dX11_goesOn_113 (by decide) ?_
        refine q_istore C [(6, .int 0), (0, Rf Y 0), (1, .int v1), (2, .int v2), (3, .int v3), (4, .int v4), (5, .int v5)] dX11_goesOn_114 rfl rfl ?_
        refine q_iload C 0 dX11_goesOn_116 rfl ?_
        refine q_if_eq C 125 dX11_goesOn_118 rfl (fun _ => ?_) (fun _ => ?_)
        · refine q_iload_n C 4 dX11_goesOn_125 rfl ?_
          refine q_iconst C (v := 2) dX11_goesOn_126 (by decide) ?_
          refine q_cSI C lk_X11_212 (w_X11_isUnder (Y := Y) v3 2 r6.2) (Nat.le_of_ble_eq_true rfl) rfl (rest := []) rfl rfl (Nat.le_of_ble_eq_true rfl) dX11_goesOn_127 (fun r7 => ?_)
          refine q_if_eq C 138 dX11_goesOn_130 rfl (fun _ => ?_) (fun _ => ?_)
          · refine q_iload C 5 dX11_goesOn_138 rfl ?_
            exact q_ireti C rfl dX11_goesOn_140
          refine q_iload C 6 dX11_goesOn_133 rfl ?_
          refine q_goto C 140 dX11_goesOn_135 rfl ?_
          exact q_ireti C rfl dX11_goesOn_140
        refine q_iconst C (v := (-1)) dX11_goesOn_121 (by decide) ?_
        refine q_goto C 140 dX11_goesOn_122 rfl ?_
        exact q_ireti C rfl dX11_goesOn_140
      refine G.sub [3, 4, 5] (lv' := [(3, .int v3), (4, .int v4), (5, .int v5)]) rfl ?_
      exact w_X11_goesOn_L109 C v3 v4 v5 r6.2
    refine q_iload C 4 dX11_goesOn_34 rfl ?_
    refine q_if_ge C 54 dX11_goesOn_36 rfl (fun _ => ?_) (fun _ => ?_)
    · refine q_iload C 4 dX11_goesOn_54 rfl ?_
      refine G.sub [0, 1, 2, 3, 5, 6] (lv' := [(0, Rf Y 0), (1, .int v1), (2, .int v2), (3, .int v3), (5, .int v5), (6, .int v6)]) rfl ?_
      exact w_X11_goesOn_L56 C (rf23 := (f_X11_goesOn_L23 n)) ih v1 v2 v3 v5 v6 v4 σ
    refine q_aload_n C 0 dX11_goesOn_39 rfl ?_
    refine q_iload C 6 dX11_goesOn_40 rfl ?_
    refine q_iload_n C 2 dX11_goesOn_42 rfl ?_
    refine q_cVI C lk_X11_203 (w_X11_isOpen (Y := Y) v6 v2 σ) (Nat.le_of_ble_eq_true rfl) rfl skM_0 (ltM skM_0 rfl) recv_11 (rest := []) rfl rfl (Nat.le_of_ble_eq_true rfl) dX11_goesOn_43 (fun r8 => ?_)
    refine q_if_eq C 54 dX11_goesOn_46 rfl (fun _ => ?_) (fun _ => ?_)
    · refine q_iload C 4 dX11_goesOn_54 rfl ?_
      refine G.sub [0, 1, 2, 3, 5, 6] (lv' := [(0, Rf Y 0), (1, .int v1), (2, .int v2), (3, .int v3), (5, .int v5), (6, .int v6)]) rfl ?_
      exact w_X11_goesOn_L56 C (rf23 := (f_X11_goesOn_L23 n)) ih v1 v2 v3 v5 v6 v4 r8.2
    refine q_iload C 6 dX11_goesOn_49 rfl ?_
    refine q_goto C 56 dX11_goesOn_51 rfl ?_
    refine G.sub [0, 1, 2, 3, 5, 6] (lv' := [(0, Rf Y 0), (1, .int v1), (2, .int v2), (3, .int v3), (5, .int v5), (6, .int v6)]) rfl ?_
    exact w_X11_goesOn_L56 C (rf23 := (f_X11_goesOn_L23 n)) ih v1 v2 v3 v5 v6 v6 r8.2
def f_X11_goesOn (a1 : Int32) (σ : St) : Option (Int32 × St) := (Option.bind (f_X11_sayingIs a1 2 σ) fun r1 => (Option.bind (f_X11_sayingIs a1 0 r1.2) fun r2 => (f_X11_goesOn_L23 400 a1 r1.1 r2.1 (-1) (-1) 0 r2.2)))
theorem w_X11_goesOn {Y : YT} (a1 : Int32)   (σ : St) : CtE (emI FM Y) FM Y yX11_goesOn cX11_goesOn 7 (some .int) 3 [Rf Y 0, .int a1] σ (f_X11_goesOn a1 σ) := by
  refine Ct.ofG (by decide) (Nat.le_of_ble_eq_true rfl) (fun X C0 => ?_)
  have C : Cx FM Y X cX11_goesOn 7 RX11 (some .int) 3 (0, 0) := C0
  show G FM Y X 7 (emI FM Y) (0, 0) (0, 0) 0 [(0, Rf Y 0), (1, .int a1)] [] (RepS FM Y σ) (f_X11_goesOn a1 σ)
  rw [f_X11_goesOn]
  refine q_aload_n C 0 dX11_goesOn_0 rfl ?_
  refine q_iload_n C 1 dX11_goesOn_1 rfl ?_
  refine q_iconst C (v := 2) dX11_goesOn_2 (by decide) ?_
  refine q_cVI C lk_X11_193 (w_X11_sayingIs (Y := Y) a1 2 σ) (Nat.le_of_ble_eq_true rfl) rfl skM_0 (ltM skM_0 rfl) recv_11 (rest := []) rfl rfl (Nat.le_of_ble_eq_true rfl) dX11_goesOn_3 (fun r1 => ?_)
  refine q_istore_n C [(2, .int r1.1), (0, Rf Y 0), (1, .int a1)] dX11_goesOn_6 rfl rfl ?_
  refine q_aload_n C 1 dX11_goesOn_7 rfl ?_
  refine q_iload_n C 2 dX11_goesOn_8 rfl ?_
  refine q_iconst C (v := 0) dX11_goesOn_9 (by decide) ?_
  refine q_cVI C lk_X11_193 (w_X11_sayingIs (Y := Y) a1 0 r1.2) (Nat.le_of_ble_eq_true rfl) rfl skM_0 (ltM skM_0 rfl) recv_11 (rest := []) rfl rfl (Nat.le_of_ble_eq_true rfl) dX11_goesOn_10 (fun r2 => ?_)
  refine q_istore_n C [(3, .int r2.1), (2, .int r1.1), (0, Rf Y 0), (1, .int a1)] dX11_goesOn_13 rfl rfl ?_
  refine q_iconst C (v := (-1)) dX11_goesOn_14 (by decide) ?_
  refine q_istore C [(4, .int (-1)), (3, .int r2.1), (2, .int r1.1), (0, Rf Y 0), (1, .int a1)] dX11_goesOn_15 rfl rfl ?_
  refine q_iconst C (v := (-1)) dX11_goesOn_17 (by decide) ?_
  refine q_istore C [(5, .int (-1)), (4, .int (-1)), (3, .int r2.1), (2, .int r1.1), (0, Rf Y 0), (1, .int a1)] dX11_goesOn_18 rfl rfl ?_
  refine q_iconst C (v := 0) dX11_goesOn_20 (by decide) ?_
  refine q_istore C [(6, .int 0), (5, .int (-1)), (4, .int (-1)), (3, .int r2.1), (2, .int r1.1), (0, Rf Y 0), (1, .int a1)] dX11_goesOn_21 rfl rfl ?_
  refine G.sub [5, 6, 4, 3, 2, 1, 0] (lv' := [(0, Rf Y 0), (1, .int a1), (2, .int r1.1), (3, .int r2.1), (4, .int (-1)), (5, .int (-1)), (6, .int 0)]) rfl ?_
  exact w_X11_goesOn_L23 C 400 a1 r1.1 r2.1 (-1) (-1) 0 r2.2
theorem lk_X11_215 : LkV RX11 215 yX11_isSaying cX11_isSaying 2 (some .boolean) 1 := ⟨TB_p [1281, 1283, 35, 81, 1284] (by decide +kernel) (by decide +kernel), by decide +kernel, by decide +kernel, by decide +kernel⟩
theorem lk_X11_218 : LkV RX11 218 yX11_weakens cX11_weakens 4 (some .int) 1 := ⟨TB_p [1285, 1287, 36, 81, 1288] (by decide +kernel) (by decide +kernel), by decide +kernel, by decide +kernel, by decide +kernel⟩
theorem lk_X11_221 : LkV RX11 221 yX11_goesOn cX11_goesOn 7 (some .int) 1 := ⟨TB_p [1293, 1295, 38, 81, 1296] (by decide +kernel) (by decide +kernel), by decide +kernel, by decide +kernel, by decide +kernel⟩
def f_X11_ofSaying (a1 : Int32) (a2 : Int32) (σ : St) : Option (Int32 × St) := (Option.bind (f_X11_isSaying a1 σ) fun r1 => (if r1.1 = 0 then (Option.bind (f_X11_finding (-1000000001) r1.2) fun r2 => (some (r2.1, r2.2))) else (Option.bind (f_X11_within a2 0 7 r1.2) fun r3 => (if r3.1 = 0 then (Option.bind (f_X11_finding (-1000000001) r3.2) fun r11 => (some (r11.1, r11.2))) else (if a2 = 5 then (Option.bind (f_X11_weakens a1 r3.2) fun r5 => (some (r5.1, r5.2))) else (if a2 = 6 then (Option.bind (f_X11_goesOn a1 r3.2) fun r7 => (some (r7.1, r7.2))) else (if a2 = 7 then (Option.bind (f_X11_knowers a1 r3.2) fun r9 => (some (r9.1, r9.2))) else (Option.bind (f_X11_sayingIs a1 a2 r3.2) fun r10 => (some (r10.1, r10.2))))))))))
theorem w_X11_ofSaying {Y : YT} (a1 : Int32) (a2 : Int32)   (σ : St) : CtE (emI FM Y) FM Y yX11_ofSaying cX11_ofSaying 3 (some .int) 4 [Rf Y 0, .int a1, .int a2] σ (f_X11_ofSaying a1 a2 σ) := by
  refine Ct.ofG (by decide) (Nat.le_of_ble_eq_true rfl) (fun X C0 => ?_)
  have C : Cx FM Y X cX11_ofSaying 3 RX11 (some .int) 4 (0, 0) := C0
  show G FM Y X 3 (emI FM Y) (0, 0) (0, 0) 0 [(0, Rf Y 0), (1, .int a1), (2, .int a2)] [] (RepS FM Y σ) (f_X11_ofSaying a1 a2 σ)
  rw [f_X11_ofSaying]
  refine q_aload_n C 0 dX11_ofSaying_0 rfl ?_
  refine q_iload_n C 1 dX11_ofSaying_1 rfl ?_
  refine q_cVI C lk_X11_215 (w_X11_isSaying (Y := Y) a1 σ) (Nat.le_of_ble_eq_true rfl) rfl skM_0 (ltM skM_0 rfl) recv_11 (rest := []) rfl rfl (Nat.le_of_ble_eq_true rfl) dX11_ofSaying_2 (fun r1 => ?_)
  refine q_if_eq C 18 dX11_ofSaying_5 rfl (fun _ => ?_) (fun _ => ?_)
  · refine q_aload_n C 0 dX11_ofSaying_18 rfl ?_
    refine q_ldc C (v := (-1000000001)) (TB_of (List.mem_of_getElem? (i := 1119) (by decide +kernel)) rfl) dX11_ofSaying_19 ?_
    refine q_cVI C lk_X11_75 (w_X11_finding (Y := Y) (-1000000001) r1.2) (Nat.le_of_ble_eq_true rfl) rfl skM_0 (ltM skM_0 rfl) recv_11 (rest := []) rfl rfl (Nat.le_of_ble_eq_true rfl) dX11_ofSaying_21 (fun r2 => ?_)
    exact q_ireti C rfl dX11_ofSaying_24
  refine q_iload_n C 2 dX11_ofSaying_8 rfl ?_
  refine q_iconst C (v := 0) dX11_ofSaying_9 (by decide) ?_
  refine q_bipush C (v := 7) dX11_ofSaying_10 (by decide) ?_
  refine q_cSI C lk_X11_70 (w_X11_within (Y := Y) a2 0 7 r1.2) (Nat.le_of_ble_eq_true rfl) rfl (rest := []) rfl rfl (Nat.le_of_ble_eq_true rfl) dX11_ofSaying_12 (fun r3 => ?_)
  refine q_if_ne C 25 dX11_ofSaying_15 rfl (fun _ => ?_) (fun _ => ?_)
  · refine q_iload_n C 2 dX11_ofSaying_25 rfl ?_
    refine G.ite (fun h4 => ?_) (fun h4 => ?_)
    · refine q_tsw_in C 52 dX11_ofSaying_26 h4 (by decide) (by decide) rfl rfl ?_
      refine q_aload_n C 0 dX11_ofSaying_52 rfl ?_
      refine q_iload_n C 1 dX11_ofSaying_53 rfl ?_
      refine q_cVI C lk_X11_218 (w_X11_weakens (Y := Y) a1 r3.2) (Nat.le_of_ble_eq_true rfl) rfl skM_0 (ltM skM_0 rfl) recv_11 (rest := []) rfl rfl (Nat.le_of_ble_eq_true rfl) dX11_ofSaying_54 (fun r5 => ?_)
      exact q_ireti C rfl dX11_ofSaying_57
    refine G.ite (fun h6 => ?_) (fun h6 => ?_)
    · refine q_tsw_in C 58 dX11_ofSaying_26 h6 (by decide) (by decide) rfl rfl ?_
      refine q_aload_n C 0 dX11_ofSaying_58 rfl ?_
      refine q_iload_n C 1 dX11_ofSaying_59 rfl ?_
      refine q_cVI C lk_X11_221 (w_X11_goesOn (Y := Y) a1 r3.2) (Nat.le_of_ble_eq_true rfl) rfl skM_0 (ltM skM_0 rfl) recv_11 (rest := []) rfl rfl (Nat.le_of_ble_eq_true rfl) dX11_ofSaying_60 (fun r7 => ?_)
      exact q_ireti C rfl dX11_ofSaying_63
    refine G.ite (fun h8 => ?_) (fun h8 => ?_)
    · refine q_tsw_in C 64 dX11_ofSaying_26 h8 (by decide) (by decide) rfl rfl ?_
      refine q_aload_n C 0 dX11_ofSaying_64 rfl ?_
      refine q_iload_n C 1 dX11_ofSaying_65 rfl ?_
      refine q_cVI C lk_X11_209 (w_X11_knowers (Y := Y) a1 r3.2) (Nat.le_of_ble_eq_true rfl) rfl skM_0 (ltM skM_0 rfl) recv_11 (rest := []) rfl rfl (Nat.le_of_ble_eq_true rfl) dX11_ofSaying_66 (fun r9 => ?_)
      exact q_ireti C rfl dX11_ofSaying_69
    refine q_tsw_out C 70 dX11_ofSaying_26 ?_ rfl ?_
    · have hsw := sw_out 5 3 (by decide) (by decide) ⟨h4, h6, h8, trivial⟩
      omega
    refine q_aload_n C 0 dX11_ofSaying_70 rfl ?_
    refine q_iload_n C 1 dX11_ofSaying_71 rfl ?_
    refine q_iload_n C 2 dX11_ofSaying_72 rfl ?_
    refine q_cVI C lk_X11_193 (w_X11_sayingIs (Y := Y) a1 a2 r3.2) (Nat.le_of_ble_eq_true rfl) rfl skM_0 (ltM skM_0 rfl) recv_11 (rest := []) rfl rfl (Nat.le_of_ble_eq_true rfl) dX11_ofSaying_73 (fun r10 => ?_)
    exact q_ireti C rfl dX11_ofSaying_76
  refine q_aload_n C 0 dX11_ofSaying_18 rfl ?_
  refine q_ldc C (v := (-1000000001)) (TB_of (List.mem_of_getElem? (i := 1119) (by decide +kernel)) rfl) dX11_ofSaying_19 ?_
  refine q_cVI C lk_X11_75 (w_X11_finding (Y := Y) (-1000000001) r3.2) (Nat.le_of_ble_eq_true rfl) rfl skM_0 (ltM skM_0 rfl) recv_11 (rest := []) rfl rfl (Nat.le_of_ble_eq_true rfl) dX11_ofSaying_21 (fun r11 => ?_)
  exact q_ireti C rfl dX11_ofSaying_24
def f_X11_change_L29 (v1 : Int32) (v2 : Int32) (v3 : Int32) (w0 : Int32) (σ : St) : Option (Int32 × St) := (Option.bind (f_X11_isSaying v1 σ) fun r3 => (if r3.1 = 0 then (Option.bind (f_X11_finding (-1000000001) r3.2) fun r4 => (some (r4.1, r4.2))) else (if w0 = 0 then (Option.bind (f_X11_finding (-1000000001) r3.2) fun r17 => (some (r17.1, r17.2))) else (Option.bind (f_X11_sayingAt v1 4 r3.2) fun r5 => (if v2 = 0 then (if inb r5.1 (shM 1 - 100) = true then (Bst (up r5.2 1 r5.1.toNatClampNeg 0) fun s12 => (if v2 = 0 then (Option.bind (f_X11_sayingAt v1 2 s12) fun r15 => (Option.bind (f_X11_turn r15.1 v3 r15.2) fun r16 => (some (r16.1, r16.2)))) else (Option.bind (f_X11_sayingAt v1 3 s12) fun r13 => (Option.bind (f_X11_turn r13.1 v3 r13.2) fun r14 => (some (r14.1, r14.2)))))) else none) else (Option.bind (f_X11_sayingIs v1 4 r5.2) fun r6 => (if inb r5.1 (shM 1 - 100) = true then (Bst (up r6.2 1 r5.1.toNatClampNeg r6.1) fun s7 => (if v2 = 0 then (Option.bind (f_X11_sayingAt v1 2 s7) fun r10 => (Option.bind (f_X11_turn r10.1 v3 r10.2) fun r11 => (some (r11.1, r11.2)))) else (Option.bind (f_X11_sayingAt v1 3 s7) fun r8 => (Option.bind (f_X11_turn r8.1 v3 r8.2) fun r9 => (some (r9.1, r9.2)))))) else none)))))))
theorem w_X11_change_L29 {Y : YT} {X : XT} (C : Cx FM Y X cX11_change 5 RX11 (some .int) 2 (0, 0)) : ∀ (v1 : Int32), ∀ (v2 : Int32), ∀ (v3 : Int32), ∀ (w0 : Int32), ∀ (σ : St), G FM Y X 5 (emI FM Y) (0, 0) (0, 0) 29 [(0, Rf Y 0), (1, .int v1), (2, .int v2), (3, .int v3)] [.int w0] (RepS FM Y σ) (f_X11_change_L29 v1 v2 v3 w0 σ) := by
  intro v1 v2 v3 w0 σ
  rw [f_X11_change_L29]
  refine q_istore C [(4, .int w0), (0, Rf Y 0), (1, .int v1), (2, .int v2), (3, .int v3)] dX11_change_29 rfl rfl ?_
  refine q_aload_n C 1 dX11_change_31 rfl ?_
  refine q_iload_n C 2 dX11_change_32 rfl ?_
  refine q_cVI C lk_X11_215 (w_X11_isSaying (Y := Y) v1 σ) (Nat.le_of_ble_eq_true rfl) rfl skM_0 (ltM skM_0 rfl) recv_11 (rest := []) rfl rfl (Nat.le_of_ble_eq_true rfl) dX11_change_33 (fun r3 => ?_)
  refine q_if_eq C 44 dX11_change_36 rfl (fun _ => ?_) (fun _ => ?_)
  · refine q_aload_n C 1 dX11_change_44 rfl ?_
    refine q_ldc C (v := (-1000000001)) (TB_of (List.mem_of_getElem? (i := 1119) (by decide +kernel)) rfl) dX11_change_45 ?_
    refine q_cVI C lk_X11_75 (w_X11_finding (Y := Y) (-1000000001) r3.2) (Nat.le_of_ble_eq_true rfl) rfl skM_0 (ltM skM_0 rfl) recv_11 (rest := []) rfl rfl (Nat.le_of_ble_eq_true rfl) dX11_change_47 (fun r4 => ?_)
    exact q_ireti C rfl dX11_change_50
  refine q_iload C 0 dX11_change_39 rfl ?_
  refine q_if_ne C 51 dX11_change_41 rfl (fun _ => ?_) (fun _ => ?_)
  · refine q_aload_n C 1 dX11_change_51 rfl ?_
    refine gf_X11_9 C skM_0 dX11_change_52 ?_
    refine q_iload_n C 2 dX11_change_55 rfl ?_
    refine q_iconst C (v := 4) dX11_change_56 (by decide) ?_
    refine q_cSI C lk_X11_159 (w_X11_sayingAt (Y := Y) v1 4 r3.2) (Nat.le_of_ble_eq_true rfl) rfl (rest := [Rf Y 1]) rfl rfl (Nat.le_of_ble_eq_true rfl) dX11_change_57 (fun r5 => ?_)
    refine q_iload_n C 3 dX11_change_60 rfl ?_
    refine q_if_ne C 68 dX11_change_61 rfl (fun _ => ?_) (fun _ => ?_)
    · refine q_aload_n C 1 dX11_change_68 rfl ?_
      refine q_iload_n C 2 dX11_change_69 rfl ?_
      refine q_iconst C (v := 4) dX11_change_70 (by decide) ?_
      refine q_cVI C lk_X11_193 (w_X11_sayingIs (Y := Y) v1 4 r5.2) (Nat.le_of_ble_eq_true rfl) rfl skM_0 (ltM skM_0 rfl) recv_11 (rest := [.int r5.1, Rf Y 1]) rfl rfl (Nat.le_of_ble_eq_true rfl) dX11_change_71 (fun r6 => ?_)
      refine q_astS C saM_1 (ltMa saM_1) dX11_change_74 (fun _ s7 => ?_)
      refine q_aload_n C 1 dX11_change_75 rfl ?_
      refine q_iload_n C 2 dX11_change_76 rfl ?_
      refine q_iload_n C 3 dX11_change_77 rfl ?_
      refine q_if_ne C 85 dX11_change_78 rfl (fun _ => ?_) (fun _ => ?_)
      · refine q_iconst C (v := 3) dX11_change_85 (by decide) ?_
        refine q_cSI C lk_X11_159 (w_X11_sayingAt (Y := Y) v1 3 s7) (Nat.le_of_ble_eq_true rfl) rfl (rest := [Rf Y 0]) rfl rfl (Nat.le_of_ble_eq_true rfl) dX11_change_86 (fun r8 => ?_)
        refine q_iload_n C 4 dX11_change_89 rfl ?_
        refine q_cVI C lk_X11_166 (w_X11_turn (Y := Y) r8.1 v3 r8.2) (Nat.le_of_ble_eq_true rfl) rfl skM_0 (ltM skM_0 rfl) recv_11 (rest := []) rfl rfl (Nat.le_of_ble_eq_true rfl) dX11_change_90 (fun r9 => ?_)
        exact q_ireti C rfl dX11_change_93
      refine q_iconst C (v := 2) dX11_change_81 (by decide) ?_
      refine q_goto C 86 dX11_change_82 rfl ?_
      refine q_cSI C lk_X11_159 (w_X11_sayingAt (Y := Y) v1 2 s7) (Nat.le_of_ble_eq_true rfl) rfl (rest := [Rf Y 0]) rfl rfl (Nat.le_of_ble_eq_true rfl) dX11_change_86 (fun r10 => ?_)
      refine q_iload_n C 4 dX11_change_89 rfl ?_
      refine q_cVI C lk_X11_166 (w_X11_turn (Y := Y) r10.1 v3 r10.2) (Nat.le_of_ble_eq_true rfl) rfl skM_0 (ltM skM_0 rfl) recv_11 (rest := []) rfl rfl (Nat.le_of_ble_eq_true rfl) dX11_change_90 (fun r11 => ?_)
      exact q_ireti C rfl dX11_change_93
    refine q_iconst C (v := 0) dX11_change_64 (by decide) ?_
    refine q_goto C 74 dX11_change_65 rfl ?_
    refine q_astS C saM_1 (ltMa saM_1) dX11_change_74 (fun _ s12 => ?_)
    refine q_aload_n C 1 dX11_change_75 rfl ?_
    refine q_iload_n C 2 dX11_change_76 rfl ?_
    refine q_iload_n C 3 dX11_change_77 rfl ?_
    refine q_if_ne C 85 dX11_change_78 rfl (fun _ => ?_) (fun _ => ?_)
    · refine q_iconst C (v := 3) dX11_change_85 (by decide) ?_
      refine q_cSI C lk_X11_159 (w_X11_sayingAt (Y := Y) v1 3 s12) (Nat.le_of_ble_eq_true rfl) rfl (rest := [Rf Y 0]) rfl rfl (Nat.le_of_ble_eq_true rfl) dX11_change_86 (fun r13 => ?_)
      refine q_iload_n C 4 dX11_change_89 rfl ?_
      refine q_cVI C lk_X11_166 (w_X11_turn (Y := Y) r13.1 v3 r13.2) (Nat.le_of_ble_eq_true rfl) rfl skM_0 (ltM skM_0 rfl) recv_11 (rest := []) rfl rfl (Nat.le_of_ble_eq_true rfl) dX11_change_90 (fun r14 => ?_)
      exact q_ireti C rfl dX11_change_93
    refine q_iconst C (v := 2) dX11_change_81 (by decide) ?_
    refine q_goto C 86 dX11_change_82 rfl ?_
    refine q_cSI C lk_X11_159 (w_X11_sayingAt (Y := Y) v1 2 s12) (Nat.le_of_ble_eq_true rfl) rfl (rest := [Rf Y 0]) rfl rfl (Nat.le_of_ble_eq_true rfl) dX11_change_86 (fun r15 => ?_)
    refine q_iload_n C 4 dX11_change_89 rfl ?_
    refine q_cVI C lk_X11_166 (w_X11_turn (Y := Y) r15.1 v3 r15.2) (Nat.le_of_ble_eq_true rfl) rfl skM_0 (ltM skM_0 rfl) recv_11 (rest := []) rfl rfl (Nat.le_of_ble_eq_true rfl) dX11_change_90 (fun r16 => ?_)
    exact q_ireti C rfl dX11_change_93
  refine q_aload_n C 1 dX11_change_44 rfl ?_
  refine q_ldc C (v := (-1000000001)) (TB_of (List.mem_of_getElem? (i := 1119) (by decide +kernel)) rfl) dX11_change_45 ?_
  refine q_cVI C lk_X11_75 (w_X11_finding (Y := Y) (-1000000001) r3.2) (Nat.le_of_ble_eq_true rfl) rfl skM_0 (ltM skM_0 rfl) recv_11 (rest := []) rfl rfl (Nat.le_of_ble_eq_true rfl) dX11_change_47 (fun r17 => ?_)
  exact q_ireti C rfl dX11_change_50
def f_X11_change (a1 : Int32) (a2 : Int32) (a3 : Int32) (σ : St) : Option (Int32 × St) := (if a2 = 0 then (Option.bind (f_X11_isWell a3 σ) fun r2 => (f_X11_change_L29 a1 a2 a3 r2.1 r2.2)) else (if a2 = 1 then (Option.bind (f_X11_isStrength a3 σ) fun r1 => (if r1.1 = 0 then (f_X11_change_L29 a1 a2 a3 0 r1.2) else (f_X11_change_L29 a1 a2 a3 1 r1.2))) else (f_X11_change_L29 a1 a2 a3 0 σ)))
theorem w_X11_change {Y : YT} (a1 : Int32) (a2 : Int32) (a3 : Int32)   (σ : St) : CtE (emI FM Y) FM Y yX11_change cX11_change 5 (some .int) 2 [Rf Y 0, .int a1, .int a2, .int a3] σ (f_X11_change a1 a2 a3 σ) := by
  refine Ct.ofG (by decide) (Nat.le_of_ble_eq_true rfl) (fun X C0 => ?_)
  have C : Cx FM Y X cX11_change 5 RX11 (some .int) 2 (0, 0) := C0
  show G FM Y X 5 (emI FM Y) (0, 0) (0, 0) 0 [(0, Rf Y 0), (1, .int a1), (2, .int a2), (3, .int a3)] [] (RepS FM Y σ) (f_X11_change a1 a2 a3 σ)
  rw [f_X11_change]
  refine q_iload_n C 2 dX11_change_0 rfl ?_
  refine q_if_ne C 12 dX11_change_1 rfl (fun _ => ?_) (fun _ => ?_)
  · refine q_iload_n C 2 dX11_change_12 rfl ?_
    refine q_iconst C (v := 1) dX11_change_13 (by decide) ?_
    refine q_icmp_ne C 28 dX11_change_14 rfl (fun _ => ?_) (fun _ => ?_)
    · refine q_iconst C (v := 0) dX11_change_28 (by decide) ?_
      exact w_X11_change_L29 C a1 a2 a3 0 σ
    refine q_iload_n C 3 dX11_change_17 rfl ?_
    refine q_cSI C lk_X11_184 (w_X11_isStrength (Y := Y) a3 σ) (Nat.le_of_ble_eq_true rfl) rfl (rest := []) rfl rfl (Nat.le_of_ble_eq_true rfl) dX11_change_18 (fun r1 => ?_)
    refine q_if_eq C 28 dX11_change_21 rfl (fun _ => ?_) (fun _ => ?_)
    · refine q_iconst C (v := 0) dX11_change_28 (by decide) ?_
      exact w_X11_change_L29 C a1 a2 a3 0 r1.2
    refine q_iconst C (v := 1) dX11_change_24 (by decide) ?_
    refine q_goto C 29 dX11_change_25 rfl ?_
    exact w_X11_change_L29 C a1 a2 a3 1 r1.2
  refine q_aload_n C 0 dX11_change_4 rfl ?_
  refine q_iload_n C 3 dX11_change_5 rfl ?_
  refine q_cVI C lk_X11_169 (w_X11_isWell (Y := Y) a3 σ) (Nat.le_of_ble_eq_true rfl) rfl skM_0 (ltM skM_0 rfl) recv_11 (rest := []) rfl rfl (Nat.le_of_ble_eq_true rfl) dX11_change_6 (fun r2 => ?_)
  refine q_goto C 29 dX11_change_9 rfl ?_
  exact w_X11_change_L29 C a1 a2 a3 r2.1 r2.2
def f_X11_become (a1 : Int32) (a2 : Int32) (σ : St) : Option (Int32 × St) := (Option.bind (f_X11_isSaying a1 σ) fun r1 => (if r1.1 = 0 then (Option.bind (f_X11_finding (-1000000001) r1.2) fun r2 => (some (r2.1, r2.2))) else (Option.bind (f_X11_isKindM a2 r1.2) fun r3 => (if r3.1 = 0 then (Option.bind (f_X11_finding (-1000000001) r3.2) fun r8 => (some (r8.1, r8.2))) else (Option.bind (f_X11_sayingAt a1 1 r3.2) fun r4 => (if inb r4.1 (shM 1 - 100) = true then (Bst (up r4.2 1 r4.1.toNatClampNeg (irm a2 10)) fun s5 => (Option.bind (f_X11_sayingAt a1 0 s5) fun r6 => (Option.bind (f_X11_turn r6.1 (a2 / 10) r6.2) fun r7 => (some (r7.1, r7.2))))) else none))))))
theorem w_X11_become {Y : YT} (a1 : Int32) (a2 : Int32)   (σ : St) : CtE (emI FM Y) FM Y yX11_become cX11_become 3 (some .int) 2 [Rf Y 0, .int a1, .int a2] σ (f_X11_become a1 a2 σ) := by
  refine Ct.ofG (by decide) (Nat.le_of_ble_eq_true rfl) (fun X C0 => ?_)
  have C : Cx FM Y X cX11_become 3 RX11 (some .int) 2 (0, 0) := C0
  show G FM Y X 3 (emI FM Y) (0, 0) (0, 0) 0 [(0, Rf Y 0), (1, .int a1), (2, .int a2)] [] (RepS FM Y σ) (f_X11_become a1 a2 σ)
  rw [f_X11_become]
  refine q_aload_n C 0 dX11_become_0 rfl ?_
  refine q_iload_n C 1 dX11_become_1 rfl ?_
  refine q_cVI C lk_X11_215 (w_X11_isSaying (Y := Y) a1 σ) (Nat.le_of_ble_eq_true rfl) rfl skM_0 (ltM skM_0 rfl) recv_11 (rest := []) rfl rfl (Nat.le_of_ble_eq_true rfl) dX11_become_2 (fun r1 => ?_)
  refine q_if_eq C 15 dX11_become_5 rfl (fun _ => ?_) (fun _ => ?_)
  · refine q_aload_n C 0 dX11_become_15 rfl ?_
    refine q_ldc C (v := (-1000000001)) (TB_of (List.mem_of_getElem? (i := 1119) (by decide +kernel)) rfl) dX11_become_16 ?_
    refine q_cVI C lk_X11_75 (w_X11_finding (Y := Y) (-1000000001) r1.2) (Nat.le_of_ble_eq_true rfl) rfl skM_0 (ltM skM_0 rfl) recv_11 (rest := []) rfl rfl (Nat.le_of_ble_eq_true rfl) dX11_become_18 (fun r2 => ?_)
    exact q_ireti C rfl dX11_become_21
  refine q_iload_n C 2 dX11_become_8 rfl ?_
  refine q_cSI C lk_X11_181 (w_X11_isKindM (Y := Y) a2 r1.2) (Nat.le_of_ble_eq_true rfl) rfl (rest := []) rfl rfl (Nat.le_of_ble_eq_true rfl) dX11_become_9 (fun r3 => ?_)
  refine q_if_ne C 22 dX11_become_12 rfl (fun _ => ?_) (fun _ => ?_)
  · refine q_aload_n C 0 dX11_become_22 rfl ?_
    refine gf_X11_9 C skM_0 dX11_become_23 ?_
    refine q_iload_n C 1 dX11_become_26 rfl ?_
    refine q_iconst C (v := 1) dX11_become_27 (by decide) ?_
    refine q_cSI C lk_X11_159 (w_X11_sayingAt (Y := Y) a1 1 r3.2) (Nat.le_of_ble_eq_true rfl) rfl (rest := [Rf Y 1]) rfl rfl (Nat.le_of_ble_eq_true rfl) dX11_become_28 (fun r4 => ?_)
    refine q_iload_n C 2 dX11_become_31 rfl ?_
    refine q_bipush C (v := 10) dX11_become_32 (by decide) ?_
    refine q_irem C dX11_become_34 (by decide) ?_
    refine q_astS C saM_1 (ltMa saM_1) dX11_become_35 (fun _ s5 => ?_)
    refine q_aload_n C 0 dX11_become_36 rfl ?_
    refine q_iload_n C 1 dX11_become_37 rfl ?_
    refine q_iconst C (v := 0) dX11_become_38 (by decide) ?_
    refine q_cSI C lk_X11_159 (w_X11_sayingAt (Y := Y) a1 0 s5) (Nat.le_of_ble_eq_true rfl) rfl (rest := [Rf Y 0]) rfl rfl (Nat.le_of_ble_eq_true rfl) dX11_become_39 (fun r6 => ?_)
    refine q_iload_n C 2 dX11_become_42 rfl ?_
    refine q_bipush C (v := 10) dX11_become_43 (by decide) ?_
    refine q_idiv C dX11_become_45 (by decide) ?_
    refine q_cVI C lk_X11_166 (w_X11_turn (Y := Y) r6.1 (a2 / 10) r6.2) (Nat.le_of_ble_eq_true rfl) rfl skM_0 (ltM skM_0 rfl) recv_11 (rest := []) rfl rfl (Nat.le_of_ble_eq_true rfl) dX11_become_46 (fun r7 => ?_)
    exact q_ireti C rfl dX11_become_49
  refine q_aload_n C 0 dX11_become_15 rfl ?_
  refine q_ldc C (v := (-1000000001)) (TB_of (List.mem_of_getElem? (i := 1119) (by decide +kernel)) rfl) dX11_become_16 ?_
  refine q_cVI C lk_X11_75 (w_X11_finding (Y := Y) (-1000000001) r3.2) (Nat.le_of_ble_eq_true rfl) rfl skM_0 (ltM skM_0 rfl) recv_11 (rest := []) rfl rfl (Nat.le_of_ble_eq_true rfl) dX11_become_18 (fun r8 => ?_)
  exact q_ireti C rfl dX11_become_21
def f_X11_as (a1 : Int32) (a2 : Int32) (σ : St) : Option (Int32 × St) := (Option.bind (f_X11_isSaying a1 σ) fun r1 => (if r1.1 = 0 then (Option.bind (f_X11_finding (-1000000001) r1.2) fun r2 => (some (r2.1, r2.2))) else (Option.bind (f_X11_within a2 0 6 r1.2) fun r3 => (if r3.1 = 0 then (Option.bind (f_X11_finding (-1000000001) r3.2) fun r8 => (some (r8.1, r8.2))) else (Option.bind (f_X11_sayingIs a1 0 r3.2) fun r4 => (Option.bind (f_X11_isUnder r4.1 a2 r4.2) fun r5 => (if r5.1 = 0 then (Option.bind (f_X11_finding (-1000000005) r5.2) fun r6 => (some (r6.1, r6.2))) else (Option.bind (f_X11_sayingIs a1 1 r5.2) fun r7 => (some (r7.1, r7.2))))))))))
theorem w_X11_as {Y : YT} (a1 : Int32) (a2 : Int32)   (σ : St) : CtE (emI FM Y) FM Y yX11_as cX11_as 3 (some .int) 2 [Rf Y 0, .int a1, .int a2] σ (f_X11_as a1 a2 σ) := by
  refine Ct.ofG (by decide) (Nat.le_of_ble_eq_true rfl) (fun X C0 => ?_)
  have C : Cx FM Y X cX11_as 3 RX11 (some .int) 2 (0, 0) := C0
  show G FM Y X 3 (emI FM Y) (0, 0) (0, 0) 0 [(0, Rf Y 0), (1, .int a1), (2, .int a2)] [] (RepS FM Y σ) (f_X11_as a1 a2 σ)
  rw [f_X11_as]
  refine q_aload_n C 0 dX11_as_0 rfl ?_
  refine q_iload_n C 1 dX11_as_1 rfl ?_
  refine q_cVI C lk_X11_215 (w_X11_isSaying (Y := Y) a1 σ) (Nat.le_of_ble_eq_true rfl) rfl skM_0 (ltM skM_0 rfl) recv_11 (rest := []) rfl rfl (Nat.le_of_ble_eq_true rfl) dX11_as_2 (fun r1 => ?_)
  refine q_if_eq C 18 dX11_as_5 rfl (fun _ => ?_) (fun _ => ?_)
  · refine q_aload_n C 0 dX11_as_18 rfl ?_
    refine q_ldc C (v := (-1000000001)) (TB_of (List.mem_of_getElem? (i := 1119) (by decide +kernel)) rfl) dX11_as_19 ?_
    refine q_cVI C lk_X11_75 (w_X11_finding (Y := Y) (-1000000001) r1.2) (Nat.le_of_ble_eq_true rfl) rfl skM_0 (ltM skM_0 rfl) recv_11 (rest := []) rfl rfl (Nat.le_of_ble_eq_true rfl) dX11_as_21 (fun r2 => ?_)
    exact q_ireti C rfl dX11_as_24
  refine q_iload_n C 2 dX11_as_8 rfl ?_
  refine q_iconst C (v := 0) dX11_as_9 (by decide) ?_
  refine q_bipush C (v := 6) dX11_as_10 (by decide) ?_
  refine q_cSI C lk_X11_70 (w_X11_within (Y := Y) a2 0 6 r1.2) (Nat.le_of_ble_eq_true rfl) rfl (rest := []) rfl rfl (Nat.le_of_ble_eq_true rfl) dX11_as_12 (fun r3 => ?_)
  refine q_if_ne C 25 dX11_as_15 rfl (fun _ => ?_) (fun _ => ?_)
  · refine q_aload_n C 0 dX11_as_25 rfl ?_
    refine q_iload_n C 1 dX11_as_26 rfl ?_
    refine q_iconst C (v := 0) dX11_as_27 (by decide) ?_
    refine q_cVI C lk_X11_193 (w_X11_sayingIs (Y := Y) a1 0 r3.2) (Nat.le_of_ble_eq_true rfl) rfl skM_0 (ltM skM_0 rfl) recv_11 (rest := []) rfl rfl (Nat.le_of_ble_eq_true rfl) dX11_as_28 (fun r4 => ?_)
    refine q_iload_n C 2 dX11_as_31 rfl ?_
    refine q_cSI C lk_X11_212 (w_X11_isUnder (Y := Y) r4.1 a2 r4.2) (Nat.le_of_ble_eq_true rfl) rfl (rest := []) rfl rfl (Nat.le_of_ble_eq_true rfl) dX11_as_32 (fun r5 => ?_)
    refine q_if_eq C 47 dX11_as_35 rfl (fun _ => ?_) (fun _ => ?_)
    · refine q_aload_n C 0 dX11_as_47 rfl ?_
      refine q_ldc C (v := (-1000000005)) (TB_of (List.mem_of_getElem? (i := 1337) (by decide +kernel)) rfl) dX11_as_48 ?_
      refine q_cVI C lk_X11_75 (w_X11_finding (Y := Y) (-1000000005) r5.2) (Nat.le_of_ble_eq_true rfl) rfl skM_0 (ltM skM_0 rfl) recv_11 (rest := []) rfl rfl (Nat.le_of_ble_eq_true rfl) dX11_as_50 (fun r6 => ?_)
      exact q_ireti C rfl dX11_as_53
    refine q_aload_n C 0 dX11_as_38 rfl ?_
    refine q_iload_n C 1 dX11_as_39 rfl ?_
    refine q_iconst C (v := 1) dX11_as_40 (by decide) ?_
    refine q_cVI C lk_X11_193 (w_X11_sayingIs (Y := Y) a1 1 r5.2) (Nat.le_of_ble_eq_true rfl) rfl skM_0 (ltM skM_0 rfl) recv_11 (rest := []) rfl rfl (Nat.le_of_ble_eq_true rfl) dX11_as_41 (fun r7 => ?_)
    refine q_goto C 53 dX11_as_44 rfl ?_
    exact q_ireti C rfl dX11_as_53
  refine q_aload_n C 0 dX11_as_18 rfl ?_
  refine q_ldc C (v := (-1000000001)) (TB_of (List.mem_of_getElem? (i := 1119) (by decide +kernel)) rfl) dX11_as_19 ?_
  refine q_cVI C lk_X11_75 (w_X11_finding (Y := Y) (-1000000001) r3.2) (Nat.le_of_ble_eq_true rfl) rfl skM_0 (ltM skM_0 rfl) recv_11 (rest := []) rfl rfl (Nat.le_of_ble_eq_true rfl) dX11_as_21 (fun r8 => ?_)
  exact q_ireti C rfl dX11_as_24
def f_X11_folkComes (a1 : Int32) (a2 : Int32) (σ : St) : Option (Int32 × St) := (Option.bind (f_X11_folkAt (σ 1 4) 0 σ) fun r2 => (if inb r2.1 (shM 1 - 100) = true then (Bst (up r2.2 1 r2.1.toNatClampNeg a1) fun s3 => (Option.bind (f_X11_folkAt (σ 1 4) 1 s3) fun r4 => (if inb r4.1 (shM 1 - 100) = true then (Bst (up r4.2 1 r4.1.toNatClampNeg a2) fun s5 => (Option.bind (f_X11_folkAt (σ 1 4) 2 s5) fun r6 => (if inb r6.1 (shM 1 - 100) = true then (Bst (up r6.2 1 r6.1.toNatClampNeg 0) fun s7 => (Bst (up s7 1 4 ((s7 1 4) + 1)) fun s9 => (some ((σ 1 4), s9)))) else none))) else none))) else none))
theorem w_X11_folkComes {Y : YT} (a1 : Int32) (a2 : Int32)   (σ : St) : CtE (emI FM Y) FM Y yX11_folkComes cX11_folkComes 4 (some .int) 1 [Rf Y 0, .int a1, .int a2] σ (f_X11_folkComes a1 a2 σ) := by
  refine Ct.ofG (by decide) (Nat.le_of_ble_eq_true rfl) (fun X C0 => ?_)
  have C : Cx FM Y X cX11_folkComes 4 RX11 (some .int) 1 (0, 0) := C0
  show G FM Y X 4 (emI FM Y) (0, 0) (0, 0) 0 [(0, Rf Y 0), (1, .int a1), (2, .int a2)] [] (RepS FM Y σ) (f_X11_folkComes a1 a2 σ)
  rw [f_X11_folkComes]
  refine q_aload_n C 0 dX11_folkComes_0 rfl ?_
  refine gf_X11_9 C skM_0 dX11_folkComes_1 ?_
  refine q_iconst C (v := 4) dX11_folkComes_4 (by decide) ?_
  refine q_aldK C (j := 4) saM_1 (ltMa saM_1) (by decide +kernel) (by decide +kernel) dX11_folkComes_5 ?_
  refine q_istore_n C [(3, .int (σ 1 4)), (0, Rf Y 0), (1, .int a1), (2, .int a2)] dX11_folkComes_6 rfl rfl ?_
  refine q_aload_n C 1 dX11_folkComes_7 rfl ?_
  refine gf_X11_9 C skM_0 dX11_folkComes_8 ?_
  refine q_iload_n C 0 dX11_folkComes_11 rfl ?_
  refine q_iconst C (v := 0) dX11_folkComes_12 (by decide) ?_
  refine q_cSI C lk_X11_162 (w_X11_folkAt (Y := Y) (σ 1 4) 0 σ) (Nat.le_of_ble_eq_true rfl) rfl (rest := [Rf Y 1]) rfl rfl (Nat.le_of_ble_eq_true rfl) dX11_folkComes_13 (fun r2 => ?_)
  refine q_iload_n C 2 dX11_folkComes_16 rfl ?_
  refine q_astS C saM_1 (ltMa saM_1) dX11_folkComes_17 (fun _ s3 => ?_)
  refine q_aload_n C 1 dX11_folkComes_18 rfl ?_
  refine gf_X11_9 C skM_0 dX11_folkComes_19 ?_
  refine q_iload_n C 0 dX11_folkComes_22 rfl ?_
  refine q_iconst C (v := 1) dX11_folkComes_23 (by decide) ?_
  refine q_cSI C lk_X11_162 (w_X11_folkAt (Y := Y) (σ 1 4) 1 s3) (Nat.le_of_ble_eq_true rfl) rfl (rest := [Rf Y 1]) rfl rfl (Nat.le_of_ble_eq_true rfl) dX11_folkComes_24 (fun r4 => ?_)
  refine q_iload_n C 3 dX11_folkComes_27 rfl ?_
  refine q_astS C saM_1 (ltMa saM_1) dX11_folkComes_28 (fun _ s5 => ?_)
  refine q_aload_n C 1 dX11_folkComes_29 rfl ?_
  refine gf_X11_9 C skM_0 dX11_folkComes_30 ?_
  refine q_iload_n C 0 dX11_folkComes_33 rfl ?_
  refine q_iconst C (v := 2) dX11_folkComes_34 (by decide) ?_
  refine q_cSI C lk_X11_162 (w_X11_folkAt (Y := Y) (σ 1 4) 2 s5) (Nat.le_of_ble_eq_true rfl) rfl (rest := [Rf Y 1]) rfl rfl (Nat.le_of_ble_eq_true rfl) dX11_folkComes_35 (fun r6 => ?_)
  refine q_iconst C (v := 0) dX11_folkComes_38 (by decide) ?_
  refine q_astS C saM_1 (ltMa saM_1) dX11_folkComes_39 (fun _ s7 => ?_)
  refine q_aload_n C 1 dX11_folkComes_40 rfl ?_
  refine gf_X11_9 C skM_0 dX11_folkComes_41 ?_
  refine q_iconst C (v := 4) dX11_folkComes_44 (by decide) ?_
  refine q_dup2 C dX11_folkComes_45 rfl rfl ?_
  refine q_aldK C (j := 4) saM_1 (ltMa saM_1) (by decide +kernel) (by decide +kernel) dX11_folkComes_46 ?_
  refine q_iconst C (v := 1) dX11_folkComes_47 (by decide) ?_
  refine q_iadd C dX11_folkComes_48 ?_
  refine q_astK C (j := 4) saM_1 (ltMa saM_1) (by decide +kernel) (by decide +kernel) dX11_folkComes_49 (fun s9 => ?_)
  refine q_iload_n C 0 dX11_folkComes_50 rfl ?_
  exact q_ireti C rfl dX11_folkComes_51
theorem lk_X11_225 : LkV RX11 225 yX11_folkComes cX11_folkComes 4 (some .int) 2 := ⟨TB_p [1342, 1344, 43, 81, 1345] (by decide +kernel) (by decide +kernel), by decide +kernel, by decide +kernel, by decide +kernel⟩
def f_X11_folk (a1 : Int32) (a2 : Int32) (σ : St) : Option (Int32 × St) := (Option.bind (f_X11_isWell a1 σ) fun r1 => (if r1.1 = 0 then (Option.bind (f_X11_finding (-1000000001) r1.2) fun r2 => (some (r2.1, r2.2))) else (Option.bind (f_X11_isStrength a2 r1.2) fun r3 => (if r3.1 = 0 then (Option.bind (f_X11_finding (-1000000001) r3.2) fun r7 => (some (r7.1, r7.2))) else (if (r3.2 1 4) = 6 then (Option.bind (f_X11_finding (-1000000004) r3.2) fun r6 => (some (r6.1, r6.2))) else (Option.bind (f_X11_folkComes a1 a2 r3.2) fun r5 => (some (r5.1, r5.2))))))))
theorem w_X11_folk {Y : YT} (a1 : Int32) (a2 : Int32)   (σ : St) : CtE (emI FM Y) FM Y yX11_folk cX11_folk 3 (some .int) 2 [Rf Y 0, .int a1, .int a2] σ (f_X11_folk a1 a2 σ) := by
  refine Ct.ofG (by decide) (Nat.le_of_ble_eq_true rfl) (fun X C0 => ?_)
  have C : Cx FM Y X cX11_folk 3 RX11 (some .int) 2 (0, 0) := C0
  show G FM Y X 3 (emI FM Y) (0, 0) (0, 0) 0 [(0, Rf Y 0), (1, .int a1), (2, .int a2)] [] (RepS FM Y σ) (f_X11_folk a1 a2 σ)
  rw [f_X11_folk]
  refine q_aload_n C 0 dX11_folk_0 rfl ?_
  refine q_iload_n C 1 dX11_folk_1 rfl ?_
  refine q_cVI C lk_X11_169 (w_X11_isWell (Y := Y) a1 σ) (Nat.le_of_ble_eq_true rfl) rfl skM_0 (ltM skM_0 rfl) recv_11 (rest := []) rfl rfl (Nat.le_of_ble_eq_true rfl) dX11_folk_2 (fun r1 => ?_)
  refine q_if_eq C 15 dX11_folk_5 rfl (fun _ => ?_) (fun _ => ?_)
  · refine q_aload_n C 0 dX11_folk_15 rfl ?_
    refine q_ldc C (v := (-1000000001)) (TB_of (List.mem_of_getElem? (i := 1119) (by decide +kernel)) rfl) dX11_folk_16 ?_
    refine q_cVI C lk_X11_75 (w_X11_finding (Y := Y) (-1000000001) r1.2) (Nat.le_of_ble_eq_true rfl) rfl skM_0 (ltM skM_0 rfl) recv_11 (rest := []) rfl rfl (Nat.le_of_ble_eq_true rfl) dX11_folk_18 (fun r2 => ?_)
    exact q_ireti C rfl dX11_folk_21
  refine q_iload_n C 2 dX11_folk_8 rfl ?_
  refine q_cSI C lk_X11_184 (w_X11_isStrength (Y := Y) a2 r1.2) (Nat.le_of_ble_eq_true rfl) rfl (rest := []) rfl rfl (Nat.le_of_ble_eq_true rfl) dX11_folk_9 (fun r3 => ?_)
  refine q_if_ne C 22 dX11_folk_12 rfl (fun _ => ?_) (fun _ => ?_)
  · refine q_aload_n C 0 dX11_folk_22 rfl ?_
    refine gf_X11_9 C skM_0 dX11_folk_23 ?_
    refine q_iconst C (v := 4) dX11_folk_26 (by decide) ?_
    refine q_aldK C (j := 4) saM_1 (ltMa saM_1) (by decide +kernel) (by decide +kernel) dX11_folk_27 ?_
    refine q_bipush C (v := 6) dX11_folk_28 (by decide) ?_
    refine q_icmp_ne C 42 dX11_folk_30 rfl (fun _ => ?_) (fun _ => ?_)
    · refine q_aload_n C 0 dX11_folk_42 rfl ?_
      refine q_iload_n C 1 dX11_folk_43 rfl ?_
      refine q_iload_n C 2 dX11_folk_44 rfl ?_
      refine q_cVI C lk_X11_225 (w_X11_folkComes (Y := Y) a1 a2 r3.2) (Nat.le_of_ble_eq_true rfl) rfl skM_0 (ltM skM_0 rfl) recv_11 (rest := []) rfl rfl (Nat.le_of_ble_eq_true rfl) dX11_folk_45 (fun r5 => ?_)
      exact q_ireti C rfl dX11_folk_48
    refine q_aload_n C 0 dX11_folk_33 rfl ?_
    refine q_ldc C (v := (-1000000004)) (TB_of (List.mem_of_getElem? (i := 1125) (by decide +kernel)) rfl) dX11_folk_34 ?_
    refine q_cVI C lk_X11_75 (w_X11_finding (Y := Y) (-1000000004) r3.2) (Nat.le_of_ble_eq_true rfl) rfl skM_0 (ltM skM_0 rfl) recv_11 (rest := []) rfl rfl (Nat.le_of_ble_eq_true rfl) dX11_folk_36 (fun r6 => ?_)
    refine q_goto C 48 dX11_folk_39 rfl ?_
    exact q_ireti C rfl dX11_folk_48
  refine q_aload_n C 0 dX11_folk_15 rfl ?_
  refine q_ldc C (v := (-1000000001)) (TB_of (List.mem_of_getElem? (i := 1119) (by decide +kernel)) rfl) dX11_folk_16 ?_
  refine q_cVI C lk_X11_75 (w_X11_finding (Y := Y) (-1000000001) r3.2) (Nat.le_of_ble_eq_true rfl) rfl skM_0 (ltM skM_0 rfl) recv_11 (rest := []) rfl rfl (Nat.le_of_ble_eq_true rfl) dX11_folk_18 (fun r7 => ?_)
  exact q_ireti C rfl dX11_folk_21
theorem lk_X11_228 : LkV RX11 228 yX11_isOne cX11_isOne 2 (some .boolean) 1 := ⟨TB_p [1350, 1352, 44, 81, 1353] (by decide +kernel) (by decide +kernel), by decide +kernel, by decide +kernel, by decide +kernel⟩
def f_X11_ofFolk (a1 : Int32) (a2 : Int32) (σ : St) : Option (Int32 × St) := (Option.bind (f_X11_isOne a1 σ) fun r1 => (if r1.1 = 0 then (Option.bind (f_X11_finding (-1000000001) r1.2) fun r2 => (some (r2.1, r2.2))) else (Option.bind (f_X11_within a2 0 2 r1.2) fun r3 => (if r3.1 = 0 then (Option.bind (f_X11_finding (-1000000001) r3.2) fun r4 => (some (r4.1, r4.2))) else (Option.bind (f_X11_folkIs a1 a2 r3.2) fun r5 => (some (r5.1, r5.2)))))))
theorem w_X11_ofFolk {Y : YT} (a1 : Int32) (a2 : Int32)   (σ : St) : CtE (emI FM Y) FM Y yX11_ofFolk cX11_ofFolk 3 (some .int) 2 [Rf Y 0, .int a1, .int a2] σ (f_X11_ofFolk a1 a2 σ) := by
  refine Ct.ofG (by decide) (Nat.le_of_ble_eq_true rfl) (fun X C0 => ?_)
  have C : Cx FM Y X cX11_ofFolk 3 RX11 (some .int) 2 (0, 0) := C0
  show G FM Y X 3 (emI FM Y) (0, 0) (0, 0) 0 [(0, Rf Y 0), (1, .int a1), (2, .int a2)] [] (RepS FM Y σ) (f_X11_ofFolk a1 a2 σ)
  rw [f_X11_ofFolk]
  refine q_aload_n C 0 dX11_ofFolk_0 rfl ?_
  refine q_iload_n C 1 dX11_ofFolk_1 rfl ?_
  refine q_cVI C lk_X11_228 (w_X11_isOne (Y := Y) a1 σ) (Nat.le_of_ble_eq_true rfl) rfl skM_0 (ltM skM_0 rfl) recv_11 (rest := []) rfl rfl (Nat.le_of_ble_eq_true rfl) dX11_ofFolk_2 (fun r1 => ?_)
  refine q_if_eq C 26 dX11_ofFolk_5 rfl (fun _ => ?_) (fun _ => ?_)
  · refine q_aload_n C 0 dX11_ofFolk_26 rfl ?_
    refine q_ldc C (v := (-1000000001)) (TB_of (List.mem_of_getElem? (i := 1119) (by decide +kernel)) rfl) dX11_ofFolk_27 ?_
    refine q_cVI C lk_X11_75 (w_X11_finding (Y := Y) (-1000000001) r1.2) (Nat.le_of_ble_eq_true rfl) rfl skM_0 (ltM skM_0 rfl) recv_11 (rest := []) rfl rfl (Nat.le_of_ble_eq_true rfl) dX11_ofFolk_29 (fun r2 => ?_)
    exact q_ireti C rfl dX11_ofFolk_32
  refine q_iload_n C 2 dX11_ofFolk_8 rfl ?_
  refine q_iconst C (v := 0) dX11_ofFolk_9 (by decide) ?_
  refine q_iconst C (v := 2) dX11_ofFolk_10 (by decide) ?_
  refine q_cSI C lk_X11_70 (w_X11_within (Y := Y) a2 0 2 r1.2) (Nat.le_of_ble_eq_true rfl) rfl (rest := []) rfl rfl (Nat.le_of_ble_eq_true rfl) dX11_ofFolk_11 (fun r3 => ?_)
  refine q_if_eq C 26 dX11_ofFolk_14 rfl (fun _ => ?_) (fun _ => ?_)
  · refine q_aload_n C 0 dX11_ofFolk_26 rfl ?_
    refine q_ldc C (v := (-1000000001)) (TB_of (List.mem_of_getElem? (i := 1119) (by decide +kernel)) rfl) dX11_ofFolk_27 ?_
    refine q_cVI C lk_X11_75 (w_X11_finding (Y := Y) (-1000000001) r3.2) (Nat.le_of_ble_eq_true rfl) rfl skM_0 (ltM skM_0 rfl) recv_11 (rest := []) rfl rfl (Nat.le_of_ble_eq_true rfl) dX11_ofFolk_29 (fun r4 => ?_)
    exact q_ireti C rfl dX11_ofFolk_32
  refine q_aload_n C 0 dX11_ofFolk_17 rfl ?_
  refine q_iload_n C 1 dX11_ofFolk_18 rfl ?_
  refine q_iload_n C 2 dX11_ofFolk_19 rfl ?_
  refine q_cVI C lk_X11_196 (w_X11_folkIs (Y := Y) a1 a2 r3.2) (Nat.le_of_ble_eq_true rfl) rfl skM_0 (ltM skM_0 rfl) recv_11 (rest := []) rfl rfl (Nat.le_of_ble_eq_true rfl) dX11_ofFolk_20 (fun r5 => ?_)
  refine q_goto C 32 dX11_ofFolk_23 rfl ?_
  exact q_ireti C rfl dX11_ofFolk_32
def f_X11_drink_L52 (v1 : Int32) (v2 : Int32) (v3 : Int32) (w0 : Int32) (σ : St) : Option (Int32 × St) := (Option.bind (f_X11_isOne v1 σ) fun r5 => (if r5.1 = 0 then (Option.bind (f_X11_finding (-1000000001) r5.2) fun r6 => (some (r6.1, r6.2))) else (if w0 = 0 then (Option.bind (f_X11_finding (-1000000001) r5.2) fun r7 => (some (r7.1, r7.2))) else (Option.bind (f_X11_folkAt v1 v2 r5.2) fun r8 => (Option.bind (f_X11_turn r8.1 v3 r8.2) fun r9 => (some (r9.1, r9.2)))))))
theorem w_X11_drink_L52 {Y : YT} {X : XT} (C : Cx FM Y X cX11_drink 5 RX11 (some .int) 2 (0, 0)) : ∀ (v1 : Int32), ∀ (v2 : Int32), ∀ (v3 : Int32), ∀ (w0 : Int32), ∀ (σ : St), G FM Y X 5 (emI FM Y) (0, 0) (0, 0) 52 [(0, Rf Y 0), (1, .int v1), (2, .int v2), (3, .int v3)] [.int w0] (RepS FM Y σ) (f_X11_drink_L52 v1 v2 v3 w0 σ) := by
  intro v1 v2 v3 w0 σ
  rw [f_X11_drink_L52]
  refine q_istore C [(4, .int w0), (0, Rf Y 0), (1, .int v1), (2, .int v2), (3, .int v3)] dX11_drink_52 rfl rfl ?_
  refine q_aload_n C 1 dX11_drink_54 rfl ?_
  refine q_iload_n C 2 dX11_drink_55 rfl ?_
  refine q_cVI C lk_X11_228 (w_X11_isOne (Y := Y) v1 σ) (Nat.le_of_ble_eq_true rfl) rfl skM_0 (ltM skM_0 rfl) recv_11 (rest := []) rfl rfl (Nat.le_of_ble_eq_true rfl) dX11_drink_56 (fun r5 => ?_)
  refine q_if_eq C 80 dX11_drink_59 rfl (fun _ => ?_) (fun _ => ?_)
  · refine q_aload_n C 1 dX11_drink_80 rfl ?_
    refine q_ldc C (v := (-1000000001)) (TB_of (List.mem_of_getElem? (i := 1119) (by decide +kernel)) rfl) dX11_drink_81 ?_
    refine q_cVI C lk_X11_75 (w_X11_finding (Y := Y) (-1000000001) r5.2) (Nat.le_of_ble_eq_true rfl) rfl skM_0 (ltM skM_0 rfl) recv_11 (rest := []) rfl rfl (Nat.le_of_ble_eq_true rfl) dX11_drink_83 (fun r6 => ?_)
    exact q_ireti C rfl dX11_drink_86
  refine q_iload C 0 dX11_drink_62 rfl ?_
  refine q_if_eq C 80 dX11_drink_64 rfl (fun _ => ?_) (fun _ => ?_)
  · refine q_aload_n C 1 dX11_drink_80 rfl ?_
    refine q_ldc C (v := (-1000000001)) (TB_of (List.mem_of_getElem? (i := 1119) (by decide +kernel)) rfl) dX11_drink_81 ?_
    refine q_cVI C lk_X11_75 (w_X11_finding (Y := Y) (-1000000001) r5.2) (Nat.le_of_ble_eq_true rfl) rfl skM_0 (ltM skM_0 rfl) recv_11 (rest := []) rfl rfl (Nat.le_of_ble_eq_true rfl) dX11_drink_83 (fun r7 => ?_)
    exact q_ireti C rfl dX11_drink_86
  refine q_aload_n C 1 dX11_drink_67 rfl ?_
  refine q_iload_n C 2 dX11_drink_68 rfl ?_
  refine q_iload_n C 3 dX11_drink_69 rfl ?_
  refine q_cSI C lk_X11_162 (w_X11_folkAt (Y := Y) v1 v2 r5.2) (Nat.le_of_ble_eq_true rfl) rfl (rest := [Rf Y 0]) rfl rfl (Nat.le_of_ble_eq_true rfl) dX11_drink_70 (fun r8 => ?_)
  refine q_iload_n C 4 dX11_drink_73 rfl ?_
  refine q_cVI C lk_X11_166 (w_X11_turn (Y := Y) r8.1 v3 r8.2) (Nat.le_of_ble_eq_true rfl) rfl skM_0 (ltM skM_0 rfl) recv_11 (rest := []) rfl rfl (Nat.le_of_ble_eq_true rfl) dX11_drink_74 (fun r9 => ?_)
  refine q_goto C 86 dX11_drink_77 rfl ?_
  exact q_ireti C rfl dX11_drink_86
def f_X11_drink (a1 : Int32) (a2 : Int32) (a3 : Int32) (σ : St) : Option (Int32 × St) := (if a2 = 0 then (Option.bind (f_X11_isWell a3 σ) fun r4 => (f_X11_drink_L52 a1 a2 a3 r4.1 r4.2)) else (if a2 = 1 then (Option.bind (f_X11_isStrength a3 σ) fun r3 => (f_X11_drink_L52 a1 a2 a3 r3.1 r3.2)) else (if a2 = 2 then (Option.bind (f_X11_within a3 0 ((1 <<< ((σ 1 3) &&& 31)) - 1) σ) fun r2 => (if r2.1 = 0 then (f_X11_drink_L52 a1 a2 a3 0 r2.2) else (f_X11_drink_L52 a1 a2 a3 1 r2.2))) else (f_X11_drink_L52 a1 a2 a3 0 σ))))
theorem w_X11_drink {Y : YT} (a1 : Int32) (a2 : Int32) (a3 : Int32)   (σ : St) : CtE (emI FM Y) FM Y yX11_drink cX11_drink 5 (some .int) 2 [Rf Y 0, .int a1, .int a2, .int a3] σ (f_X11_drink a1 a2 a3 σ) := by
  refine Ct.ofG (by decide) (Nat.le_of_ble_eq_true rfl) (fun X C0 => ?_)
  have C : Cx FM Y X cX11_drink 5 RX11 (some .int) 2 (0, 0) := C0
  show G FM Y X 5 (emI FM Y) (0, 0) (0, 0) 0 [(0, Rf Y 0), (1, .int a1), (2, .int a2), (3, .int a3)] [] (RepS FM Y σ) (f_X11_drink a1 a2 a3 σ)
  rw [f_X11_drink]
  refine q_iload_n C 2 dX11_drink_0 rfl ?_
  refine q_if_ne C 12 dX11_drink_1 rfl (fun _ => ?_) (fun _ => ?_)
  · refine q_iload_n C 2 dX11_drink_12 rfl ?_
    refine q_iconst C (v := 1) dX11_drink_13 (by decide) ?_
    refine q_icmp_ne C 24 dX11_drink_14 rfl (fun _ => ?_) (fun _ => ?_)
    · refine q_iload_n C 2 dX11_drink_24 rfl ?_
      refine q_iconst C (v := 2) dX11_drink_25 (by decide) ?_
      refine q_icmp_ne C 51 dX11_drink_26 rfl (fun _ => ?_) (fun _ => ?_)
      · refine q_iconst C (v := 0) dX11_drink_51 (by decide) ?_
        exact w_X11_drink_L52 C a1 a2 a3 0 σ
      refine q_iload_n C 3 dX11_drink_29 rfl ?_
      refine q_iconst C (v := 0) dX11_drink_30 (by decide) ?_
      refine q_iconst C (v := 1) dX11_drink_31 (by decide) ?_
      refine q_aload_n C 0 dX11_drink_32 rfl ?_
      refine gf_X11_9 C skM_0 dX11_drink_33 ?_
      refine q_iconst C (v := 3) dX11_drink_36 (by decide) ?_
      refine q_aldK C (j := 3) saM_1 (ltMa saM_1) (by decide +kernel) (by decide +kernel) dX11_drink_37 ?_
      refine q_ishl C dX11_drink_38 ?_
      refine q_iconst C (v := 1) dX11_drink_39 (by decide) ?_
      refine q_isub C dX11_drink_40 ?_
      refine q_cSI C lk_X11_70 (w_X11_within (Y := Y) a3 0 ((1 <<< ((σ 1 3) &&& 31)) - 1) σ) (Nat.le_of_ble_eq_true rfl) rfl (rest := []) rfl rfl (Nat.le_of_ble_eq_true rfl) dX11_drink_41 (fun r2 => ?_)
      refine q_if_eq C 51 dX11_drink_44 rfl (fun _ => ?_) (fun _ => ?_)
      · refine q_iconst C (v := 0) dX11_drink_51 (by decide) ?_
        exact w_X11_drink_L52 C a1 a2 a3 0 r2.2
      refine q_iconst C (v := 1) dX11_drink_47 (by decide) ?_
      refine q_goto C 52 dX11_drink_48 rfl ?_
      exact w_X11_drink_L52 C a1 a2 a3 1 r2.2
    refine q_iload_n C 3 dX11_drink_17 rfl ?_
    refine q_cSI C lk_X11_184 (w_X11_isStrength (Y := Y) a3 σ) (Nat.le_of_ble_eq_true rfl) rfl (rest := []) rfl rfl (Nat.le_of_ble_eq_true rfl) dX11_drink_18 (fun r3 => ?_)
    refine q_goto C 52 dX11_drink_21 rfl ?_
    exact w_X11_drink_L52 C a1 a2 a3 r3.1 r3.2
  refine q_aload_n C 0 dX11_drink_4 rfl ?_
  refine q_iload_n C 3 dX11_drink_5 rfl ?_
  refine q_cVI C lk_X11_169 (w_X11_isWell (Y := Y) a3 σ) (Nat.le_of_ble_eq_true rfl) rfl skM_0 (ltM skM_0 rfl) recv_11 (rest := []) rfl rfl (Nat.le_of_ble_eq_true rfl) dX11_drink_6 (fun r4 => ?_)
  refine q_goto C 52 dX11_drink_9 rfl ?_
  exact w_X11_drink_L52 C a1 a2 a3 r4.1 r4.2
