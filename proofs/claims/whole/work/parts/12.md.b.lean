def f_X11_goes (a1 : Int32) (σ : St) : Option (St) := (Option.bind (f_X11_sayingAt a1 3 σ) fun r1 => (Option.bind (f_X11_sayingIs a1 3 r1.2) fun r2 => (Option.bind (f_X11_weakens a1 r2.2) fun r3 => (if inb r1.1 (shM 1 - 100) = true then (Bst (up r3.2 1 r1.1.toNatClampNeg (imax 0 (r2.1 - r3.1))) fun s4 => (Option.bind (f_X11_sayingIs a1 4 s4) fun r5 => (if r5.1 ≤ 0 then (Option.bind (f_X11_goesOn a1 r5.2) fun r6 => (if r6.1 < 0 then (some r6.2) else (Option.bind (f_X11_sayingAt a1 2 r6.2) fun r7 => (Option.bind (f_X11_wayIs r6.1 1 r7.2) fun r8 => (if inb r7.1 (shM 1 - 100) = true then (Bst (up r8.2 1 r7.1.toNatClampNeg r8.1) fun s9 => (Option.bind (f_X11_sayingAt a1 4 s9) fun r10 => (Option.bind (f_X11_wayIs r6.1 2 r10.2) fun r11 => (if inb r10.1 (shM 1 - 100) = true then (Bst (up r11.2 1 r10.1.toNatClampNeg r11.1) fun s12 => (some s12)) else none)))) else none))))) else (Option.bind (f_X11_sayingAt a1 4 r5.2) fun r13 => (if inb r13.1 (shM 1 - 100) = true then (if inb r13.1 (shM 1 - 100) = true then (Bst (up r13.2 1 r13.1.toNatClampNeg ((r13.2 1 r13.1.toNatClampNeg) - 1)) fun s15 => (some s15)) else none) else none))))) else none))))
theorem w_X11_goes {Y : YT} (a1 : Int32)   (σ : St) : CtE (emV FM Y) FM Y yX11_goes cX11_goes 3 none 4 [Rf Y 0, .int a1] σ (f_X11_goes a1 σ) := by
  refine Ct.ofG (by decide) (Nat.le_of_ble_eq_true rfl) (fun X C0 => ?_)
  have C : Cx FM Y X cX11_goes 3 RX11 none 4 (0, 0) := C0
  show G FM Y X 3 (emV FM Y) (0, 0) (0, 0) 0 [(0, Rf Y 0), (1, .int a1)] [] (RepS FM Y σ) (f_X11_goes a1 σ)
  rw [f_X11_goes]
  refine q_aload_n C 0 dX11_goes_0 rfl ?_
  refine gf_X11_9 C skM_0 dX11_goes_1 ?_
  refine q_iload_n C 1 dX11_goes_4 rfl ?_
  refine q_iconst C (v := 3) dX11_goes_5 (by decide) ?_
  refine q_cSI C lk_X11_159 (w_X11_sayingAt (Y := Y) a1 3 σ) (Nat.le_of_ble_eq_true rfl) rfl (rest := [Rf Y 1]) rfl rfl (Nat.le_of_ble_eq_true rfl) dX11_goes_6 (fun r1 => ?_)
  refine q_iconst C (v := 0) dX11_goes_9 (by decide) ?_
  refine q_aload_n C 0 dX11_goes_10 rfl ?_
  refine q_iload_n C 1 dX11_goes_11 rfl ?_
  refine q_iconst C (v := 3) dX11_goes_12 (by decide) ?_
  refine q_cVI C lk_X11_193 (w_X11_sayingIs (Y := Y) a1 3 r1.2) (Nat.le_of_ble_eq_true rfl) rfl skM_0 (ltM skM_0 rfl) recv_11 (rest := [.int 0, .int r1.1, Rf Y 1]) rfl rfl (Nat.le_of_ble_eq_true rfl) dX11_goes_13 (fun r2 => ?_)
  refine q_aload_n C 0 dX11_goes_16 rfl ?_
  refine q_iload_n C 1 dX11_goes_17 rfl ?_
  refine q_cVI C lk_X11_218 (w_X11_weakens (Y := Y) a1 r2.2) (Nat.le_of_ble_eq_true rfl) rfl skM_0 (ltM skM_0 rfl) recv_11 (rest := [.int r2.1, .int 0, .int r1.1, Rf Y 1]) rfl rfl (Nat.le_of_ble_eq_true rfl) dX11_goes_18 (fun r3 => ?_)
  refine q_isub C dX11_goes_21 ?_
  refine q_mmax C (idx := 63) (TB_of (List.mem_of_getElem? (i := 1215) (by decide +kernel)) rfl) (Nat.le_of_ble_eq_true rfl) (Nat.le_of_ble_eq_true rfl) dX11_goes_22 ?_
  refine q_astS C saM_1 (ltMa saM_1) dX11_goes_25 (fun _ s4 => ?_)
  refine q_aload_n C 0 dX11_goes_26 rfl ?_
  refine q_iload_n C 1 dX11_goes_27 rfl ?_
  refine q_iconst C (v := 4) dX11_goes_28 (by decide) ?_
  refine q_cVI C lk_X11_193 (w_X11_sayingIs (Y := Y) a1 4 s4) (Nat.le_of_ble_eq_true rfl) rfl skM_0 (ltM skM_0 rfl) recv_11 (rest := []) rfl rfl (Nat.le_of_ble_eq_true rfl) dX11_goes_29 (fun r5 => ?_)
  refine q_if_le C 50 dX11_goes_32 rfl (fun _ => ?_) (fun _ => ?_)
  · refine q_aload_n C 0 dX11_goes_50 rfl ?_
    refine q_iload_n C 1 dX11_goes_51 rfl ?_
    refine q_cVI C lk_X11_221 (w_X11_goesOn (Y := Y) a1 r5.2) (Nat.le_of_ble_eq_true rfl) rfl skM_0 (ltM skM_0 rfl) recv_11 (rest := []) rfl rfl (Nat.le_of_ble_eq_true rfl) dX11_goes_52 (fun r6 => ?_)
    refine q_istore_n C [(2, .int r6.1), (0, Rf Y 0), (1, .int a1)] dX11_goes_55 rfl rfl ?_
    refine q_iload_n C 0 dX11_goes_56 rfl ?_
    refine q_if_lt C 92 dX11_goes_57 rfl (fun _ => ?_) (fun _ => ?_)
    · exact q_vret C rfl dX11_goes_92
    refine q_aload_n C 1 dX11_goes_60 rfl ?_
    refine gf_X11_9 C skM_0 dX11_goes_61 ?_
    refine q_iload_n C 2 dX11_goes_64 rfl ?_
    refine q_iconst C (v := 2) dX11_goes_65 (by decide) ?_
    refine q_cSI C lk_X11_159 (w_X11_sayingAt (Y := Y) a1 2 r6.2) (Nat.le_of_ble_eq_true rfl) rfl (rest := [Rf Y 1]) rfl rfl (Nat.le_of_ble_eq_true rfl) dX11_goes_66 (fun r7 => ?_)
    refine q_aload_n C 1 dX11_goes_69 rfl ?_
    refine q_iload_n C 0 dX11_goes_70 rfl ?_
    refine q_iconst C (v := 1) dX11_goes_71 (by decide) ?_
    refine q_cVI C lk_X11_178 (w_X11_wayIs (Y := Y) r6.1 1 r7.2) (Nat.le_of_ble_eq_true rfl) rfl skM_0 (ltM skM_0 rfl) recv_11 (rest := [.int r7.1, Rf Y 1]) rfl rfl (Nat.le_of_ble_eq_true rfl) dX11_goes_72 (fun r8 => ?_)
    refine q_astS C saM_1 (ltMa saM_1) dX11_goes_75 (fun _ s9 => ?_)
    refine q_aload_n C 1 dX11_goes_76 rfl ?_
    refine gf_X11_9 C skM_0 dX11_goes_77 ?_
    refine q_iload_n C 2 dX11_goes_80 rfl ?_
    refine q_iconst C (v := 4) dX11_goes_81 (by decide) ?_
    refine q_cSI C lk_X11_159 (w_X11_sayingAt (Y := Y) a1 4 s9) (Nat.le_of_ble_eq_true rfl) rfl (rest := [Rf Y 1]) rfl rfl (Nat.le_of_ble_eq_true rfl) dX11_goes_82 (fun r10 => ?_)
    refine q_aload_n C 1 dX11_goes_85 rfl ?_
    refine q_iload_n C 0 dX11_goes_86 rfl ?_
    refine q_iconst C (v := 2) dX11_goes_87 (by decide) ?_
    refine q_cVI C lk_X11_178 (w_X11_wayIs (Y := Y) r6.1 2 r10.2) (Nat.le_of_ble_eq_true rfl) rfl skM_0 (ltM skM_0 rfl) recv_11 (rest := [.int r10.1, Rf Y 1]) rfl rfl (Nat.le_of_ble_eq_true rfl) dX11_goes_88 (fun r11 => ?_)
    refine q_astS C saM_1 (ltMa saM_1) dX11_goes_91 (fun _ s12 => ?_)
    exact q_vret C rfl dX11_goes_92
  refine q_aload_n C 0 dX11_goes_35 rfl ?_
  refine gf_X11_9 C skM_0 dX11_goes_36 ?_
  refine q_iload_n C 1 dX11_goes_39 rfl ?_
  refine q_iconst C (v := 4) dX11_goes_40 (by decide) ?_
  refine q_cSI C lk_X11_159 (w_X11_sayingAt (Y := Y) a1 4 r5.2) (Nat.le_of_ble_eq_true rfl) rfl (rest := [Rf Y 1]) rfl rfl (Nat.le_of_ble_eq_true rfl) dX11_goes_41 (fun r13 => ?_)
  refine q_dup2 C dX11_goes_44 rfl rfl ?_
  refine q_aldS C saM_1 (ltMa saM_1) dX11_goes_45 (fun _ => ?_)
  refine q_iconst C (v := 1) dX11_goes_46 (by decide) ?_
  refine q_isub C dX11_goes_47 ?_
  refine q_astS C saM_1 (ltMa saM_1) dX11_goes_48 (fun _ s15 => ?_)
  exact q_vret C rfl dX11_goes_49
def f_X11_tastes_L50 (v1 : Int32) (v3 : Int32) (w0 : Int32) (σ : St) : Option (Int32 × St) := (if w0 = 0 then (some (0, σ)) else (Option.bind (f_X11_folkIs v1 1 σ) fun r6 => (Option.bind (f_X11_given 1 v3 r6.1 (r6.2 1 0) r6.2) fun r8 => (if r8.1 = 0 then (some (0, r8.2)) else (some (1, r8.2))))))
theorem w_X11_tastes_L50 {Y : YT} {X : XT} (C : Cx FM Y X cX11_tastes 5 RX11 (some .boolean) 3 (0, 0)) : ∀ (v1 : Int32), ∀ (v3 : Int32), ∀ (w0 : Int32), ∀ (σ : St), G FM Y X 5 (emI FM Y) (0, 0) (0, 0) 50 [(0, Rf Y 0), (1, .int v1), (3, .int v3)] [.int w0] (RepS FM Y σ) (f_X11_tastes_L50 v1 v3 w0 σ) := by
  intro v1 v3 w0 σ
  rw [f_X11_tastes_L50]
  refine q_istore C [(4, .int w0), (0, Rf Y 0), (1, .int v1), (3, .int v3)] dX11_tastes_50 rfl rfl ?_
  refine q_iload C 0 dX11_tastes_52 rfl ?_
  refine q_if_eq C 82 dX11_tastes_54 rfl (fun _ => ?_) (fun _ => ?_)
  · refine q_iconst C (v := 0) dX11_tastes_82 (by decide) ?_
    exact q_iretz C (by decide) rfl dX11_tastes_83
  refine q_aload_n C 1 dX11_tastes_57 rfl ?_
  refine q_iconst C (v := 1) dX11_tastes_58 (by decide) ?_
  refine q_iload_n C 3 dX11_tastes_59 rfl ?_
  refine q_aload_n C 1 dX11_tastes_60 rfl ?_
  refine q_iload_n C 2 dX11_tastes_61 rfl ?_
  refine q_iconst C (v := 1) dX11_tastes_62 (by decide) ?_
  refine q_cVI C lk_X11_196 (w_X11_folkIs (Y := Y) v1 1 σ) (Nat.le_of_ble_eq_true rfl) rfl skM_0 (ltM skM_0 rfl) recv_11 (rest := [.int v3, .int 1, Rf Y 0]) rfl rfl (Nat.le_of_ble_eq_true rfl) dX11_tastes_63 (fun r6 => ?_)
  refine q_aload_n C 1 dX11_tastes_66 rfl ?_
  refine gf_X11_9 C skM_0 dX11_tastes_67 ?_
  refine q_iconst C (v := 0) dX11_tastes_70 (by decide) ?_
  refine q_aldK C (j := 0) saM_1 (ltMa saM_1) (by decide +kernel) (by decide +kernel) dX11_tastes_71 ?_
  refine q_cVI C lk_X11_152 (w_X11_given (Y := Y) 1 v3 r6.1 (r6.2 1 0) r6.2) (Nat.le_of_ble_eq_true rfl) rfl skM_0 (ltM skM_0 rfl) recv_11 (rest := []) rfl rfl (Nat.le_of_ble_eq_true rfl) dX11_tastes_72 (fun r8 => ?_)
  refine q_if_eq C 82 dX11_tastes_75 rfl (fun _ => ?_) (fun _ => ?_)
  · refine q_iconst C (v := 0) dX11_tastes_82 (by decide) ?_
    exact q_iretz C (by decide) rfl dX11_tastes_83
  refine q_iconst C (v := 1) dX11_tastes_78 (by decide) ?_
  refine q_goto C 83 dX11_tastes_79 rfl ?_
  exact q_iretz C (by decide) rfl dX11_tastes_83
def f_X11_tastes (a1 : Int32) (a2 : Int32) (σ : St) : Option (Int32 × St) := (Option.bind (f_X11_sayingIs a2 3 σ) fun r1 => (Option.bind (f_X11_sayingIs a2 2 r1.2) fun r2 => (Option.bind (f_X11_folkIs a1 0 r2.2) fun r3 => (if r2.1 = r3.1 then (Option.bind (f_X11_sayingIs a2 4 r3.2) fun r4 => (if r4.1 = 0 then (Option.bind (f_X11_folkIs a1 1 r4.2) fun r5 => (if r1.1 < r5.1 then (f_X11_tastes_L50 a1 r1.1 0 r5.2) else (if r1.1 ≤ 0 then (f_X11_tastes_L50 a1 r1.1 0 r5.2) else (f_X11_tastes_L50 a1 r1.1 1 r5.2)))) else (f_X11_tastes_L50 a1 r1.1 0 r4.2))) else (f_X11_tastes_L50 a1 r1.1 0 r3.2)))))
theorem w_X11_tastes {Y : YT} (a1 : Int32) (a2 : Int32)   (σ : St) : CtE (emI FM Y) FM Y yX11_tastes cX11_tastes 5 (some .boolean) 3 [Rf Y 0, .int a1, .int a2] σ (f_X11_tastes a1 a2 σ) := by
  refine Ct.ofG (by decide) (Nat.le_of_ble_eq_true rfl) (fun X C0 => ?_)
  have C : Cx FM Y X cX11_tastes 5 RX11 (some .boolean) 3 (0, 0) := C0
  show G FM Y X 5 (emI FM Y) (0, 0) (0, 0) 0 [(0, Rf Y 0), (1, .int a1), (2, .int a2)] [] (RepS FM Y σ) (f_X11_tastes a1 a2 σ)
  rw [f_X11_tastes]
  refine q_aload_n C 0 dX11_tastes_0 rfl ?_
  refine q_iload_n C 2 dX11_tastes_1 rfl ?_
  refine q_iconst C (v := 3) dX11_tastes_2 (by decide) ?_
  refine q_cVI C lk_X11_193 (w_X11_sayingIs (Y := Y) a2 3 σ) (Nat.le_of_ble_eq_true rfl) rfl skM_0 (ltM skM_0 rfl) recv_11 (rest := []) rfl rfl (Nat.le_of_ble_eq_true rfl) dX11_tastes_3 (fun r1 => ?_)
  refine q_istore_n C [(3, .int r1.1), (0, Rf Y 0), (1, .int a1), (2, .int a2)] dX11_tastes_6 rfl rfl ?_
  refine q_aload_n C 1 dX11_tastes_7 rfl ?_
  refine q_iload_n C 3 dX11_tastes_8 rfl ?_
  refine q_iconst C (v := 2) dX11_tastes_9 (by decide) ?_
  refine q_cVI C lk_X11_193 (w_X11_sayingIs (Y := Y) a2 2 r1.2) (Nat.le_of_ble_eq_true rfl) rfl skM_0 (ltM skM_0 rfl) recv_11 (rest := []) rfl rfl (Nat.le_of_ble_eq_true rfl) dX11_tastes_10 (fun r2 => ?_)
  refine q_aload_n C 1 dX11_tastes_13 rfl ?_
  refine q_iload_n C 2 dX11_tastes_14 rfl ?_
  refine q_iconst C (v := 0) dX11_tastes_15 (by decide) ?_
  refine q_cVI C lk_X11_196 (w_X11_folkIs (Y := Y) a1 0 r2.2) (Nat.le_of_ble_eq_true rfl) rfl skM_0 (ltM skM_0 rfl) recv_11 (rest := [.int r2.1]) rfl rfl (Nat.le_of_ble_eq_true rfl) dX11_tastes_16 (fun r3 => ?_)
  refine q_icmp_ne C 49 dX11_tastes_19 rfl (fun _ => ?_) (fun _ => ?_)
  · refine q_iconst C (v := 0) dX11_tastes_49 (by decide) ?_
    refine G.sub [1, 2, 0] (lv' := [(0, Rf Y 0), (1, .int a1), (3, .int r1.1)]) rfl ?_
    exact w_X11_tastes_L50 C a1 r1.1 0 r3.2
  refine q_aload_n C 1 dX11_tastes_22 rfl ?_
  refine q_iload_n C 3 dX11_tastes_23 rfl ?_
  refine q_iconst C (v := 4) dX11_tastes_24 (by decide) ?_
  refine q_cVI C lk_X11_193 (w_X11_sayingIs (Y := Y) a2 4 r3.2) (Nat.le_of_ble_eq_true rfl) rfl skM_0 (ltM skM_0 rfl) recv_11 (rest := []) rfl rfl (Nat.le_of_ble_eq_true rfl) dX11_tastes_25 (fun r4 => ?_)
  refine q_if_ne C 49 dX11_tastes_28 rfl (fun _ => ?_) (fun _ => ?_)
  · refine q_iconst C (v := 0) dX11_tastes_49 (by decide) ?_
    refine G.sub [1, 2, 0] (lv' := [(0, Rf Y 0), (1, .int a1), (3, .int r1.1)]) rfl ?_
    exact w_X11_tastes_L50 C a1 r1.1 0 r4.2
  refine q_iload_n C 0 dX11_tastes_31 rfl ?_
  refine q_aload_n C 1 dX11_tastes_32 rfl ?_
  refine q_iload_n C 2 dX11_tastes_33 rfl ?_
  refine q_iconst C (v := 1) dX11_tastes_34 (by decide) ?_
  refine q_cVI C lk_X11_196 (w_X11_folkIs (Y := Y) a1 1 r4.2) (Nat.le_of_ble_eq_true rfl) rfl skM_0 (ltM skM_0 rfl) recv_11 (rest := [.int r1.1]) rfl rfl (Nat.le_of_ble_eq_true rfl) dX11_tastes_35 (fun r5 => ?_)
  refine q_icmp_lt C 49 dX11_tastes_38 rfl (fun _ => ?_) (fun _ => ?_)
  · refine q_iconst C (v := 0) dX11_tastes_49 (by decide) ?_
    refine G.sub [1, 2, 0] (lv' := [(0, Rf Y 0), (1, .int a1), (3, .int r1.1)]) rfl ?_
    exact w_X11_tastes_L50 C a1 r1.1 0 r5.2
  refine q_iload_n C 0 dX11_tastes_41 rfl ?_
  refine q_if_le C 49 dX11_tastes_42 rfl (fun _ => ?_) (fun _ => ?_)
  · refine q_iconst C (v := 0) dX11_tastes_49 (by decide) ?_
    refine G.sub [1, 2, 0] (lv' := [(0, Rf Y 0), (1, .int a1), (3, .int r1.1)]) rfl ?_
    exact w_X11_tastes_L50 C a1 r1.1 0 r5.2
  refine q_iconst C (v := 1) dX11_tastes_45 (by decide) ?_
  refine q_goto C 50 dX11_tastes_46 rfl ?_
  refine G.sub [1, 2, 0] (lv' := [(0, Rf Y 0), (1, .int a1), (3, .int r1.1)]) rfl ?_
  exact w_X11_tastes_L50 C a1 r1.1 1 r5.2
theorem lk_X11_231 : LkV RX11 231 yX11_goes cX11_goes 3 none 1 := ⟨TB_p [1370, 1372, 47, 81, 1373] (by decide +kernel) (by decide +kernel), by decide +kernel, by decide +kernel, by decide +kernel⟩
theorem lk_X11_234 : LkV RX11 234 yX11_tastes cX11_tastes 5 (some .boolean) 2 := ⟨TB_p [1374, 1376, 48, 81, 1377] (by decide +kernel) (by decide +kernel), by decide +kernel, by decide +kernel, by decide +kernel⟩
def f_X11_hour_L37 (rf25 : Int32 → St → Option (St)) : Nat → Int32 → Int32 → St → Option (St)
  | 0, _, _, _ => none
  | n + 1, v1, v2, σ => (if (σ 1 3) ≤ v2 then (rf25 (v1 + 1) σ) else (Option.bind (f_X11_folkAt v1 2 σ) fun r7 => (if inb r7.1 (shM 1 - 100) = true then (Option.bind (f_X11_tastes v1 v2 r7.2) fun r9 => (if r9.1 = 0 then (if inb r7.1 (shM 1 - 100) = true then (Bst (up r9.2 1 r7.1.toNatClampNeg ((r7.2 1 r7.1.toNatClampNeg) ||| 0)) fun s10 => ((f_X11_hour_L37 rf25 n) v1 (v2 + 1) s10)) else none) else (if inb r7.1 (shM 1 - 100) = true then (Bst (up r9.2 1 r7.1.toNatClampNeg ((r7.2 1 r7.1.toNatClampNeg) ||| (1 <<< (v2 &&& 31)))) fun s11 => ((f_X11_hour_L37 rf25 n) v1 (v2 + 1) s11)) else none))) else none)))
theorem w_X11_hour_L37 {Y : YT} {X : XT} (C : Cx FM Y X cX11_hour 3 RX11 none 5 (0, 0)) {rf25 : Int32 → St → Option (St)} (ih25 : ∀ (v1 : Int32), ∀ (σ : St), G FM Y X 3 (emV FM Y) (0, 0) (0, 0) 25 [(0, Rf Y 0), (1, .int v1)] [] (RepS FM Y σ) (rf25 v1 σ)) : ∀ (n : Nat), ∀ (v1 : Int32), ∀ (v2 : Int32), ∀ (σ : St), G FM Y X 3 (emV FM Y) (0, 0) (0, 0) 37 [(0, Rf Y 0), (1, .int v1), (2, .int v2)] [] (RepS FM Y σ) (f_X11_hour_L37 rf25 n v1 v2 σ) := by
  intro n
  induction n with
  | zero =>
    intro v1 v2 σ
    rw [f_X11_hour_L37]; exact G.none
  | succ n ih =>
    intro v1 v2 σ
    rw [f_X11_hour_L37]
    refine q_iload_n C 2 dX11_hour_37 rfl ?_
    refine q_aload_n C 0 dX11_hour_38 rfl ?_
    refine gf_X11_9 C skM_0 dX11_hour_39 ?_
    refine q_iconst C (v := 3) dX11_hour_42 (by decide) ?_
    refine q_aldK C (j := 3) saM_1 (ltMa saM_1) (by decide +kernel) (by decide +kernel) dX11_hour_43 ?_
    refine q_icmp_ge C 82 dX11_hour_44 rfl (fun _ => ?_) (fun _ => ?_)
    · refine q_iinc C 1 [(1, .int (v1 + 1)), (0, Rf Y 0), (2, .int v2)] dX11_hour_82 rfl rfl rfl rfl ?_
      refine q_goto C 25 dX11_hour_85 rfl ?_
      refine G.sub [1, 0] (lv' := [(0, Rf Y 0), (1, .int (v1 + 1))]) rfl ?_
      exact ih25 (v1 + 1) σ
    refine q_aload_n C 0 dX11_hour_47 rfl ?_
    refine gf_X11_9 C skM_0 dX11_hour_48 ?_
    refine q_iload_n C 1 dX11_hour_51 rfl ?_
    refine q_iconst C (v := 2) dX11_hour_52 (by decide) ?_
    refine q_cSI C lk_X11_162 (w_X11_folkAt (Y := Y) v1 2 σ) (Nat.le_of_ble_eq_true rfl) rfl (rest := [Rf Y 1]) rfl rfl (Nat.le_of_ble_eq_true rfl) dX11_hour_53 (fun r7 => ?_)
    refine q_dup2 C dX11_hour_56 rfl rfl ?_
    refine q_aldS C saM_1 (ltMa saM_1) dX11_hour_57 (fun _ => ?_)
    refine q_aload_n C 0 dX11_hour_58 rfl ?_
    refine q_iload_n C 1 dX11_hour_59 rfl ?_
    refine q_iload_n C 2 dX11_hour_60 rfl ?_
    refine q_cVI C lk_X11_234 (w_X11_tastes (Y := Y) v1 v2 r7.2) (Nat.le_of_ble_eq_true rfl) rfl skM_0 (ltM skM_0 rfl) recv_11 (rest := [.int (r7.2 1 r7.1.toNatClampNeg), .int r7.1, Rf Y 1]) rfl rfl (Nat.le_of_ble_eq_true rfl) dX11_hour_61 (fun r9 => ?_)
    refine q_if_eq C 73 dX11_hour_64 rfl (fun _ => ?_) (fun _ => ?_)
    · refine q_iconst C (v := 0) dX11_hour_73 (by decide) ?_
      refine q_ior C dX11_hour_74 ?_
      refine q_astS C saM_1 (ltMa saM_1) dX11_hour_75 (fun _ s10 => ?_)
      refine q_iinc C 2 [(2, .int (v2 + 1)), (0, Rf Y 0), (1, .int v1)] dX11_hour_76 rfl rfl rfl rfl ?_
      refine q_goto C 37 dX11_hour_79 rfl ?_
      refine G.sub [1, 2, 0] (lv' := [(0, Rf Y 0), (1, .int v1), (2, .int (v2 + 1))]) rfl ?_
      exact ih v1 (v2 + 1) s10
    refine q_iconst C (v := 1) dX11_hour_67 (by decide) ?_
    refine q_iload_n C 2 dX11_hour_68 rfl ?_
    refine q_ishl C dX11_hour_69 ?_
    refine q_goto C 74 dX11_hour_70 rfl ?_
    refine q_ior C dX11_hour_74 ?_
    refine q_astS C saM_1 (ltMa saM_1) dX11_hour_75 (fun _ s11 => ?_)
    refine q_iinc C 2 [(2, .int (v2 + 1)), (0, Rf Y 0), (1, .int v1)] dX11_hour_76 rfl rfl rfl rfl ?_
    refine q_goto C 37 dX11_hour_79 rfl ?_
    refine G.sub [1, 2, 0] (lv' := [(0, Rf Y 0), (1, .int v1), (2, .int (v2 + 1))]) rfl ?_
    exact ih v1 (v2 + 1) s11
def f_X11_hour_L25 : Nat → Int32 → St → Option (St)
  | 0, _, _ => none
  | n + 1, v1, σ => (if (σ 1 4) ≤ v1 then (Bst (up σ 1 0 ((σ 1 0) + 1)) fun s5 => (some s5)) else (f_X11_hour_L37 (f_X11_hour_L25 n) 400 v1 0 σ))
theorem w_X11_hour_L25 {Y : YT} {X : XT} (C : Cx FM Y X cX11_hour 3 RX11 none 5 (0, 0)) : ∀ (n : Nat), ∀ (v1 : Int32), ∀ (σ : St), G FM Y X 3 (emV FM Y) (0, 0) (0, 0) 25 [(0, Rf Y 0), (1, .int v1)] [] (RepS FM Y σ) (f_X11_hour_L25 n v1 σ) := by
  intro n
  induction n with
  | zero =>
    intro v1 σ
    rw [f_X11_hour_L25]; exact G.none
  | succ n ih =>
    intro v1 σ
    rw [f_X11_hour_L25]
    refine q_iload_n C 1 dX11_hour_25 rfl ?_
    refine q_aload_n C 0 dX11_hour_26 rfl ?_
    refine gf_X11_9 C skM_0 dX11_hour_27 ?_
    refine q_iconst C (v := 4) dX11_hour_30 (by decide) ?_
    refine q_aldK C (j := 4) saM_1 (ltMa saM_1) (by decide +kernel) (by decide +kernel) dX11_hour_31 ?_
    refine q_icmp_ge C 88 dX11_hour_32 rfl (fun _ => ?_) (fun _ => ?_)
    · refine q_aload_n C 0 dX11_hour_88 rfl ?_
      refine gf_X11_9 C skM_0 dX11_hour_89 ?_
      refine q_iconst C (v := 0) dX11_hour_92 (by decide) ?_
      refine q_dup2 C dX11_hour_93 rfl rfl ?_
      refine q_aldK C (j := 0) saM_1 (ltMa saM_1) (by decide +kernel) (by decide +kernel) dX11_hour_94 ?_
      refine q_iconst C (v := 1) dX11_hour_95 (by decide) ?_
      refine q_iadd C dX11_hour_96 ?_
      refine q_astK C (j := 0) saM_1 (ltMa saM_1) (by decide +kernel) (by decide +kernel) dX11_hour_97 (fun s5 => ?_)
      exact q_vret C rfl dX11_hour_98
    refine q_iconst C (v := 0) dX11_hour_35 (by decide) ?_
    refine q_istore_n C [(2, .int 0), (0, Rf Y 0), (1, .int v1)] dX11_hour_36 rfl rfl ?_
    refine G.sub [1, 2, 0] (lv' := [(0, Rf Y 0), (1, .int v1), (2, .int 0)]) rfl ?_
    exact w_X11_hour_L37 C (rf25 := (f_X11_hour_L25 n)) ih 400 v1 0 σ
def f_X11_hour_L2 : Nat → Int32 → St → Option (St)
  | 0, _, _ => none
  | n + 1, v1, σ => (if (σ 1 3) ≤ v1 then (f_X11_hour_L25 400 0 σ) else (Option.bind (f_X11_goes v1 σ) fun r2 => ((f_X11_hour_L2 n) (v1 + 1) r2)))
theorem w_X11_hour_L2 {Y : YT} {X : XT} (C : Cx FM Y X cX11_hour 3 RX11 none 5 (0, 0)) : ∀ (n : Nat), ∀ (v1 : Int32), ∀ (σ : St), G FM Y X 3 (emV FM Y) (0, 0) (0, 0) 2 [(0, Rf Y 0), (1, .int v1)] [] (RepS FM Y σ) (f_X11_hour_L2 n v1 σ) := by
  intro n
  induction n with
  | zero =>
    intro v1 σ
    rw [f_X11_hour_L2]; exact G.none
  | succ n ih =>
    intro v1 σ
    rw [f_X11_hour_L2]
    refine q_iload_n C 1 dX11_hour_2 rfl ?_
    refine q_aload_n C 0 dX11_hour_3 rfl ?_
    refine gf_X11_9 C skM_0 dX11_hour_4 ?_
    refine q_iconst C (v := 3) dX11_hour_7 (by decide) ?_
    refine q_aldK C (j := 3) saM_1 (ltMa saM_1) (by decide +kernel) (by decide +kernel) dX11_hour_8 ?_
    refine q_icmp_ge C 23 dX11_hour_9 rfl (fun _ => ?_) (fun _ => ?_)
    · refine q_iconst C (v := 0) dX11_hour_23 (by decide) ?_
      refine q_istore_n C [(1, .int 0), (0, Rf Y 0)] dX11_hour_24 rfl rfl ?_
      refine G.sub [1, 0] (lv' := [(0, Rf Y 0), (1, .int 0)]) rfl ?_
      exact w_X11_hour_L25 C 400 0 σ
    refine q_aload_n C 0 dX11_hour_12 rfl ?_
    refine q_iload_n C 1 dX11_hour_13 rfl ?_
    refine q_cVV C lk_X11_231 (w_X11_goes (Y := Y) v1 σ) (Nat.le_of_ble_eq_true rfl) rfl skM_0 (ltM skM_0 rfl) recv_11 (rest := []) rfl rfl (Nat.le_of_ble_eq_true rfl) dX11_hour_14 (fun r2 => ?_)
    refine q_iinc C 1 [(1, .int (v1 + 1)), (0, Rf Y 0)] dX11_hour_17 rfl rfl rfl rfl ?_
    refine q_goto C 2 dX11_hour_20 rfl ?_
    refine G.sub [1, 0] (lv' := [(0, Rf Y 0), (1, .int (v1 + 1))]) rfl ?_
    exact ih (v1 + 1) r2
def f_X11_hour  (σ : St) : Option (St) := (f_X11_hour_L2 400 0 σ)
theorem w_X11_hour {Y : YT}    (σ : St) : CtE (emV FM Y) FM Y yX11_hour cX11_hour 3 none 5 [Rf Y 0] σ (f_X11_hour σ) := by
  refine Ct.ofG (by decide) (Nat.le_of_ble_eq_true rfl) (fun X C0 => ?_)
  have C : Cx FM Y X cX11_hour 3 RX11 none 5 (0, 0) := C0
  show G FM Y X 3 (emV FM Y) (0, 0) (0, 0) 0 [(0, Rf Y 0)] [] (RepS FM Y σ) (f_X11_hour σ)
  rw [f_X11_hour]
  refine q_iconst C (v := 0) dX11_hour_0 (by decide) ?_
  refine q_istore_n C [(1, .int 0), (0, Rf Y 0)] dX11_hour_1 rfl rfl ?_
  refine G.sub [1, 0] (lv' := [(0, Rf Y 0), (1, .int 0)]) rfl ?_
  exact w_X11_hour_L2 C 400 0 σ
theorem lk_X11_237 : LkV RX11 237 yX11_hour cX11_hour 3 none 0 := ⟨TB_p [1366, 1368, 46, 81, 1369] (by decide +kernel) (by decide +kernel), by decide +kernel, by decide +kernel, by decide +kernel⟩
def f_X11_hoursGo_L2 : Nat → Int32 → Int32 → St → Option (St)
  | 0, _, _, _ => none
  | n + 1, v1, v2, σ => (if v1 ≤ v2 then (some σ) else (Option.bind (f_X11_hour σ) fun r1 => ((f_X11_hoursGo_L2 n) v1 (v2 + 1) r1)))
theorem w_X11_hoursGo_L2 {Y : YT} {X : XT} (C : Cx FM Y X cX11_hoursGo 3 RX11 none 6 (0, 0)) : ∀ (n : Nat), ∀ (v1 : Int32), ∀ (v2 : Int32), ∀ (σ : St), G FM Y X 3 (emV FM Y) (0, 0) (0, 0) 2 [(0, Rf Y 0), (1, .int v1), (2, .int v2)] [] (RepS FM Y σ) (f_X11_hoursGo_L2 n v1 v2 σ) := by
  intro n
  induction n with
  | zero =>
    intro v1 v2 σ
    rw [f_X11_hoursGo_L2]; exact G.none
  | succ n ih =>
    intro v1 v2 σ
    rw [f_X11_hoursGo_L2]
    refine q_iload_n C 2 dX11_hoursGo_2 rfl ?_
    refine q_iload_n C 1 dX11_hoursGo_3 rfl ?_
    refine q_icmp_ge C 17 dX11_hoursGo_4 rfl (fun _ => ?_) (fun _ => ?_)
    · exact q_vret C rfl dX11_hoursGo_17
    refine q_aload_n C 0 dX11_hoursGo_7 rfl ?_
    refine q_cVV C lk_X11_237 (w_X11_hour (Y := Y) σ) (Nat.le_of_ble_eq_true rfl) rfl skM_0 (ltM skM_0 rfl) recv_11 (rest := []) rfl rfl (Nat.le_of_ble_eq_true rfl) dX11_hoursGo_8 (fun r1 => ?_)
    refine q_iinc C 2 [(2, .int (v2 + 1)), (0, Rf Y 0), (1, .int v1)] dX11_hoursGo_11 rfl rfl rfl rfl ?_
    refine q_goto C 2 dX11_hoursGo_14 rfl ?_
    refine G.sub [1, 2, 0] (lv' := [(0, Rf Y 0), (1, .int v1), (2, .int (v2 + 1))]) rfl ?_
    exact ih v1 (v2 + 1) r1
def f_X11_hoursGo (a1 : Int32) (σ : St) : Option (St) := (f_X11_hoursGo_L2 400 a1 0 σ)
theorem w_X11_hoursGo {Y : YT} (a1 : Int32)   (σ : St) : CtE (emV FM Y) FM Y yX11_hoursGo cX11_hoursGo 3 none 6 [Rf Y 0, .int a1] σ (f_X11_hoursGo a1 σ) := by
  refine Ct.ofG (by decide) (Nat.le_of_ble_eq_true rfl) (fun X C0 => ?_)
  have C : Cx FM Y X cX11_hoursGo 3 RX11 none 6 (0, 0) := C0
  show G FM Y X 3 (emV FM Y) (0, 0) (0, 0) 0 [(0, Rf Y 0), (1, .int a1)] [] (RepS FM Y σ) (f_X11_hoursGo a1 σ)
  rw [f_X11_hoursGo]
  refine q_iconst C (v := 0) dX11_hoursGo_0 (by decide) ?_
  refine q_istore_n C [(2, .int 0), (0, Rf Y 0), (1, .int a1)] dX11_hoursGo_1 rfl rfl ?_
  refine G.sub [1, 2, 0] (lv' := [(0, Rf Y 0), (1, .int a1), (2, .int 0)]) rfl ?_
  exact w_X11_hoursGo_L2 C 400 a1 0 σ
def f_X11_knowing_L4 : Nat → Int32 → Int32 → St → Option (Int32 × St)
  | 0, _, _, _ => none
  | n + 1, v1, v2, σ => (if (σ 1 4) ≤ v2 then (some (v1, σ)) else (Option.bind (f_X11_folkIs v2 2 σ) fun r2 => (if r2.1 = 0 then ((f_X11_knowing_L4 n) (v1 + 0) (v2 + 1) r2.2) else ((f_X11_knowing_L4 n) (v1 + 1) (v2 + 1) r2.2))))
theorem w_X11_knowing_L4 {Y : YT} {X : XT} (C : Cx FM Y X cX11_knowing 3 RX11 (some .int) 2 (0, 0)) : ∀ (n : Nat), ∀ (v1 : Int32), ∀ (v2 : Int32), ∀ (σ : St), G FM Y X 3 (emI FM Y) (0, 0) (0, 0) 4 [(0, Rf Y 0), (1, .int v1), (2, .int v2)] [] (RepS FM Y σ) (f_X11_knowing_L4 n v1 v2 σ) := by
  intro n
  induction n with
  | zero =>
    intro v1 v2 σ
    rw [f_X11_knowing_L4]; exact G.none
  | succ n ih =>
    intro v1 v2 σ
    rw [f_X11_knowing_L4]
    refine q_iload_n C 2 dX11_knowing_4 rfl ?_
    refine q_aload_n C 0 dX11_knowing_5 rfl ?_
    refine gf_X11_9 C skM_0 dX11_knowing_6 ?_
    refine q_iconst C (v := 4) dX11_knowing_9 (by decide) ?_
    refine q_aldK C (j := 4) saM_1 (ltMa saM_1) (by decide +kernel) (by decide +kernel) dX11_knowing_10 ?_
    refine q_icmp_ge C 37 dX11_knowing_11 rfl (fun _ => ?_) (fun _ => ?_)
    · refine q_iload_n C 1 dX11_knowing_37 rfl ?_
      exact q_ireti C rfl dX11_knowing_38
    refine q_iload_n C 1 dX11_knowing_14 rfl ?_
    refine q_aload_n C 0 dX11_knowing_15 rfl ?_
    refine q_iload_n C 2 dX11_knowing_16 rfl ?_
    refine q_iconst C (v := 2) dX11_knowing_17 (by decide) ?_
    refine q_cVI C lk_X11_196 (w_X11_folkIs (Y := Y) v2 2 σ) (Nat.le_of_ble_eq_true rfl) rfl skM_0 (ltM skM_0 rfl) recv_11 (rest := [.int v1]) rfl rfl (Nat.le_of_ble_eq_true rfl) dX11_knowing_18 (fun r2 => ?_)
    refine q_if_eq C 28 dX11_knowing_21 rfl (fun _ => ?_) (fun _ => ?_)
    · refine q_iconst C (v := 0) dX11_knowing_28 (by decide) ?_
      refine q_iadd C dX11_knowing_29 ?_
      refine q_istore_n C [(1, .int (v1 + 0)), (0, Rf Y 0), (2, .int v2)] dX11_knowing_30 rfl rfl ?_
      refine q_iinc C 2 [(2, .int (v2 + 1)), (1, .int (v1 + 0)), (0, Rf Y 0)] dX11_knowing_31 rfl rfl rfl rfl ?_
      refine q_goto C 4 dX11_knowing_34 rfl ?_
      refine G.sub [2, 1, 0] (lv' := [(0, Rf Y 0), (1, .int (v1 + 0)), (2, .int (v2 + 1))]) rfl ?_
      exact ih (v1 + 0) (v2 + 1) r2.2
    refine q_iconst C (v := 1) dX11_knowing_24 (by decide) ?_
    refine q_goto C 29 dX11_knowing_25 rfl ?_
    refine q_iadd C dX11_knowing_29 ?_
    refine q_istore_n C [(1, .int (v1 + 1)), (0, Rf Y 0), (2, .int v2)] dX11_knowing_30 rfl rfl ?_
    refine q_iinc C 2 [(2, .int (v2 + 1)), (1, .int (v1 + 1)), (0, Rf Y 0)] dX11_knowing_31 rfl rfl rfl rfl ?_
    refine q_goto C 4 dX11_knowing_34 rfl ?_
    refine G.sub [2, 1, 0] (lv' := [(0, Rf Y 0), (1, .int (v1 + 1)), (2, .int (v2 + 1))]) rfl ?_
    exact ih (v1 + 1) (v2 + 1) r2.2
def f_X11_knowing  (σ : St) : Option (Int32 × St) := (f_X11_knowing_L4 400 0 0 σ)
theorem w_X11_knowing {Y : YT}    (σ : St) : CtE (emI FM Y) FM Y yX11_knowing cX11_knowing 3 (some .int) 2 [Rf Y 0] σ (f_X11_knowing σ) := by
  refine Ct.ofG (by decide) (Nat.le_of_ble_eq_true rfl) (fun X C0 => ?_)
  have C : Cx FM Y X cX11_knowing 3 RX11 (some .int) 2 (0, 0) := C0
  show G FM Y X 3 (emI FM Y) (0, 0) (0, 0) 0 [(0, Rf Y 0)] [] (RepS FM Y σ) (f_X11_knowing σ)
  rw [f_X11_knowing]
  refine q_iconst C (v := 0) dX11_knowing_0 (by decide) ?_
  refine q_istore_n C [(1, .int 0), (0, Rf Y 0)] dX11_knowing_1 rfl rfl ?_
  refine q_iconst C (v := 0) dX11_knowing_2 (by decide) ?_
  refine q_istore_n C [(2, .int 0), (1, .int 0), (0, Rf Y 0)] dX11_knowing_3 rfl rfl ?_
  refine G.sub [2, 1, 0] (lv' := [(0, Rf Y 0), (1, .int 0), (2, .int 0)]) rfl ?_
  exact w_X11_knowing_L4 C 400 0 0 σ
theorem lk_X11_240 : LkV RX11 240 yX11_hoursGo cX11_hoursGo 3 none 1 := ⟨TB_p [1362, 1364, 45, 81, 1365] (by decide +kernel) (by decide +kernel), by decide +kernel, by decide +kernel, by decide +kernel⟩
theorem lk_X11_243 : LkV RX11 243 yX11_knowing cX11_knowing 3 (some .int) 0 := ⟨TB_p [1378, 1380, 49, 81, 1381] (by decide +kernel) (by decide +kernel), by decide +kernel, by decide +kernel, by decide +kernel⟩
def f_X11_hours (a1 : Int32) (σ : St) : Option (Int32 × St) := (Option.bind (f_X11_within a1 1 99 σ) fun r1 => (if r1.1 = 0 then (Option.bind (f_X11_finding (-1000000001) r1.2) fun r6 => (some (r6.1, r6.2))) else (if ((r1.2 1 0) + a1) ≤ 9999 then (Option.bind (f_X11_hoursGo a1 r1.2) fun r3 => (Option.bind (f_X11_knowing r3) fun r4 => (some (r4.1, r4.2)))) else (Option.bind (f_X11_finding (-1000000003) r1.2) fun r5 => (some (r5.1, r5.2))))))
theorem w_X11_hours {Y : YT} (a1 : Int32)   (σ : St) : CtE (emI FM Y) FM Y yX11_hours cX11_hours 2 (some .int) 7 [Rf Y 0, .int a1] σ (f_X11_hours a1 σ) := by
  refine Ct.ofG (by decide) (Nat.le_of_ble_eq_true rfl) (fun X C0 => ?_)
  have C : Cx FM Y X cX11_hours 2 RX11 (some .int) 7 (0, 0) := C0
  show G FM Y X 2 (emI FM Y) (0, 0) (0, 0) 0 [(0, Rf Y 0), (1, .int a1)] [] (RepS FM Y σ) (f_X11_hours a1 σ)
  rw [f_X11_hours]
  refine q_iload_n C 1 dX11_hours_0 rfl ?_
  refine q_iconst C (v := 1) dX11_hours_1 (by decide) ?_
  refine q_bipush C (v := 99) dX11_hours_2 (by decide) ?_
  refine q_cSI C lk_X11_70 (w_X11_within (Y := Y) a1 1 99 σ) (Nat.le_of_ble_eq_true rfl) rfl (rest := []) rfl rfl (Nat.le_of_ble_eq_true rfl) dX11_hours_4 (fun r1 => ?_)
  refine q_if_ne C 17 dX11_hours_7 rfl (fun _ => ?_) (fun _ => ?_)
  · refine q_aload_n C 0 dX11_hours_17 rfl ?_
    refine gf_X11_9 C skM_0 dX11_hours_18 ?_
    refine q_iconst C (v := 0) dX11_hours_21 (by decide) ?_
    refine q_aldK C (j := 0) saM_1 (ltMa saM_1) (by decide +kernel) (by decide +kernel) dX11_hours_22 ?_
    refine q_iload_n C 1 dX11_hours_23 rfl ?_
    refine q_iadd C dX11_hours_24 ?_
    refine q_sipush C (v := 9999) dX11_hours_25 (by decide) ?_
    refine q_icmp_le C 38 dX11_hours_28 rfl (fun _ => ?_) (fun _ => ?_)
    · refine q_aload_n C 0 dX11_hours_38 rfl ?_
      refine q_iload_n C 1 dX11_hours_39 rfl ?_
      refine q_cVV C lk_X11_240 (w_X11_hoursGo (Y := Y) a1 r1.2) (Nat.le_of_ble_eq_true rfl) rfl skM_0 (ltM skM_0 rfl) recv_11 (rest := []) rfl rfl (Nat.le_of_ble_eq_true rfl) dX11_hours_40 (fun r3 => ?_)
      refine q_aload_n C 0 dX11_hours_43 rfl ?_
      refine q_cVI C lk_X11_243 (w_X11_knowing (Y := Y) r3) (Nat.le_of_ble_eq_true rfl) rfl skM_0 (ltM skM_0 rfl) recv_11 (rest := []) rfl rfl (Nat.le_of_ble_eq_true rfl) dX11_hours_44 (fun r4 => ?_)
      exact q_ireti C rfl dX11_hours_47
    refine q_aload_n C 0 dX11_hours_31 rfl ?_
    refine q_ldc C (v := (-1000000003)) (TB_of (List.mem_of_getElem? (i := 1220) (by decide +kernel)) rfl) dX11_hours_32 ?_
    refine q_cVI C lk_X11_75 (w_X11_finding (Y := Y) (-1000000003) r1.2) (Nat.le_of_ble_eq_true rfl) rfl skM_0 (ltM skM_0 rfl) recv_11 (rest := []) rfl rfl (Nat.le_of_ble_eq_true rfl) dX11_hours_34 (fun r5 => ?_)
    exact q_ireti C rfl dX11_hours_37
  refine q_aload_n C 0 dX11_hours_10 rfl ?_
  refine q_ldc C (v := (-1000000001)) (TB_of (List.mem_of_getElem? (i := 1119) (by decide +kernel)) rfl) dX11_hours_11 ?_
  refine q_cVI C lk_X11_75 (w_X11_finding (Y := Y) (-1000000001) r1.2) (Nat.le_of_ble_eq_true rfl) rfl skM_0 (ltM skM_0 rfl) recv_11 (rest := []) rfl rfl (Nat.le_of_ble_eq_true rfl) dX11_hours_13 (fun r6 => ?_)
  exact q_ireti C rfl dX11_hours_16
def f_X11_drawn  (σ : St) : Option (Int32 × St) := (Bst (up σ 1 6 (((σ 1 6) * 1103515245) + 12345)) fun s2 => (some ((iush (s2 1 6) 8), s2)))
theorem w_X11_drawn {Y : YT}    (σ : St) : CtE (emI FM Y) FM Y yX11_drawn cX11_drawn 1 (some .int) 0 [Rf Y 0] σ (f_X11_drawn σ) := by
  refine Ct.ofG (by decide) (Nat.le_of_ble_eq_true rfl) (fun X C0 => ?_)
  have C : Cx FM Y X cX11_drawn 1 RX11 (some .int) 0 (0, 0) := C0
  show G FM Y X 1 (emI FM Y) (0, 0) (0, 0) 0 [(0, Rf Y 0)] [] (RepS FM Y σ) (f_X11_drawn σ)
  rw [f_X11_drawn]
  refine q_aload_n C 0 dX11_drawn_0 rfl ?_
  refine gf_X11_9 C skM_0 dX11_drawn_1 ?_
  refine q_bipush C (v := 6) dX11_drawn_4 (by decide) ?_
  refine q_aload_n C 0 dX11_drawn_6 rfl ?_
  refine gf_X11_9 C skM_0 dX11_drawn_7 ?_
  refine q_bipush C (v := 6) dX11_drawn_10 (by decide) ?_
  refine q_aldK C (j := 6) saM_1 (ltMa saM_1) (by decide +kernel) (by decide +kernel) dX11_drawn_12 ?_
  refine q_ldc C (v := 1103515245) (TB_of (List.mem_of_getElem? (i := 1390) (by decide +kernel)) rfl) dX11_drawn_13 ?_
  refine q_imul C dX11_drawn_15 ?_
  refine q_sipush C (v := 12345) dX11_drawn_16 (by decide) ?_
  refine q_iadd C dX11_drawn_19 ?_
  refine q_astK C (j := 6) saM_1 (ltMa saM_1) (by decide +kernel) (by decide +kernel) dX11_drawn_20 (fun s2 => ?_)
  refine q_aload_n C 0 dX11_drawn_21 rfl ?_
  refine gf_X11_9 C skM_0 dX11_drawn_22 ?_
  refine q_bipush C (v := 6) dX11_drawn_25 (by decide) ?_
  refine q_aldK C (j := 6) saM_1 (ltMa saM_1) (by decide +kernel) (by decide +kernel) dX11_drawn_27 ?_
  refine q_bipush C (v := 8) dX11_drawn_28 (by decide) ?_
  refine q_iushr C dX11_drawn_30 ?_
  exact q_ireti C rfl dX11_drawn_31
theorem lk_X11_247 : LkV RX11 247 yX11_drawn cX11_drawn 1 (some .int) 0 := ⟨TB_p [1386, 1388, 50, 81, 1389] (by decide +kernel) (by decide +kernel), by decide +kernel, by decide +kernel, by decide +kernel⟩
def f_X11_loose_L40 : Nat → Int32 → Int32 → St → Option (Int32 × St)
  | 0, _, _, _ => none
  | n + 1, v1, v2, σ => (if v1 ≤ v2 then (Option.bind (f_X11_knowing σ) fun r5 => (some (r5.1, r5.2))) else (Option.bind (f_X11_drawn σ) fun r6 => (Bst (up r6.2 1 5 (irm r6.1 10)) fun s7 => (Option.bind (f_X11_hour s7) fun r8 => ((f_X11_loose_L40 n) v1 (v2 + 1) r8)))))
theorem w_X11_loose_L40 {Y : YT} {X : XT} (C : Cx FM Y X cX11_loose 3 RX11 (some .int) 6 (0, 0)) : ∀ (n : Nat), ∀ (v1 : Int32), ∀ (v2 : Int32), ∀ (σ : St), G FM Y X 3 (emI FM Y) (0, 0) (0, 0) 40 [(0, Rf Y 0), (1, .int v1), (2, .int v2)] [] (RepS FM Y σ) (f_X11_loose_L40 n v1 v2 σ) := by
  intro n
  induction n with
  | zero =>
    intro v1 v2 σ
    rw [f_X11_loose_L40]; exact G.none
  | succ n ih =>
    intro v1 v2 σ
    rw [f_X11_loose_L40]
    refine q_iload_n C 2 dX11_loose_40 rfl ?_
    refine q_iload_n C 1 dX11_loose_41 rfl ?_
    refine q_icmp_ge C 68 dX11_loose_42 rfl (fun _ => ?_) (fun _ => ?_)
    · refine q_aload_n C 0 dX11_loose_68 rfl ?_
      refine q_cVI C lk_X11_243 (w_X11_knowing (Y := Y) σ) (Nat.le_of_ble_eq_true rfl) rfl skM_0 (ltM skM_0 rfl) recv_11 (rest := []) rfl rfl (Nat.le_of_ble_eq_true rfl) dX11_loose_69 (fun r5 => ?_)
      exact q_ireti C rfl dX11_loose_72
    refine q_aload_n C 0 dX11_loose_45 rfl ?_
    refine gf_X11_9 C skM_0 dX11_loose_46 ?_
    refine q_iconst C (v := 5) dX11_loose_49 (by decide) ?_
    refine q_aload_n C 0 dX11_loose_50 rfl ?_
    refine q_cVI C lk_X11_247 (w_X11_drawn (Y := Y) σ) (Nat.le_of_ble_eq_true rfl) rfl skM_0 (ltM skM_0 rfl) recv_11 (rest := [.int 5, Rf Y 1]) rfl rfl (Nat.le_of_ble_eq_true rfl) dX11_loose_51 (fun r6 => ?_)
    refine q_bipush C (v := 10) dX11_loose_54 (by decide) ?_
    refine q_irem C dX11_loose_56 (by decide) ?_
    refine q_astK C (j := 5) saM_1 (ltMa saM_1) (by decide +kernel) (by decide +kernel) dX11_loose_57 (fun s7 => ?_)
    refine q_aload_n C 0 dX11_loose_58 rfl ?_
    refine q_cVV C lk_X11_237 (w_X11_hour (Y := Y) s7) (Nat.le_of_ble_eq_true rfl) rfl skM_0 (ltM skM_0 rfl) recv_11 (rest := []) rfl rfl (Nat.le_of_ble_eq_true rfl) dX11_loose_59 (fun r8 => ?_)
    refine q_iinc C 2 [(2, .int (v2 + 1)), (0, Rf Y 0), (1, .int v1)] dX11_loose_62 rfl rfl rfl rfl ?_
    refine q_goto C 40 dX11_loose_65 rfl ?_
    refine G.sub [1, 2, 0] (lv' := [(0, Rf Y 0), (1, .int v1), (2, .int (v2 + 1))]) rfl ?_
    exact ih v1 (v2 + 1) r8
def f_X11_loose (a1 : Int32) (σ : St) : Option (Int32 × St) := (Option.bind (f_X11_within a1 1 40 σ) fun r1 => (if r1.1 = 0 then (Option.bind (f_X11_finding (-1000000001) r1.2) fun r4 => (some (r4.1, r4.2))) else (if ((r1.2 1 0) + a1) ≤ 9999 then (f_X11_loose_L40 400 a1 0 r1.2) else (Option.bind (f_X11_finding (-1000000003) r1.2) fun r3 => (some (r3.1, r3.2))))))
theorem w_X11_loose {Y : YT} (a1 : Int32)   (σ : St) : CtE (emI FM Y) FM Y yX11_loose cX11_loose 3 (some .int) 6 [Rf Y 0, .int a1] σ (f_X11_loose a1 σ) := by
  refine Ct.ofG (by decide) (Nat.le_of_ble_eq_true rfl) (fun X C0 => ?_)
  have C : Cx FM Y X cX11_loose 3 RX11 (some .int) 6 (0, 0) := C0
  show G FM Y X 3 (emI FM Y) (0, 0) (0, 0) 0 [(0, Rf Y 0), (1, .int a1)] [] (RepS FM Y σ) (f_X11_loose a1 σ)
  rw [f_X11_loose]
  refine q_iload_n C 1 dX11_loose_0 rfl ?_
  refine q_iconst C (v := 1) dX11_loose_1 (by decide) ?_
  refine q_bipush C (v := 40) dX11_loose_2 (by decide) ?_
  refine q_cSI C lk_X11_70 (w_X11_within (Y := Y) a1 1 40 σ) (Nat.le_of_ble_eq_true rfl) rfl (rest := []) rfl rfl (Nat.le_of_ble_eq_true rfl) dX11_loose_4 (fun r1 => ?_)
  refine q_if_ne C 17 dX11_loose_7 rfl (fun _ => ?_) (fun _ => ?_)
  · refine q_aload_n C 0 dX11_loose_17 rfl ?_
    refine gf_X11_9 C skM_0 dX11_loose_18 ?_
    refine q_iconst C (v := 0) dX11_loose_21 (by decide) ?_
    refine q_aldK C (j := 0) saM_1 (ltMa saM_1) (by decide +kernel) (by decide +kernel) dX11_loose_22 ?_
    refine q_iload_n C 1 dX11_loose_23 rfl ?_
    refine q_iadd C dX11_loose_24 ?_
    refine q_sipush C (v := 9999) dX11_loose_25 (by decide) ?_
    refine q_icmp_le C 38 dX11_loose_28 rfl (fun _ => ?_) (fun _ => ?_)
    · refine q_iconst C (v := 0) dX11_loose_38 (by decide) ?_
      refine q_istore_n C [(2, .int 0), (0, Rf Y 0), (1, .int a1)] dX11_loose_39 rfl rfl ?_
      refine G.sub [1, 2, 0] (lv' := [(0, Rf Y 0), (1, .int a1), (2, .int 0)]) rfl ?_
      exact w_X11_loose_L40 C 400 a1 0 r1.2
    refine q_aload_n C 0 dX11_loose_31 rfl ?_
    refine q_ldc C (v := (-1000000003)) (TB_of (List.mem_of_getElem? (i := 1220) (by decide +kernel)) rfl) dX11_loose_32 ?_
    refine q_cVI C lk_X11_75 (w_X11_finding (Y := Y) (-1000000003) r1.2) (Nat.le_of_ble_eq_true rfl) rfl skM_0 (ltM skM_0 rfl) recv_11 (rest := []) rfl rfl (Nat.le_of_ble_eq_true rfl) dX11_loose_34 (fun r3 => ?_)
    exact q_ireti C rfl dX11_loose_37
  refine q_aload_n C 0 dX11_loose_10 rfl ?_
  refine q_ldc C (v := (-1000000001)) (TB_of (List.mem_of_getElem? (i := 1119) (by decide +kernel)) rfl) dX11_loose_11 ?_
  refine q_cVI C lk_X11_75 (w_X11_finding (Y := Y) (-1000000001) r1.2) (Nat.le_of_ble_eq_true rfl) rfl skM_0 (ltM skM_0 rfl) recv_11 (rest := []) rfl rfl (Nat.le_of_ble_eq_true rfl) dX11_loose_13 (fun r4 => ?_)
  exact q_ireti C rfl dX11_loose_16
def f_X11_isBehind (a1 : Int32) (σ : St) : Option (Int32 × St) := (Option.bind (f_X11_within a1 0 99 σ) fun r1 => (if r1.1 = 0 ∨ r1.1 = 1 then (some (r1.1, r1.2)) else none))
theorem w_X11_isBehind {Y : YT} (a1 : Int32)   (σ : St) : CtE (emI FM Y) FM Y yX11_isBehind cX11_isBehind 1 (some .boolean) 1 [.int a1] σ (f_X11_isBehind a1 σ) := by
  refine Ct.ofG (by decide) (Nat.le_of_ble_eq_true rfl) (fun X C0 => ?_)
  have C : Cx FM Y X cX11_isBehind 1 RX11 (some .boolean) 1 (0, 0) := C0
  show G FM Y X 1 (emI FM Y) (0, 0) (0, 0) 0 [(0, .int a1)] [] (RepS FM Y σ) (f_X11_isBehind a1 σ)
  rw [f_X11_isBehind]
  refine q_iload_n C 0 dX11_isBehind_0 rfl ?_
  refine q_iconst C (v := 0) dX11_isBehind_1 (by decide) ?_
  refine q_bipush C (v := 99) dX11_isBehind_2 (by decide) ?_
  refine q_cSI C lk_X11_70 (w_X11_within (Y := Y) a1 0 99 σ) (Nat.le_of_ble_eq_true rfl) rfl (rest := []) rfl rfl (Nat.le_of_ble_eq_true rfl) dX11_isBehind_4 (fun r1 => ?_)
  exact G.ite (fun h => q_iretz C h rfl dX11_isBehind_7) (fun _ => G.none)
theorem lk_X11_250 : LkS RX11 250 yX11_isBehind cX11_isBehind 1 (some .boolean) 1 := ⟨TB_p [1395, 1396, 81, 1397] (by decide +kernel) (by decide +kernel), by decide +kernel, by decide +kernel, by decide +kernel⟩
theorem lk_X11_253 : LkV RX11 253 yX11_putBack cX11_putBack 2 (some .int) 1 := ⟨TB_p [1401, 1403, 51, 81, 1404] (by decide +kernel) (by decide +kernel), by decide +kernel, by decide +kernel, by decide +kernel⟩
def f_X11_then (a1 : Int32) (a2 : Int32) (σ : St) : Option (Int32 × St) := (Option.bind (f_X11_isBehind a1 σ) fun r1 => (if r1.1 = 0 then (Option.bind (f_X11_finding (-1000000001) r1.2) fun r2 => (some (r2.1, r2.2))) else (Option.bind (f_X11_isOne a2 r1.2) fun r3 => (if r3.1 = 0 then (Option.bind (f_X11_finding (-1000000001) r3.2) fun r8 => (some (r8.1, r8.2))) else (Option.bind (f_X11_copy 1 3 r3.2) fun r4 => (Option.bind (f_X11_hoursGo a1 r4) fun r5 => (Option.bind (f_X11_folkIs a2 2 r5) fun r6 => (Option.bind (f_X11_putBack r6.1 r6.2) fun r7 => (some (r7.1, r7.2))))))))))
theorem w_X11_then {Y : YT} (a1 : Int32) (a2 : Int32)   (σ : St) : CtE (emI FM Y) FM Y yX11_then cX11_then 3 (some .int) 7 [Rf Y 0, .int a1, .int a2] σ (f_X11_then a1 a2 σ) := by
  refine Ct.ofG (by decide) (Nat.le_of_ble_eq_true rfl) (fun X C0 => ?_)
  have C : Cx FM Y X cX11_then 3 RX11 (some .int) 7 (0, 0) := C0
  show G FM Y X 3 (emI FM Y) (0, 0) (0, 0) 0 [(0, Rf Y 0), (1, .int a1), (2, .int a2)] [] (RepS FM Y σ) (f_X11_then a1 a2 σ)
  rw [f_X11_then]
  refine q_iload_n C 1 dX11_then_0 rfl ?_
  refine q_cSI C lk_X11_250 (w_X11_isBehind (Y := Y) a1 σ) (Nat.le_of_ble_eq_true rfl) rfl (rest := []) rfl rfl (Nat.le_of_ble_eq_true rfl) dX11_then_1 (fun r1 => ?_)
  refine q_if_eq C 15 dX11_then_4 rfl (fun _ => ?_) (fun _ => ?_)
  · refine q_aload_n C 0 dX11_then_15 rfl ?_
    refine q_ldc C (v := (-1000000001)) (TB_of (List.mem_of_getElem? (i := 1119) (by decide +kernel)) rfl) dX11_then_16 ?_
    refine q_cVI C lk_X11_75 (w_X11_finding (Y := Y) (-1000000001) r1.2) (Nat.le_of_ble_eq_true rfl) rfl skM_0 (ltM skM_0 rfl) recv_11 (rest := []) rfl rfl (Nat.le_of_ble_eq_true rfl) dX11_then_18 (fun r2 => ?_)
    exact q_ireti C rfl dX11_then_21
  refine q_aload_n C 0 dX11_then_7 rfl ?_
  refine q_iload_n C 2 dX11_then_8 rfl ?_
  refine q_cVI C lk_X11_228 (w_X11_isOne (Y := Y) a2 r1.2) (Nat.le_of_ble_eq_true rfl) rfl skM_0 (ltM skM_0 rfl) recv_11 (rest := []) rfl rfl (Nat.le_of_ble_eq_true rfl) dX11_then_9 (fun r3 => ?_)
  refine q_if_ne C 22 dX11_then_12 rfl (fun _ => ?_) (fun _ => ?_)
  · refine q_aload_n C 0 dX11_then_22 rfl ?_
    refine gf_X11_9 C skM_0 dX11_then_23 ?_
    refine q_aload_n C 0 dX11_then_26 rfl ?_
    refine gf_X11_16 C skM_0 dX11_then_27 ?_
    refine q_cSV C lk_X11_66 (w_X11_copy (Y := Y) 1 3 saM_1 saM_3 r3.2) (Nat.le_of_ble_eq_true rfl) rfl (rest := []) rfl rfl (Nat.le_of_ble_eq_true rfl) dX11_then_30 (fun r4 => ?_)
    refine q_aload_n C 0 dX11_then_33 rfl ?_
    refine q_iload_n C 1 dX11_then_34 rfl ?_
    refine q_cVV C lk_X11_240 (w_X11_hoursGo (Y := Y) a1 r4) (Nat.le_of_ble_eq_true rfl) rfl skM_0 (ltM skM_0 rfl) recv_11 (rest := []) rfl rfl (Nat.le_of_ble_eq_true rfl) dX11_then_35 (fun r5 => ?_)
    refine q_aload_n C 0 dX11_then_38 rfl ?_
    refine q_aload_n C 0 dX11_then_39 rfl ?_
    refine q_iload_n C 2 dX11_then_40 rfl ?_
    refine q_iconst C (v := 2) dX11_then_41 (by decide) ?_
    refine q_cVI C lk_X11_196 (w_X11_folkIs (Y := Y) a2 2 r5) (Nat.le_of_ble_eq_true rfl) rfl skM_0 (ltM skM_0 rfl) recv_11 (rest := [Rf Y 0]) rfl rfl (Nat.le_of_ble_eq_true rfl) dX11_then_42 (fun r6 => ?_)
    refine q_cVI C lk_X11_253 (w_X11_putBack (Y := Y) r6.1 r6.2) (Nat.le_of_ble_eq_true rfl) rfl skM_0 (ltM skM_0 rfl) recv_11 (rest := []) rfl rfl (Nat.le_of_ble_eq_true rfl) dX11_then_45 (fun r7 => ?_)
    exact q_ireti C rfl dX11_then_48
  refine q_aload_n C 0 dX11_then_15 rfl ?_
  refine q_ldc C (v := (-1000000001)) (TB_of (List.mem_of_getElem? (i := 1119) (by decide +kernel)) rfl) dX11_then_16 ?_
  refine q_cVI C lk_X11_75 (w_X11_finding (Y := Y) (-1000000001) r3.2) (Nat.le_of_ble_eq_true rfl) rfl skM_0 (ltM skM_0 rfl) recv_11 (rest := []) rfl rfl (Nat.le_of_ble_eq_true rfl) dX11_then_18 (fun r8 => ?_)
  exact q_ireti C rfl dX11_then_21
def f_X11_knows (a1 : Int32) (a2 : Int32) (σ : St) : Option (Int32 × St) := (Option.bind (f_X11_folkIs a1 2 σ) fun r1 => (Option.bind (f_X11_hasBit r1.1 a2 r1.2) fun r2 => (if r2.1 = 0 ∨ r2.1 = 1 then (some (r2.1, r2.2)) else none)))
theorem w_X11_knows {Y : YT} (a1 : Int32) (a2 : Int32)   (σ : St) : CtE (emI FM Y) FM Y yX11_knows cX11_knows 3 (some .boolean) 2 [Rf Y 0, .int a1, .int a2] σ (f_X11_knows a1 a2 σ) := by
  refine Ct.ofG (by decide) (Nat.le_of_ble_eq_true rfl) (fun X C0 => ?_)
  have C : Cx FM Y X cX11_knows 3 RX11 (some .boolean) 2 (0, 0) := C0
  show G FM Y X 3 (emI FM Y) (0, 0) (0, 0) 0 [(0, Rf Y 0), (1, .int a1), (2, .int a2)] [] (RepS FM Y σ) (f_X11_knows a1 a2 σ)
  rw [f_X11_knows]
  refine q_aload_n C 0 dX11_knows_0 rfl ?_
  refine q_iload_n C 1 dX11_knows_1 rfl ?_
  refine q_iconst C (v := 2) dX11_knows_2 (by decide) ?_
  refine q_cVI C lk_X11_196 (w_X11_folkIs (Y := Y) a1 2 σ) (Nat.le_of_ble_eq_true rfl) rfl skM_0 (ltM skM_0 rfl) recv_11 (rest := []) rfl rfl (Nat.le_of_ble_eq_true rfl) dX11_knows_3 (fun r1 => ?_)
  refine q_iload_n C 2 dX11_knows_6 rfl ?_
  refine q_cSI C lk_X11_199 (w_X11_hasBit (Y := Y) r1.1 a2 r1.2) (Nat.le_of_ble_eq_true rfl) rfl (rest := []) rfl rfl (Nat.le_of_ble_eq_true rfl) dX11_knows_7 (fun r2 => ?_)
  exact G.ite (fun h => q_iretz C h rfl dX11_knows_10) (fun _ => G.none)
theorem lk_X11_256 : LkV RX11 256 yX11_knows cX11_knows 3 (some .boolean) 2 := ⟨TB_p [1409, 1411, 52, 81, 1412] (by decide +kernel) (by decide +kernel), by decide +kernel, by decide +kernel, by decide +kernel⟩
def f_X11_learns_L61 (v1 : Int32) (v2 : Int32) (v3 : Int32) (σ : St) : Option (Int32 × St) := (Option.bind (f_X11_knows v1 v2 σ) fun r8 => (Option.bind (f_X11_copy 3 1 r8.2) fun r9 => (if r8.1 = 0 then (Option.bind (f_X11_finding (-1000000002) r9) fun r10 => (some (r10.1, r10.2))) else (some (v3, r9)))))
theorem w_X11_learns_L61 {Y : YT} {X : XT} (C : Cx FM Y X cX11_learns 5 RX11 (some .int) 6 (0, 0)) : ∀ (v1 : Int32), ∀ (v2 : Int32), ∀ (v3 : Int32), ∀ (σ : St), G FM Y X 5 (emI FM Y) (0, 0) (0, 0) 61 [(0, Rf Y 0), (1, .int v1), (2, .int v2), (3, .int v3)] [] (RepS FM Y σ) (f_X11_learns_L61 v1 v2 v3 σ) := by
  intro v1 v2 v3 σ
  rw [f_X11_learns_L61]
  refine q_aload_n C 0 dX11_learns_61 rfl ?_
  refine q_iload_n C 1 dX11_learns_62 rfl ?_
  refine q_iload_n C 2 dX11_learns_63 rfl ?_
  refine q_cVI C lk_X11_256 (w_X11_knows (Y := Y) v1 v2 σ) (Nat.le_of_ble_eq_true rfl) rfl skM_0 (ltM skM_0 rfl) recv_11 (rest := []) rfl rfl (Nat.le_of_ble_eq_true rfl) dX11_learns_64 (fun r8 => ?_)
  refine q_istore C [(4, .int r8.1), (0, Rf Y 0), (1, .int v1), (2, .int v2), (3, .int v3)] dX11_learns_67 rfl rfl ?_
  refine q_aload_n C 1 dX11_learns_69 rfl ?_
  refine gf_X11_16 C skM_0 dX11_learns_70 ?_
  refine q_aload_n C 1 dX11_learns_73 rfl ?_
  refine gf_X11_9 C skM_0 dX11_learns_74 ?_
  refine q_cSV C lk_X11_66 (w_X11_copy (Y := Y) 3 1 saM_3 saM_1 r8.2) (Nat.le_of_ble_eq_true rfl) rfl (rest := []) rfl rfl (Nat.le_of_ble_eq_true rfl) dX11_learns_77 (fun r9 => ?_)
  refine q_iload C 0 dX11_learns_80 rfl ?_
  refine q_if_eq C 89 dX11_learns_82 rfl (fun _ => ?_) (fun _ => ?_)
  · refine q_aload_n C 1 dX11_learns_89 rfl ?_
    refine q_ldcw C (v := (-1000000002)) (TB_of (List.mem_of_getElem? (i := 1413) (by decide +kernel)) rfl) dX11_learns_90 ?_
    refine q_cVI C lk_X11_75 (w_X11_finding (Y := Y) (-1000000002) r9) (Nat.le_of_ble_eq_true rfl) rfl skM_0 (ltM skM_0 rfl) recv_11 (rest := []) rfl rfl (Nat.le_of_ble_eq_true rfl) dX11_learns_93 (fun r10 => ?_)
    exact q_ireti C rfl dX11_learns_96
  refine q_iload_n C 4 dX11_learns_85 rfl ?_
  refine q_goto C 96 dX11_learns_86 rfl ?_
  exact q_ireti C rfl dX11_learns_96
def f_X11_learns_L36 : Nat → Int32 → Int32 → Int32 → St → Option (Int32 × St)
  | 0, _, _, _, _ => none
  | n + 1, v1, v2, v3, σ => (if 99 ≤ v3 then (f_X11_learns_L61 v1 v2 v3 σ) else (Option.bind (f_X11_knows v1 v2 σ) fun r6 => (if r6.1 = 0 then (Option.bind (f_X11_hour r6.2) fun r7 => ((f_X11_learns_L36 n) v1 v2 (v3 + 1) r7)) else (f_X11_learns_L61 v1 v2 v3 r6.2))))
theorem w_X11_learns_L36 {Y : YT} {X : XT} (C : Cx FM Y X cX11_learns 5 RX11 (some .int) 6 (0, 0)) : ∀ (n : Nat), ∀ (v1 : Int32), ∀ (v2 : Int32), ∀ (v3 : Int32), ∀ (σ : St), G FM Y X 5 (emI FM Y) (0, 0) (0, 0) 36 [(0, Rf Y 0), (1, .int v1), (2, .int v2), (3, .int v3)] [] (RepS FM Y σ) (f_X11_learns_L36 n v1 v2 v3 σ) := by
  intro n
  induction n with
  | zero =>
    intro v1 v2 v3 σ
    rw [f_X11_learns_L36]; exact G.none
  | succ n ih =>
    intro v1 v2 v3 σ
    rw [f_X11_learns_L36]
    refine q_iload_n C 3 dX11_learns_36 rfl ?_
    refine q_bipush C (v := 99) dX11_learns_37 (by decide) ?_
    refine q_icmp_ge C 61 dX11_learns_39 rfl (fun _ => ?_) (fun _ => ?_)
    · exact w_X11_learns_L61 C v1 v2 v3 σ
    refine q_aload_n C 0 dX11_learns_42 rfl ?_
    refine q_iload_n C 1 dX11_learns_43 rfl ?_
    refine q_iload_n C 2 dX11_learns_44 rfl ?_
    refine q_cVI C lk_X11_256 (w_X11_knows (Y := Y) v1 v2 σ) (Nat.le_of_ble_eq_true rfl) rfl skM_0 (ltM skM_0 rfl) recv_11 (rest := []) rfl rfl (Nat.le_of_ble_eq_true rfl) dX11_learns_45 (fun r6 => ?_)
    refine q_if_ne C 61 dX11_learns_48 rfl (fun _ => ?_) (fun _ => ?_)
    · exact w_X11_learns_L61 C v1 v2 v3 r6.2
    refine q_aload_n C 0 dX11_learns_51 rfl ?_
    refine q_cVV C lk_X11_237 (w_X11_hour (Y := Y) r6.2) (Nat.le_of_ble_eq_true rfl) rfl skM_0 (ltM skM_0 rfl) recv_11 (rest := []) rfl rfl (Nat.le_of_ble_eq_true rfl) dX11_learns_52 (fun r7 => ?_)
    refine q_iinc C 3 [(3, .int (v3 + 1)), (0, Rf Y 0), (1, .int v1), (2, .int v2)] dX11_learns_55 rfl rfl rfl rfl ?_
    refine q_goto C 36 dX11_learns_58 rfl ?_
    refine G.sub [1, 2, 3, 0] (lv' := [(0, Rf Y 0), (1, .int v1), (2, .int v2), (3, .int (v3 + 1))]) rfl ?_
    exact ih v1 v2 (v3 + 1) r7
def f_X11_learns (a1 : Int32) (a2 : Int32) (σ : St) : Option (Int32 × St) := (Option.bind (f_X11_isOne a1 σ) fun r1 => (if r1.1 = 0 then (Option.bind (f_X11_finding (-1000000001) r1.2) fun r2 => (some (r2.1, r2.2))) else (Option.bind (f_X11_isSaying a2 r1.2) fun r3 => (if r3.1 = 0 then (Option.bind (f_X11_finding (-1000000001) r3.2) fun r5 => (some (r5.1, r5.2))) else (Option.bind (f_X11_copy 1 3 r3.2) fun r4 => (f_X11_learns_L36 400 a1 a2 0 r4))))))
theorem w_X11_learns {Y : YT} (a1 : Int32) (a2 : Int32)   (σ : St) : CtE (emI FM Y) FM Y yX11_learns cX11_learns 5 (some .int) 6 [Rf Y 0, .int a1, .int a2] σ (f_X11_learns a1 a2 σ) := by
  refine Ct.ofG (by decide) (Nat.le_of_ble_eq_true rfl) (fun X C0 => ?_)
  have C : Cx FM Y X cX11_learns 5 RX11 (some .int) 6 (0, 0) := C0
  show G FM Y X 5 (emI FM Y) (0, 0) (0, 0) 0 [(0, Rf Y 0), (1, .int a1), (2, .int a2)] [] (RepS FM Y σ) (f_X11_learns a1 a2 σ)
  rw [f_X11_learns]
  refine q_aload_n C 0 dX11_learns_0 rfl ?_
  refine q_iload_n C 1 dX11_learns_1 rfl ?_
  refine q_cVI C lk_X11_228 (w_X11_isOne (Y := Y) a1 σ) (Nat.le_of_ble_eq_true rfl) rfl skM_0 (ltM skM_0 rfl) recv_11 (rest := []) rfl rfl (Nat.le_of_ble_eq_true rfl) dX11_learns_2 (fun r1 => ?_)
  refine q_if_eq C 16 dX11_learns_5 rfl (fun _ => ?_) (fun _ => ?_)
  · refine q_aload_n C 0 dX11_learns_16 rfl ?_
    refine q_ldc C (v := (-1000000001)) (TB_of (List.mem_of_getElem? (i := 1119) (by decide +kernel)) rfl) dX11_learns_17 ?_
    refine q_cVI C lk_X11_75 (w_X11_finding (Y := Y) (-1000000001) r1.2) (Nat.le_of_ble_eq_true rfl) rfl skM_0 (ltM skM_0 rfl) recv_11 (rest := []) rfl rfl (Nat.le_of_ble_eq_true rfl) dX11_learns_19 (fun r2 => ?_)
    exact q_ireti C rfl dX11_learns_22
  refine q_aload_n C 0 dX11_learns_8 rfl ?_
  refine q_iload_n C 2 dX11_learns_9 rfl ?_
  refine q_cVI C lk_X11_215 (w_X11_isSaying (Y := Y) a2 r1.2) (Nat.le_of_ble_eq_true rfl) rfl skM_0 (ltM skM_0 rfl) recv_11 (rest := []) rfl rfl (Nat.le_of_ble_eq_true rfl) dX11_learns_10 (fun r3 => ?_)
  refine q_if_ne C 23 dX11_learns_13 rfl (fun _ => ?_) (fun _ => ?_)
  · refine q_aload_n C 0 dX11_learns_23 rfl ?_
    refine gf_X11_9 C skM_0 dX11_learns_24 ?_
    refine q_aload_n C 0 dX11_learns_27 rfl ?_
    refine gf_X11_16 C skM_0 dX11_learns_28 ?_
    refine q_cSV C lk_X11_66 (w_X11_copy (Y := Y) 1 3 saM_1 saM_3 r3.2) (Nat.le_of_ble_eq_true rfl) rfl (rest := []) rfl rfl (Nat.le_of_ble_eq_true rfl) dX11_learns_31 (fun r4 => ?_)
    refine q_iconst C (v := 0) dX11_learns_34 (by decide) ?_
    refine q_istore_n C [(3, .int 0), (0, Rf Y 0), (1, .int a1), (2, .int a2)] dX11_learns_35 rfl rfl ?_
    refine G.sub [1, 2, 3, 0] (lv' := [(0, Rf Y 0), (1, .int a1), (2, .int a2), (3, .int 0)]) rfl ?_
    exact w_X11_learns_L36 C 400 a1 a2 0 r4
  refine q_aload_n C 0 dX11_learns_16 rfl ?_
  refine q_ldc C (v := (-1000000001)) (TB_of (List.mem_of_getElem? (i := 1119) (by decide +kernel)) rfl) dX11_learns_17 ?_
  refine q_cVI C lk_X11_75 (w_X11_finding (Y := Y) (-1000000001) r3.2) (Nat.le_of_ble_eq_true rfl) rfl skM_0 (ltM skM_0 rfl) recv_11 (rest := []) rfl rfl (Nat.le_of_ble_eq_true rfl) dX11_learns_19 (fun r5 => ?_)
  exact q_ireti C rfl dX11_learns_22
def f_X11_knowersBehind (a1 : Int32) (a2 : Int32) (σ : St) : Option (Int32 × St) := (Option.bind (f_X11_hoursGo a2 σ) fun r1 => (Option.bind (f_X11_knowers a1 r1) fun r2 => (Option.bind (f_X11_putBack r2.1 r2.2) fun r3 => (some (r3.1, r3.2)))))
theorem w_X11_knowersBehind {Y : YT} (a1 : Int32) (a2 : Int32)   (σ : St) : CtE (emI FM Y) FM Y yX11_knowersBehind cX11_knowersBehind 3 (some .int) 7 [Rf Y 0, .int a1, .int a2] σ (f_X11_knowersBehind a1 a2 σ) := by
  refine Ct.ofG (by decide) (Nat.le_of_ble_eq_true rfl) (fun X C0 => ?_)
  have C : Cx FM Y X cX11_knowersBehind 3 RX11 (some .int) 7 (0, 0) := C0
  show G FM Y X 3 (emI FM Y) (0, 0) (0, 0) 0 [(0, Rf Y 0), (1, .int a1), (2, .int a2)] [] (RepS FM Y σ) (f_X11_knowersBehind a1 a2 σ)
  rw [f_X11_knowersBehind]
  refine q_aload_n C 0 dX11_knowersBehind_0 rfl ?_
  refine q_iload_n C 2 dX11_knowersBehind_1 rfl ?_
  refine q_cVV C lk_X11_240 (w_X11_hoursGo (Y := Y) a2 σ) (Nat.le_of_ble_eq_true rfl) rfl skM_0 (ltM skM_0 rfl) recv_11 (rest := []) rfl rfl (Nat.le_of_ble_eq_true rfl) dX11_knowersBehind_2 (fun r1 => ?_)
  refine q_aload_n C 0 dX11_knowersBehind_5 rfl ?_
  refine q_aload_n C 0 dX11_knowersBehind_6 rfl ?_
  refine q_iload_n C 1 dX11_knowersBehind_7 rfl ?_
  refine q_cVI C lk_X11_209 (w_X11_knowers (Y := Y) a1 r1) (Nat.le_of_ble_eq_true rfl) rfl skM_0 (ltM skM_0 rfl) recv_11 (rest := [Rf Y 0]) rfl rfl (Nat.le_of_ble_eq_true rfl) dX11_knowersBehind_8 (fun r2 => ?_)
  refine q_cVI C lk_X11_253 (w_X11_putBack (Y := Y) r2.1 r2.2) (Nat.le_of_ble_eq_true rfl) rfl skM_0 (ltM skM_0 rfl) recv_11 (rest := []) rfl rfl (Nat.le_of_ble_eq_true rfl) dX11_knowersBehind_11 (fun r3 => ?_)
  exact q_ireti C rfl dX11_knowersBehind_14
def f_X11_isSet (a1 : Int32) (σ : St) : Option (Int32 × St) := (Option.bind (f_X11_within a1 0 ((1 <<< ((σ 1 4) &&& 31)) - 1) σ) fun r2 => (if r2.1 = 0 ∨ r2.1 = 1 then (some (r2.1, r2.2)) else none))
theorem w_X11_isSet {Y : YT} (a1 : Int32)   (σ : St) : CtE (emI FM Y) FM Y yX11_isSet cX11_isSet 2 (some .boolean) 1 [Rf Y 0, .int a1] σ (f_X11_isSet a1 σ) := by
  refine Ct.ofG (by decide) (Nat.le_of_ble_eq_true rfl) (fun X C0 => ?_)
  have C : Cx FM Y X cX11_isSet 2 RX11 (some .boolean) 1 (0, 0) := C0
  show G FM Y X 2 (emI FM Y) (0, 0) (0, 0) 0 [(0, Rf Y 0), (1, .int a1)] [] (RepS FM Y σ) (f_X11_isSet a1 σ)
  rw [f_X11_isSet]
  refine q_iload_n C 1 dX11_isSet_0 rfl ?_
  refine q_iconst C (v := 0) dX11_isSet_1 (by decide) ?_
  refine q_iconst C (v := 1) dX11_isSet_2 (by decide) ?_
  refine q_aload_n C 0 dX11_isSet_3 rfl ?_
  refine gf_X11_9 C skM_0 dX11_isSet_4 ?_
  refine q_iconst C (v := 4) dX11_isSet_7 (by decide) ?_
  refine q_aldK C (j := 4) saM_1 (ltMa saM_1) (by decide +kernel) (by decide +kernel) dX11_isSet_8 ?_
  refine q_ishl C dX11_isSet_9 ?_
  refine q_iconst C (v := 1) dX11_isSet_10 (by decide) ?_
  refine q_isub C dX11_isSet_11 ?_
  refine q_cSI C lk_X11_70 (w_X11_within (Y := Y) a1 0 ((1 <<< ((σ 1 4) &&& 31)) - 1) σ) (Nat.le_of_ble_eq_true rfl) rfl (rest := []) rfl rfl (Nat.le_of_ble_eq_true rfl) dX11_isSet_12 (fun r2 => ?_)
  exact G.ite (fun h => q_iretz C h rfl dX11_isSet_15) (fun _ => G.none)
theorem lk_X11_260 : LkV RX11 260 yX11_isSet cX11_isSet 2 (some .boolean) 1 := ⟨TB_p [1418, 1420, 53, 81, 1421] (by decide +kernel) (by decide +kernel), by decide +kernel, by decide +kernel, by decide +kernel⟩
theorem lk_X11_263 : LkV RX11 263 yX11_knowersBehind cX11_knowersBehind 3 (some .int) 2 := ⟨TB_p [1422, 1424, 54, 81, 1425] (by decide +kernel) (by decide +kernel), by decide +kernel, by decide +kernel, by decide +kernel⟩
def f_X11_calls_L63 : Nat → Int32 → Int32 → Int32 → Int32 → Int32 → Int32 → St → Option (Int32 × St)
  | 0, _, _, _, _, _, _, _ => none
  | n + 1, v1, v2, v3, v4, v5, v6, σ => (if (σ 3 1) ≤ v6 then (some (v5, σ)) else (Option.bind (f_X11_sayingAt v1 2 σ) fun r12 => (if inb r12.1 (shM 1 - 100) = true then (Bst (up r12.2 1 r12.1.toNatClampNeg v6) fun s13 => (Option.bind (f_X11_sayingAt v1 4 s13) fun r14 => (if inb r14.1 (shM 1 - 100) = true then (Bst (up r14.2 1 r14.1.toNatClampNeg 0) fun s15 => (Option.bind (f_X11_knowersBehind v1 v2 s15) fun r16 => (if (v3 &&& (r16.1 ^^^ (-1))) = 0 then (if (v4 &&& r16.1) = 0 then ((f_X11_calls_L63 n) v1 v2 v3 v4 (v5 ||| (1 <<< (v6 &&& 31))) (v6 + 1) r16.2) else ((f_X11_calls_L63 n) v1 v2 v3 v4 (v5 ||| 0) (v6 + 1) r16.2)) else ((f_X11_calls_L63 n) v1 v2 v3 v4 (v5 ||| 0) (v6 + 1) r16.2)))) else none))) else none)))
theorem w_X11_calls_L63 {Y : YT} {X : XT} (C : Cx FM Y X cX11_calls 8 RX11 (some .int) 8 (0, 0)) : ∀ (n : Nat), ∀ (v1 : Int32), ∀ (v2 : Int32), ∀ (v3 : Int32), ∀ (v4 : Int32), ∀ (v5 : Int32), ∀ (v6 : Int32), ∀ (σ : St), G FM Y X 8 (emI FM Y) (0, 0) (0, 0) 63 [(0, Rf Y 0), (1, .int v1), (2, .int v2), (3, .int v3), (4, .int v4), (5, .int v5), (6, .int v6)] [] (RepS FM Y σ) (f_X11_calls_L63 n v1 v2 v3 v4 v5 v6 σ) := by
  intro n
  induction n with
  | zero =>
    intro v1 v2 v3 v4 v5 v6 σ
    rw [f_X11_calls_L63]; exact G.none
  | succ n ih =>
    intro v1 v2 v3 v4 v5 v6 σ
    rw [f_X11_calls_L63]
    refine q_iload C 6 dX11_calls_63 rfl ?_
    refine q_aload_n C 0 dX11_calls_65 rfl ?_
    refine gf_X11_16 C skM_0 dX11_calls_66 ?_
    refine q_iconst C (v := 1) dX11_calls_69 (by decide) ?_
    refine q_aldK C (j := 1) saM_3 (ltMa saM_3) (by decide +kernel) (by decide +kernel) dX11_calls_70 ?_
    refine q_icmp_ge C 141 dX11_calls_71 rfl (fun _ => ?_) (fun _ => ?_)
    · refine q_iload C 5 dX11_calls_141 rfl ?_
      exact q_ireti C rfl dX11_calls_143
    refine q_aload_n C 0 dX11_calls_74 rfl ?_
    refine gf_X11_9 C skM_0 dX11_calls_75 ?_
    refine q_iload_n C 1 dX11_calls_78 rfl ?_
    refine q_iconst C (v := 2) dX11_calls_79 (by decide) ?_
    refine q_cSI C lk_X11_159 (w_X11_sayingAt (Y := Y) v1 2 σ) (Nat.le_of_ble_eq_true rfl) rfl (rest := [Rf Y 1]) rfl rfl (Nat.le_of_ble_eq_true rfl) dX11_calls_80 (fun r12 => ?_)
    refine q_iload C 6 dX11_calls_83 rfl ?_
    refine q_astS C saM_1 (ltMa saM_1) dX11_calls_85 (fun _ s13 => ?_)
    refine q_aload_n C 0 dX11_calls_86 rfl ?_
    refine gf_X11_9 C skM_0 dX11_calls_87 ?_
    refine q_iload_n C 1 dX11_calls_90 rfl ?_
    refine q_iconst C (v := 4) dX11_calls_91 (by decide) ?_
    refine q_cSI C lk_X11_159 (w_X11_sayingAt (Y := Y) v1 4 s13) (Nat.le_of_ble_eq_true rfl) rfl (rest := [Rf Y 1]) rfl rfl (Nat.le_of_ble_eq_true rfl) dX11_calls_92 (fun r14 => ?_)
    refine q_iconst C (v := 0) dX11_calls_95 (by decide) ?_
    refine q_astS C saM_1 (ltMa saM_1) dX11_calls_96 (fun _ s15 => ?_)
    refine q_aload_n C 0 dX11_calls_97 rfl ?_
    refine q_iload_n C 1 dX11_calls_98 rfl ?_
    refine q_iload_n C 2 dX11_calls_99 rfl ?_
    refine q_cVI C lk_X11_263 (w_X11_knowersBehind (Y := Y) v1 v2 s15) (Nat.le_of_ble_eq_true rfl) rfl skM_0 (ltM skM_0 rfl) recv_11 (rest := []) rfl rfl (Nat.le_of_ble_eq_true rfl) dX11_calls_100 (fun r16 => ?_)
    refine q_istore C [(7, .int r16.1), (0, Rf Y 0), (1, .int v1), (2, .int v2), (3, .int v3), (4, .int v4), (5, .int v5), (6, .int v6)] dX11_calls_103 rfl rfl ?_
    refine q_iload C 6 dX11_calls_105 rfl ?_
    refine q_iload_n C 4 dX11_calls_107 rfl ?_
    refine q_iload C 0 dX11_calls_108 rfl ?_
    refine q_iconst C (v := (-1)) dX11_calls_110 (by decide) ?_
    refine q_ixor C dX11_calls_111 ?_
    refine q_iand C dX11_calls_112 ?_
    refine q_if_ne C 131 dX11_calls_113 rfl (fun _ => ?_) (fun _ => ?_)
    · refine q_iconst C (v := 0) dX11_calls_131 (by decide) ?_
      refine q_ior C dX11_calls_132 ?_
      refine q_istore C [(5, .int (v5 ||| 0)), (7, .int r16.1), (0, Rf Y 0), (1, .int v1), (2, .int v2), (3, .int v3), (4, .int v4), (6, .int v6)] dX11_calls_133 rfl rfl ?_
      refine q_iinc C 7 [(6, .int (v6 + 1)), (5, .int (v5 ||| 0)), (7, .int r16.1), (0, Rf Y 0), (1, .int v1), (2, .int v2), (3, .int v3), (4, .int v4)] dX11_calls_135 rfl rfl rfl rfl ?_
      refine q_goto C 63 dX11_calls_138 rfl ?_
      refine G.sub [3, 4, 5, 6, 7, 1, 0] (lv' := [(0, Rf Y 0), (1, .int v1), (2, .int v2), (3, .int v3), (4, .int v4), (5, .int (v5 ||| 0)), (6, .int (v6 + 1))]) rfl ?_
      exact ih v1 v2 v3 v4 (v5 ||| 0) (v6 + 1) r16.2
    refine q_iload C 5 dX11_calls_116 rfl ?_
    refine q_iload C 0 dX11_calls_118 rfl ?_
    refine q_iand C dX11_calls_120 ?_
    refine q_if_ne C 131 dX11_calls_121 rfl (fun _ => ?_) (fun _ => ?_)
    · refine q_iconst C (v := 0) dX11_calls_131 (by decide) ?_
      refine q_ior C dX11_calls_132 ?_
      refine q_istore C [(5, .int (v5 ||| 0)), (7, .int r16.1), (0, Rf Y 0), (1, .int v1), (2, .int v2), (3, .int v3), (4, .int v4), (6, .int v6)] dX11_calls_133 rfl rfl ?_
      refine q_iinc C 7 [(6, .int (v6 + 1)), (5, .int (v5 ||| 0)), (7, .int r16.1), (0, Rf Y 0), (1, .int v1), (2, .int v2), (3, .int v3), (4, .int v4)] dX11_calls_135 rfl rfl rfl rfl ?_
      refine q_goto C 63 dX11_calls_138 rfl ?_
      refine G.sub [3, 4, 5, 6, 7, 1, 0] (lv' := [(0, Rf Y 0), (1, .int v1), (2, .int v2), (3, .int v3), (4, .int v4), (5, .int (v5 ||| 0)), (6, .int (v6 + 1))]) rfl ?_
      exact ih v1 v2 v3 v4 (v5 ||| 0) (v6 + 1) r16.2
    refine q_iconst C (v := 1) dX11_calls_124 (by decide) ?_
    refine q_iload C 7 dX11_calls_125 rfl ?_
    refine q_ishl C dX11_calls_127 ?_
    refine q_goto C 132 dX11_calls_128 rfl ?_
    refine q_ior C dX11_calls_132 ?_
    refine q_istore C [(5, .int (v5 ||| (1 <<< (v6 &&& 31)))), (7, .int r16.1), (0, Rf Y 0), (1, .int v1), (2, .int v2), (3, .int v3), (4, .int v4), (6, .int v6)] dX11_calls_133 rfl rfl ?_
    refine q_iinc C 7 [(6, .int (v6 + 1)), (5, .int (v5 ||| (1 <<< (v6 &&& 31)))), (7, .int r16.1), (0, Rf Y 0), (1, .int v1), (2, .int v2), (3, .int v3), (4, .int v4)] dX11_calls_135 rfl rfl rfl rfl ?_
    refine q_goto C 63 dX11_calls_138 rfl ?_
    refine G.sub [3, 4, 5, 6, 7, 1, 0] (lv' := [(0, Rf Y 0), (1, .int v1), (2, .int v2), (3, .int v3), (4, .int v4), (5, .int (v5 ||| (1 <<< (v6 &&& 31)))), (6, .int (v6 + 1))]) rfl ?_
    exact ih v1 v2 v3 v4 (v5 ||| (1 <<< (v6 &&& 31))) (v6 + 1) r16.2
def f_X11_calls (a1 : Int32) (a2 : Int32) (a3 : Int32) (a4 : Int32) (σ : St) : Option (Int32 × St) := (Option.bind (f_X11_isSaying a1 σ) fun r1 => (if r1.1 = 0 then (Option.bind (f_X11_finding (-1000000001) r1.2) fun r2 => (some (r2.1, r2.2))) else (Option.bind (f_X11_isBehind a2 r1.2) fun r3 => (if r3.1 = 0 then (Option.bind (f_X11_finding (-1000000001) r3.2) fun r4 => (some (r4.1, r4.2))) else (Option.bind (f_X11_isSet a3 r3.2) fun r5 => (if r5.1 = 0 then (Option.bind (f_X11_finding (-1000000001) r5.2) fun r6 => (some (r6.1, r6.2))) else (Option.bind (f_X11_isSet a4 r5.2) fun r7 => (if r7.1 = 0 then (Option.bind (f_X11_finding (-1000000001) r7.2) fun r8 => (some (r8.1, r8.2))) else (if (a3 &&& a4) = 0 then (Option.bind (f_X11_copy 1 3 r7.2) fun r9 => (f_X11_calls_L63 400 a1 a2 a3 a4 0 0 r9)) else (Option.bind (f_X11_finding (-1000000001) r7.2) fun r10 => (some (r10.1, r10.2))))))))))))
theorem w_X11_calls {Y : YT} (a1 : Int32) (a2 : Int32) (a3 : Int32) (a4 : Int32)   (σ : St) : CtE (emI FM Y) FM Y yX11_calls cX11_calls 8 (some .int) 8 [Rf Y 0, .int a1, .int a2, .int a3, .int a4] σ (f_X11_calls a1 a2 a3 a4 σ) := by
  refine Ct.ofG (by decide) (Nat.le_of_ble_eq_true rfl) (fun X C0 => ?_)
  have C : Cx FM Y X cX11_calls 8 RX11 (some .int) 8 (0, 0) := C0
  show G FM Y X 8 (emI FM Y) (0, 0) (0, 0) 0 [(0, Rf Y 0), (1, .int a1), (2, .int a2), (3, .int a3), (4, .int a4)] [] (RepS FM Y σ) (f_X11_calls a1 a2 a3 a4 σ)
  rw [f_X11_calls]
  refine q_aload_n C 0 dX11_calls_0 rfl ?_
  refine q_iload_n C 1 dX11_calls_1 rfl ?_
  refine q_cVI C lk_X11_215 (w_X11_isSaying (Y := Y) a1 σ) (Nat.le_of_ble_eq_true rfl) rfl skM_0 (ltM skM_0 rfl) recv_11 (rest := []) rfl rfl (Nat.le_of_ble_eq_true rfl) dX11_calls_2 (fun r1 => ?_)
  refine q_if_eq C 39 dX11_calls_5 rfl (fun _ => ?_) (fun _ => ?_)
  · refine q_aload_n C 0 dX11_calls_39 rfl ?_
    refine q_ldc C (v := (-1000000001)) (TB_of (List.mem_of_getElem? (i := 1119) (by decide +kernel)) rfl) dX11_calls_40 ?_
    refine q_cVI C lk_X11_75 (w_X11_finding (Y := Y) (-1000000001) r1.2) (Nat.le_of_ble_eq_true rfl) rfl skM_0 (ltM skM_0 rfl) recv_11 (rest := []) rfl rfl (Nat.le_of_ble_eq_true rfl) dX11_calls_42 (fun r2 => ?_)
    exact q_ireti C rfl dX11_calls_45
  refine q_iload_n C 2 dX11_calls_8 rfl ?_
  refine q_cSI C lk_X11_250 (w_X11_isBehind (Y := Y) a2 r1.2) (Nat.le_of_ble_eq_true rfl) rfl (rest := []) rfl rfl (Nat.le_of_ble_eq_true rfl) dX11_calls_9 (fun r3 => ?_)
  refine q_if_eq C 39 dX11_calls_12 rfl (fun _ => ?_) (fun _ => ?_)
  · refine q_aload_n C 0 dX11_calls_39 rfl ?_
    refine q_ldc C (v := (-1000000001)) (TB_of (List.mem_of_getElem? (i := 1119) (by decide +kernel)) rfl) dX11_calls_40 ?_
    refine q_cVI C lk_X11_75 (w_X11_finding (Y := Y) (-1000000001) r3.2) (Nat.le_of_ble_eq_true rfl) rfl skM_0 (ltM skM_0 rfl) recv_11 (rest := []) rfl rfl (Nat.le_of_ble_eq_true rfl) dX11_calls_42 (fun r4 => ?_)
    exact q_ireti C rfl dX11_calls_45
  refine q_aload_n C 0 dX11_calls_15 rfl ?_
  refine q_iload_n C 3 dX11_calls_16 rfl ?_
  refine q_cVI C lk_X11_260 (w_X11_isSet (Y := Y) a3 r3.2) (Nat.le_of_ble_eq_true rfl) rfl skM_0 (ltM skM_0 rfl) recv_11 (rest := []) rfl rfl (Nat.le_of_ble_eq_true rfl) dX11_calls_17 (fun r5 => ?_)
  refine q_if_eq C 39 dX11_calls_20 rfl (fun _ => ?_) (fun _ => ?_)
  · refine q_aload_n C 0 dX11_calls_39 rfl ?_
    refine q_ldc C (v := (-1000000001)) (TB_of (List.mem_of_getElem? (i := 1119) (by decide +kernel)) rfl) dX11_calls_40 ?_
    refine q_cVI C lk_X11_75 (w_X11_finding (Y := Y) (-1000000001) r5.2) (Nat.le_of_ble_eq_true rfl) rfl skM_0 (ltM skM_0 rfl) recv_11 (rest := []) rfl rfl (Nat.le_of_ble_eq_true rfl) dX11_calls_42 (fun r6 => ?_)
    exact q_ireti C rfl dX11_calls_45
  refine q_aload_n C 0 dX11_calls_23 rfl ?_
  refine q_iload C 4 dX11_calls_24 rfl ?_
  refine q_cVI C lk_X11_260 (w_X11_isSet (Y := Y) a4 r5.2) (Nat.le_of_ble_eq_true rfl) rfl skM_0 (ltM skM_0 rfl) recv_11 (rest := []) rfl rfl (Nat.le_of_ble_eq_true rfl) dX11_calls_26 (fun r7 => ?_)
  refine q_if_eq C 39 dX11_calls_29 rfl (fun _ => ?_) (fun _ => ?_)
  · refine q_aload_n C 0 dX11_calls_39 rfl ?_
    refine q_ldc C (v := (-1000000001)) (TB_of (List.mem_of_getElem? (i := 1119) (by decide +kernel)) rfl) dX11_calls_40 ?_
    refine q_cVI C lk_X11_75 (w_X11_finding (Y := Y) (-1000000001) r7.2) (Nat.le_of_ble_eq_true rfl) rfl skM_0 (ltM skM_0 rfl) recv_11 (rest := []) rfl rfl (Nat.le_of_ble_eq_true rfl) dX11_calls_42 (fun r8 => ?_)
    exact q_ireti C rfl dX11_calls_45
  refine q_iload_n C 3 dX11_calls_32 rfl ?_
  refine q_iload C 4 dX11_calls_33 rfl ?_
  refine q_iand C dX11_calls_35 ?_
  refine q_if_eq C 46 dX11_calls_36 rfl (fun _ => ?_) (fun _ => ?_)
  · refine q_aload_n C 0 dX11_calls_46 rfl ?_
    refine gf_X11_9 C skM_0 dX11_calls_47 ?_
    refine q_aload_n C 0 dX11_calls_50 rfl ?_
    refine gf_X11_16 C skM_0 dX11_calls_51 ?_
    refine q_cSV C lk_X11_66 (w_X11_copy (Y := Y) 1 3 saM_1 saM_3 r7.2) (Nat.le_of_ble_eq_true rfl) rfl (rest := []) rfl rfl (Nat.le_of_ble_eq_true rfl) dX11_calls_54 (fun r9 => ?_)
    refine q_iconst C (v := 0) dX11_calls_57 (by decide) ?_
    refine q_istore C [(5, .int 0), (0, Rf Y 0), (1, .int a1), (2, .int a2), (3, .int a3), (4, .int a4)] dX11_calls_58 rfl rfl ?_
    refine q_iconst C (v := 0) dX11_calls_60 (by decide) ?_
    refine q_istore C [(6, .int 0), (5, .int 0), (0, Rf Y 0), (1, .int a1), (2, .int a2), (3, .int a3), (4, .int a4)] dX11_calls_61 rfl rfl ?_
    refine G.sub [2, 3, 4, 5, 6, 1, 0] (lv' := [(0, Rf Y 0), (1, .int a1), (2, .int a2), (3, .int a3), (4, .int a4), (5, .int 0), (6, .int 0)]) rfl ?_
    exact w_X11_calls_L63 C 400 a1 a2 a3 a4 0 0 r9
  refine q_aload_n C 0 dX11_calls_39 rfl ?_
  refine q_ldc C (v := (-1000000001)) (TB_of (List.mem_of_getElem? (i := 1119) (by decide +kernel)) rfl) dX11_calls_40 ?_
  refine q_cVI C lk_X11_75 (w_X11_finding (Y := Y) (-1000000001) r7.2) (Nat.le_of_ble_eq_true rfl) rfl skM_0 (ltM skM_0 rfl) recv_11 (rest := []) rfl rfl (Nat.le_of_ble_eq_true rfl) dX11_calls_42 (fun r10 => ?_)
  exact q_ireti C rfl dX11_calls_45
def f_X11_isMoreStopped_L4 : Nat → Int32 → Int32 → Int32 → St → Option (Int32 × St)
  | 0, _, _, _, _ => none
  | n + 1, v1, v2, v3, σ => (if (σ 1 2) ≤ v3 then (if v2 = 0 ∨ v2 = 1 then (some (v2, σ)) else none) else (if v2 = 0 then ((f_X11_isMoreStopped_L4 n) v1 0 (v3 + 1) σ) else (Option.bind (f_X11_hasBit v1 v3 σ) fun r2 => (if r2.1 = 0 then ((f_X11_isMoreStopped_L4 n) v1 1 (v3 + 1) r2.2) else (Option.bind (f_X11_wayIs v3 3 r2.2) fun r3 => (if r3.1 = 0 then ((f_X11_isMoreStopped_L4 n) v1 1 (v3 + 1) r3.2) else ((f_X11_isMoreStopped_L4 n) v1 0 (v3 + 1) r3.2)))))))
theorem w_X11_isMoreStopped_L4 {Y : YT} {X : XT} (C : Cx FM Y X cX11_isMoreStopped 4 RX11 (some .boolean) 2 (0, 0)) : ∀ (n : Nat), ∀ (v1 : Int32), ∀ (v2 : Int32), ∀ (v3 : Int32), ∀ (σ : St), G FM Y X 4 (emI FM Y) (0, 0) (0, 0) 4 [(0, Rf Y 0), (1, .int v1), (2, .int v2), (3, .int v3)] [] (RepS FM Y σ) (f_X11_isMoreStopped_L4 n v1 v2 v3 σ) := by
  intro n
  induction n with
  | zero =>
    intro v1 v2 v3 σ
    rw [f_X11_isMoreStopped_L4]; exact G.none
  | succ n ih =>
    intro v1 v2 v3 σ
    rw [f_X11_isMoreStopped_L4]
    refine q_iload_n C 3 dX11_isMoreStopped_4 rfl ?_
    refine q_aload_n C 0 dX11_isMoreStopped_5 rfl ?_
    refine gf_X11_9 C skM_0 dX11_isMoreStopped_6 ?_
    refine q_iconst C (v := 2) dX11_isMoreStopped_9 (by decide) ?_
    refine q_aldK C (j := 2) saM_1 (ltMa saM_1) (by decide +kernel) (by decide +kernel) dX11_isMoreStopped_10 ?_
    refine q_icmp_ge C 47 dX11_isMoreStopped_11 rfl (fun _ => ?_) (fun _ => ?_)
    · refine q_iload_n C 2 dX11_isMoreStopped_47 rfl ?_
      exact G.ite (fun h => q_iretz C h rfl dX11_isMoreStopped_48) (fun _ => G.none)
    refine q_iload_n C 2 dX11_isMoreStopped_14 rfl ?_
    refine q_if_eq C 39 dX11_isMoreStopped_15 rfl (fun _ => ?_) (fun _ => ?_)
    · refine q_iconst C (v := 0) dX11_isMoreStopped_39 (by decide) ?_
      refine q_istore_n C [(2, .int 0), (0, Rf Y 0), (1, .int v1), (3, .int v3)] dX11_isMoreStopped_40 rfl rfl ?_
      refine q_iinc C 3 [(3, .int (v3 + 1)), (2, .int 0), (0, Rf Y 0), (1, .int v1)] dX11_isMoreStopped_41 rfl rfl rfl rfl ?_
      refine q_goto C 4 dX11_isMoreStopped_44 rfl ?_
      refine G.sub [2, 3, 1, 0] (lv' := [(0, Rf Y 0), (1, .int v1), (2, .int 0), (3, .int (v3 + 1))]) rfl ?_
      exact ih v1 0 (v3 + 1) σ
    refine q_iload_n C 1 dX11_isMoreStopped_18 rfl ?_
    refine q_iload_n C 3 dX11_isMoreStopped_19 rfl ?_
    refine q_cSI C lk_X11_199 (w_X11_hasBit (Y := Y) v1 v3 σ) (Nat.le_of_ble_eq_true rfl) rfl (rest := []) rfl rfl (Nat.le_of_ble_eq_true rfl) dX11_isMoreStopped_20 (fun r2 => ?_)
    refine q_if_eq C 35 dX11_isMoreStopped_23 rfl (fun _ => ?_) (fun _ => ?_)
    · refine q_iconst C (v := 1) dX11_isMoreStopped_35 (by decide) ?_
      refine q_goto C 40 dX11_isMoreStopped_36 rfl ?_
      refine q_istore_n C [(2, .int 1), (0, Rf Y 0), (1, .int v1), (3, .int v3)] dX11_isMoreStopped_40 rfl rfl ?_
      refine q_iinc C 3 [(3, .int (v3 + 1)), (2, .int 1), (0, Rf Y 0), (1, .int v1)] dX11_isMoreStopped_41 rfl rfl rfl rfl ?_
      refine q_goto C 4 dX11_isMoreStopped_44 rfl ?_
      refine G.sub [2, 3, 1, 0] (lv' := [(0, Rf Y 0), (1, .int v1), (2, .int 1), (3, .int (v3 + 1))]) rfl ?_
      exact ih v1 1 (v3 + 1) r2.2
    refine q_aload_n C 0 dX11_isMoreStopped_26 rfl ?_
    refine q_iload_n C 3 dX11_isMoreStopped_27 rfl ?_
    refine q_iconst C (v := 3) dX11_isMoreStopped_28 (by decide) ?_
    refine q_cVI C lk_X11_178 (w_X11_wayIs (Y := Y) v3 3 r2.2) (Nat.le_of_ble_eq_true rfl) rfl skM_0 (ltM skM_0 rfl) recv_11 (rest := []) rfl rfl (Nat.le_of_ble_eq_true rfl) dX11_isMoreStopped_29 (fun r3 => ?_)
    refine q_if_ne C 39 dX11_isMoreStopped_32 rfl (fun _ => ?_) (fun _ => ?_)
    · refine q_iconst C (v := 0) dX11_isMoreStopped_39 (by decide) ?_
      refine q_istore_n C [(2, .int 0), (0, Rf Y 0), (1, .int v1), (3, .int v3)] dX11_isMoreStopped_40 rfl rfl ?_
      refine q_iinc C 3 [(3, .int (v3 + 1)), (2, .int 0), (0, Rf Y 0), (1, .int v1)] dX11_isMoreStopped_41 rfl rfl rfl rfl ?_
      refine q_goto C 4 dX11_isMoreStopped_44 rfl ?_
      refine G.sub [2, 3, 1, 0] (lv' := [(0, Rf Y 0), (1, .int v1), (2, .int 0), (3, .int (v3 + 1))]) rfl ?_
      exact ih v1 0 (v3 + 1) r3.2
    refine q_iconst C (v := 1) dX11_isMoreStopped_35 (by decide) ?_
    refine q_goto C 40 dX11_isMoreStopped_36 rfl ?_
    refine q_istore_n C [(2, .int 1), (0, Rf Y 0), (1, .int v1), (3, .int v3)] dX11_isMoreStopped_40 rfl rfl ?_
    refine q_iinc C 3 [(3, .int (v3 + 1)), (2, .int 1), (0, Rf Y 0), (1, .int v1)] dX11_isMoreStopped_41 rfl rfl rfl rfl ?_
    refine q_goto C 4 dX11_isMoreStopped_44 rfl ?_
    refine G.sub [2, 3, 1, 0] (lv' := [(0, Rf Y 0), (1, .int v1), (2, .int 1), (3, .int (v3 + 1))]) rfl ?_
    exact ih v1 1 (v3 + 1) r3.2
def f_X11_isMoreStopped (a1 : Int32) (σ : St) : Option (Int32 × St) := (f_X11_isMoreStopped_L4 400 a1 1 0 σ)
theorem w_X11_isMoreStopped {Y : YT} (a1 : Int32)   (σ : St) : CtE (emI FM Y) FM Y yX11_isMoreStopped cX11_isMoreStopped 4 (some .boolean) 2 [Rf Y 0, .int a1] σ (f_X11_isMoreStopped a1 σ) := by
  refine Ct.ofG (by decide) (Nat.le_of_ble_eq_true rfl) (fun X C0 => ?_)
  have C : Cx FM Y X cX11_isMoreStopped 4 RX11 (some .boolean) 2 (0, 0) := C0
  show G FM Y X 4 (emI FM Y) (0, 0) (0, 0) 0 [(0, Rf Y 0), (1, .int a1)] [] (RepS FM Y σ) (f_X11_isMoreStopped a1 σ)
  rw [f_X11_isMoreStopped]
  refine q_iconst C (v := 1) dX11_isMoreStopped_0 (by decide) ?_
  refine q_istore_n C [(2, .int 1), (0, Rf Y 0), (1, .int a1)] dX11_isMoreStopped_1 rfl rfl ?_
  refine q_iconst C (v := 0) dX11_isMoreStopped_2 (by decide) ?_
  refine q_istore_n C [(3, .int 0), (2, .int 1), (0, Rf Y 0), (1, .int a1)] dX11_isMoreStopped_3 rfl rfl ?_
  refine G.sub [2, 3, 1, 0] (lv' := [(0, Rf Y 0), (1, .int a1), (2, .int 1), (3, .int 0)]) rfl ?_
  exact w_X11_isMoreStopped_L4 C 400 a1 1 0 σ
def f_X11_knowsIfStopped_L14 : Nat → Int32 → Int32 → Int32 → Int32 → Int32 → St → Option (Int32 × St)
  | 0, _, _, _, _, _, _ => none
  | n + 1, v1, v2, v3, v4, v5, σ => (if (σ 3 2) ≤ v5 then (Option.bind (f_X11_knowersBehind v2 v3 σ) fun r3 => (Option.bind (f_X11_hasBit r3.1 v1 r3.2) fun r4 => (if r4.1 = 0 ∨ r4.1 = 1 then (some (r4.1, r4.2)) else none))) else (Option.bind (f_X11_wayAt v5 3 σ) fun r5 => (if inb r5.1 (shM 1 - 100) = true then (if inb r5.1 (shM 1 - 100) = true then (Bst (up r5.2 1 r5.1.toNatClampNeg ((r5.2 1 r5.1.toNatClampNeg) ||| ((v4 >>> (v5 &&& 31)) &&& 1))) fun s7 => ((f_X11_knowsIfStopped_L14 n) v1 v2 v3 v4 (v5 + 1) s7)) else none) else none)))
theorem w_X11_knowsIfStopped_L14 {Y : YT} {X : XT} (C : Cx FM Y X cX11_knowsIfStopped 6 RX11 (some .boolean) 8 (0, 0)) : ∀ (n : Nat), ∀ (v1 : Int32), ∀ (v2 : Int32), ∀ (v3 : Int32), ∀ (v4 : Int32), ∀ (v5 : Int32), ∀ (σ : St), G FM Y X 6 (emI FM Y) (0, 0) (0, 0) 14 [(0, Rf Y 0), (1, .int v1), (2, .int v2), (3, .int v3), (4, .int v4), (5, .int v5)] [] (RepS FM Y σ) (f_X11_knowsIfStopped_L14 n v1 v2 v3 v4 v5 σ) := by
  intro n
  induction n with
  | zero =>
    intro v1 v2 v3 v4 v5 σ
    rw [f_X11_knowsIfStopped_L14]; exact G.none
  | succ n ih =>
    intro v1 v2 v3 v4 v5 σ
    rw [f_X11_knowsIfStopped_L14]
    refine q_iload C 5 dX11_knowsIfStopped_14 rfl ?_
    refine q_aload_n C 0 dX11_knowsIfStopped_16 rfl ?_
    refine gf_X11_16 C skM_0 dX11_knowsIfStopped_17 ?_
    refine q_iconst C (v := 2) dX11_knowsIfStopped_20 (by decide) ?_
    refine q_aldK C (j := 2) saM_3 (ltMa saM_3) (by decide +kernel) (by decide +kernel) dX11_knowsIfStopped_21 ?_
    refine q_icmp_ge C 52 dX11_knowsIfStopped_22 rfl (fun _ => ?_) (fun _ => ?_)
    · refine q_aload_n C 0 dX11_knowsIfStopped_52 rfl ?_
      refine q_iload_n C 2 dX11_knowsIfStopped_53 rfl ?_
      refine q_iload_n C 3 dX11_knowsIfStopped_54 rfl ?_
      refine q_cVI C lk_X11_263 (w_X11_knowersBehind (Y := Y) v2 v3 σ) (Nat.le_of_ble_eq_true rfl) rfl skM_0 (ltM skM_0 rfl) recv_11 (rest := []) rfl rfl (Nat.le_of_ble_eq_true rfl) dX11_knowsIfStopped_55 (fun r3 => ?_)
      refine q_iload_n C 1 dX11_knowsIfStopped_58 rfl ?_
      refine q_cSI C lk_X11_199 (w_X11_hasBit (Y := Y) r3.1 v1 r3.2) (Nat.le_of_ble_eq_true rfl) rfl (rest := []) rfl rfl (Nat.le_of_ble_eq_true rfl) dX11_knowsIfStopped_59 (fun r4 => ?_)
      exact G.ite (fun h => q_iretz C h rfl dX11_knowsIfStopped_62) (fun _ => G.none)
    refine q_aload_n C 0 dX11_knowsIfStopped_25 rfl ?_
    refine gf_X11_9 C skM_0 dX11_knowsIfStopped_26 ?_
    refine q_iload C 5 dX11_knowsIfStopped_29 rfl ?_
    refine q_iconst C (v := 3) dX11_knowsIfStopped_31 (by decide) ?_
    refine q_cSI C lk_X11_156 (w_X11_wayAt (Y := Y) v5 3 σ) (Nat.le_of_ble_eq_true rfl) rfl (rest := [Rf Y 1]) rfl rfl (Nat.le_of_ble_eq_true rfl) dX11_knowsIfStopped_32 (fun r5 => ?_)
    refine q_dup2 C dX11_knowsIfStopped_35 rfl rfl ?_
    refine q_aldS C saM_1 (ltMa saM_1) dX11_knowsIfStopped_36 (fun _ => ?_)
    refine q_iload C 4 dX11_knowsIfStopped_37 rfl ?_
    refine q_iload C 5 dX11_knowsIfStopped_39 rfl ?_
    refine q_ishr C dX11_knowsIfStopped_41 ?_
    refine q_iconst C (v := 1) dX11_knowsIfStopped_42 (by decide) ?_
    refine q_iand C dX11_knowsIfStopped_43 ?_
    refine q_ior C dX11_knowsIfStopped_44 ?_
    refine q_astS C saM_1 (ltMa saM_1) dX11_knowsIfStopped_45 (fun _ s7 => ?_)
    refine q_iinc C 5 [(5, .int (v5 + 1)), (0, Rf Y 0), (1, .int v1), (2, .int v2), (3, .int v3), (4, .int v4)] dX11_knowsIfStopped_46 rfl rfl rfl rfl ?_
    refine q_goto C 14 dX11_knowsIfStopped_49 rfl ?_
    refine G.sub [1, 2, 3, 4, 5, 0] (lv' := [(0, Rf Y 0), (1, .int v1), (2, .int v2), (3, .int v3), (4, .int v4), (5, .int (v5 + 1))]) rfl ?_
    exact ih v1 v2 v3 v4 (v5 + 1) s7
def f_X11_knowsIfStopped (a1 : Int32) (a2 : Int32) (a3 : Int32) (a4 : Int32) (σ : St) : Option (Int32 × St) := (Option.bind (f_X11_copy 1 3 σ) fun r1 => (f_X11_knowsIfStopped_L14 400 a1 a2 a3 a4 0 r1))
theorem w_X11_knowsIfStopped {Y : YT} (a1 : Int32) (a2 : Int32) (a3 : Int32) (a4 : Int32)   (σ : St) : CtE (emI FM Y) FM Y yX11_knowsIfStopped cX11_knowsIfStopped 6 (some .boolean) 8 [Rf Y 0, .int a1, .int a2, .int a3, .int a4] σ (f_X11_knowsIfStopped a1 a2 a3 a4 σ) := by
  refine Ct.ofG (by decide) (Nat.le_of_ble_eq_true rfl) (fun X C0 => ?_)
  have C : Cx FM Y X cX11_knowsIfStopped 6 RX11 (some .boolean) 8 (0, 0) := C0
  show G FM Y X 6 (emI FM Y) (0, 0) (0, 0) 0 [(0, Rf Y 0), (1, .int a1), (2, .int a2), (3, .int a3), (4, .int a4)] [] (RepS FM Y σ) (f_X11_knowsIfStopped a1 a2 a3 a4 σ)
  rw [f_X11_knowsIfStopped]
  refine q_aload_n C 0 dX11_knowsIfStopped_0 rfl ?_
  refine gf_X11_9 C skM_0 dX11_knowsIfStopped_1 ?_
  refine q_aload_n C 0 dX11_knowsIfStopped_4 rfl ?_
  refine gf_X11_16 C skM_0 dX11_knowsIfStopped_5 ?_
  refine q_cSV C lk_X11_66 (w_X11_copy (Y := Y) 1 3 saM_1 saM_3 σ) (Nat.le_of_ble_eq_true rfl) rfl (rest := []) rfl rfl (Nat.le_of_ble_eq_true rfl) dX11_knowsIfStopped_8 (fun r1 => ?_)
  refine q_iconst C (v := 0) dX11_knowsIfStopped_11 (by decide) ?_
  refine q_istore C [(5, .int 0), (0, Rf Y 0), (1, .int a1), (2, .int a2), (3, .int a3), (4, .int a4)] dX11_knowsIfStopped_12 rfl rfl ?_
  refine G.sub [1, 2, 3, 4, 5, 0] (lv' := [(0, Rf Y 0), (1, .int a1), (2, .int a2), (3, .int a3), (4, .int a4), (5, .int 0)]) rfl ?_
  exact w_X11_knowsIfStopped_L14 C 400 a1 a2 a3 a4 0 r1
theorem lk_X11_269 : LkV RX11 269 yX11_isMoreStopped cX11_isMoreStopped 4 (some .boolean) 1 := ⟨TB_p [1433, 1435, 55, 81, 1436] (by decide +kernel) (by decide +kernel), by decide +kernel, by decide +kernel, by decide +kernel⟩
theorem lk_X11_266 : LkS RX11 266 yX11_bits cX11_bits 3 (some .int) 1 := ⟨TB_p [1430, 1431, 81, 1432] (by decide +kernel) (by decide +kernel), by decide +kernel, by decide +kernel, by decide +kernel⟩
theorem lk_X11_272 : LkV RX11 272 yX11_knowsIfStopped cX11_knowsIfStopped 6 (some .boolean) 4 := ⟨TB_p [1437, 1439, 56, 81, 1440] (by decide +kernel) (by decide +kernel), by decide +kernel, by decide +kernel, by decide +kernel⟩
def f_X11_stops_L84 (rf39 : Int32 → Int32 → Int32 → Int32 → Int32 → St → Option (Int32 × St)) (v1 : Int32) (v2 : Int32) (v3 : Int32) (v4 : Int32) (v5 : Int32) (w0 : Int32) (σ : St) : Option (Int32 × St) := (if w0 = 0 then (rf39 v1 v2 v3 v4 (v5 + 1) σ) else (Option.bind (f_X11_knowsIfStopped v1 v2 v3 v5 σ) fun r13 => (if r13.1 = 0 then (rf39 v1 v2 v3 v5 (v5 + 1) r13.2) else (rf39 v1 v2 v3 v4 (v5 + 1) r13.2))))
theorem w_X11_stops_L84 {Y : YT} {X : XT} (C : Cx FM Y X cX11_stops 7 RX11 (some .int) 9 (0, 0)) {rf39 : Int32 → Int32 → Int32 → Int32 → Int32 → St → Option (Int32 × St)} (ih39 : ∀ (v1 : Int32), ∀ (v2 : Int32), ∀ (v3 : Int32), ∀ (v4 : Int32), ∀ (v5 : Int32), ∀ (σ : St), G FM Y X 7 (emI FM Y) (0, 0) (0, 0) 39 [(0, Rf Y 0), (1, .int v1), (2, .int v2), (3, .int v3), (4, .int v4), (5, .int v5)] [] (RepS FM Y σ) (rf39 v1 v2 v3 v4 v5 σ)) : ∀ (v1 : Int32), ∀ (v2 : Int32), ∀ (v3 : Int32), ∀ (v4 : Int32), ∀ (v5 : Int32), ∀ (w0 : Int32), ∀ (σ : St), G FM Y X 7 (emI FM Y) (0, 0) (0, 0) 84 [(0, Rf Y 0), (1, .int v1), (2, .int v2), (3, .int v3), (4, .int v4), (5, .int v5)] [.int w0] (RepS FM Y σ) (f_X11_stops_L84 rf39 v1 v2 v3 v4 v5 w0 σ) := by
  intro v1 v2 v3 v4 v5 w0 σ
  rw [f_X11_stops_L84]
  refine q_istore C [(6, .int w0), (0, Rf Y 0), (1, .int v1), (2, .int v2), (3, .int v3), (4, .int v4), (5, .int v5)] dX11_stops_84 rfl rfl ?_
  refine q_iload C 0 dX11_stops_86 rfl ?_
  refine q_if_eq C 108 dX11_stops_88 rfl (fun _ => ?_) (fun _ => ?_)
  · refine q_iload C 5 dX11_stops_108 rfl ?_
    refine q_istore C [(4, .int v4), (6, .int w0), (0, Rf Y 0), (1, .int v1), (2, .int v2), (3, .int v3), (5, .int v5)] dX11_stops_110 rfl rfl ?_
    refine q_iinc C 6 [(5, .int (v5 + 1)), (4, .int v4), (6, .int w0), (0, Rf Y 0), (1, .int v1), (2, .int v2), (3, .int v3)] dX11_stops_112 rfl rfl rfl rfl ?_
    refine q_goto C 39 dX11_stops_115 rfl ?_
    refine G.sub [3, 4, 5, 6, 1, 0] (lv' := [(0, Rf Y 0), (1, .int v1), (2, .int v2), (3, .int v3), (4, .int v4), (5, .int (v5 + 1))]) rfl ?_
    exact ih39 v1 v2 v3 v4 (v5 + 1) σ
  refine q_aload_n C 1 dX11_stops_91 rfl ?_
  refine q_iload_n C 2 dX11_stops_92 rfl ?_
  refine q_iload_n C 3 dX11_stops_93 rfl ?_
  refine q_iload_n C 4 dX11_stops_94 rfl ?_
  refine q_iload C 6 dX11_stops_95 rfl ?_
  refine q_cVI C lk_X11_272 (w_X11_knowsIfStopped (Y := Y) v1 v2 v3 v5 σ) (Nat.le_of_ble_eq_true rfl) rfl skM_0 (ltM skM_0 rfl) recv_11 (rest := []) rfl rfl (Nat.le_of_ble_eq_true rfl) dX11_stops_97 (fun r13 => ?_)
  refine q_if_ne C 108 dX11_stops_100 rfl (fun _ => ?_) (fun _ => ?_)
  · refine q_iload C 5 dX11_stops_108 rfl ?_
    refine q_istore C [(4, .int v4), (6, .int w0), (0, Rf Y 0), (1, .int v1), (2, .int v2), (3, .int v3), (5, .int v5)] dX11_stops_110 rfl rfl ?_
    refine q_iinc C 6 [(5, .int (v5 + 1)), (4, .int v4), (6, .int w0), (0, Rf Y 0), (1, .int v1), (2, .int v2), (3, .int v3)] dX11_stops_112 rfl rfl rfl rfl ?_
    refine q_goto C 39 dX11_stops_115 rfl ?_
    refine G.sub [3, 4, 5, 6, 1, 0] (lv' := [(0, Rf Y 0), (1, .int v1), (2, .int v2), (3, .int v3), (4, .int v4), (5, .int (v5 + 1))]) rfl ?_
    exact ih39 v1 v2 v3 v4 (v5 + 1) r13.2
  refine q_iload C 6 dX11_stops_103 rfl ?_
  refine q_goto C 110 dX11_stops_105 rfl ?_
  refine q_istore C [(4, .int v5), (6, .int w0), (0, Rf Y 0), (1, .int v1), (2, .int v2), (3, .int v3), (5, .int v5)] dX11_stops_110 rfl rfl ?_
  refine q_iinc C 6 [(5, .int (v5 + 1)), (4, .int v5), (6, .int w0), (0, Rf Y 0), (1, .int v1), (2, .int v2), (3, .int v3)] dX11_stops_112 rfl rfl rfl rfl ?_
  refine q_goto C 39 dX11_stops_115 rfl ?_
  refine G.sub [3, 4, 5, 6, 1, 0] (lv' := [(0, Rf Y 0), (1, .int v1), (2, .int v2), (3, .int v3), (4, .int v5), (5, .int (v5 + 1))]) rfl ?_
  exact ih39 v1 v2 v3 v5 (v5 + 1) r13.2
def f_X11_stops_L39 : Nat → Int32 → Int32 → Int32 → Int32 → Int32 → St → Option (Int32 × St)
  | 0, _, _, _, _, _, _ => none
  | n + 1, v1, v2, v3, v4, v5, σ => (if (1 <<< ((σ 1 2) &&& 31)) ≤ v5 then (if 0 ≤ v4 then (some (v4, σ)) else (Option.bind (f_X11_finding (-1000000002) σ) fun r8 => (some (r8.1, r8.2)))) else (if v4 < 0 then (Option.bind (f_X11_isMoreStopped v5 σ) fun r9 => (if r9.1 = 0 then (f_X11_stops_L84 (f_X11_stops_L39 n) v1 v2 v3 v4 v5 0 r9.2) else (f_X11_stops_L84 (f_X11_stops_L39 n) v1 v2 v3 v4 v5 1 r9.2))) else (Option.bind (f_X11_bits v5 σ) fun r10 => (Option.bind (f_X11_bits v4 r10.2) fun r11 => (if r11.1 ≤ r10.1 then (f_X11_stops_L84 (f_X11_stops_L39 n) v1 v2 v3 v4 v5 0 r11.2) else (Option.bind (f_X11_isMoreStopped v5 r11.2) fun r12 => (if r12.1 = 0 then (f_X11_stops_L84 (f_X11_stops_L39 n) v1 v2 v3 v4 v5 0 r12.2) else (f_X11_stops_L84 (f_X11_stops_L39 n) v1 v2 v3 v4 v5 1 r12.2))))))))
theorem w_X11_stops_L39 {Y : YT} {X : XT} (C : Cx FM Y X cX11_stops 7 RX11 (some .int) 9 (0, 0)) : ∀ (n : Nat), ∀ (v1 : Int32), ∀ (v2 : Int32), ∀ (v3 : Int32), ∀ (v4 : Int32), ∀ (v5 : Int32), ∀ (σ : St), G FM Y X 7 (emI FM Y) (0, 0) (0, 0) 39 [(0, Rf Y 0), (1, .int v1), (2, .int v2), (3, .int v3), (4, .int v4), (5, .int v5)] [] (RepS FM Y σ) (f_X11_stops_L39 n v1 v2 v3 v4 v5 σ) := by
  intro n
  induction n with
  | zero =>
    intro v1 v2 v3 v4 v5 σ
    rw [f_X11_stops_L39]; exact G.none
  | succ n ih =>
    intro v1 v2 v3 v4 v5 σ
    rw [f_X11_stops_L39]
    refine q_iload C 5 dX11_stops_39 rfl ?_
    refine q_iconst C (v := 1) dX11_stops_41 (by decide) ?_
    refine q_aload_n C 0 dX11_stops_42 rfl ?_
    refine gf_X11_9 C skM_0 dX11_stops_43 ?_
    refine q_iconst C (v := 2) dX11_stops_46 (by decide) ?_
    refine q_aldK C (j := 2) saM_1 (ltMa saM_1) (by decide +kernel) (by decide +kernel) dX11_stops_47 ?_
    refine q_ishl C dX11_stops_48 ?_
    refine q_icmp_ge C 118 dX11_stops_49 rfl (fun _ => ?_) (fun _ => ?_)
    · refine q_iload C 4 dX11_stops_118 rfl ?_
      refine q_if_ge C 133 dX11_stops_120 rfl (fun _ => ?_) (fun _ => ?_)
      · refine q_iload C 4 dX11_stops_133 rfl ?_
        exact q_ireti C rfl dX11_stops_135
      refine q_aload_n C 0 dX11_stops_123 rfl ?_
      refine q_ldcw C (v := (-1000000002)) (TB_of (List.mem_of_getElem? (i := 1413) (by decide +kernel)) rfl) dX11_stops_124 ?_
      refine q_cVI C lk_X11_75 (w_X11_finding (Y := Y) (-1000000002) σ) (Nat.le_of_ble_eq_true rfl) rfl skM_0 (ltM skM_0 rfl) recv_11 (rest := []) rfl rfl (Nat.le_of_ble_eq_true rfl) dX11_stops_127 (fun r8 => ?_)
      refine q_goto C 135 dX11_stops_130 rfl ?_
      exact q_ireti C rfl dX11_stops_135
    refine q_iload C 4 dX11_stops_52 rfl ?_
    refine q_if_lt C 70 dX11_stops_54 rfl (fun _ => ?_) (fun _ => ?_)
    · refine q_aload_n C 0 dX11_stops_70 rfl ?_
      refine q_iload C 5 dX11_stops_71 rfl ?_
      refine q_cVI C lk_X11_269 (w_X11_isMoreStopped (Y := Y) v5 σ) (Nat.le_of_ble_eq_true rfl) rfl skM_0 (ltM skM_0 rfl) recv_11 (rest := []) rfl rfl (Nat.le_of_ble_eq_true rfl) dX11_stops_73 (fun r9 => ?_)
      refine q_if_eq C 83 dX11_stops_76 rfl (fun _ => ?_) (fun _ => ?_)
      · refine q_iconst C (v := 0) dX11_stops_83 (by decide) ?_
        exact w_X11_stops_L84 C (rf39 := (f_X11_stops_L39 n)) ih v1 v2 v3 v4 v5 0 r9.2
      refine q_iconst C (v := 1) dX11_stops_79 (by decide) ?_
      refine q_goto C 84 dX11_stops_80 rfl ?_
      exact w_X11_stops_L84 C (rf39 := (f_X11_stops_L39 n)) ih v1 v2 v3 v4 v5 1 r9.2
    refine q_iload C 5 dX11_stops_57 rfl ?_
    refine q_cSI C lk_X11_266 (w_X11_bits (Y := Y) v5 σ) (Nat.le_of_ble_eq_true rfl) rfl (rest := []) rfl rfl (Nat.le_of_ble_eq_true rfl) dX11_stops_59 (fun r10 => ?_)
    refine q_iload C 4 dX11_stops_62 rfl ?_
    refine q_cSI C lk_X11_266 (w_X11_bits (Y := Y) v4 r10.2) (Nat.le_of_ble_eq_true rfl) rfl (rest := [.int r10.1]) rfl rfl (Nat.le_of_ble_eq_true rfl) dX11_stops_64 (fun r11 => ?_)
    refine q_icmp_ge C 83 dX11_stops_67 rfl (fun _ => ?_) (fun _ => ?_)
    · refine q_iconst C (v := 0) dX11_stops_83 (by decide) ?_
      exact w_X11_stops_L84 C (rf39 := (f_X11_stops_L39 n)) ih v1 v2 v3 v4 v5 0 r11.2
    refine q_aload_n C 0 dX11_stops_70 rfl ?_
    refine q_iload C 5 dX11_stops_71 rfl ?_
    refine q_cVI C lk_X11_269 (w_X11_isMoreStopped (Y := Y) v5 r11.2) (Nat.le_of_ble_eq_true rfl) rfl skM_0 (ltM skM_0 rfl) recv_11 (rest := []) rfl rfl (Nat.le_of_ble_eq_true rfl) dX11_stops_73 (fun r12 => ?_)
    refine q_if_eq C 83 dX11_stops_76 rfl (fun _ => ?_) (fun _ => ?_)
    · refine q_iconst C (v := 0) dX11_stops_83 (by decide) ?_
      exact w_X11_stops_L84 C (rf39 := (f_X11_stops_L39 n)) ih v1 v2 v3 v4 v5 0 r12.2
    refine q_iconst C (v := 1) dX11_stops_79 (by decide) ?_
    refine q_goto C 84 dX11_stops_80 rfl ?_
    exact w_X11_stops_L84 C (rf39 := (f_X11_stops_L39 n)) ih v1 v2 v3 v4 v5 1 r12.2
def f_X11_stops (a1 : Int32) (a2 : Int32) (a3 : Int32) (σ : St) : Option (Int32 × St) := (Option.bind (f_X11_isOne a1 σ) fun r1 => (if r1.1 = 0 then (Option.bind (f_X11_finding (-1000000001) r1.2) fun r2 => (some (r2.1, r2.2))) else (Option.bind (f_X11_isSaying a2 r1.2) fun r3 => (if r3.1 = 0 then (Option.bind (f_X11_finding (-1000000001) r3.2) fun r4 => (some (r4.1, r4.2))) else (Option.bind (f_X11_within a3 0 10 r3.2) fun r5 => (if r5.1 = 0 then (Option.bind (f_X11_finding (-1000000001) r5.2) fun r6 => (some (r6.1, r6.2))) else (f_X11_stops_L39 400 a1 a2 a3 (-1) 0 r5.2)))))))
theorem w_X11_stops {Y : YT} (a1 : Int32) (a2 : Int32) (a3 : Int32)   (σ : St) : CtE (emI FM Y) FM Y yX11_stops cX11_stops 7 (some .int) 9 [Rf Y 0, .int a1, .int a2, .int a3] σ (f_X11_stops a1 a2 a3 σ) := by
  refine Ct.ofG (by decide) (Nat.le_of_ble_eq_true rfl) (fun X C0 => ?_)
  have C : Cx FM Y X cX11_stops 7 RX11 (some .int) 9 (0, 0) := C0
  show G FM Y X 7 (emI FM Y) (0, 0) (0, 0) 0 [(0, Rf Y 0), (1, .int a1), (2, .int a2), (3, .int a3)] [] (RepS FM Y σ) (f_X11_stops a1 a2 a3 σ)
  rw [f_X11_stops]
  refine q_aload_n C 0 dX11_stops_0 rfl ?_
  refine q_iload_n C 1 dX11_stops_1 rfl ?_
  refine q_cVI C lk_X11_228 (w_X11_isOne (Y := Y) a1 σ) (Nat.le_of_ble_eq_true rfl) rfl skM_0 (ltM skM_0 rfl) recv_11 (rest := []) rfl rfl (Nat.le_of_ble_eq_true rfl) dX11_stops_2 (fun r1 => ?_)
  refine q_if_eq C 26 dX11_stops_5 rfl (fun _ => ?_) (fun _ => ?_)
  · refine q_aload_n C 0 dX11_stops_26 rfl ?_
    refine q_ldc C (v := (-1000000001)) (TB_of (List.mem_of_getElem? (i := 1119) (by decide +kernel)) rfl) dX11_stops_27 ?_
    refine q_cVI C lk_X11_75 (w_X11_finding (Y := Y) (-1000000001) r1.2) (Nat.le_of_ble_eq_true rfl) rfl skM_0 (ltM skM_0 rfl) recv_11 (rest := []) rfl rfl (Nat.le_of_ble_eq_true rfl) dX11_stops_29 (fun r2 => ?_)
    exact q_ireti C rfl dX11_stops_32
  refine q_aload_n C 0 dX11_stops_8 rfl ?_
  refine q_iload_n C 2 dX11_stops_9 rfl ?_
  refine q_cVI C lk_X11_215 (w_X11_isSaying (Y := Y) a2 r1.2) (Nat.le_of_ble_eq_true rfl) rfl skM_0 (ltM skM_0 rfl) recv_11 (rest := []) rfl rfl (Nat.le_of_ble_eq_true rfl) dX11_stops_10 (fun r3 => ?_)
  refine q_if_eq C 26 dX11_stops_13 rfl (fun _ => ?_) (fun _ => ?_)
  · refine q_aload_n C 0 dX11_stops_26 rfl ?_
    refine q_ldc C (v := (-1000000001)) (TB_of (List.mem_of_getElem? (i := 1119) (by decide +kernel)) rfl) dX11_stops_27 ?_
    refine q_cVI C lk_X11_75 (w_X11_finding (Y := Y) (-1000000001) r3.2) (Nat.le_of_ble_eq_true rfl) rfl skM_0 (ltM skM_0 rfl) recv_11 (rest := []) rfl rfl (Nat.le_of_ble_eq_true rfl) dX11_stops_29 (fun r4 => ?_)
    exact q_ireti C rfl dX11_stops_32
  refine q_iload_n C 3 dX11_stops_16 rfl ?_
  refine q_iconst C (v := 0) dX11_stops_17 (by decide) ?_
  refine q_bipush C (v := 10) dX11_stops_18 (by decide) ?_
  refine q_cSI C lk_X11_70 (w_X11_within (Y := Y) a3 0 10 r3.2) (Nat.le_of_ble_eq_true rfl) rfl (rest := []) rfl rfl (Nat.le_of_ble_eq_true rfl) dX11_stops_20 (fun r5 => ?_)
  refine q_if_ne C 33 dX11_stops_23 rfl (fun _ => ?_) (fun _ => ?_)
  · refine q_iconst C (v := (-1)) dX11_stops_33 (by decide) ?_
    refine q_istore C [(4, .int (-1)), (0, Rf Y 0), (1, .int a1), (2, .int a2), (3, .int a3)] dX11_stops_34 rfl rfl ?_
    refine q_iconst C (v := 0) dX11_stops_36 (by decide) ?_
    refine q_istore C [(5, .int 0), (4, .int (-1)), (0, Rf Y 0), (1, .int a1), (2, .int a2), (3, .int a3)] dX11_stops_37 rfl rfl ?_
    refine G.sub [2, 3, 4, 5, 1, 0] (lv' := [(0, Rf Y 0), (1, .int a1), (2, .int a2), (3, .int a3), (4, .int (-1)), (5, .int 0)]) rfl ?_
    exact w_X11_stops_L39 C 400 a1 a2 a3 (-1) 0 r5.2
  refine q_aload_n C 0 dX11_stops_26 rfl ?_
  refine q_ldc C (v := (-1000000001)) (TB_of (List.mem_of_getElem? (i := 1119) (by decide +kernel)) rfl) dX11_stops_27 ?_
  refine q_cVI C lk_X11_75 (w_X11_finding (Y := Y) (-1000000001) r5.2) (Nat.le_of_ble_eq_true rfl) rfl skM_0 (ltM skM_0 rfl) recv_11 (rest := []) rfl rfl (Nat.le_of_ble_eq_true rfl) dX11_stops_29 (fun r6 => ?_)
  exact q_ireti C rfl dX11_stops_32
def f_X11_tellsNobody (a1 : Int32) (σ : St) : Option (Int32 × St) := (if inb a1 (shM 10 - 100) = true then (if (σ 10 a1.toNatClampNeg) = 0 then (some (1, σ)) else (if inb a1 (shM 11 - 100) = true then (if (σ 11 a1.toNatClampNeg) = (σ 1 4) then (some (0, σ)) else (some (1, σ))) else none)) else none)
theorem w_X11_tellsNobody {Y : YT} (a1 : Int32)   (σ : St) : CtE (emI FM Y) FM Y yX11_tellsNobody cX11_tellsNobody 2 (some .boolean) 0 [Rf Y 0, .int a1] σ (f_X11_tellsNobody a1 σ) := by
  refine Ct.ofG (by decide) (Nat.le_of_ble_eq_true rfl) (fun X C0 => ?_)
  have C : Cx FM Y X cX11_tellsNobody 2 RX11 (some .boolean) 0 (0, 0) := C0
  show G FM Y X 2 (emI FM Y) (0, 0) (0, 0) 0 [(0, Rf Y 0), (1, .int a1)] [] (RepS FM Y σ) (f_X11_tellsNobody a1 σ)
  rw [f_X11_tellsNobody]
  refine q_aload_n C 0 dX11_tellsNobody_0 rfl ?_
  refine gf_X11_44 C skM_0 dX11_tellsNobody_1 ?_
  refine q_iload_n C 1 dX11_tellsNobody_4 rfl ?_
  refine q_aldS C saM_10 (ltMa saM_10) dX11_tellsNobody_5 (fun _ => ?_)
  refine q_if_eq C 24 dX11_tellsNobody_6 rfl (fun _ => ?_) (fun _ => ?_)
  · refine q_iconst C (v := 1) dX11_tellsNobody_24 (by decide) ?_
    refine q_goto C 29 dX11_tellsNobody_25 rfl ?_
    exact q_iretz C (by decide) rfl dX11_tellsNobody_29
  refine q_aload_n C 0 dX11_tellsNobody_9 rfl ?_
  refine gf_X11_47 C skM_0 dX11_tellsNobody_10 ?_
  refine q_iload_n C 1 dX11_tellsNobody_13 rfl ?_
  refine q_aldS C saM_11 (ltMa saM_11) dX11_tellsNobody_14 (fun _ => ?_)
  refine q_aload_n C 0 dX11_tellsNobody_15 rfl ?_
  refine gf_X11_9 C skM_0 dX11_tellsNobody_16 ?_
  refine q_iconst C (v := 4) dX11_tellsNobody_19 (by decide) ?_
  refine q_aldK C (j := 4) saM_1 (ltMa saM_1) (by decide +kernel) (by decide +kernel) dX11_tellsNobody_20 ?_
  refine q_icmp_eq C 28 dX11_tellsNobody_21 rfl (fun _ => ?_) (fun _ => ?_)
  · refine q_iconst C (v := 0) dX11_tellsNobody_28 (by decide) ?_
    exact q_iretz C (by decide) rfl dX11_tellsNobody_29
  refine q_iconst C (v := 1) dX11_tellsNobody_24 (by decide) ?_
  refine q_goto C 29 dX11_tellsNobody_25 rfl ?_
  exact q_iretz C (by decide) rfl dX11_tellsNobody_29
def f_X11_isTold_L5 : Nat → Int32 → Int32 → Int32 → Int32 → St → Option (Int32 × St)
  | 0, _, _, _, _, _ => none
  | n + 1, v1, v2, v3, v4, σ => (if (σ 1 4) ≤ v4 then (if v3 = 0 ∨ v3 = 1 then (some (v3, σ)) else none) else (if inb ((40 * v1) + v4) (shM 12 - 100) = true then (if v3 = 0 then ((f_X11_isTold_L5 n) v1 v2 0 (v4 + 1) σ) else (if (σ 12 ((40 * v1) + v4).toNatClampNeg) < 0 then ((f_X11_isTold_L5 n) v1 v2 1 (v4 + 1) σ) else (if (σ 12 ((40 * v1) + v4).toNatClampNeg) = ((v2 >>> (v4 &&& 31)) &&& 1) then ((f_X11_isTold_L5 n) v1 v2 1 (v4 + 1) σ) else ((f_X11_isTold_L5 n) v1 v2 0 (v4 + 1) σ)))) else none))
theorem w_X11_isTold_L5 {Y : YT} {X : XT} (C : Cx FM Y X cX11_isTold 6 RX11 (some .boolean) 0 (0, 0)) : ∀ (n : Nat), ∀ (v1 : Int32), ∀ (v2 : Int32), ∀ (v3 : Int32), ∀ (v4 : Int32), ∀ (σ : St), G FM Y X 6 (emI FM Y) (0, 0) (0, 0) 5 [(0, Rf Y 0), (1, .int v1), (2, .int v2), (3, .int v3), (4, .int v4)] [] (RepS FM Y σ) (f_X11_isTold_L5 n v1 v2 v3 v4 σ) := by
  intro n
  induction n with
  | zero =>
    intro v1 v2 v3 v4 σ
    rw [f_X11_isTold_L5]; exact G.none
  | succ n ih =>
    intro v1 v2 v3 v4 σ
    rw [f_X11_isTold_L5]
    refine q_iload C 4 dX11_isTold_5 rfl ?_
    refine q_aload_n C 0 dX11_isTold_7 rfl ?_
    refine gf_X11_9 C skM_0 dX11_isTold_8 ?_
    refine q_iconst C (v := 4) dX11_isTold_11 (by decide) ?_
    refine q_aldK C (j := 4) saM_1 (ltMa saM_1) (by decide +kernel) (by decide +kernel) dX11_isTold_12 ?_
    refine q_icmp_ge C 62 dX11_isTold_13 rfl (fun _ => ?_) (fun _ => ?_)
    · refine q_iload_n C 3 dX11_isTold_62 rfl ?_
      exact G.ite (fun h => q_iretz C h rfl dX11_isTold_63) (fun _ => G.none)
    refine q_aload_n C 0 dX11_isTold_16 rfl ?_
    refine gf_X11_50 C skM_0 dX11_isTold_17 ?_
    refine q_bipush C (v := 40) dX11_isTold_20 (by decide) ?_
    refine q_iload_n C 1 dX11_isTold_22 rfl ?_
    refine q_imul C dX11_isTold_23 ?_
    refine q_iload C 4 dX11_isTold_24 rfl ?_
    refine q_iadd C dX11_isTold_26 ?_
    refine q_aldS C saM_12 (ltMa saM_12) dX11_isTold_27 (fun _ => ?_)
    refine q_istore C [(5, .int (σ 12 ((40 * v1) + v4).toNatClampNeg)), (0, Rf Y 0), (1, .int v1), (2, .int v2), (3, .int v3), (4, .int v4)] dX11_isTold_28 rfl rfl ?_
    refine q_iload_n C 4 dX11_isTold_30 rfl ?_
    refine q_if_eq C 54 dX11_isTold_31 rfl (fun _ => ?_) (fun _ => ?_)
    · refine q_iconst C (v := 0) dX11_isTold_54 (by decide) ?_
      refine q_istore_n C [(3, .int 0), (5, .int (σ 12 ((40 * v1) + v4).toNatClampNeg)), (0, Rf Y 0), (1, .int v1), (2, .int v2), (4, .int v4)] dX11_isTold_55 rfl rfl ?_
      refine q_iinc C 5 [(4, .int (v4 + 1)), (3, .int 0), (5, .int (σ 12 ((40 * v1) + v4).toNatClampNeg)), (0, Rf Y 0), (1, .int v1), (2, .int v2)] dX11_isTold_56 rfl rfl rfl rfl ?_
      refine q_goto C 5 dX11_isTold_59 rfl ?_
      refine G.sub [3, 4, 5, 1, 0] (lv' := [(0, Rf Y 0), (1, .int v1), (2, .int v2), (3, .int 0), (4, .int (v4 + 1))]) rfl ?_
      exact ih v1 v2 0 (v4 + 1) σ
    refine q_iload C 0 dX11_isTold_34 rfl ?_
    refine q_if_lt C 50 dX11_isTold_36 rfl (fun _ => ?_) (fun _ => ?_)
    · refine q_iconst C (v := 1) dX11_isTold_50 (by decide) ?_
      refine q_goto C 55 dX11_isTold_51 rfl ?_
      refine q_istore_n C [(3, .int 1), (5, .int (σ 12 ((40 * v1) + v4).toNatClampNeg)), (0, Rf Y 0), (1, .int v1), (2, .int v2), (4, .int v4)] dX11_isTold_55 rfl rfl ?_
      refine q_iinc C 5 [(4, .int (v4 + 1)), (3, .int 1), (5, .int (σ 12 ((40 * v1) + v4).toNatClampNeg)), (0, Rf Y 0), (1, .int v1), (2, .int v2)] dX11_isTold_56 rfl rfl rfl rfl ?_
      refine q_goto C 5 dX11_isTold_59 rfl ?_
      refine G.sub [3, 4, 5, 1, 0] (lv' := [(0, Rf Y 0), (1, .int v1), (2, .int v2), (3, .int 1), (4, .int (v4 + 1))]) rfl ?_
      exact ih v1 v2 1 (v4 + 1) σ
    refine q_iload C 0 dX11_isTold_39 rfl ?_
    refine q_iload_n C 3 dX11_isTold_41 rfl ?_
    refine q_iload C 5 dX11_isTold_42 rfl ?_
    refine q_ishr C dX11_isTold_44 ?_
    refine q_iconst C (v := 1) dX11_isTold_45 (by decide) ?_
    refine q_iand C dX11_isTold_46 ?_
    refine q_icmp_ne C 54 dX11_isTold_47 rfl (fun _ => ?_) (fun _ => ?_)
    · refine q_iconst C (v := 0) dX11_isTold_54 (by decide) ?_
      refine q_istore_n C [(3, .int 0), (5, .int (σ 12 ((40 * v1) + v4).toNatClampNeg)), (0, Rf Y 0), (1, .int v1), (2, .int v2), (4, .int v4)] dX11_isTold_55 rfl rfl ?_
      refine q_iinc C 5 [(4, .int (v4 + 1)), (3, .int 0), (5, .int (σ 12 ((40 * v1) + v4).toNatClampNeg)), (0, Rf Y 0), (1, .int v1), (2, .int v2)] dX11_isTold_56 rfl rfl rfl rfl ?_
      refine q_goto C 5 dX11_isTold_59 rfl ?_
      refine G.sub [3, 4, 5, 1, 0] (lv' := [(0, Rf Y 0), (1, .int v1), (2, .int v2), (3, .int 0), (4, .int (v4 + 1))]) rfl ?_
      exact ih v1 v2 0 (v4 + 1) σ
    refine q_iconst C (v := 1) dX11_isTold_50 (by decide) ?_
    refine q_goto C 55 dX11_isTold_51 rfl ?_
    refine q_istore_n C [(3, .int 1), (5, .int (σ 12 ((40 * v1) + v4).toNatClampNeg)), (0, Rf Y 0), (1, .int v1), (2, .int v2), (4, .int v4)] dX11_isTold_55 rfl rfl ?_
    refine q_iinc C 5 [(4, .int (v4 + 1)), (3, .int 1), (5, .int (σ 12 ((40 * v1) + v4).toNatClampNeg)), (0, Rf Y 0), (1, .int v1), (2, .int v2)] dX11_isTold_56 rfl rfl rfl rfl ?_
    refine q_goto C 5 dX11_isTold_59 rfl ?_
    refine G.sub [3, 4, 5, 1, 0] (lv' := [(0, Rf Y 0), (1, .int v1), (2, .int v2), (3, .int 1), (4, .int (v4 + 1))]) rfl ?_
    exact ih v1 v2 1 (v4 + 1) σ
def f_X11_isTold (a1 : Int32) (a2 : Int32) (σ : St) : Option (Int32 × St) := (f_X11_isTold_L5 400 a1 a2 1 0 σ)
theorem w_X11_isTold {Y : YT} (a1 : Int32) (a2 : Int32)   (σ : St) : CtE (emI FM Y) FM Y yX11_isTold cX11_isTold 6 (some .boolean) 0 [Rf Y 0, .int a1, .int a2] σ (f_X11_isTold a1 a2 σ) := by
  refine Ct.ofG (by decide) (Nat.le_of_ble_eq_true rfl) (fun X C0 => ?_)
  have C : Cx FM Y X cX11_isTold 6 RX11 (some .boolean) 0 (0, 0) := C0
  show G FM Y X 6 (emI FM Y) (0, 0) (0, 0) 0 [(0, Rf Y 0), (1, .int a1), (2, .int a2)] [] (RepS FM Y σ) (f_X11_isTold a1 a2 σ)
  rw [f_X11_isTold]
  refine q_iconst C (v := 1) dX11_isTold_0 (by decide) ?_
  refine q_istore_n C [(3, .int 1), (0, Rf Y 0), (1, .int a1), (2, .int a2)] dX11_isTold_1 rfl rfl ?_
  refine q_iconst C (v := 0) dX11_isTold_2 (by decide) ?_
  refine q_istore C [(4, .int 0), (3, .int 1), (0, Rf Y 0), (1, .int a1), (2, .int a2)] dX11_isTold_3 rfl rfl ?_
  refine G.sub [2, 3, 4, 1, 0] (lv' := [(0, Rf Y 0), (1, .int a1), (2, .int a2), (3, .int 1), (4, .int 0)]) rfl ?_
  exact w_X11_isTold_L5 C 400 a1 a2 1 0 σ
def f_X11_isSheet (a1 : Int32) (σ : St) : Option (Int32 × St) := (Option.bind (f_X11_within a1 0 3 σ) fun r1 => (if r1.1 = 0 ∨ r1.1 = 1 then (some (r1.1, r1.2)) else none))
theorem w_X11_isSheet {Y : YT} (a1 : Int32)   (σ : St) : CtE (emI FM Y) FM Y yX11_isSheet cX11_isSheet 1 (some .boolean) 1 [.int a1] σ (f_X11_isSheet a1 σ) := by
  refine Ct.ofG (by decide) (Nat.le_of_ble_eq_true rfl) (fun X C0 => ?_)
  have C : Cx FM Y X cX11_isSheet 1 RX11 (some .boolean) 1 (0, 0) := C0
  show G FM Y X 1 (emI FM Y) (0, 0) (0, 0) 0 [(0, .int a1)] [] (RepS FM Y σ) (f_X11_isSheet a1 σ)
  rw [f_X11_isSheet]
  refine q_iload_n C 0 dX11_isSheet_0 rfl ?_
  refine q_iconst C (v := 0) dX11_isSheet_1 (by decide) ?_
  refine q_iconst C (v := 3) dX11_isSheet_2 (by decide) ?_
  refine q_cSI C lk_X11_70 (w_X11_within (Y := Y) a1 0 3 σ) (Nat.le_of_ble_eq_true rfl) rfl (rest := []) rfl rfl (Nat.le_of_ble_eq_true rfl) dX11_isSheet_3 (fun r1 => ?_)
  exact G.ite (fun h => q_iretz C h rfl dX11_isSheet_6) (fun _ => G.none)
theorem lk_X11_276 : LkS RX11 276 yX11_isSheet cX11_isSheet 1 (some .boolean) 1 := ⟨TB_p [1445, 1446, 81, 1447] (by decide +kernel) (by decide +kernel), by decide +kernel, by decide +kernel, by decide +kernel⟩
theorem lk_X11_279 : LkV RX11 279 yX11_tellsNobody cX11_tellsNobody 2 (some .boolean) 1 := ⟨TB_p [1448, 1450, 57, 81, 1451] (by decide +kernel) (by decide +kernel), by decide +kernel, by decide +kernel, by decide +kernel⟩
theorem lk_X11_282 : LkV RX11 282 yX11_isTold cX11_isTold 6 (some .boolean) 2 := ⟨TB_p [1452, 1454, 58, 81, 1455] (by decide +kernel) (by decide +kernel), by decide +kernel, by decide +kernel, by decide +kernel⟩
def f_X11_who_L58 : Nat → Int32 → Int32 → Int32 → St → Option (Int32 × St)
  | 0, _, _, _, _ => none
  | n + 1, v1, v3, v4, σ => (if (σ 1 3) ≤ v4 then (Option.bind (f_X11_putBack v3 σ) fun r10 => (some (r10.1, r10.2))) else (Option.bind (f_X11_knowers v4 σ) fun r11 => (Option.bind (f_X11_isTold v1 r11.1 r11.2) fun r12 => (if r12.1 = 0 then ((f_X11_who_L58 n) v1 (v3 ||| 0) (v4 + 1) r12.2) else ((f_X11_who_L58 n) v1 (v3 ||| (1 <<< (v4 &&& 31))) (v4 + 1) r12.2)))))
theorem w_X11_who_L58 {Y : YT} {X : XT} (C : Cx FM Y X cX11_who 5 RX11 (some .int) 7 (0, 0)) : ∀ (n : Nat), ∀ (v1 : Int32), ∀ (v3 : Int32), ∀ (v4 : Int32), ∀ (σ : St), G FM Y X 5 (emI FM Y) (0, 0) (0, 0) 58 [(0, Rf Y 0), (1, .int v1), (3, .int v3), (4, .int v4)] [] (RepS FM Y σ) (f_X11_who_L58 n v1 v3 v4 σ) := by
  intro n
  induction n with
  | zero =>
    intro v1 v3 v4 σ
    rw [f_X11_who_L58]; exact G.none
  | succ n ih =>
    intro v1 v3 v4 σ
    rw [f_X11_who_L58]
    refine q_iload C 3 dX11_who_58 rfl ?_
    refine q_aload_n C 0 dX11_who_60 rfl ?_
    refine gf_X11_9 C skM_0 dX11_who_61 ?_
    refine q_iconst C (v := 3) dX11_who_64 (by decide) ?_
    refine q_aldK C (j := 3) saM_1 (ltMa saM_1) (by decide +kernel) (by decide +kernel) dX11_who_65 ?_
    refine q_icmp_ge C 100 dX11_who_66 rfl (fun _ => ?_) (fun _ => ?_)
    · refine q_aload_n C 0 dX11_who_100 rfl ?_
      refine q_iload_n C 2 dX11_who_101 rfl ?_
      refine q_cVI C lk_X11_253 (w_X11_putBack (Y := Y) v3 σ) (Nat.le_of_ble_eq_true rfl) rfl skM_0 (ltM skM_0 rfl) recv_11 (rest := []) rfl rfl (Nat.le_of_ble_eq_true rfl) dX11_who_102 (fun r10 => ?_)
      exact q_ireti C rfl dX11_who_105
    refine q_iload_n C 2 dX11_who_69 rfl ?_
    refine q_aload_n C 0 dX11_who_70 rfl ?_
    refine q_iload_n C 1 dX11_who_71 rfl ?_
    refine q_aload_n C 0 dX11_who_72 rfl ?_
    refine q_iload C 3 dX11_who_73 rfl ?_
    refine q_cVI C lk_X11_209 (w_X11_knowers (Y := Y) v4 σ) (Nat.le_of_ble_eq_true rfl) rfl skM_0 (ltM skM_0 rfl) recv_11 (rest := [.int v1, Rf Y 0, .int v3]) rfl rfl (Nat.le_of_ble_eq_true rfl) dX11_who_75 (fun r11 => ?_)
    refine q_cVI C lk_X11_282 (w_X11_isTold (Y := Y) v1 r11.1 r11.2) (Nat.le_of_ble_eq_true rfl) rfl skM_0 (ltM skM_0 rfl) recv_11 (rest := [.int v3]) rfl rfl (Nat.le_of_ble_eq_true rfl) dX11_who_78 (fun r12 => ?_)
    refine q_if_eq C 91 dX11_who_81 rfl (fun _ => ?_) (fun _ => ?_)
    · refine q_iconst C (v := 0) dX11_who_91 (by decide) ?_
      refine q_ior C dX11_who_92 ?_
      refine q_istore_n C [(3, .int (v3 ||| 0)), (0, Rf Y 0), (1, .int v1), (4, .int v4)] dX11_who_93 rfl rfl ?_
      refine q_iinc C 3 [(4, .int (v4 + 1)), (3, .int (v3 ||| 0)), (0, Rf Y 0), (1, .int v1)] dX11_who_94 rfl rfl rfl rfl ?_
      refine q_goto C 58 dX11_who_97 rfl ?_
      refine G.sub [2, 3, 1, 0] (lv' := [(0, Rf Y 0), (1, .int v1), (3, .int (v3 ||| 0)), (4, .int (v4 + 1))]) rfl ?_
      exact ih v1 (v3 ||| 0) (v4 + 1) r12.2
    refine q_iconst C (v := 1) dX11_who_84 (by decide) ?_
    refine q_iload C 3 dX11_who_85 rfl ?_
    refine q_ishl C dX11_who_87 ?_
    refine q_goto C 92 dX11_who_88 rfl ?_
    refine q_ior C dX11_who_92 ?_
    refine q_istore_n C [(3, .int (v3 ||| (1 <<< (v4 &&& 31)))), (0, Rf Y 0), (1, .int v1), (4, .int v4)] dX11_who_93 rfl rfl ?_
    refine q_iinc C 3 [(4, .int (v4 + 1)), (3, .int (v3 ||| (1 <<< (v4 &&& 31)))), (0, Rf Y 0), (1, .int v1)] dX11_who_94 rfl rfl rfl rfl ?_
    refine q_goto C 58 dX11_who_97 rfl ?_
    refine G.sub [2, 3, 1, 0] (lv' := [(0, Rf Y 0), (1, .int v1), (3, .int (v3 ||| (1 <<< (v4 &&& 31)))), (4, .int (v4 + 1))]) rfl ?_
    exact ih v1 (v3 ||| (1 <<< (v4 &&& 31))) (v4 + 1) r12.2
def f_X11_who (a1 : Int32) (a2 : Int32) (σ : St) : Option (Int32 × St) := (Option.bind (f_X11_isSheet a1 σ) fun r1 => (if r1.1 = 0 then (Option.bind (f_X11_finding (-1000000001) r1.2) fun r2 => (some (r2.1, r2.2))) else (Option.bind (f_X11_isBehind a2 r1.2) fun r3 => (if r3.1 = 0 then (Option.bind (f_X11_finding (-1000000001) r3.2) fun r8 => (some (r8.1, r8.2))) else (Option.bind (f_X11_tellsNobody a1 r3.2) fun r4 => (if r4.1 = 0 then (Option.bind (f_X11_copy 1 3 r4.2) fun r5 => (Option.bind (f_X11_hoursGo a2 r5) fun r6 => (f_X11_who_L58 400 a1 0 0 r6))) else (Option.bind (f_X11_finding (-1000000002) r4.2) fun r7 => (some (r7.1, r7.2)))))))))
theorem w_X11_who {Y : YT} (a1 : Int32) (a2 : Int32)   (σ : St) : CtE (emI FM Y) FM Y yX11_who cX11_who 5 (some .int) 7 [Rf Y 0, .int a1, .int a2] σ (f_X11_who a1 a2 σ) := by
  refine Ct.ofG (by decide) (Nat.le_of_ble_eq_true rfl) (fun X C0 => ?_)
  have C : Cx FM Y X cX11_who 5 RX11 (some .int) 7 (0, 0) := C0
  show G FM Y X 5 (emI FM Y) (0, 0) (0, 0) 0 [(0, Rf Y 0), (1, .int a1), (2, .int a2)] [] (RepS FM Y σ) (f_X11_who a1 a2 σ)
  rw [f_X11_who]
  refine q_iload_n C 1 dX11_who_0 rfl ?_
  refine q_cSI C lk_X11_276 (w_X11_isSheet (Y := Y) a1 σ) (Nat.le_of_ble_eq_true rfl) rfl (rest := []) rfl rfl (Nat.le_of_ble_eq_true rfl) dX11_who_1 (fun r1 => ?_)
  refine q_if_eq C 14 dX11_who_4 rfl (fun _ => ?_) (fun _ => ?_)
  · refine q_aload_n C 0 dX11_who_14 rfl ?_
    refine q_ldc C (v := (-1000000001)) (TB_of (List.mem_of_getElem? (i := 1119) (by decide +kernel)) rfl) dX11_who_15 ?_
    refine q_cVI C lk_X11_75 (w_X11_finding (Y := Y) (-1000000001) r1.2) (Nat.le_of_ble_eq_true rfl) rfl skM_0 (ltM skM_0 rfl) recv_11 (rest := []) rfl rfl (Nat.le_of_ble_eq_true rfl) dX11_who_17 (fun r2 => ?_)
    exact q_ireti C rfl dX11_who_20
  refine q_iload_n C 2 dX11_who_7 rfl ?_
  refine q_cSI C lk_X11_250 (w_X11_isBehind (Y := Y) a2 r1.2) (Nat.le_of_ble_eq_true rfl) rfl (rest := []) rfl rfl (Nat.le_of_ble_eq_true rfl) dX11_who_8 (fun r3 => ?_)
  refine q_if_ne C 21 dX11_who_11 rfl (fun _ => ?_) (fun _ => ?_)
  · refine q_aload_n C 0 dX11_who_21 rfl ?_
    refine q_iload_n C 1 dX11_who_22 rfl ?_
    refine q_cVI C lk_X11_279 (w_X11_tellsNobody (Y := Y) a1 r3.2) (Nat.le_of_ble_eq_true rfl) rfl skM_0 (ltM skM_0 rfl) recv_11 (rest := []) rfl rfl (Nat.le_of_ble_eq_true rfl) dX11_who_23 (fun r4 => ?_)
    refine q_if_eq C 37 dX11_who_26 rfl (fun _ => ?_) (fun _ => ?_)
    · refine q_aload_n C 0 dX11_who_37 rfl ?_
      refine gf_X11_9 C skM_0 dX11_who_38 ?_
      refine q_aload_n C 0 dX11_who_41 rfl ?_
      refine gf_X11_16 C skM_0 dX11_who_42 ?_
      refine q_cSV C lk_X11_66 (w_X11_copy (Y := Y) 1 3 saM_1 saM_3 r4.2) (Nat.le_of_ble_eq_true rfl) rfl (rest := []) rfl rfl (Nat.le_of_ble_eq_true rfl) dX11_who_45 (fun r5 => ?_)
      refine q_aload_n C 0 dX11_who_48 rfl ?_
      refine q_iload_n C 2 dX11_who_49 rfl ?_
      refine q_cVV C lk_X11_240 (w_X11_hoursGo (Y := Y) a2 r5) (Nat.le_of_ble_eq_true rfl) rfl skM_0 (ltM skM_0 rfl) recv_11 (rest := []) rfl rfl (Nat.le_of_ble_eq_true rfl) dX11_who_50 (fun r6 => ?_)
      refine q_iconst C (v := 0) dX11_who_53 (by decide) ?_
      refine q_istore_n C [(3, .int 0), (0, Rf Y 0), (1, .int a1), (2, .int a2)] dX11_who_54 rfl rfl ?_
      refine q_iconst C (v := 0) dX11_who_55 (by decide) ?_
      refine q_istore C [(4, .int 0), (3, .int 0), (0, Rf Y 0), (1, .int a1), (2, .int a2)] dX11_who_56 rfl rfl ?_
      refine G.sub [2, 3, 1, 0] (lv' := [(0, Rf Y 0), (1, .int a1), (3, .int 0), (4, .int 0)]) rfl ?_
      exact w_X11_who_L58 C 400 a1 0 0 r6
    refine q_aload_n C 0 dX11_who_29 rfl ?_
    refine q_ldcw C (v := (-1000000002)) (TB_of (List.mem_of_getElem? (i := 1413) (by decide +kernel)) rfl) dX11_who_30 ?_
    refine q_cVI C lk_X11_75 (w_X11_finding (Y := Y) (-1000000002) r4.2) (Nat.le_of_ble_eq_true rfl) rfl skM_0 (ltM skM_0 rfl) recv_11 (rest := []) rfl rfl (Nat.le_of_ble_eq_true rfl) dX11_who_33 (fun r7 => ?_)
    exact q_ireti C rfl dX11_who_36
  refine q_aload_n C 0 dX11_who_14 rfl ?_
  refine q_ldc C (v := (-1000000001)) (TB_of (List.mem_of_getElem? (i := 1119) (by decide +kernel)) rfl) dX11_who_15 ?_
  refine q_cVI C lk_X11_75 (w_X11_finding (Y := Y) (-1000000001) r3.2) (Nat.le_of_ble_eq_true rfl) rfl skM_0 (ltM skM_0 rfl) recv_11 (rest := []) rfl rfl (Nat.le_of_ble_eq_true rfl) dX11_who_17 (fun r8 => ?_)
  exact q_ireti C rfl dX11_who_20
def f_X11_loud_L79 : Nat → Int32 → Int32 → Int32 → Int32 → Int32 → Int32 → Int32 → St → Option (Int32 × St)
  | 0, _, _, _, _, _, _, _, _ => none
  | n + 1, v1, v2, v3, v4, v5, v6, v7, σ => (if v7 < 0 then (if v4 = 0 then (some (v5, σ)) else (if 0 ≤ v6 then (some (v6, σ)) else (Option.bind (f_X11_finding (-1000000002) σ) fun r12 => (some (r12.1, r12.2))))) else (Option.bind (f_X11_sayingAt v2 3 σ) fun r13 => (if inb r13.1 (shM 1 - 100) = true then (Bst (up r13.2 1 r13.1.toNatClampNeg v7) fun s14 => (Option.bind (f_X11_knowersBehind v2 v3 s14) fun r15 => (Option.bind (f_X11_isTold v1 r15.1 r15.2) fun r16 => (if r16.1 = 0 then (if r16.1 = 0 then ((f_X11_loud_L79 n) v1 v2 v3 v4 (v5 + 0) v6 (v7 + (-1)) r16.2) else ((f_X11_loud_L79 n) v1 v2 v3 v4 (v5 + 0) v7 (v7 + (-1)) r16.2)) else (if r16.1 = 0 then ((f_X11_loud_L79 n) v1 v2 v3 v4 (v5 + 1) v6 (v7 + (-1)) r16.2) else ((f_X11_loud_L79 n) v1 v2 v3 v4 (v5 + 1) v7 (v7 + (-1)) r16.2)))))) else none)))
theorem w_X11_loud_L79 {Y : YT} {X : XT} (C : Cx FM Y X cX11_loud 9 RX11 (some .int) 8 (0, 0)) : ∀ (n : Nat), ∀ (v1 : Int32), ∀ (v2 : Int32), ∀ (v3 : Int32), ∀ (v4 : Int32), ∀ (v5 : Int32), ∀ (v6 : Int32), ∀ (v7 : Int32), ∀ (σ : St), G FM Y X 9 (emI FM Y) (0, 0) (0, 0) 79 [(0, Rf Y 0), (1, .int v1), (2, .int v2), (3, .int v3), (4, .int v4), (5, .int v5), (6, .int v6), (7, .int v7)] [] (RepS FM Y σ) (f_X11_loud_L79 n v1 v2 v3 v4 v5 v6 v7 σ) := by
  intro n
  induction n with
  | zero =>
    intro v1 v2 v3 v4 v5 v6 v7 σ
    rw [f_X11_loud_L79]; exact G.none
  | succ n ih =>
    intro v1 v2 v3 v4 v5 v6 v7 σ
    rw [f_X11_loud_L79]
    refine q_iload C 7 dX11_loud_79 rfl ?_
    refine q_if_lt C 144 dX11_loud_81 rfl (fun _ => ?_) (fun _ => ?_)
    · refine q_iload C 4 dX11_loud_144 rfl ?_
      refine q_if_ne C 154 dX11_loud_146 rfl (fun _ => ?_) (fun _ => ?_)
      · refine q_iload C 6 dX11_loud_154 rfl ?_
        refine q_if_ge C 169 dX11_loud_156 rfl (fun _ => ?_) (fun _ => ?_)
        · refine q_iload C 6 dX11_loud_169 rfl ?_
          exact q_ireti C rfl dX11_loud_171
        refine q_aload_n C 0 dX11_loud_159 rfl ?_
        refine q_ldcw C (v := (-1000000002)) (TB_of (List.mem_of_getElem? (i := 1413) (by decide +kernel)) rfl) dX11_loud_160 ?_
        refine q_cVI C lk_X11_75 (w_X11_finding (Y := Y) (-1000000002) σ) (Nat.le_of_ble_eq_true rfl) rfl skM_0 (ltM skM_0 rfl) recv_11 (rest := []) rfl rfl (Nat.le_of_ble_eq_true rfl) dX11_loud_163 (fun r12 => ?_)
        refine q_goto C 171 dX11_loud_166 rfl ?_
        exact q_ireti C rfl dX11_loud_171
      refine q_iload C 5 dX11_loud_149 rfl ?_
      refine q_goto C 171 dX11_loud_151 rfl ?_
      exact q_ireti C rfl dX11_loud_171
    refine q_aload_n C 0 dX11_loud_84 rfl ?_
    refine gf_X11_9 C skM_0 dX11_loud_85 ?_
    refine q_iload_n C 2 dX11_loud_88 rfl ?_
    refine q_iconst C (v := 3) dX11_loud_89 (by decide) ?_
    refine q_cSI C lk_X11_159 (w_X11_sayingAt (Y := Y) v2 3 σ) (Nat.le_of_ble_eq_true rfl) rfl (rest := [Rf Y 1]) rfl rfl (Nat.le_of_ble_eq_true rfl) dX11_loud_90 (fun r13 => ?_)
    refine q_iload C 7 dX11_loud_93 rfl ?_
    refine q_astS C saM_1 (ltMa saM_1) dX11_loud_95 (fun _ s14 => ?_)
    refine q_aload_n C 0 dX11_loud_96 rfl ?_
    refine q_iload_n C 1 dX11_loud_97 rfl ?_
    refine q_aload_n C 0 dX11_loud_98 rfl ?_
    refine q_iload_n C 2 dX11_loud_99 rfl ?_
    refine q_iload_n C 3 dX11_loud_100 rfl ?_
    refine q_cVI C lk_X11_263 (w_X11_knowersBehind (Y := Y) v2 v3 s14) (Nat.le_of_ble_eq_true rfl) rfl skM_0 (ltM skM_0 rfl) recv_11 (rest := [.int v1, Rf Y 0]) rfl rfl (Nat.le_of_ble_eq_true rfl) dX11_loud_101 (fun r15 => ?_)
    refine q_cVI C lk_X11_282 (w_X11_isTold (Y := Y) v1 r15.1 r15.2) (Nat.le_of_ble_eq_true rfl) rfl skM_0 (ltM skM_0 rfl) recv_11 (rest := []) rfl rfl (Nat.le_of_ble_eq_true rfl) dX11_loud_104 (fun r16 => ?_)
    refine q_istore C [(8, .int r16.1), (0, Rf Y 0), (1, .int v1), (2, .int v2), (3, .int v3), (4, .int v4), (5, .int v5), (6, .int v6), (7, .int v7)] dX11_loud_107 rfl rfl ?_
    refine q_iload C 6 dX11_loud_109 rfl ?_
    refine q_iload C 0 dX11_loud_111 rfl ?_
    refine q_if_eq C 120 dX11_loud_113 rfl (fun _ => ?_) (fun _ => ?_)
    · refine q_iconst C (v := 0) dX11_loud_120 (by decide) ?_
      refine q_iadd C dX11_loud_121 ?_
      refine q_istore C [(5, .int (v5 + 0)), (8, .int r16.1), (0, Rf Y 0), (1, .int v1), (2, .int v2), (3, .int v3), (4, .int v4), (6, .int v6), (7, .int v7)] dX11_loud_122 rfl rfl ?_
      refine q_iload C 1 dX11_loud_124 rfl ?_
      refine q_if_eq C 134 dX11_loud_126 rfl (fun _ => ?_) (fun _ => ?_)
      · refine q_iload C 7 dX11_loud_134 rfl ?_
        refine q_istore C [(6, .int v6), (5, .int (v5 + 0)), (8, .int r16.1), (0, Rf Y 0), (1, .int v1), (2, .int v2), (3, .int v3), (4, .int v4), (7, .int v7)] dX11_loud_136 rfl rfl ?_
        refine q_iinc C 8 [(7, .int (v7 + (-1))), (6, .int v6), (5, .int (v5 + 0)), (8, .int r16.1), (0, Rf Y 0), (1, .int v1), (2, .int v2), (3, .int v3), (4, .int v4)] dX11_loud_138 rfl rfl rfl rfl ?_
        refine q_goto C 79 dX11_loud_141 rfl ?_
        refine G.sub [4, 5, 6, 7, 8, 2, 1, 0] (lv' := [(0, Rf Y 0), (1, .int v1), (2, .int v2), (3, .int v3), (4, .int v4), (5, .int (v5 + 0)), (6, .int v6), (7, .int (v7 + (-1)))]) rfl ?_
        exact ih v1 v2 v3 v4 (v5 + 0) v6 (v7 + (-1)) r16.2
      refine q_iload C 8 dX11_loud_129 rfl ?_
      refine q_goto C 136 dX11_loud_131 rfl ?_
      refine q_istore C [(6, .int v7), (5, .int (v5 + 0)), (8, .int r16.1), (0, Rf Y 0), (1, .int v1), (2, .int v2), (3, .int v3), (4, .int v4), (7, .int v7)] dX11_loud_136 rfl rfl ?_
      refine q_iinc C 8 [(7, .int (v7 + (-1))), (6, .int v7), (5, .int (v5 + 0)), (8, .int r16.1), (0, Rf Y 0), (1, .int v1), (2, .int v2), (3, .int v3), (4, .int v4)] dX11_loud_138 rfl rfl rfl rfl ?_
      refine q_goto C 79 dX11_loud_141 rfl ?_
      refine G.sub [4, 5, 6, 7, 8, 2, 1, 0] (lv' := [(0, Rf Y 0), (1, .int v1), (2, .int v2), (3, .int v3), (4, .int v4), (5, .int (v5 + 0)), (6, .int v7), (7, .int (v7 + (-1)))]) rfl ?_
      exact ih v1 v2 v3 v4 (v5 + 0) v7 (v7 + (-1)) r16.2
    refine q_iconst C (v := 1) dX11_loud_116 (by decide) ?_
    refine q_goto C 121 dX11_loud_117 rfl ?_
    refine q_iadd C dX11_loud_121 ?_
    refine q_istore C [(5, .int (v5 + 1)), (8, .int r16.1), (0, Rf Y 0), (1, .int v1), (2, .int v2), (3, .int v3), (4, .int v4), (6, .int v6), (7, .int v7)] dX11_loud_122 rfl rfl ?_
    refine q_iload C 1 dX11_loud_124 rfl ?_
    refine q_if_eq C 134 dX11_loud_126 rfl (fun _ => ?_) (fun _ => ?_)
    · refine q_iload C 7 dX11_loud_134 rfl ?_
      refine q_istore C [(6, .int v6), (5, .int (v5 + 1)), (8, .int r16.1), (0, Rf Y 0), (1, .int v1), (2, .int v2), (3, .int v3), (4, .int v4), (7, .int v7)] dX11_loud_136 rfl rfl ?_
      refine q_iinc C 8 [(7, .int (v7 + (-1))), (6, .int v6), (5, .int (v5 + 1)), (8, .int r16.1), (0, Rf Y 0), (1, .int v1), (2, .int v2), (3, .int v3), (4, .int v4)] dX11_loud_138 rfl rfl rfl rfl ?_
      refine q_goto C 79 dX11_loud_141 rfl ?_
      refine G.sub [4, 5, 6, 7, 8, 2, 1, 0] (lv' := [(0, Rf Y 0), (1, .int v1), (2, .int v2), (3, .int v3), (4, .int v4), (5, .int (v5 + 1)), (6, .int v6), (7, .int (v7 + (-1)))]) rfl ?_
      exact ih v1 v2 v3 v4 (v5 + 1) v6 (v7 + (-1)) r16.2
    refine q_iload C 8 dX11_loud_129 rfl ?_
    refine q_goto C 136 dX11_loud_131 rfl ?_
    refine q_istore C [(6, .int v7), (5, .int (v5 + 1)), (8, .int r16.1), (0, Rf Y 0), (1, .int v1), (2, .int v2), (3, .int v3), (4, .int v4), (7, .int v7)] dX11_loud_136 rfl rfl ?_
    refine q_iinc C 8 [(7, .int (v7 + (-1))), (6, .int v7), (5, .int (v5 + 1)), (8, .int r16.1), (0, Rf Y 0), (1, .int v1), (2, .int v2), (3, .int v3), (4, .int v4)] dX11_loud_138 rfl rfl rfl rfl ?_
    refine q_goto C 79 dX11_loud_141 rfl ?_
    refine G.sub [4, 5, 6, 7, 8, 2, 1, 0] (lv' := [(0, Rf Y 0), (1, .int v1), (2, .int v2), (3, .int v3), (4, .int v4), (5, .int (v5 + 1)), (6, .int v7), (7, .int (v7 + (-1)))]) rfl ?_
    exact ih v1 v2 v3 v4 (v5 + 1) v7 (v7 + (-1)) r16.2
def f_X11_loud (a1 : Int32) (a2 : Int32) (a3 : Int32) (a4 : Int32) (σ : St) : Option (Int32 × St) := (Option.bind (f_X11_isSheet a1 σ) fun r1 => (if r1.1 = 0 then (Option.bind (f_X11_finding (-1000000001) r1.2) fun r2 => (some (r2.1, r2.2))) else (Option.bind (f_X11_isSaying a2 r1.2) fun r3 => (if r3.1 = 0 then (Option.bind (f_X11_finding (-1000000001) r3.2) fun r4 => (some (r4.1, r4.2))) else (Option.bind (f_X11_within a3 0 20 r3.2) fun r5 => (if r5.1 = 0 then (Option.bind (f_X11_finding (-1000000001) r5.2) fun r6 => (some (r6.1, r6.2))) else (Option.bind (f_X11_within a4 0 1 r5.2) fun r7 => (if r7.1 = 0 then (Option.bind (f_X11_finding (-1000000001) r7.2) fun r11 => (some (r11.1, r11.2))) else (Option.bind (f_X11_tellsNobody a1 r7.2) fun r8 => (if r8.1 = 0 then (Option.bind (f_X11_copy 1 3 r8.2) fun r9 => (f_X11_loud_L79 400 a1 a2 a3 a4 0 (-1) 99 r9)) else (Option.bind (f_X11_finding (-1000000002) r8.2) fun r10 => (some (r10.1, r10.2)))))))))))))
theorem w_X11_loud {Y : YT} (a1 : Int32) (a2 : Int32) (a3 : Int32) (a4 : Int32)   (σ : St) : CtE (emI FM Y) FM Y yX11_loud cX11_loud 9 (some .int) 8 [Rf Y 0, .int a1, .int a2, .int a3, .int a4] σ (f_X11_loud a1 a2 a3 a4 σ) := by
  refine Ct.ofG (by decide) (Nat.le_of_ble_eq_true rfl) (fun X C0 => ?_)
  have C : Cx FM Y X cX11_loud 9 RX11 (some .int) 8 (0, 0) := C0
  show G FM Y X 9 (emI FM Y) (0, 0) (0, 0) 0 [(0, Rf Y 0), (1, .int a1), (2, .int a2), (3, .int a3), (4, .int a4)] [] (RepS FM Y σ) (f_X11_loud a1 a2 a3 a4 σ)
  rw [f_X11_loud]
  refine q_iload_n C 1 dX11_loud_0 rfl ?_
  refine q_cSI C lk_X11_276 (w_X11_isSheet (Y := Y) a1 σ) (Nat.le_of_ble_eq_true rfl) rfl (rest := []) rfl rfl (Nat.le_of_ble_eq_true rfl) dX11_loud_1 (fun r1 => ?_)
  refine q_if_eq C 35 dX11_loud_4 rfl (fun _ => ?_) (fun _ => ?_)
  · refine q_aload_n C 0 dX11_loud_35 rfl ?_
    refine q_ldc C (v := (-1000000001)) (TB_of (List.mem_of_getElem? (i := 1119) (by decide +kernel)) rfl) dX11_loud_36 ?_
    refine q_cVI C lk_X11_75 (w_X11_finding (Y := Y) (-1000000001) r1.2) (Nat.le_of_ble_eq_true rfl) rfl skM_0 (ltM skM_0 rfl) recv_11 (rest := []) rfl rfl (Nat.le_of_ble_eq_true rfl) dX11_loud_38 (fun r2 => ?_)
    exact q_ireti C rfl dX11_loud_41
  refine q_aload_n C 0 dX11_loud_7 rfl ?_
  refine q_iload_n C 2 dX11_loud_8 rfl ?_
  refine q_cVI C lk_X11_215 (w_X11_isSaying (Y := Y) a2 r1.2) (Nat.le_of_ble_eq_true rfl) rfl skM_0 (ltM skM_0 rfl) recv_11 (rest := []) rfl rfl (Nat.le_of_ble_eq_true rfl) dX11_loud_9 (fun r3 => ?_)
  refine q_if_eq C 35 dX11_loud_12 rfl (fun _ => ?_) (fun _ => ?_)
  · refine q_aload_n C 0 dX11_loud_35 rfl ?_
    refine q_ldc C (v := (-1000000001)) (TB_of (List.mem_of_getElem? (i := 1119) (by decide +kernel)) rfl) dX11_loud_36 ?_
    refine q_cVI C lk_X11_75 (w_X11_finding (Y := Y) (-1000000001) r3.2) (Nat.le_of_ble_eq_true rfl) rfl skM_0 (ltM skM_0 rfl) recv_11 (rest := []) rfl rfl (Nat.le_of_ble_eq_true rfl) dX11_loud_38 (fun r4 => ?_)
    exact q_ireti C rfl dX11_loud_41
  refine q_iload_n C 3 dX11_loud_15 rfl ?_
  refine q_iconst C (v := 0) dX11_loud_16 (by decide) ?_
  refine q_bipush C (v := 20) dX11_loud_17 (by decide) ?_
  refine q_cSI C lk_X11_70 (w_X11_within (Y := Y) a3 0 20 r3.2) (Nat.le_of_ble_eq_true rfl) rfl (rest := []) rfl rfl (Nat.le_of_ble_eq_true rfl) dX11_loud_19 (fun r5 => ?_)
  refine q_if_eq C 35 dX11_loud_22 rfl (fun _ => ?_) (fun _ => ?_)
  · refine q_aload_n C 0 dX11_loud_35 rfl ?_
    refine q_ldc C (v := (-1000000001)) (TB_of (List.mem_of_getElem? (i := 1119) (by decide +kernel)) rfl) dX11_loud_36 ?_
    refine q_cVI C lk_X11_75 (w_X11_finding (Y := Y) (-1000000001) r5.2) (Nat.le_of_ble_eq_true rfl) rfl skM_0 (ltM skM_0 rfl) recv_11 (rest := []) rfl rfl (Nat.le_of_ble_eq_true rfl) dX11_loud_38 (fun r6 => ?_)
    exact q_ireti C rfl dX11_loud_41
  refine q_iload C 4 dX11_loud_25 rfl ?_
  refine q_iconst C (v := 0) dX11_loud_27 (by decide) ?_
  refine q_iconst C (v := 1) dX11_loud_28 (by decide) ?_
  refine q_cSI C lk_X11_70 (w_X11_within (Y := Y) a4 0 1 r5.2) (Nat.le_of_ble_eq_true rfl) rfl (rest := []) rfl rfl (Nat.le_of_ble_eq_true rfl) dX11_loud_29 (fun r7 => ?_)
  refine q_if_ne C 42 dX11_loud_32 rfl (fun _ => ?_) (fun _ => ?_)
  · refine q_aload_n C 0 dX11_loud_42 rfl ?_
    refine q_iload_n C 1 dX11_loud_43 rfl ?_
    refine q_cVI C lk_X11_279 (w_X11_tellsNobody (Y := Y) a1 r7.2) (Nat.le_of_ble_eq_true rfl) rfl skM_0 (ltM skM_0 rfl) recv_11 (rest := []) rfl rfl (Nat.le_of_ble_eq_true rfl) dX11_loud_44 (fun r8 => ?_)
    refine q_if_eq C 58 dX11_loud_47 rfl (fun _ => ?_) (fun _ => ?_)
    · refine q_aload_n C 0 dX11_loud_58 rfl ?_
      refine gf_X11_9 C skM_0 dX11_loud_59 ?_
      refine q_aload_n C 0 dX11_loud_62 rfl ?_
      refine gf_X11_16 C skM_0 dX11_loud_63 ?_
      refine q_cSV C lk_X11_66 (w_X11_copy (Y := Y) 1 3 saM_1 saM_3 r8.2) (Nat.le_of_ble_eq_true rfl) rfl (rest := []) rfl rfl (Nat.le_of_ble_eq_true rfl) dX11_loud_66 (fun r9 => ?_)
      refine q_iconst C (v := 0) dX11_loud_69 (by decide) ?_
      refine q_istore C [(5, .int 0), (0, Rf Y 0), (1, .int a1), (2, .int a2), (3, .int a3), (4, .int a4)] dX11_loud_70 rfl rfl ?_
      refine q_iconst C (v := (-1)) dX11_loud_72 (by decide) ?_
      refine q_istore C [(6, .int (-1)), (5, .int 0), (0, Rf Y 0), (1, .int a1), (2, .int a2), (3, .int a3), (4, .int a4)] dX11_loud_73 rfl rfl ?_
      refine q_bipush C (v := 99) dX11_loud_75 (by decide) ?_
      refine q_istore C [(7, .int 99), (6, .int (-1)), (5, .int 0), (0, Rf Y 0), (1, .int a1), (2, .int a2), (3, .int a3), (4, .int a4)] dX11_loud_77 rfl rfl ?_
      refine G.sub [3, 4, 5, 6, 7, 2, 1, 0] (lv' := [(0, Rf Y 0), (1, .int a1), (2, .int a2), (3, .int a3), (4, .int a4), (5, .int 0), (6, .int (-1)), (7, .int 99)]) rfl ?_
      exact w_X11_loud_L79 C 400 a1 a2 a3 a4 0 (-1) 99 r9
    refine q_aload_n C 0 dX11_loud_50 rfl ?_
    refine q_ldcw C (v := (-1000000002)) (TB_of (List.mem_of_getElem? (i := 1413) (by decide +kernel)) rfl) dX11_loud_51 ?_
    refine q_cVI C lk_X11_75 (w_X11_finding (Y := Y) (-1000000002) r8.2) (Nat.le_of_ble_eq_true rfl) rfl skM_0 (ltM skM_0 rfl) recv_11 (rest := []) rfl rfl (Nat.le_of_ble_eq_true rfl) dX11_loud_54 (fun r10 => ?_)
    exact q_ireti C rfl dX11_loud_57
  refine q_aload_n C 0 dX11_loud_35 rfl ?_
  refine q_ldc C (v := (-1000000001)) (TB_of (List.mem_of_getElem? (i := 1119) (by decide +kernel)) rfl) dX11_loud_36 ?_
  refine q_cVI C lk_X11_75 (w_X11_finding (Y := Y) (-1000000001) r7.2) (Nat.le_of_ble_eq_true rfl) rfl skM_0 (ltM skM_0 rfl) recv_11 (rest := []) rfl rfl (Nat.le_of_ble_eq_true rfl) dX11_loud_38 (fun r11 => ?_)
  exact q_ireti C rfl dX11_loud_41
def f_X11_alikeNow_L16 (rf4 : Int32 → Int32 → St → Option (Int32 × St)) : Nat → Int32 → Int32 → Int32 → St → Option (Int32 × St)
  | 0, _, _, _, _ => none
  | n + 1, v1, v2, v3, σ => (if v2 ≤ v3 then (rf4 v1 (v2 + 1) σ) else (Option.bind (f_X11_folkIs v2 2 σ) fun r2 => (Option.bind (f_X11_folkIs v3 2 r2.2) fun r3 => (if r2.1 = r3.1 then ((f_X11_alikeNow_L16 rf4 n) (v1 + 1) v2 (v3 + 1) r3.2) else ((f_X11_alikeNow_L16 rf4 n) (v1 + 0) v2 (v3 + 1) r3.2)))))
theorem w_X11_alikeNow_L16 {Y : YT} {X : XT} (C : Cx FM Y X cX11_alikeNow 4 RX11 (some .int) 2 (0, 0)) {rf4 : Int32 → Int32 → St → Option (Int32 × St)} (ih4 : ∀ (v1 : Int32), ∀ (v2 : Int32), ∀ (σ : St), G FM Y X 4 (emI FM Y) (0, 0) (0, 0) 4 [(0, Rf Y 0), (1, .int v1), (2, .int v2)] [] (RepS FM Y σ) (rf4 v1 v2 σ)) : ∀ (n : Nat), ∀ (v1 : Int32), ∀ (v2 : Int32), ∀ (v3 : Int32), ∀ (σ : St), G FM Y X 4 (emI FM Y) (0, 0) (0, 0) 16 [(0, Rf Y 0), (1, .int v1), (2, .int v2), (3, .int v3)] [] (RepS FM Y σ) (f_X11_alikeNow_L16 rf4 n v1 v2 v3 σ) := by
  intro n
  induction n with
  | zero =>
    intro v1 v2 v3 σ
    rw [f_X11_alikeNow_L16]; exact G.none
  | succ n ih =>
    intro v1 v2 v3 σ
    rw [f_X11_alikeNow_L16]
    refine q_iload_n C 3 dX11_alikeNow_16 rfl ?_
    refine q_iload_n C 2 dX11_alikeNow_17 rfl ?_
    refine q_icmp_ge C 50 dX11_alikeNow_18 rfl (fun _ => ?_) (fun _ => ?_)
    · refine q_iinc C 2 [(2, .int (v2 + 1)), (0, Rf Y 0), (1, .int v1), (3, .int v3)] dX11_alikeNow_50 rfl rfl rfl rfl ?_
      refine q_goto C 4 dX11_alikeNow_53 rfl ?_
      refine G.sub [1, 2, 0] (lv' := [(0, Rf Y 0), (1, .int v1), (2, .int (v2 + 1))]) rfl ?_
      exact ih4 v1 (v2 + 1) σ
    refine q_iload_n C 1 dX11_alikeNow_21 rfl ?_
    refine q_aload_n C 0 dX11_alikeNow_22 rfl ?_
    refine q_iload_n C 2 dX11_alikeNow_23 rfl ?_
    refine q_iconst C (v := 2) dX11_alikeNow_24 (by decide) ?_
    refine q_cVI C lk_X11_196 (w_X11_folkIs (Y := Y) v2 2 σ) (Nat.le_of_ble_eq_true rfl) rfl skM_0 (ltM skM_0 rfl) recv_11 (rest := [.int v1]) rfl rfl (Nat.le_of_ble_eq_true rfl) dX11_alikeNow_25 (fun r2 => ?_)
    refine q_aload_n C 0 dX11_alikeNow_28 rfl ?_
    refine q_iload_n C 3 dX11_alikeNow_29 rfl ?_
    refine q_iconst C (v := 2) dX11_alikeNow_30 (by decide) ?_
    refine q_cVI C lk_X11_196 (w_X11_folkIs (Y := Y) v3 2 r2.2) (Nat.le_of_ble_eq_true rfl) rfl skM_0 (ltM skM_0 rfl) recv_11 (rest := [.int r2.1, .int v1]) rfl rfl (Nat.le_of_ble_eq_true rfl) dX11_alikeNow_31 (fun r3 => ?_)
    refine q_icmp_ne C 41 dX11_alikeNow_34 rfl (fun _ => ?_) (fun _ => ?_)
    · refine q_iconst C (v := 0) dX11_alikeNow_41 (by decide) ?_
      refine q_iadd C dX11_alikeNow_42 ?_
      refine q_istore_n C [(1, .int (v1 + 0)), (0, Rf Y 0), (2, .int v2), (3, .int v3)] dX11_alikeNow_43 rfl rfl ?_
      refine q_iinc C 3 [(3, .int (v3 + 1)), (1, .int (v1 + 0)), (0, Rf Y 0), (2, .int v2)] dX11_alikeNow_44 rfl rfl rfl rfl ?_
      refine q_goto C 16 dX11_alikeNow_47 rfl ?_
      refine G.sub [2, 1, 3, 0] (lv' := [(0, Rf Y 0), (1, .int (v1 + 0)), (2, .int v2), (3, .int (v3 + 1))]) rfl ?_
      exact ih (v1 + 0) v2 (v3 + 1) r3.2
    refine q_iconst C (v := 1) dX11_alikeNow_37 (by decide) ?_
    refine q_goto C 42 dX11_alikeNow_38 rfl ?_
    refine q_iadd C dX11_alikeNow_42 ?_
    refine q_istore_n C [(1, .int (v1 + 1)), (0, Rf Y 0), (2, .int v2), (3, .int v3)] dX11_alikeNow_43 rfl rfl ?_
    refine q_iinc C 3 [(3, .int (v3 + 1)), (1, .int (v1 + 1)), (0, Rf Y 0), (2, .int v2)] dX11_alikeNow_44 rfl rfl rfl rfl ?_
    refine q_goto C 16 dX11_alikeNow_47 rfl ?_
    refine G.sub [2, 1, 3, 0] (lv' := [(0, Rf Y 0), (1, .int (v1 + 1)), (2, .int v2), (3, .int (v3 + 1))]) rfl ?_
    exact ih (v1 + 1) v2 (v3 + 1) r3.2
def f_X11_alikeNow_L4 : Nat → Int32 → Int32 → St → Option (Int32 × St)
  | 0, _, _, _ => none
  | n + 1, v1, v2, σ => (if (σ 1 4) ≤ v2 then (some (v1, σ)) else (f_X11_alikeNow_L16 (f_X11_alikeNow_L4 n) 400 v1 v2 0 σ))
theorem w_X11_alikeNow_L4 {Y : YT} {X : XT} (C : Cx FM Y X cX11_alikeNow 4 RX11 (some .int) 2 (0, 0)) : ∀ (n : Nat), ∀ (v1 : Int32), ∀ (v2 : Int32), ∀ (σ : St), G FM Y X 4 (emI FM Y) (0, 0) (0, 0) 4 [(0, Rf Y 0), (1, .int v1), (2, .int v2)] [] (RepS FM Y σ) (f_X11_alikeNow_L4 n v1 v2 σ) := by
  intro n
  induction n with
  | zero =>
    intro v1 v2 σ
    rw [f_X11_alikeNow_L4]; exact G.none
  | succ n ih =>
    intro v1 v2 σ
    rw [f_X11_alikeNow_L4]
    refine q_iload_n C 2 dX11_alikeNow_4 rfl ?_
    refine q_aload_n C 0 dX11_alikeNow_5 rfl ?_
    refine gf_X11_9 C skM_0 dX11_alikeNow_6 ?_
    refine q_iconst C (v := 4) dX11_alikeNow_9 (by decide) ?_
    refine q_aldK C (j := 4) saM_1 (ltMa saM_1) (by decide +kernel) (by decide +kernel) dX11_alikeNow_10 ?_
    refine q_icmp_ge C 56 dX11_alikeNow_11 rfl (fun _ => ?_) (fun _ => ?_)
    · refine q_iload_n C 1 dX11_alikeNow_56 rfl ?_
      exact q_ireti C rfl dX11_alikeNow_57
    refine q_iconst C (v := 0) dX11_alikeNow_14 (by decide) ?_
    refine q_istore_n C [(3, .int 0), (0, Rf Y 0), (1, .int v1), (2, .int v2)] dX11_alikeNow_15 rfl rfl ?_
    refine G.sub [1, 2, 3, 0] (lv' := [(0, Rf Y 0), (1, .int v1), (2, .int v2), (3, .int 0)]) rfl ?_
    exact w_X11_alikeNow_L16 C (rf4 := (f_X11_alikeNow_L4 n)) ih 400 v1 v2 0 σ
def f_X11_alikeNow  (σ : St) : Option (Int32 × St) := (f_X11_alikeNow_L4 400 0 0 σ)
theorem w_X11_alikeNow {Y : YT}    (σ : St) : CtE (emI FM Y) FM Y yX11_alikeNow cX11_alikeNow 4 (some .int) 2 [Rf Y 0] σ (f_X11_alikeNow σ) := by
  refine Ct.ofG (by decide) (Nat.le_of_ble_eq_true rfl) (fun X C0 => ?_)
  have C : Cx FM Y X cX11_alikeNow 4 RX11 (some .int) 2 (0, 0) := C0
  show G FM Y X 4 (emI FM Y) (0, 0) (0, 0) 0 [(0, Rf Y 0)] [] (RepS FM Y σ) (f_X11_alikeNow σ)
  rw [f_X11_alikeNow]
  refine q_iconst C (v := 0) dX11_alikeNow_0 (by decide) ?_
  refine q_istore_n C [(1, .int 0), (0, Rf Y 0)] dX11_alikeNow_1 rfl rfl ?_
  refine q_iconst C (v := 0) dX11_alikeNow_2 (by decide) ?_
  refine q_istore_n C [(2, .int 0), (1, .int 0), (0, Rf Y 0)] dX11_alikeNow_3 rfl rfl ?_
  refine G.sub [2, 1, 0] (lv' := [(0, Rf Y 0), (1, .int 0), (2, .int 0)]) rfl ?_
  exact w_X11_alikeNow_L4 C 400 0 0 σ
theorem lk_X11_285 : LkV RX11 285 yX11_alikeNow cX11_alikeNow 4 (some .int) 0 := ⟨TB_p [1464, 1466, 59, 81, 1467] (by decide +kernel) (by decide +kernel), by decide +kernel, by decide +kernel, by decide +kernel⟩
def f_X11_alike (a1 : Int32) (σ : St) : Option (Int32 × St) := (Option.bind (f_X11_isBehind a1 σ) fun r1 => (if r1.1 = 0 then (Option.bind (f_X11_finding (-1000000001) r1.2) fun r6 => (some (r6.1, r6.2))) else (Option.bind (f_X11_copy 1 3 r1.2) fun r2 => (Option.bind (f_X11_hoursGo a1 r2) fun r3 => (Option.bind (f_X11_alikeNow r3) fun r4 => (Option.bind (f_X11_putBack r4.1 r4.2) fun r5 => (some (r5.1, r5.2))))))))
theorem w_X11_alike {Y : YT} (a1 : Int32)   (σ : St) : CtE (emI FM Y) FM Y yX11_alike cX11_alike 2 (some .int) 7 [Rf Y 0, .int a1] σ (f_X11_alike a1 σ) := by
  refine Ct.ofG (by decide) (Nat.le_of_ble_eq_true rfl) (fun X C0 => ?_)
  have C : Cx FM Y X cX11_alike 2 RX11 (some .int) 7 (0, 0) := C0
  show G FM Y X 2 (emI FM Y) (0, 0) (0, 0) 0 [(0, Rf Y 0), (1, .int a1)] [] (RepS FM Y σ) (f_X11_alike a1 σ)
  rw [f_X11_alike]
  refine q_iload_n C 1 dX11_alike_0 rfl ?_
  refine q_cSI C lk_X11_250 (w_X11_isBehind (Y := Y) a1 σ) (Nat.le_of_ble_eq_true rfl) rfl (rest := []) rfl rfl (Nat.le_of_ble_eq_true rfl) dX11_alike_1 (fun r1 => ?_)
  refine q_if_ne C 14 dX11_alike_4 rfl (fun _ => ?_) (fun _ => ?_)
  · refine q_aload_n C 0 dX11_alike_14 rfl ?_
    refine gf_X11_9 C skM_0 dX11_alike_15 ?_
    refine q_aload_n C 0 dX11_alike_18 rfl ?_
    refine gf_X11_16 C skM_0 dX11_alike_19 ?_
    refine q_cSV C lk_X11_66 (w_X11_copy (Y := Y) 1 3 saM_1 saM_3 r1.2) (Nat.le_of_ble_eq_true rfl) rfl (rest := []) rfl rfl (Nat.le_of_ble_eq_true rfl) dX11_alike_22 (fun r2 => ?_)
    refine q_aload_n C 0 dX11_alike_25 rfl ?_
    refine q_iload_n C 1 dX11_alike_26 rfl ?_
    refine q_cVV C lk_X11_240 (w_X11_hoursGo (Y := Y) a1 r2) (Nat.le_of_ble_eq_true rfl) rfl skM_0 (ltM skM_0 rfl) recv_11 (rest := []) rfl rfl (Nat.le_of_ble_eq_true rfl) dX11_alike_27 (fun r3 => ?_)
    refine q_aload_n C 0 dX11_alike_30 rfl ?_
    refine q_aload_n C 0 dX11_alike_31 rfl ?_
    refine q_cVI C lk_X11_285 (w_X11_alikeNow (Y := Y) r3) (Nat.le_of_ble_eq_true rfl) rfl skM_0 (ltM skM_0 rfl) recv_11 (rest := [Rf Y 0]) rfl rfl (Nat.le_of_ble_eq_true rfl) dX11_alike_32 (fun r4 => ?_)
    refine q_cVI C lk_X11_253 (w_X11_putBack (Y := Y) r4.1 r4.2) (Nat.le_of_ble_eq_true rfl) rfl skM_0 (ltM skM_0 rfl) recv_11 (rest := []) rfl rfl (Nat.le_of_ble_eq_true rfl) dX11_alike_35 (fun r5 => ?_)
    exact q_ireti C rfl dX11_alike_38
  refine q_aload_n C 0 dX11_alike_7 rfl ?_
  refine q_ldc C (v := (-1000000001)) (TB_of (List.mem_of_getElem? (i := 1119) (by decide +kernel)) rfl) dX11_alike_8 ?_
  refine q_cVI C lk_X11_75 (w_X11_finding (Y := Y) (-1000000001) r1.2) (Nat.le_of_ble_eq_true rfl) rfl skM_0 (ltM skM_0 rfl) recv_11 (rest := []) rfl rfl (Nat.le_of_ble_eq_true rfl) dX11_alike_10 (fun r6 => ?_)
  exact q_ireti C rfl dX11_alike_13
def f_X11_furthest_L61 : Nat → Int32 → Int32 → Int32 → St → Option (Int32 × St)
  | 0, _, _, _, _ => none
  | n + 1, v2, v3, v4, σ => (if (σ 1 3) ≤ v4 then (if v2 = 0 then (Option.bind (f_X11_putBack v3 σ) fun r13 => (some (r13.1, r13.2))) else (Option.bind (f_X11_knowers v3 σ) fun r10 => (Option.bind (f_X11_bits r10.1 r10.2) fun r11 => (Option.bind (f_X11_putBack r11.1 r11.2) fun r12 => (some (r12.1, r12.2)))))) else (Option.bind (f_X11_knowers v4 σ) fun r14 => (Option.bind (f_X11_bits r14.1 r14.2) fun r15 => (Option.bind (f_X11_knowers v3 r15.2) fun r16 => (Option.bind (f_X11_bits r16.1 r16.2) fun r17 => (if r15.1 ≤ r17.1 then ((f_X11_furthest_L61 n) v2 v3 (v4 + 1) r17.2) else ((f_X11_furthest_L61 n) v2 v4 (v4 + 1) r17.2)))))))
theorem w_X11_furthest_L61 {Y : YT} {X : XT} (C : Cx FM Y X cX11_furthest 5 RX11 (some .int) 7 (0, 0)) : ∀ (n : Nat), ∀ (v2 : Int32), ∀ (v3 : Int32), ∀ (v4 : Int32), ∀ (σ : St), G FM Y X 5 (emI FM Y) (0, 0) (0, 0) 61 [(0, Rf Y 0), (2, .int v2), (3, .int v3), (4, .int v4)] [] (RepS FM Y σ) (f_X11_furthest_L61 n v2 v3 v4 σ) := by
  intro n
  induction n with
  | zero =>
    intro v2 v3 v4 σ
    rw [f_X11_furthest_L61]; exact G.none
  | succ n ih =>
    intro v2 v3 v4 σ
    rw [f_X11_furthest_L61]
    refine q_iload C 3 dX11_furthest_61 rfl ?_
    refine q_aload_n C 0 dX11_furthest_63 rfl ?_
    refine gf_X11_9 C skM_0 dX11_furthest_64 ?_
    refine q_iconst C (v := 3) dX11_furthest_67 (by decide) ?_
    refine q_aldK C (j := 3) saM_1 (ltMa saM_1) (by decide +kernel) (by decide +kernel) dX11_furthest_68 ?_
    refine q_icmp_ge C 105 dX11_furthest_69 rfl (fun _ => ?_) (fun _ => ?_)
    · refine q_aload_n C 0 dX11_furthest_105 rfl ?_
      refine q_iload_n C 1 dX11_furthest_106 rfl ?_
      refine q_if_ne C 114 dX11_furthest_107 rfl (fun _ => ?_) (fun _ => ?_)
      · refine q_aload_n C 0 dX11_furthest_114 rfl ?_
        refine q_iload_n C 2 dX11_furthest_115 rfl ?_
        refine q_cVI C lk_X11_209 (w_X11_knowers (Y := Y) v3 σ) (Nat.le_of_ble_eq_true rfl) rfl skM_0 (ltM skM_0 rfl) recv_11 (rest := [Rf Y 0]) rfl rfl (Nat.le_of_ble_eq_true rfl) dX11_furthest_116 (fun r10 => ?_)
        refine q_cSI C lk_X11_266 (w_X11_bits (Y := Y) r10.1 r10.2) (Nat.le_of_ble_eq_true rfl) rfl (rest := [Rf Y 0]) rfl rfl (Nat.le_of_ble_eq_true rfl) dX11_furthest_119 (fun r11 => ?_)
        refine q_cVI C lk_X11_253 (w_X11_putBack (Y := Y) r11.1 r11.2) (Nat.le_of_ble_eq_true rfl) rfl skM_0 (ltM skM_0 rfl) recv_11 (rest := []) rfl rfl (Nat.le_of_ble_eq_true rfl) dX11_furthest_122 (fun r12 => ?_)
        exact q_ireti C rfl dX11_furthest_125
      refine q_iload_n C 2 dX11_furthest_110 rfl ?_
      refine q_goto C 122 dX11_furthest_111 rfl ?_
      refine q_cVI C lk_X11_253 (w_X11_putBack (Y := Y) v3 σ) (Nat.le_of_ble_eq_true rfl) rfl skM_0 (ltM skM_0 rfl) recv_11 (rest := []) rfl rfl (Nat.le_of_ble_eq_true rfl) dX11_furthest_122 (fun r13 => ?_)
      exact q_ireti C rfl dX11_furthest_125
    refine q_aload_n C 0 dX11_furthest_72 rfl ?_
    refine q_iload C 3 dX11_furthest_73 rfl ?_
    refine q_cVI C lk_X11_209 (w_X11_knowers (Y := Y) v4 σ) (Nat.le_of_ble_eq_true rfl) rfl skM_0 (ltM skM_0 rfl) recv_11 (rest := []) rfl rfl (Nat.le_of_ble_eq_true rfl) dX11_furthest_75 (fun r14 => ?_)
    refine q_cSI C lk_X11_266 (w_X11_bits (Y := Y) r14.1 r14.2) (Nat.le_of_ble_eq_true rfl) rfl (rest := []) rfl rfl (Nat.le_of_ble_eq_true rfl) dX11_furthest_78 (fun r15 => ?_)
    refine q_aload_n C 0 dX11_furthest_81 rfl ?_
    refine q_iload_n C 2 dX11_furthest_82 rfl ?_
    refine q_cVI C lk_X11_209 (w_X11_knowers (Y := Y) v3 r15.2) (Nat.le_of_ble_eq_true rfl) rfl skM_0 (ltM skM_0 rfl) recv_11 (rest := [.int r15.1]) rfl rfl (Nat.le_of_ble_eq_true rfl) dX11_furthest_83 (fun r16 => ?_)
    refine q_cSI C lk_X11_266 (w_X11_bits (Y := Y) r16.1 r16.2) (Nat.le_of_ble_eq_true rfl) rfl (rest := [.int r15.1]) rfl rfl (Nat.le_of_ble_eq_true rfl) dX11_furthest_86 (fun r17 => ?_)
    refine q_icmp_le C 97 dX11_furthest_89 rfl (fun _ => ?_) (fun _ => ?_)
    · refine q_iload_n C 2 dX11_furthest_97 rfl ?_
      refine q_istore_n C [(3, .int v3), (0, Rf Y 0), (2, .int v2), (4, .int v4)] dX11_furthest_98 rfl rfl ?_
      refine q_iinc C 3 [(4, .int (v4 + 1)), (3, .int v3), (0, Rf Y 0), (2, .int v2)] dX11_furthest_99 rfl rfl rfl rfl ?_
      refine q_goto C 61 dX11_furthest_102 rfl ?_
      refine G.sub [2, 3, 1, 0] (lv' := [(0, Rf Y 0), (2, .int v2), (3, .int v3), (4, .int (v4 + 1))]) rfl ?_
      exact ih v2 v3 (v4 + 1) r17.2
    refine q_iload C 3 dX11_furthest_92 rfl ?_
    refine q_goto C 98 dX11_furthest_94 rfl ?_
    refine q_istore_n C [(3, .int v4), (0, Rf Y 0), (2, .int v2), (4, .int v4)] dX11_furthest_98 rfl rfl ?_
    refine q_iinc C 3 [(4, .int (v4 + 1)), (3, .int v4), (0, Rf Y 0), (2, .int v2)] dX11_furthest_99 rfl rfl rfl rfl ?_
    refine q_goto C 61 dX11_furthest_102 rfl ?_
    refine G.sub [2, 3, 1, 0] (lv' := [(0, Rf Y 0), (2, .int v2), (3, .int v4), (4, .int (v4 + 1))]) rfl ?_
    exact ih v2 v4 (v4 + 1) r17.2
def f_X11_furthest (a1 : Int32) (a2 : Int32) (σ : St) : Option (Int32 × St) := (Option.bind (f_X11_isBehind a1 σ) fun r1 => (if r1.1 = 0 then (Option.bind (f_X11_finding (-1000000001) r1.2) fun r2 => (some (r2.1, r2.2))) else (Option.bind (f_X11_within a2 0 1 r1.2) fun r3 => (if r3.1 = 0 then (Option.bind (f_X11_finding (-1000000001) r3.2) fun r8 => (some (r8.1, r8.2))) else (if (r3.2 1 3) = 0 then (Option.bind (f_X11_finding (-1000000002) r3.2) fun r7 => (some (r7.1, r7.2))) else (Option.bind (f_X11_copy 1 3 r3.2) fun r5 => (Option.bind (f_X11_hoursGo a1 r5) fun r6 => (f_X11_furthest_L61 400 a2 0 1 r6))))))))
theorem w_X11_furthest {Y : YT} (a1 : Int32) (a2 : Int32)   (σ : St) : CtE (emI FM Y) FM Y yX11_furthest cX11_furthest 5 (some .int) 7 [Rf Y 0, .int a1, .int a2] σ (f_X11_furthest a1 a2 σ) := by
  refine Ct.ofG (by decide) (Nat.le_of_ble_eq_true rfl) (fun X C0 => ?_)
  have C : Cx FM Y X cX11_furthest 5 RX11 (some .int) 7 (0, 0) := C0
  show G FM Y X 5 (emI FM Y) (0, 0) (0, 0) 0 [(0, Rf Y 0), (1, .int a1), (2, .int a2)] [] (RepS FM Y σ) (f_X11_furthest a1 a2 σ)
  rw [f_X11_furthest]
  refine q_iload_n C 1 dX11_furthest_0 rfl ?_
  refine q_cSI C lk_X11_250 (w_X11_isBehind (Y := Y) a1 σ) (Nat.le_of_ble_eq_true rfl) rfl (rest := []) rfl rfl (Nat.le_of_ble_eq_true rfl) dX11_furthest_1 (fun r1 => ?_)
  refine q_if_eq C 16 dX11_furthest_4 rfl (fun _ => ?_) (fun _ => ?_)
  · refine q_aload_n C 0 dX11_furthest_16 rfl ?_
    refine q_ldc C (v := (-1000000001)) (TB_of (List.mem_of_getElem? (i := 1119) (by decide +kernel)) rfl) dX11_furthest_17 ?_
    refine q_cVI C lk_X11_75 (w_X11_finding (Y := Y) (-1000000001) r1.2) (Nat.le_of_ble_eq_true rfl) rfl skM_0 (ltM skM_0 rfl) recv_11 (rest := []) rfl rfl (Nat.le_of_ble_eq_true rfl) dX11_furthest_19 (fun r2 => ?_)
    exact q_ireti C rfl dX11_furthest_22
  refine q_iload_n C 2 dX11_furthest_7 rfl ?_
  refine q_iconst C (v := 0) dX11_furthest_8 (by decide) ?_
  refine q_iconst C (v := 1) dX11_furthest_9 (by decide) ?_
  refine q_cSI C lk_X11_70 (w_X11_within (Y := Y) a2 0 1 r1.2) (Nat.le_of_ble_eq_true rfl) rfl (rest := []) rfl rfl (Nat.le_of_ble_eq_true rfl) dX11_furthest_10 (fun r3 => ?_)
  refine q_if_ne C 23 dX11_furthest_13 rfl (fun _ => ?_) (fun _ => ?_)
  · refine q_aload_n C 0 dX11_furthest_23 rfl ?_
    refine gf_X11_9 C skM_0 dX11_furthest_24 ?_
    refine q_iconst C (v := 3) dX11_furthest_27 (by decide) ?_
    refine q_aldK C (j := 3) saM_1 (ltMa saM_1) (by decide +kernel) (by decide +kernel) dX11_furthest_28 ?_
    refine q_if_ne C 40 dX11_furthest_29 rfl (fun _ => ?_) (fun _ => ?_)
    · refine q_aload_n C 0 dX11_furthest_40 rfl ?_
      refine gf_X11_9 C skM_0 dX11_furthest_41 ?_
      refine q_aload_n C 0 dX11_furthest_44 rfl ?_
      refine gf_X11_16 C skM_0 dX11_furthest_45 ?_
      refine q_cSV C lk_X11_66 (w_X11_copy (Y := Y) 1 3 saM_1 saM_3 r3.2) (Nat.le_of_ble_eq_true rfl) rfl (rest := []) rfl rfl (Nat.le_of_ble_eq_true rfl) dX11_furthest_48 (fun r5 => ?_)
      refine q_aload_n C 0 dX11_furthest_51 rfl ?_
      refine q_iload_n C 1 dX11_furthest_52 rfl ?_
      refine q_cVV C lk_X11_240 (w_X11_hoursGo (Y := Y) a1 r5) (Nat.le_of_ble_eq_true rfl) rfl skM_0 (ltM skM_0 rfl) recv_11 (rest := []) rfl rfl (Nat.le_of_ble_eq_true rfl) dX11_furthest_53 (fun r6 => ?_)
      refine q_iconst C (v := 0) dX11_furthest_56 (by decide) ?_
      refine q_istore_n C [(3, .int 0), (0, Rf Y 0), (1, .int a1), (2, .int a2)] dX11_furthest_57 rfl rfl ?_
      refine q_iconst C (v := 1) dX11_furthest_58 (by decide) ?_
      refine q_istore C [(4, .int 1), (3, .int 0), (0, Rf Y 0), (1, .int a1), (2, .int a2)] dX11_furthest_59 rfl rfl ?_
      refine G.sub [2, 4, 1, 0] (lv' := [(0, Rf Y 0), (2, .int a2), (3, .int 0), (4, .int 1)]) rfl ?_
      exact w_X11_furthest_L61 C 400 a2 0 1 r6
    refine q_aload_n C 0 dX11_furthest_32 rfl ?_
    refine q_ldcw C (v := (-1000000002)) (TB_of (List.mem_of_getElem? (i := 1413) (by decide +kernel)) rfl) dX11_furthest_33 ?_
    refine q_cVI C lk_X11_75 (w_X11_finding (Y := Y) (-1000000002) r3.2) (Nat.le_of_ble_eq_true rfl) rfl skM_0 (ltM skM_0 rfl) recv_11 (rest := []) rfl rfl (Nat.le_of_ble_eq_true rfl) dX11_furthest_36 (fun r7 => ?_)
    exact q_ireti C rfl dX11_furthest_39
  refine q_aload_n C 0 dX11_furthest_16 rfl ?_
  refine q_ldc C (v := (-1000000001)) (TB_of (List.mem_of_getElem? (i := 1119) (by decide +kernel)) rfl) dX11_furthest_17 ?_
  refine q_cVI C lk_X11_75 (w_X11_finding (Y := Y) (-1000000001) r3.2) (Nat.le_of_ble_eq_true rfl) rfl skM_0 (ltM skM_0 rfl) recv_11 (rest := []) rfl rfl (Nat.le_of_ble_eq_true rfl) dX11_furthest_19 (fun r8 => ?_)
  exact q_ireti C rfl dX11_furthest_22
def f_X11_odds_L109 : Nat → Int32 → Int32 → Int32 → Int32 → St → Option (Int32 × St)
  | 0, _, _, _, _, _ => none
  | n + 1, v4, v5, v6, v7, σ => (if v7 = 0 then (if v4 = 0 then (if v6 = 0 then none else (some ((v5 / v6), σ))) else (if v6 = 0 then none else (some ((10 / v6), σ)))) else (if v7 = 0 then none else ((f_X11_odds_L109 n) v4 v5 v7 (irm v6 v7) σ)))
theorem w_X11_odds_L109 {Y : YT} {X : XT} (C : Cx FM Y X cX11_odds 9 RX11 (some .int) 8 (0, 0)) : ∀ (n : Nat), ∀ (v4 : Int32), ∀ (v5 : Int32), ∀ (v6 : Int32), ∀ (v7 : Int32), ∀ (σ : St), G FM Y X 9 (emI FM Y) (0, 0) (0, 0) 109 [(4, .int v4), (5, .int v5), (6, .int v6), (7, .int v7)] [] (RepS FM Y σ) (f_X11_odds_L109 n v4 v5 v6 v7 σ) := by
  intro n
  induction n with
  | zero =>
    intro v4 v5 v6 v7 σ
    rw [f_X11_odds_L109]; exact G.none
  | succ n ih =>
    intro v4 v5 v6 v7 σ
    rw [f_X11_odds_L109]
    refine q_iload C 3 dX11_odds_109 rfl ?_
    refine q_if_eq C 132 dX11_odds_111 rfl (fun _ => ?_) (fun _ => ?_)
    · refine q_iload C 0 dX11_odds_132 rfl ?_
      refine q_if_ne C 142 dX11_odds_134 rfl (fun _ => ?_) (fun _ => ?_)
      · refine q_bipush C (v := 10) dX11_odds_142 (by decide) ?_
        refine q_iload C 2 dX11_odds_144 rfl ?_
        refine q_idivz C dX11_odds_146 (fun _ => ?_)
        exact q_ireti C rfl dX11_odds_147
      refine q_iload C 1 dX11_odds_137 rfl ?_
      refine q_goto C 144 dX11_odds_139 rfl ?_
      refine q_iload C 2 dX11_odds_144 rfl ?_
      refine q_idivz C dX11_odds_146 (fun _ => ?_)
      exact q_ireti C rfl dX11_odds_147
    refine q_iload C 2 dX11_odds_114 rfl ?_
    refine q_iload C 3 dX11_odds_116 rfl ?_
    refine q_iremz C dX11_odds_118 (fun _ => ?_)
    refine q_istore C [(8, .int (irm v6 v7)), (4, .int v4), (5, .int v5), (6, .int v6), (7, .int v7)] dX11_odds_119 rfl rfl ?_
    refine q_iload C 4 dX11_odds_121 rfl ?_
    refine q_istore C [(6, .int v7), (8, .int (irm v6 v7)), (4, .int v4), (5, .int v5), (7, .int v7)] dX11_odds_123 rfl rfl ?_
    refine q_iload C 1 dX11_odds_125 rfl ?_
    refine q_istore C [(7, .int (irm v6 v7)), (6, .int v7), (8, .int (irm v6 v7)), (4, .int v4), (5, .int v5)] dX11_odds_127 rfl rfl ?_
    refine q_goto C 109 dX11_odds_129 rfl ?_
    refine G.sub [3, 4, 1, 0] (lv' := [(4, .int v4), (5, .int v5), (6, .int v7), (7, .int (irm v6 v7))]) rfl ?_
    exact ih v4 v5 v7 (irm v6 v7) σ
def f_X11_odds_L57 : Nat → Int32 → Int32 → Int32 → Int32 → Int32 → Int32 → St → Option (Int32 × St)
  | 0, _, _, _, _, _, _, _ => none
  | n + 1, v1, v2, v3, v4, v5, v6, σ => (if 10 ≤ v6 then (f_X11_odds_L109 400 v4 v5 10 v5 σ) else (Bst (up σ 1 5 v6) fun s10 => (Option.bind (f_X11_knowersBehind v2 v3 s10) fun r11 => (Option.bind (f_X11_hasBit r11.1 v1 r11.2) fun r12 => (if r12.1 = 0 then ((f_X11_odds_L57 n) v1 v2 v3 v4 (v5 + 0) (v6 + 1) r12.2) else ((f_X11_odds_L57 n) v1 v2 v3 v4 (v5 + 1) (v6 + 1) r12.2))))))
theorem w_X11_odds_L57 {Y : YT} {X : XT} (C : Cx FM Y X cX11_odds 9 RX11 (some .int) 8 (0, 0)) : ∀ (n : Nat), ∀ (v1 : Int32), ∀ (v2 : Int32), ∀ (v3 : Int32), ∀ (v4 : Int32), ∀ (v5 : Int32), ∀ (v6 : Int32), ∀ (σ : St), G FM Y X 9 (emI FM Y) (0, 0) (0, 0) 57 [(0, Rf Y 0), (1, .int v1), (2, .int v2), (3, .int v3), (4, .int v4), (5, .int v5), (6, .int v6)] [] (RepS FM Y σ) (f_X11_odds_L57 n v1 v2 v3 v4 v5 v6 σ) := by
  intro n
  induction n with
  | zero =>
    intro v1 v2 v3 v4 v5 v6 σ
    rw [f_X11_odds_L57]; exact G.none
  | succ n ih =>
    intro v1 v2 v3 v4 v5 v6 σ
    rw [f_X11_odds_L57]
    refine q_iload C 6 dX11_odds_57 rfl ?_
    refine q_bipush C (v := 10) dX11_odds_59 (by decide) ?_
    refine q_icmp_ge C 101 dX11_odds_61 rfl (fun _ => ?_) (fun _ => ?_)
    · refine q_bipush C (v := 10) dX11_odds_101 (by decide) ?_
      refine q_istore C [(6, .int 10), (0, Rf Y 0), (1, .int v1), (2, .int v2), (3, .int v3), (4, .int v4), (5, .int v5)] dX11_odds_103 rfl rfl ?_
      refine q_iload C 6 dX11_odds_105 rfl ?_
      refine q_istore C [(7, .int v5), (6, .int 10), (0, Rf Y 0), (1, .int v1), (2, .int v2), (3, .int v3), (4, .int v4), (5, .int v5)] dX11_odds_107 rfl rfl ?_
      refine G.sub [6, 7, 1, 0] (lv' := [(4, .int v4), (5, .int v5), (6, .int 10), (7, .int v5)]) rfl ?_
      exact w_X11_odds_L109 C 400 v4 v5 10 v5 σ
    refine q_aload_n C 0 dX11_odds_64 rfl ?_
    refine gf_X11_9 C skM_0 dX11_odds_65 ?_
    refine q_iconst C (v := 5) dX11_odds_68 (by decide) ?_
    refine q_iload C 6 dX11_odds_69 rfl ?_
    refine q_astK C (j := 5) saM_1 (ltMa saM_1) (by decide +kernel) (by decide +kernel) dX11_odds_71 (fun s10 => ?_)
    refine q_iload C 5 dX11_odds_72 rfl ?_
    refine q_aload_n C 0 dX11_odds_74 rfl ?_
    refine q_iload_n C 2 dX11_odds_75 rfl ?_
    refine q_iload_n C 3 dX11_odds_76 rfl ?_
    refine q_cVI C lk_X11_263 (w_X11_knowersBehind (Y := Y) v2 v3 s10) (Nat.le_of_ble_eq_true rfl) rfl skM_0 (ltM skM_0 rfl) recv_11 (rest := [.int v5]) rfl rfl (Nat.le_of_ble_eq_true rfl) dX11_odds_77 (fun r11 => ?_)
    refine q_iload_n C 1 dX11_odds_80 rfl ?_
    refine q_cSI C lk_X11_199 (w_X11_hasBit (Y := Y) r11.1 v1 r11.2) (Nat.le_of_ble_eq_true rfl) rfl (rest := [.int v5]) rfl rfl (Nat.le_of_ble_eq_true rfl) dX11_odds_81 (fun r12 => ?_)
    refine q_if_eq C 91 dX11_odds_84 rfl (fun _ => ?_) (fun _ => ?_)
    · refine q_iconst C (v := 0) dX11_odds_91 (by decide) ?_
      refine q_iadd C dX11_odds_92 ?_
      refine q_istore C [(5, .int (v5 + 0)), (0, Rf Y 0), (1, .int v1), (2, .int v2), (3, .int v3), (4, .int v4), (6, .int v6)] dX11_odds_93 rfl rfl ?_
      refine q_iinc C 6 [(6, .int (v6 + 1)), (5, .int (v5 + 0)), (0, Rf Y 0), (1, .int v1), (2, .int v2), (3, .int v3), (4, .int v4)] dX11_odds_95 rfl rfl rfl rfl ?_
      refine q_goto C 57 dX11_odds_98 rfl ?_
      refine G.sub [2, 3, 4, 5, 6, 1, 0] (lv' := [(0, Rf Y 0), (1, .int v1), (2, .int v2), (3, .int v3), (4, .int v4), (5, .int (v5 + 0)), (6, .int (v6 + 1))]) rfl ?_
      exact ih v1 v2 v3 v4 (v5 + 0) (v6 + 1) r12.2
    refine q_iconst C (v := 1) dX11_odds_87 (by decide) ?_
    refine q_goto C 92 dX11_odds_88 rfl ?_
    refine q_iadd C dX11_odds_92 ?_
    refine q_istore C [(5, .int (v5 + 1)), (0, Rf Y 0), (1, .int v1), (2, .int v2), (3, .int v3), (4, .int v4), (6, .int v6)] dX11_odds_93 rfl rfl ?_
    refine q_iinc C 6 [(6, .int (v6 + 1)), (5, .int (v5 + 1)), (0, Rf Y 0), (1, .int v1), (2, .int v2), (3, .int v3), (4, .int v4)] dX11_odds_95 rfl rfl rfl rfl ?_
    refine q_goto C 57 dX11_odds_98 rfl ?_
    refine G.sub [2, 3, 4, 5, 6, 1, 0] (lv' := [(0, Rf Y 0), (1, .int v1), (2, .int v2), (3, .int v3), (4, .int v4), (5, .int (v5 + 1)), (6, .int (v6 + 1))]) rfl ?_
    exact ih v1 v2 v3 v4 (v5 + 1) (v6 + 1) r12.2
def f_X11_odds (a1 : Int32) (a2 : Int32) (a3 : Int32) (a4 : Int32) (σ : St) : Option (Int32 × St) := (Option.bind (f_X11_isOne a1 σ) fun r1 => (if r1.1 = 0 then (Option.bind (f_X11_finding (-1000000001) r1.2) fun r2 => (some (r2.1, r2.2))) else (Option.bind (f_X11_isSaying a2 r1.2) fun r3 => (if r3.1 = 0 then (Option.bind (f_X11_finding (-1000000001) r3.2) fun r4 => (some (r4.1, r4.2))) else (Option.bind (f_X11_isBehind a3 r3.2) fun r5 => (if r5.1 = 0 then (Option.bind (f_X11_finding (-1000000001) r5.2) fun r6 => (some (r6.1, r6.2))) else (Option.bind (f_X11_within a4 0 1 r5.2) fun r7 => (if r7.1 = 0 then (Option.bind (f_X11_finding (-1000000001) r7.2) fun r9 => (some (r9.1, r9.2))) else (Option.bind (f_X11_copy 1 3 r7.2) fun r8 => (f_X11_odds_L57 400 a1 a2 a3 a4 0 0 r8))))))))))
theorem w_X11_odds {Y : YT} (a1 : Int32) (a2 : Int32) (a3 : Int32) (a4 : Int32)   (σ : St) : CtE (emI FM Y) FM Y yX11_odds cX11_odds 9 (some .int) 8 [Rf Y 0, .int a1, .int a2, .int a3, .int a4] σ (f_X11_odds a1 a2 a3 a4 σ) := by
  refine Ct.ofG (by decide) (Nat.le_of_ble_eq_true rfl) (fun X C0 => ?_)
  have C : Cx FM Y X cX11_odds 9 RX11 (some .int) 8 (0, 0) := C0
  show G FM Y X 9 (emI FM Y) (0, 0) (0, 0) 0 [(0, Rf Y 0), (1, .int a1), (2, .int a2), (3, .int a3), (4, .int a4)] [] (RepS FM Y σ) (f_X11_odds a1 a2 a3 a4 σ)
  rw [f_X11_odds]
  refine q_aload_n C 0 dX11_odds_0 rfl ?_
  refine q_iload_n C 1 dX11_odds_1 rfl ?_
  refine q_cVI C lk_X11_228 (w_X11_isOne (Y := Y) a1 σ) (Nat.le_of_ble_eq_true rfl) rfl skM_0 (ltM skM_0 rfl) recv_11 (rest := []) rfl rfl (Nat.le_of_ble_eq_true rfl) dX11_odds_2 (fun r1 => ?_)
  refine q_if_eq C 33 dX11_odds_5 rfl (fun _ => ?_) (fun _ => ?_)
  · refine q_aload_n C 0 dX11_odds_33 rfl ?_
    refine q_ldc C (v := (-1000000001)) (TB_of (List.mem_of_getElem? (i := 1119) (by decide +kernel)) rfl) dX11_odds_34 ?_
    refine q_cVI C lk_X11_75 (w_X11_finding (Y := Y) (-1000000001) r1.2) (Nat.le_of_ble_eq_true rfl) rfl skM_0 (ltM skM_0 rfl) recv_11 (rest := []) rfl rfl (Nat.le_of_ble_eq_true rfl) dX11_odds_36 (fun r2 => ?_)
    exact q_ireti C rfl dX11_odds_39
  refine q_aload_n C 0 dX11_odds_8 rfl ?_
  refine q_iload_n C 2 dX11_odds_9 rfl ?_
  refine q_cVI C lk_X11_215 (w_X11_isSaying (Y := Y) a2 r1.2) (Nat.le_of_ble_eq_true rfl) rfl skM_0 (ltM skM_0 rfl) recv_11 (rest := []) rfl rfl (Nat.le_of_ble_eq_true rfl) dX11_odds_10 (fun r3 => ?_)
  refine q_if_eq C 33 dX11_odds_13 rfl (fun _ => ?_) (fun _ => ?_)
  · refine q_aload_n C 0 dX11_odds_33 rfl ?_
    refine q_ldc C (v := (-1000000001)) (TB_of (List.mem_of_getElem? (i := 1119) (by decide +kernel)) rfl) dX11_odds_34 ?_
    refine q_cVI C lk_X11_75 (w_X11_finding (Y := Y) (-1000000001) r3.2) (Nat.le_of_ble_eq_true rfl) rfl skM_0 (ltM skM_0 rfl) recv_11 (rest := []) rfl rfl (Nat.le_of_ble_eq_true rfl) dX11_odds_36 (fun r4 => ?_)
    exact q_ireti C rfl dX11_odds_39
  refine q_iload_n C 3 dX11_odds_16 rfl ?_
  refine q_cSI C lk_X11_250 (w_X11_isBehind (Y := Y) a3 r3.2) (Nat.le_of_ble_eq_true rfl) rfl (rest := []) rfl rfl (Nat.le_of_ble_eq_true rfl) dX11_odds_17 (fun r5 => ?_)
  refine q_if_eq C 33 dX11_odds_20 rfl (fun _ => ?_) (fun _ => ?_)
  · refine q_aload_n C 0 dX11_odds_33 rfl ?_
    refine q_ldc C (v := (-1000000001)) (TB_of (List.mem_of_getElem? (i := 1119) (by decide +kernel)) rfl) dX11_odds_34 ?_
    refine q_cVI C lk_X11_75 (w_X11_finding (Y := Y) (-1000000001) r5.2) (Nat.le_of_ble_eq_true rfl) rfl skM_0 (ltM skM_0 rfl) recv_11 (rest := []) rfl rfl (Nat.le_of_ble_eq_true rfl) dX11_odds_36 (fun r6 => ?_)
    exact q_ireti C rfl dX11_odds_39
  refine q_iload C 4 dX11_odds_23 rfl ?_
  refine q_iconst C (v := 0) dX11_odds_25 (by decide) ?_
  refine q_iconst C (v := 1) dX11_odds_26 (by decide) ?_
  refine q_cSI C lk_X11_70 (w_X11_within (Y := Y) a4 0 1 r5.2) (Nat.le_of_ble_eq_true rfl) rfl (rest := []) rfl rfl (Nat.le_of_ble_eq_true rfl) dX11_odds_27 (fun r7 => ?_)
  refine q_if_ne C 40 dX11_odds_30 rfl (fun _ => ?_) (fun _ => ?_)
  · refine q_aload_n C 0 dX11_odds_40 rfl ?_
    refine gf_X11_9 C skM_0 dX11_odds_41 ?_
    refine q_aload_n C 0 dX11_odds_44 rfl ?_
    refine gf_X11_16 C skM_0 dX11_odds_45 ?_
    refine q_cSV C lk_X11_66 (w_X11_copy (Y := Y) 1 3 saM_1 saM_3 r7.2) (Nat.le_of_ble_eq_true rfl) rfl (rest := []) rfl rfl (Nat.le_of_ble_eq_true rfl) dX11_odds_48 (fun r8 => ?_)
    refine q_iconst C (v := 0) dX11_odds_51 (by decide) ?_
    refine q_istore C [(5, .int 0), (0, Rf Y 0), (1, .int a1), (2, .int a2), (3, .int a3), (4, .int a4)] dX11_odds_52 rfl rfl ?_
    refine q_iconst C (v := 0) dX11_odds_54 (by decide) ?_
    refine q_istore C [(6, .int 0), (5, .int 0), (0, Rf Y 0), (1, .int a1), (2, .int a2), (3, .int a3), (4, .int a4)] dX11_odds_55 rfl rfl ?_
    refine G.sub [2, 3, 4, 5, 6, 1, 0] (lv' := [(0, Rf Y 0), (1, .int a1), (2, .int a2), (3, .int a3), (4, .int a4), (5, .int 0), (6, .int 0)]) rfl ?_
    exact w_X11_odds_L57 C 400 a1 a2 a3 a4 0 0 r8
  refine q_aload_n C 0 dX11_odds_33 rfl ?_
  refine q_ldc C (v := (-1000000001)) (TB_of (List.mem_of_getElem? (i := 1119) (by decide +kernel)) rfl) dX11_odds_34 ?_
  refine q_cVI C lk_X11_75 (w_X11_finding (Y := Y) (-1000000001) r7.2) (Nat.le_of_ble_eq_true rfl) rfl skM_0 (ltM skM_0 rfl) recv_11 (rest := []) rfl rfl (Nat.le_of_ble_eq_true rfl) dX11_odds_36 (fun r9 => ?_)
  exact q_ireti C rfl dX11_odds_39
def f_X11_seed (a1 : Int32) (σ : St) : Option (Int32 × St) := (Option.bind (f_X11_turn 6 a1 σ) fun r1 => (some (r1.1, r1.2)))
theorem w_X11_seed {Y : YT} (a1 : Int32)   (σ : St) : CtE (emI FM Y) FM Y yX11_seed cX11_seed 2 (some .int) 1 [Rf Y 0, .int a1] σ (f_X11_seed a1 σ) := by
  refine Ct.ofG (by decide) (Nat.le_of_ble_eq_true rfl) (fun X C0 => ?_)
  have C : Cx FM Y X cX11_seed 2 RX11 (some .int) 1 (0, 0) := C0
  show G FM Y X 2 (emI FM Y) (0, 0) (0, 0) 0 [(0, Rf Y 0), (1, .int a1)] [] (RepS FM Y σ) (f_X11_seed a1 σ)
  rw [f_X11_seed]
  refine q_aload_n C 0 dX11_seed_0 rfl ?_
  refine q_bipush C (v := 6) dX11_seed_1 (by decide) ?_
  refine q_iload_n C 1 dX11_seed_3 rfl ?_
  refine q_cVI C lk_X11_166 (w_X11_turn (Y := Y) 6 a1 σ) (Nat.le_of_ble_eq_true rfl) rfl skM_0 (ltM skM_0 rfl) recv_11 (rest := []) rfl rfl (Nat.le_of_ble_eq_true rfl) dX11_seed_4 (fun r1 => ?_)
  exact q_ireti C rfl dX11_seed_7
def f_X11_ran (a1 : Int32) (σ : St) : Option (St) := (if 40 ≤ (σ 0 15) then (some σ) else (if inb (σ 0 15) (shM 9 - 100) = true then (Bst (up σ 9 (σ 0 15).toNatClampNeg a1) fun s1 => (Bst (up s1 0 15 ((s1 0 15) + 1)) fun s2 => (some s2))) else none))
theorem w_X11_ran {Y : YT} (a1 : Int32)   (σ : St) : CtE (emV FM Y) FM Y yX11_ran cX11_ran 2 none 0 [Rf Y 0, .int a1] σ (f_X11_ran a1 σ) := by
  refine Ct.ofG (by decide) (Nat.le_of_ble_eq_true rfl) (fun X C0 => ?_)
  have C : Cx FM Y X cX11_ran 2 RX11 none 0 (0, 0) := C0
  show G FM Y X 2 (emV FM Y) (0, 0) (0, 0) 0 [(0, Rf Y 0), (1, .int a1)] [] (RepS FM Y σ) (f_X11_ran a1 σ)
  rw [f_X11_ran]
  refine q_aload_n C 0 dX11_ran_0 rfl ?_
  refine gf_X11_288 C skM_0 dX11_ran_1 ?_
  refine q_bipush C (v := 40) dX11_ran_4 (by decide) ?_
  refine q_icmp_ge C 29 dX11_ran_6 rfl (fun _ => ?_) (fun _ => ?_)
  · exact q_vret C rfl dX11_ran_29
  refine q_aload_n C 0 dX11_ran_9 rfl ?_
  refine gf_X11_41 C skM_0 dX11_ran_10 ?_
  refine q_aload_n C 0 dX11_ran_13 rfl ?_
  refine gf_X11_288 C skM_0 dX11_ran_14 ?_
  refine q_iload_n C 1 dX11_ran_17 rfl ?_
  refine q_astS C saM_9 (ltMa saM_9) dX11_ran_18 (fun _ s1 => ?_)
  refine q_aload_n C 0 dX11_ran_19 rfl ?_
  refine q_dup C dX11_ran_20 rfl ?_
  refine gf_X11_288 C skM_0 dX11_ran_21 ?_
  refine q_iconst C (v := 1) dX11_ran_24 (by decide) ?_
  refine q_iadd C dX11_ran_25 ?_
  refine pf_X11_288 C skM_0 dX11_ran_26 (fun s2 => ?_)
  exact q_vret C rfl dX11_ran_29
theorem lk_X11_294 : LkV RX11 294 yX11_ran cX11_ran 2 none 1 := ⟨TB_p [1488, 1490, 61, 81, 1491] (by decide +kernel) (by decide +kernel), by decide +kernel, by decide +kernel, by decide +kernel⟩
def f_X11_callsOf_L19 (v1 : Int32) (v2 : Int32) (σ : St) : Option (Int32 × St) := (Option.bind (f_X11_ran 10 σ) fun r3 => (if v2 = 0 then (some ((v1 + (r3 0 17)), r3)) else (some (((v1 + (r3 0 17)) * 3), r3))))
theorem w_X11_callsOf_L19 {Y : YT} {X : XT} (C : Cx FM Y X cX11_callsOf 3 RX11 (some .int) 2 (0, 0)) : ∀ (v1 : Int32), ∀ (v2 : Int32), ∀ (σ : St), G FM Y X 3 (emI FM Y) (0, 0) (0, 0) 19 [(0, Rf Y 0), (1, .int v1), (2, .int v2)] [] (RepS FM Y σ) (f_X11_callsOf_L19 v1 v2 σ) := by
  intro v1 v2 σ
  rw [f_X11_callsOf_L19]
  refine q_aload_n C 0 dX11_callsOf_19 rfl ?_
  refine q_bipush C (v := 10) dX11_callsOf_20 (by decide) ?_
  refine q_cVV C lk_X11_294 (w_X11_ran (Y := Y) 10 σ) (Nat.le_of_ble_eq_true rfl) rfl skM_0 (ltM skM_0 rfl) recv_11 (rest := []) rfl rfl (Nat.le_of_ble_eq_true rfl) dX11_callsOf_22 (fun r3 => ?_)
  refine q_iload_n C 2 dX11_callsOf_25 rfl ?_
  refine q_if_eq C 40 dX11_callsOf_26 rfl (fun _ => ?_) (fun _ => ?_)
  · refine q_iload_n C 1 dX11_callsOf_40 rfl ?_
    refine q_aload_n C 0 dX11_callsOf_41 rfl ?_
    refine gf_X11_297 C skM_0 dX11_callsOf_42 ?_
    refine q_iadd C dX11_callsOf_45 ?_
    exact q_ireti C rfl dX11_callsOf_46
  refine q_iload_n C 1 dX11_callsOf_29 rfl ?_
  refine q_aload_n C 0 dX11_callsOf_30 rfl ?_
  refine gf_X11_297 C skM_0 dX11_callsOf_31 ?_
  refine q_iadd C dX11_callsOf_34 ?_
  refine q_iconst C (v := 3) dX11_callsOf_35 (by decide) ?_
  refine q_imul C dX11_callsOf_36 ?_
  refine q_goto C 46 dX11_callsOf_37 rfl ?_
  exact q_ireti C rfl dX11_callsOf_46
def f_X11_callsOf (a1 : Int32) (σ : St) : Option (Int32 × St) := (Option.bind (f_X11_isUnder (σ 0 16) 1 σ) fun r1 => (if r1.1 = 0 then (f_X11_callsOf_L19 a1 r1.1 r1.2) else (Option.bind (f_X11_ran 20 r1.2) fun r2 => (f_X11_callsOf_L19 a1 r1.1 r2))))
theorem w_X11_callsOf {Y : YT} (a1 : Int32)   (σ : St) : CtE (emI FM Y) FM Y yX11_callsOf cX11_callsOf 3 (some .int) 2 [Rf Y 0, .int a1] σ (f_X11_callsOf a1 σ) := by
  refine Ct.ofG (by decide) (Nat.le_of_ble_eq_true rfl) (fun X C0 => ?_)
  have C : Cx FM Y X cX11_callsOf 3 RX11 (some .int) 2 (0, 0) := C0
  show G FM Y X 3 (emI FM Y) (0, 0) (0, 0) 0 [(0, Rf Y 0), (1, .int a1)] [] (RepS FM Y σ) (f_X11_callsOf a1 σ)
  rw [f_X11_callsOf]
  refine q_aload_n C 0 dX11_callsOf_0 rfl ?_
  refine gf_X11_291 C skM_0 dX11_callsOf_1 ?_
  refine q_iconst C (v := 1) dX11_callsOf_4 (by decide) ?_
  refine q_cSI C lk_X11_212 (w_X11_isUnder (Y := Y) (σ 0 16) 1 σ) (Nat.le_of_ble_eq_true rfl) rfl (rest := []) rfl rfl (Nat.le_of_ble_eq_true rfl) dX11_callsOf_5 (fun r1 => ?_)
  refine q_istore_n C [(2, .int r1.1), (0, Rf Y 0), (1, .int a1)] dX11_callsOf_8 rfl rfl ?_
  refine q_iload_n C 0 dX11_callsOf_9 rfl ?_
  refine q_if_eq C 19 dX11_callsOf_10 rfl (fun _ => ?_) (fun _ => ?_)
  · refine G.sub [1, 2, 0] (lv' := [(0, Rf Y 0), (1, .int a1), (2, .int r1.1)]) rfl ?_
    exact w_X11_callsOf_L19 C a1 r1.1 r1.2
  refine q_aload_n C 1 dX11_callsOf_13 rfl ?_
  refine q_bipush C (v := 20) dX11_callsOf_14 (by decide) ?_
  refine q_cVV C lk_X11_294 (w_X11_ran (Y := Y) 20 r1.2) (Nat.le_of_ble_eq_true rfl) rfl skM_0 (ltM skM_0 rfl) recv_11 (rest := []) rfl rfl (Nat.le_of_ble_eq_true rfl) dX11_callsOf_16 (fun r2 => ?_)
  refine G.sub [1, 2, 0] (lv' := [(0, Rf Y 0), (1, .int a1), (2, .int r1.1)]) rfl ?_
  exact w_X11_callsOf_L19 C a1 r1.1 r2
def f_X11_clearsOf_L34 (v1 : Int32) (v2 : Int32) (σ : St) : Option (Int32 × St) := (Option.bind (f_X11_ran 12 σ) fun r6 => (if v2 = 0 then (if (r6 0 16) = 6 then (some (((v1 - (r6 0 18)) ^^^ (r6 0 17)), r6)) else (some ((v1 - (r6 0 18)), r6))) else (if (r6 0 16) = 6 then (some (((-(v1 - (r6 0 18))) ^^^ (r6 0 17)), r6)) else (some ((-(v1 - (r6 0 18))), r6)))))
theorem w_X11_clearsOf_L34 {Y : YT} {X : XT} (C : Cx FM Y X cX11_clearsOf 4 RX11 (some .int) 2 (0, 0)) : ∀ (v1 : Int32), ∀ (v2 : Int32), ∀ (σ : St), G FM Y X 4 (emI FM Y) (0, 0) (0, 0) 34 [(0, Rf Y 0), (1, .int v1), (2, .int v2)] [] (RepS FM Y σ) (f_X11_clearsOf_L34 v1 v2 σ) := by
  intro v1 v2 σ
  rw [f_X11_clearsOf_L34]
  refine q_aload_n C 0 dX11_clearsOf_34 rfl ?_
  refine q_bipush C (v := 12) dX11_clearsOf_35 (by decide) ?_
  refine q_cVV C lk_X11_294 (w_X11_ran (Y := Y) 12 σ) (Nat.le_of_ble_eq_true rfl) rfl skM_0 (ltM skM_0 rfl) recv_11 (rest := []) rfl rfl (Nat.le_of_ble_eq_true rfl) dX11_clearsOf_37 (fun r6 => ?_)
  refine q_iload_n C 2 dX11_clearsOf_40 rfl ?_
  refine q_if_eq C 54 dX11_clearsOf_41 rfl (fun _ => ?_) (fun _ => ?_)
  · refine q_iload_n C 1 dX11_clearsOf_54 rfl ?_
    refine q_aload_n C 0 dX11_clearsOf_55 rfl ?_
    refine gf_X11_306 C skM_0 dX11_clearsOf_56 ?_
    refine q_isub C dX11_clearsOf_59 ?_
    refine q_istore_n C [(3, .int (v1 - (r6 0 18))), (0, Rf Y 0), (1, .int v1), (2, .int v2)] dX11_clearsOf_60 rfl rfl ?_
    refine q_aload_n C 1 dX11_clearsOf_61 rfl ?_
    refine gf_X11_291 C skM_0 dX11_clearsOf_62 ?_
    refine q_bipush C (v := 6) dX11_clearsOf_65 (by decide) ?_
    refine q_icmp_ne C 79 dX11_clearsOf_67 rfl (fun _ => ?_) (fun _ => ?_)
    · refine q_iload_n C 0 dX11_clearsOf_79 rfl ?_
      exact q_ireti C rfl dX11_clearsOf_80
    refine q_iload_n C 0 dX11_clearsOf_70 rfl ?_
    refine q_aload_n C 1 dX11_clearsOf_71 rfl ?_
    refine gf_X11_297 C skM_0 dX11_clearsOf_72 ?_
    refine q_ixor C dX11_clearsOf_75 ?_
    refine q_goto C 80 dX11_clearsOf_76 rfl ?_
    exact q_ireti C rfl dX11_clearsOf_80
  refine q_iload_n C 1 dX11_clearsOf_44 rfl ?_
  refine q_aload_n C 0 dX11_clearsOf_45 rfl ?_
  refine gf_X11_306 C skM_0 dX11_clearsOf_46 ?_
  refine q_isub C dX11_clearsOf_49 ?_
  refine q_ineg C dX11_clearsOf_50 ?_
  refine q_goto C 60 dX11_clearsOf_51 rfl ?_
  refine q_istore_n C [(3, .int (-(v1 - (r6 0 18)))), (0, Rf Y 0), (1, .int v1), (2, .int v2)] dX11_clearsOf_60 rfl rfl ?_
  refine q_aload_n C 1 dX11_clearsOf_61 rfl ?_
  refine gf_X11_291 C skM_0 dX11_clearsOf_62 ?_
  refine q_bipush C (v := 6) dX11_clearsOf_65 (by decide) ?_
  refine q_icmp_ne C 79 dX11_clearsOf_67 rfl (fun _ => ?_) (fun _ => ?_)
  · refine q_iload_n C 0 dX11_clearsOf_79 rfl ?_
    exact q_ireti C rfl dX11_clearsOf_80
  refine q_iload_n C 0 dX11_clearsOf_70 rfl ?_
  refine q_aload_n C 1 dX11_clearsOf_71 rfl ?_
  refine gf_X11_297 C skM_0 dX11_clearsOf_72 ?_
  refine q_ixor C dX11_clearsOf_75 ?_
  refine q_goto C 80 dX11_clearsOf_76 rfl ?_
  exact q_ireti C rfl dX11_clearsOf_80
def f_X11_clearsOf (a1 : Int32) (σ : St) : Option (Int32 × St) := (if (σ 0 16) = 6 then (Option.bind (f_X11_ran 70 σ) fun r3 => (Option.bind (f_X11_isUnder (r3 0 16) 3 r3) fun r4 => (if r4.1 = 0 then (f_X11_clearsOf_L34 a1 r4.1 r4.2) else (Option.bind (f_X11_ran 40 r4.2) fun r5 => (f_X11_clearsOf_L34 a1 r4.1 r5))))) else (Option.bind (f_X11_isUnder (σ 0 16) 3 σ) fun r1 => (if r1.1 = 0 then (f_X11_clearsOf_L34 a1 r1.1 r1.2) else (Option.bind (f_X11_ran 40 r1.2) fun r2 => (f_X11_clearsOf_L34 a1 r1.1 r2)))))
theorem w_X11_clearsOf {Y : YT} (a1 : Int32)   (σ : St) : CtE (emI FM Y) FM Y yX11_clearsOf cX11_clearsOf 4 (some .int) 2 [Rf Y 0, .int a1] σ (f_X11_clearsOf a1 σ) := by
  refine Ct.ofG (by decide) (Nat.le_of_ble_eq_true rfl) (fun X C0 => ?_)
  have C : Cx FM Y X cX11_clearsOf 4 RX11 (some .int) 2 (0, 0) := C0
  show G FM Y X 4 (emI FM Y) (0, 0) (0, 0) 0 [(0, Rf Y 0), (1, .int a1)] [] (RepS FM Y σ) (f_X11_clearsOf a1 σ)
  rw [f_X11_clearsOf]
  refine q_aload_n C 0 dX11_clearsOf_0 rfl ?_
  refine gf_X11_291 C skM_0 dX11_clearsOf_1 ?_
  refine q_bipush C (v := 6) dX11_clearsOf_4 (by decide) ?_
  refine q_icmp_ne C 15 dX11_clearsOf_6 rfl (fun _ => ?_) (fun _ => ?_)
  · refine q_aload_n C 0 dX11_clearsOf_15 rfl ?_
    refine gf_X11_291 C skM_0 dX11_clearsOf_16 ?_
    refine q_iconst C (v := 3) dX11_clearsOf_19 (by decide) ?_
    refine q_cSI C lk_X11_212 (w_X11_isUnder (Y := Y) (σ 0 16) 3 σ) (Nat.le_of_ble_eq_true rfl) rfl (rest := []) rfl rfl (Nat.le_of_ble_eq_true rfl) dX11_clearsOf_20 (fun r1 => ?_)
    refine q_istore_n C [(2, .int r1.1), (0, Rf Y 0), (1, .int a1)] dX11_clearsOf_23 rfl rfl ?_
    refine q_iload_n C 0 dX11_clearsOf_24 rfl ?_
    refine q_if_eq C 34 dX11_clearsOf_25 rfl (fun _ => ?_) (fun _ => ?_)
    · refine G.sub [1, 2, 0] (lv' := [(0, Rf Y 0), (1, .int a1), (2, .int r1.1)]) rfl ?_
      exact w_X11_clearsOf_L34 C a1 r1.1 r1.2
    refine q_aload_n C 1 dX11_clearsOf_28 rfl ?_
    refine q_bipush C (v := 40) dX11_clearsOf_29 (by decide) ?_
    refine q_cVV C lk_X11_294 (w_X11_ran (Y := Y) 40 r1.2) (Nat.le_of_ble_eq_true rfl) rfl skM_0 (ltM skM_0 rfl) recv_11 (rest := []) rfl rfl (Nat.le_of_ble_eq_true rfl) dX11_clearsOf_31 (fun r2 => ?_)
    refine G.sub [1, 2, 0] (lv' := [(0, Rf Y 0), (1, .int a1), (2, .int r1.1)]) rfl ?_
    exact w_X11_clearsOf_L34 C a1 r1.1 r2
  refine q_aload_n C 0 dX11_clearsOf_9 rfl ?_
  refine q_bipush C (v := 70) dX11_clearsOf_10 (by decide) ?_
  refine q_cVV C lk_X11_294 (w_X11_ran (Y := Y) 70 σ) (Nat.le_of_ble_eq_true rfl) rfl skM_0 (ltM skM_0 rfl) recv_11 (rest := []) rfl rfl (Nat.le_of_ble_eq_true rfl) dX11_clearsOf_12 (fun r3 => ?_)
  refine q_aload_n C 0 dX11_clearsOf_15 rfl ?_
  refine gf_X11_291 C skM_0 dX11_clearsOf_16 ?_
  refine q_iconst C (v := 3) dX11_clearsOf_19 (by decide) ?_
  refine q_cSI C lk_X11_212 (w_X11_isUnder (Y := Y) (r3 0 16) 3 r3) (Nat.le_of_ble_eq_true rfl) rfl (rest := []) rfl rfl (Nat.le_of_ble_eq_true rfl) dX11_clearsOf_20 (fun r4 => ?_)
  refine q_istore_n C [(2, .int r4.1), (0, Rf Y 0), (1, .int a1)] dX11_clearsOf_23 rfl rfl ?_
  refine q_iload_n C 0 dX11_clearsOf_24 rfl ?_
  refine q_if_eq C 34 dX11_clearsOf_25 rfl (fun _ => ?_) (fun _ => ?_)
  · refine G.sub [1, 2, 0] (lv' := [(0, Rf Y 0), (1, .int a1), (2, .int r4.1)]) rfl ?_
    exact w_X11_clearsOf_L34 C a1 r4.1 r4.2
  refine q_aload_n C 1 dX11_clearsOf_28 rfl ?_
  refine q_bipush C (v := 40) dX11_clearsOf_29 (by decide) ?_
  refine q_cVV C lk_X11_294 (w_X11_ran (Y := Y) 40 r4.2) (Nat.le_of_ble_eq_true rfl) rfl skM_0 (ltM skM_0 rfl) recv_11 (rest := []) rfl rfl (Nat.le_of_ble_eq_true rfl) dX11_clearsOf_31 (fun r5 => ?_)
  refine G.sub [1, 2, 0] (lv' := [(0, Rf Y 0), (1, .int a1), (2, .int r4.1)]) rfl ?_
  exact w_X11_clearsOf_L34 C a1 r4.1 r5
theorem lk_X11_300 : LkV RX11 300 yX11_callsOf cX11_callsOf 3 (some .int) 1 := ⟨TB_p [1484, 1486, 60, 81, 1487] (by decide +kernel) (by decide +kernel), by decide +kernel, by decide +kernel, by decide +kernel⟩
theorem lk_X11_303 : LkV RX11 303 yX11_clearsOf cX11_clearsOf 4 (some .int) 1 := ⟨TB_p [1496, 1498, 63, 81, 1499] (by decide +kernel) (by decide +kernel), by decide +kernel, by decide +kernel, by decide +kernel⟩
def f_X11_echoesOf_L38 (v2 : Int32) (v3 : Int32) (σ : St) : Option (Int32 × St) := (Option.bind (f_X11_ran 11 σ) fun r6 => (Option.bind (f_X11_callsOf v2 r6) fun r7 => (if v3 = 0 then (some ((r7.1 * 2), r7.2)) else (Option.bind (f_X11_clearsOf 1 r7.2) fun r8 => (some (((r7.1 * 2) - r8.1), r8.2))))))
theorem w_X11_echoesOf_L38 {Y : YT} {X : XT} (C : Cx FM Y X cX11_echoesOf 5 RX11 (some .int) 3 (0, 0)) : ∀ (v2 : Int32), ∀ (v3 : Int32), ∀ (σ : St), G FM Y X 5 (emI FM Y) (0, 0) (0, 0) 38 [(0, Rf Y 0), (2, .int v2), (3, .int v3)] [] (RepS FM Y σ) (f_X11_echoesOf_L38 v2 v3 σ) := by
  intro v2 v3 σ
  rw [f_X11_echoesOf_L38]
  refine q_aload_n C 0 dX11_echoesOf_38 rfl ?_
  refine q_bipush C (v := 11) dX11_echoesOf_39 (by decide) ?_
  refine q_cVV C lk_X11_294 (w_X11_ran (Y := Y) 11 σ) (Nat.le_of_ble_eq_true rfl) rfl skM_0 (ltM skM_0 rfl) recv_11 (rest := []) rfl rfl (Nat.le_of_ble_eq_true rfl) dX11_echoesOf_41 (fun r6 => ?_)
  refine q_aload_n C 0 dX11_echoesOf_44 rfl ?_
  refine q_iload_n C 1 dX11_echoesOf_45 rfl ?_
  refine q_cVI C lk_X11_300 (w_X11_callsOf (Y := Y) v2 r6) (Nat.le_of_ble_eq_true rfl) rfl skM_0 (ltM skM_0 rfl) recv_11 (rest := []) rfl rfl (Nat.le_of_ble_eq_true rfl) dX11_echoesOf_46 (fun r7 => ?_)
  refine q_iconst C (v := 2) dX11_echoesOf_49 (by decide) ?_
  refine q_imul C dX11_echoesOf_50 ?_
  refine q_istore C [(4, .int (r7.1 * 2)), (0, Rf Y 0), (2, .int v2), (3, .int v3)] dX11_echoesOf_51 rfl rfl ?_
  refine q_iload_n C 3 dX11_echoesOf_53 rfl ?_
  refine q_if_eq C 68 dX11_echoesOf_54 rfl (fun _ => ?_) (fun _ => ?_)
  · refine q_iload C 0 dX11_echoesOf_68 rfl ?_
    exact q_ireti C rfl dX11_echoesOf_70
  refine q_iload C 0 dX11_echoesOf_57 rfl ?_
  refine q_aload_n C 1 dX11_echoesOf_59 rfl ?_
  refine q_iconst C (v := 1) dX11_echoesOf_60 (by decide) ?_
  refine q_cVI C lk_X11_303 (w_X11_clearsOf (Y := Y) 1 r7.2) (Nat.le_of_ble_eq_true rfl) rfl skM_0 (ltM skM_0 rfl) recv_11 (rest := [.int (r7.1 * 2)]) rfl rfl (Nat.le_of_ble_eq_true rfl) dX11_echoesOf_61 (fun r8 => ?_)
  refine q_isub C dX11_echoesOf_64 ?_
  refine q_goto C 70 dX11_echoesOf_65 rfl ?_
  exact q_ireti C rfl dX11_echoesOf_70
def f_X11_echoesOf (a1 : Int32) (σ : St) : Option (Int32 × St) := (if (σ 0 16) = 5 then (Option.bind (f_X11_ran 60 σ) fun r3 => (Option.bind (f_X11_isUnder (r3 0 16) 2 r3) fun r4 => (if r4.1 = 0 then (f_X11_echoesOf_L38 (a1 + 1) r4.1 r4.2) else (Option.bind (f_X11_ran 30 r4.2) fun r5 => (f_X11_echoesOf_L38 (a1 + 1) r4.1 r5))))) else (Option.bind (f_X11_isUnder (σ 0 16) 2 σ) fun r1 => (if r1.1 = 0 then (f_X11_echoesOf_L38 a1 r1.1 r1.2) else (Option.bind (f_X11_ran 30 r1.2) fun r2 => (f_X11_echoesOf_L38 a1 r1.1 r2)))))
theorem w_X11_echoesOf {Y : YT} (a1 : Int32)   (σ : St) : CtE (emI FM Y) FM Y yX11_echoesOf cX11_echoesOf 5 (some .int) 3 [Rf Y 0, .int a1] σ (f_X11_echoesOf a1 σ) := by
  refine Ct.ofG (by decide) (Nat.le_of_ble_eq_true rfl) (fun X C0 => ?_)
  have C : Cx FM Y X cX11_echoesOf 5 RX11 (some .int) 3 (0, 0) := C0
  show G FM Y X 5 (emI FM Y) (0, 0) (0, 0) 0 [(0, Rf Y 0), (1, .int a1)] [] (RepS FM Y σ) (f_X11_echoesOf a1 σ)
  rw [f_X11_echoesOf]
  refine q_iload_n C 1 dX11_echoesOf_0 rfl ?_
  refine q_istore_n C [(2, .int a1), (0, Rf Y 0), (1, .int a1)] dX11_echoesOf_1 rfl rfl ?_
  refine q_aload_n C 1 dX11_echoesOf_2 rfl ?_
  refine gf_X11_291 C skM_0 dX11_echoesOf_3 ?_
  refine q_iconst C (v := 5) dX11_echoesOf_6 (by decide) ?_
  refine q_icmp_ne C 19 dX11_echoesOf_7 rfl (fun _ => ?_) (fun _ => ?_)
  · refine q_aload_n C 1 dX11_echoesOf_19 rfl ?_
    refine gf_X11_291 C skM_0 dX11_echoesOf_20 ?_
    refine q_iconst C (v := 2) dX11_echoesOf_23 (by decide) ?_
    refine q_cSI C lk_X11_212 (w_X11_isUnder (Y := Y) (σ 0 16) 2 σ) (Nat.le_of_ble_eq_true rfl) rfl (rest := []) rfl rfl (Nat.le_of_ble_eq_true rfl) dX11_echoesOf_24 (fun r1 => ?_)
    refine q_istore_n C [(3, .int r1.1), (2, .int a1), (0, Rf Y 0), (1, .int a1)] dX11_echoesOf_27 rfl rfl ?_
    refine q_iload_n C 0 dX11_echoesOf_28 rfl ?_
    refine q_if_eq C 38 dX11_echoesOf_29 rfl (fun _ => ?_) (fun _ => ?_)
    · refine G.sub [2, 1, 0] (lv' := [(0, Rf Y 0), (2, .int a1), (3, .int r1.1)]) rfl ?_
      exact w_X11_echoesOf_L38 C a1 r1.1 r1.2
    refine q_aload_n C 2 dX11_echoesOf_32 rfl ?_
    refine q_bipush C (v := 30) dX11_echoesOf_33 (by decide) ?_
    refine q_cVV C lk_X11_294 (w_X11_ran (Y := Y) 30 r1.2) (Nat.le_of_ble_eq_true rfl) rfl skM_0 (ltM skM_0 rfl) recv_11 (rest := []) rfl rfl (Nat.le_of_ble_eq_true rfl) dX11_echoesOf_35 (fun r2 => ?_)
    refine G.sub [2, 1, 0] (lv' := [(0, Rf Y 0), (2, .int a1), (3, .int r1.1)]) rfl ?_
    exact w_X11_echoesOf_L38 C a1 r1.1 r2
  refine q_aload_n C 1 dX11_echoesOf_10 rfl ?_
  refine q_bipush C (v := 60) dX11_echoesOf_11 (by decide) ?_
  refine q_cVV C lk_X11_294 (w_X11_ran (Y := Y) 60 σ) (Nat.le_of_ble_eq_true rfl) rfl skM_0 (ltM skM_0 rfl) recv_11 (rest := []) rfl rfl (Nat.le_of_ble_eq_true rfl) dX11_echoesOf_13 (fun r3 => ?_)
  refine q_iinc C 0 [(2, .int (a1 + 1)), (0, Rf Y 0), (1, .int a1)] dX11_echoesOf_16 rfl rfl rfl rfl ?_
  refine q_aload_n C 1 dX11_echoesOf_19 rfl ?_
  refine gf_X11_291 C skM_0 dX11_echoesOf_20 ?_
  refine q_iconst C (v := 2) dX11_echoesOf_23 (by decide) ?_
  refine q_cSI C lk_X11_212 (w_X11_isUnder (Y := Y) (r3 0 16) 2 r3) (Nat.le_of_ble_eq_true rfl) rfl (rest := []) rfl rfl (Nat.le_of_ble_eq_true rfl) dX11_echoesOf_24 (fun r4 => ?_)
  refine q_istore_n C [(3, .int r4.1), (2, .int (a1 + 1)), (0, Rf Y 0), (1, .int a1)] dX11_echoesOf_27 rfl rfl ?_
  refine q_iload_n C 0 dX11_echoesOf_28 rfl ?_
  refine q_if_eq C 38 dX11_echoesOf_29 rfl (fun _ => ?_) (fun _ => ?_)
  · refine G.sub [2, 1, 0] (lv' := [(0, Rf Y 0), (2, .int (a1 + 1)), (3, .int r4.1)]) rfl ?_
    exact w_X11_echoesOf_L38 C (a1 + 1) r4.1 r4.2
  refine q_aload_n C 2 dX11_echoesOf_32 rfl ?_
  refine q_bipush C (v := 30) dX11_echoesOf_33 (by decide) ?_
  refine q_cVV C lk_X11_294 (w_X11_ran (Y := Y) 30 r4.2) (Nat.le_of_ble_eq_true rfl) rfl skM_0 (ltM skM_0 rfl) recv_11 (rest := []) rfl rfl (Nat.le_of_ble_eq_true rfl) dX11_echoesOf_35 (fun r5 => ?_)
  refine G.sub [2, 1, 0] (lv' := [(0, Rf Y 0), (2, .int (a1 + 1)), (3, .int r4.1)]) rfl ?_
  exact w_X11_echoesOf_L38 C (a1 + 1) r4.1 r5
theorem lk_X11_309 : LkV RX11 309 yX11_echoesOf cX11_echoesOf 5 (some .int) 1 := ⟨TB_p [1492, 1494, 62, 81, 1495] (by decide +kernel) (by decide +kernel), by decide +kernel, by decide +kernel, by decide +kernel⟩
def f_X11_plainTastes (a1 : Int32) (σ : St) : Option (Int32 × St) := (Option.bind (f_X11_ran 13 σ) fun r1 => (Option.bind (f_X11_echoesOf a1 r1) fun r2 => (Option.bind (f_X11_clearsOf a1 r2.2) fun r3 => (some ((r2.1 ^^^ r3.1), r3.2)))))
theorem w_X11_plainTastes {Y : YT} (a1 : Int32)   (σ : St) : CtE (emI FM Y) FM Y yX11_plainTastes cX11_plainTastes 3 (some .int) 4 [Rf Y 0, .int a1] σ (f_X11_plainTastes a1 σ) := by
  refine Ct.ofG (by decide) (Nat.le_of_ble_eq_true rfl) (fun X C0 => ?_)
  have C : Cx FM Y X cX11_plainTastes 3 RX11 (some .int) 4 (0, 0) := C0
  show G FM Y X 3 (emI FM Y) (0, 0) (0, 0) 0 [(0, Rf Y 0), (1, .int a1)] [] (RepS FM Y σ) (f_X11_plainTastes a1 σ)
  rw [f_X11_plainTastes]
  refine q_aload_n C 0 dX11_plainTastes_0 rfl ?_
  refine q_bipush C (v := 13) dX11_plainTastes_1 (by decide) ?_
  refine q_cVV C lk_X11_294 (w_X11_ran (Y := Y) 13 σ) (Nat.le_of_ble_eq_true rfl) rfl skM_0 (ltM skM_0 rfl) recv_11 (rest := []) rfl rfl (Nat.le_of_ble_eq_true rfl) dX11_plainTastes_3 (fun r1 => ?_)
  refine q_aload_n C 0 dX11_plainTastes_6 rfl ?_
  refine q_iload_n C 1 dX11_plainTastes_7 rfl ?_
  refine q_cVI C lk_X11_309 (w_X11_echoesOf (Y := Y) a1 r1) (Nat.le_of_ble_eq_true rfl) rfl skM_0 (ltM skM_0 rfl) recv_11 (rest := []) rfl rfl (Nat.le_of_ble_eq_true rfl) dX11_plainTastes_8 (fun r2 => ?_)
  refine q_istore_n C [(2, .int r2.1), (0, Rf Y 0), (1, .int a1)] dX11_plainTastes_11 rfl rfl ?_
  refine q_iload_n C 0 dX11_plainTastes_12 rfl ?_
  refine q_aload_n C 1 dX11_plainTastes_13 rfl ?_
  refine q_iload_n C 2 dX11_plainTastes_14 rfl ?_
  refine q_cVI C lk_X11_303 (w_X11_clearsOf (Y := Y) a1 r2.2) (Nat.le_of_ble_eq_true rfl) rfl skM_0 (ltM skM_0 rfl) recv_11 (rest := [.int r2.1]) rfl rfl (Nat.le_of_ble_eq_true rfl) dX11_plainTastes_15 (fun r3 => ?_)
  refine q_ixor C dX11_plainTastes_18 ?_
  exact q_ireti C rfl dX11_plainTastes_19
theorem lk_X11_312 : LkV RX11 312 yX11_plainTastes cX11_plainTastes 3 (some .int) 1 := ⟨TB_p [1504, 1506, 65, 81, 1507] (by decide +kernel) (by decide +kernel), by decide +kernel, by decide +kernel, by decide +kernel⟩
def f_X11_tastesOf (a1 : Int32) (σ : St) : Option (Int32 × St) := (if (σ 0 16) = 6 then (Option.bind (f_X11_ran 71 σ) fun r5 => (Option.bind (f_X11_echoesOf a1 r5) fun r6 => (Option.bind (f_X11_plainTastes a1 r6.2) fun r7 => (some ((r6.1 - r7.1), r7.2))))) else (if (σ 0 16) = 4 then (Option.bind (f_X11_ran 50 σ) fun r2 => (Option.bind (f_X11_plainTastes a1 r2) fun r3 => (Option.bind (f_X11_callsOf 2 r3.2) fun r4 => (some ((r3.1 - r4.1), r4.2))))) else (Option.bind (f_X11_plainTastes a1 σ) fun r1 => (some (r1.1, r1.2)))))
theorem w_X11_tastesOf {Y : YT} (a1 : Int32)   (σ : St) : CtE (emI FM Y) FM Y yX11_tastesOf cX11_tastesOf 3 (some .int) 5 [Rf Y 0, .int a1] σ (f_X11_tastesOf a1 σ) := by
  refine Ct.ofG (by decide) (Nat.le_of_ble_eq_true rfl) (fun X C0 => ?_)
  have C : Cx FM Y X cX11_tastesOf 3 RX11 (some .int) 5 (0, 0) := C0
  show G FM Y X 3 (emI FM Y) (0, 0) (0, 0) 0 [(0, Rf Y 0), (1, .int a1)] [] (RepS FM Y σ) (f_X11_tastesOf a1 σ)
  rw [f_X11_tastesOf]
  refine q_aload_n C 0 dX11_tastesOf_0 rfl ?_
  refine gf_X11_291 C skM_0 dX11_tastesOf_1 ?_
  refine q_bipush C (v := 6) dX11_tastesOf_4 (by decide) ?_
  refine q_icmp_ne C 29 dX11_tastesOf_6 rfl (fun _ => ?_) (fun _ => ?_)
  · refine q_aload_n C 0 dX11_tastesOf_29 rfl ?_
    refine gf_X11_291 C skM_0 dX11_tastesOf_30 ?_
    refine q_iconst C (v := 4) dX11_tastesOf_33 (by decide) ?_
    refine q_icmp_ne C 57 dX11_tastesOf_34 rfl (fun _ => ?_) (fun _ => ?_)
    · refine q_aload_n C 0 dX11_tastesOf_57 rfl ?_
      refine q_iload_n C 1 dX11_tastesOf_58 rfl ?_
      refine q_cVI C lk_X11_312 (w_X11_plainTastes (Y := Y) a1 σ) (Nat.le_of_ble_eq_true rfl) rfl skM_0 (ltM skM_0 rfl) recv_11 (rest := []) rfl rfl (Nat.le_of_ble_eq_true rfl) dX11_tastesOf_59 (fun r1 => ?_)
      exact q_ireti C rfl dX11_tastesOf_62
    refine q_aload_n C 0 dX11_tastesOf_37 rfl ?_
    refine q_bipush C (v := 50) dX11_tastesOf_38 (by decide) ?_
    refine q_cVV C lk_X11_294 (w_X11_ran (Y := Y) 50 σ) (Nat.le_of_ble_eq_true rfl) rfl skM_0 (ltM skM_0 rfl) recv_11 (rest := []) rfl rfl (Nat.le_of_ble_eq_true rfl) dX11_tastesOf_40 (fun r2 => ?_)
    refine q_aload_n C 0 dX11_tastesOf_43 rfl ?_
    refine q_iload_n C 1 dX11_tastesOf_44 rfl ?_
    refine q_cVI C lk_X11_312 (w_X11_plainTastes (Y := Y) a1 r2) (Nat.le_of_ble_eq_true rfl) rfl skM_0 (ltM skM_0 rfl) recv_11 (rest := []) rfl rfl (Nat.le_of_ble_eq_true rfl) dX11_tastesOf_45 (fun r3 => ?_)
    refine q_istore_n C [(2, .int r3.1), (0, Rf Y 0), (1, .int a1)] dX11_tastesOf_48 rfl rfl ?_
    refine q_iload_n C 0 dX11_tastesOf_49 rfl ?_
    refine q_aload_n C 1 dX11_tastesOf_50 rfl ?_
    refine q_iconst C (v := 2) dX11_tastesOf_51 (by decide) ?_
    refine q_cVI C lk_X11_300 (w_X11_callsOf (Y := Y) 2 r3.2) (Nat.le_of_ble_eq_true rfl) rfl skM_0 (ltM skM_0 rfl) recv_11 (rest := [.int r3.1]) rfl rfl (Nat.le_of_ble_eq_true rfl) dX11_tastesOf_52 (fun r4 => ?_)
    refine q_isub C dX11_tastesOf_55 ?_
    exact q_ireti C rfl dX11_tastesOf_56
  refine q_aload_n C 0 dX11_tastesOf_9 rfl ?_
  refine q_bipush C (v := 71) dX11_tastesOf_10 (by decide) ?_
  refine q_cVV C lk_X11_294 (w_X11_ran (Y := Y) 71 σ) (Nat.le_of_ble_eq_true rfl) rfl skM_0 (ltM skM_0 rfl) recv_11 (rest := []) rfl rfl (Nat.le_of_ble_eq_true rfl) dX11_tastesOf_12 (fun r5 => ?_)
  refine q_aload_n C 0 dX11_tastesOf_15 rfl ?_
  refine q_iload_n C 1 dX11_tastesOf_16 rfl ?_
  refine q_cVI C lk_X11_309 (w_X11_echoesOf (Y := Y) a1 r5) (Nat.le_of_ble_eq_true rfl) rfl skM_0 (ltM skM_0 rfl) recv_11 (rest := []) rfl rfl (Nat.le_of_ble_eq_true rfl) dX11_tastesOf_17 (fun r6 => ?_)
  refine q_istore_n C [(2, .int r6.1), (0, Rf Y 0), (1, .int a1)] dX11_tastesOf_20 rfl rfl ?_
  refine q_iload_n C 0 dX11_tastesOf_21 rfl ?_
  refine q_aload_n C 1 dX11_tastesOf_22 rfl ?_
  refine q_iload_n C 2 dX11_tastesOf_23 rfl ?_
  refine q_cVI C lk_X11_312 (w_X11_plainTastes (Y := Y) a1 r6.2) (Nat.le_of_ble_eq_true rfl) rfl skM_0 (ltM skM_0 rfl) recv_11 (rest := [.int r6.1]) rfl rfl (Nat.le_of_ble_eq_true rfl) dX11_tastesOf_24 (fun r7 => ?_)
  refine q_isub C dX11_tastesOf_27 ?_
  exact q_ireti C rfl dX11_tastesOf_28
theorem lk_X11_315 : LkV RX11 315 yX11_tastesOf cX11_tastesOf 3 (some .int) 1 := ⟨TB_p [1500, 1502, 64, 81, 1503] (by decide +kernel) (by decide +kernel), by decide +kernel, by decide +kernel, by decide +kernel⟩
def f_X11_voice (a1 : Int32) (a2 : Int32) (a3 : Int32) (σ : St) : Option (Int32 × St) := (Option.bind (f_X11_isSaying a1 σ) fun r1 => (if r1.1 = 0 then (Option.bind (f_X11_finding (-1000000001) r1.2) fun r2 => (some (r2.1, r2.2))) else (Option.bind (f_X11_within a2 0 3 r1.2) fun r3 => (if r3.1 = 0 then (Option.bind (f_X11_finding (-1000000001) r3.2) fun r14 => (some (r14.1, r14.2))) else (Bst (up r3.2 0 15 0) fun s4 => (Option.bind (f_X11_sayingIs a1 0 s4) fun r5 => (Bst (up r5.2 0 16 r5.1) fun s6 => (Bst (up s6 0 17 a1) fun s7 => (Option.bind (f_X11_sayingIs a1 1 s7) fun r8 => (Bst (up r8.2 0 18 r8.1) fun s9 => (if a2 = 0 then (Option.bind (f_X11_callsOf a3 s9) fun r13 => (some (r13.1, r13.2))) else (if a2 = 1 then (Option.bind (f_X11_echoesOf a3 s9) fun r12 => (some (r12.1, r12.2))) else (if a2 = 2 then (Option.bind (f_X11_clearsOf a3 s9) fun r11 => (some (r11.1, r11.2))) else (Option.bind (f_X11_tastesOf a3 s9) fun r10 => (some (r10.1, r10.2))))))))))))))))
theorem w_X11_voice {Y : YT} (a1 : Int32) (a2 : Int32) (a3 : Int32)   (σ : St) : CtE (emI FM Y) FM Y yX11_voice cX11_voice 4 (some .int) 6 [Rf Y 0, .int a1, .int a2, .int a3] σ (f_X11_voice a1 a2 a3 σ) := by
  refine Ct.ofG (by decide) (Nat.le_of_ble_eq_true rfl) (fun X C0 => ?_)
  have C : Cx FM Y X cX11_voice 4 RX11 (some .int) 6 (0, 0) := C0
  show G FM Y X 4 (emI FM Y) (0, 0) (0, 0) 0 [(0, Rf Y 0), (1, .int a1), (2, .int a2), (3, .int a3)] [] (RepS FM Y σ) (f_X11_voice a1 a2 a3 σ)
  rw [f_X11_voice]
  refine q_aload_n C 0 dX11_voice_0 rfl ?_
  refine q_iload_n C 1 dX11_voice_1 rfl ?_
  refine q_cVI C lk_X11_215 (w_X11_isSaying (Y := Y) a1 σ) (Nat.le_of_ble_eq_true rfl) rfl skM_0 (ltM skM_0 rfl) recv_11 (rest := []) rfl rfl (Nat.le_of_ble_eq_true rfl) dX11_voice_2 (fun r1 => ?_)
  refine q_if_eq C 17 dX11_voice_5 rfl (fun _ => ?_) (fun _ => ?_)
  · refine q_aload_n C 0 dX11_voice_17 rfl ?_
    refine q_ldc C (v := (-1000000001)) (TB_of (List.mem_of_getElem? (i := 1119) (by decide +kernel)) rfl) dX11_voice_18 ?_
    refine q_cVI C lk_X11_75 (w_X11_finding (Y := Y) (-1000000001) r1.2) (Nat.le_of_ble_eq_true rfl) rfl skM_0 (ltM skM_0 rfl) recv_11 (rest := []) rfl rfl (Nat.le_of_ble_eq_true rfl) dX11_voice_20 (fun r2 => ?_)
    exact q_ireti C rfl dX11_voice_23
  refine q_iload_n C 2 dX11_voice_8 rfl ?_
  refine q_iconst C (v := 0) dX11_voice_9 (by decide) ?_
  refine q_iconst C (v := 3) dX11_voice_10 (by decide) ?_
  refine q_cSI C lk_X11_70 (w_X11_within (Y := Y) a2 0 3 r1.2) (Nat.le_of_ble_eq_true rfl) rfl (rest := []) rfl rfl (Nat.le_of_ble_eq_true rfl) dX11_voice_11 (fun r3 => ?_)
  refine q_if_ne C 24 dX11_voice_14 rfl (fun _ => ?_) (fun _ => ?_)
  · refine q_aload_n C 0 dX11_voice_24 rfl ?_
    refine q_iconst C (v := 0) dX11_voice_25 (by decide) ?_
    refine pf_X11_288 C skM_0 dX11_voice_26 (fun s4 => ?_)
    refine q_aload_n C 0 dX11_voice_29 rfl ?_
    refine q_aload_n C 0 dX11_voice_30 rfl ?_
    refine q_iload_n C 1 dX11_voice_31 rfl ?_
    refine q_iconst C (v := 0) dX11_voice_32 (by decide) ?_
    refine q_cVI C lk_X11_193 (w_X11_sayingIs (Y := Y) a1 0 s4) (Nat.le_of_ble_eq_true rfl) rfl skM_0 (ltM skM_0 rfl) recv_11 (rest := [Rf Y 0]) rfl rfl (Nat.le_of_ble_eq_true rfl) dX11_voice_33 (fun r5 => ?_)
    refine pf_X11_291 C skM_0 dX11_voice_36 (fun s6 => ?_)
    refine q_aload_n C 0 dX11_voice_39 rfl ?_
    refine q_iload_n C 1 dX11_voice_40 rfl ?_
    refine pf_X11_297 C skM_0 dX11_voice_41 (fun s7 => ?_)
    refine q_aload_n C 0 dX11_voice_44 rfl ?_
    refine q_aload_n C 0 dX11_voice_45 rfl ?_
    refine q_iload_n C 1 dX11_voice_46 rfl ?_
    refine q_iconst C (v := 1) dX11_voice_47 (by decide) ?_
    refine q_cVI C lk_X11_193 (w_X11_sayingIs (Y := Y) a1 1 s7) (Nat.le_of_ble_eq_true rfl) rfl skM_0 (ltM skM_0 rfl) recv_11 (rest := [Rf Y 0]) rfl rfl (Nat.le_of_ble_eq_true rfl) dX11_voice_48 (fun r8 => ?_)
    refine pf_X11_306 C skM_0 dX11_voice_51 (fun s9 => ?_)
    refine q_iload_n C 2 dX11_voice_54 rfl ?_
    refine q_if_ne C 66 dX11_voice_55 rfl (fun _ => ?_) (fun _ => ?_)
    · refine q_iload_n C 2 dX11_voice_66 rfl ?_
      refine q_iconst C (v := 1) dX11_voice_67 (by decide) ?_
      refine q_icmp_ne C 79 dX11_voice_68 rfl (fun _ => ?_) (fun _ => ?_)
      · refine q_iload_n C 2 dX11_voice_79 rfl ?_
        refine q_iconst C (v := 2) dX11_voice_80 (by decide) ?_
        refine q_icmp_ne C 92 dX11_voice_81 rfl (fun _ => ?_) (fun _ => ?_)
        · refine q_aload_n C 0 dX11_voice_92 rfl ?_
          refine q_iload_n C 3 dX11_voice_93 rfl ?_
          refine q_cVI C lk_X11_315 (w_X11_tastesOf (Y := Y) a3 s9) (Nat.le_of_ble_eq_true rfl) rfl skM_0 (ltM skM_0 rfl) recv_11 (rest := []) rfl rfl (Nat.le_of_ble_eq_true rfl) dX11_voice_94 (fun r10 => ?_)
          exact q_ireti C rfl dX11_voice_97
        refine q_aload_n C 0 dX11_voice_84 rfl ?_
        refine q_iload_n C 3 dX11_voice_85 rfl ?_
        refine q_cVI C lk_X11_303 (w_X11_clearsOf (Y := Y) a3 s9) (Nat.le_of_ble_eq_true rfl) rfl skM_0 (ltM skM_0 rfl) recv_11 (rest := []) rfl rfl (Nat.le_of_ble_eq_true rfl) dX11_voice_86 (fun r11 => ?_)
        refine q_goto C 97 dX11_voice_89 rfl ?_
        exact q_ireti C rfl dX11_voice_97
      refine q_aload_n C 0 dX11_voice_71 rfl ?_
      refine q_iload_n C 3 dX11_voice_72 rfl ?_
      refine q_cVI C lk_X11_309 (w_X11_echoesOf (Y := Y) a3 s9) (Nat.le_of_ble_eq_true rfl) rfl skM_0 (ltM skM_0 rfl) recv_11 (rest := []) rfl rfl (Nat.le_of_ble_eq_true rfl) dX11_voice_73 (fun r12 => ?_)
      refine q_goto C 97 dX11_voice_76 rfl ?_
      exact q_ireti C rfl dX11_voice_97
    refine q_aload_n C 0 dX11_voice_58 rfl ?_
    refine q_iload_n C 3 dX11_voice_59 rfl ?_
    refine q_cVI C lk_X11_300 (w_X11_callsOf (Y := Y) a3 s9) (Nat.le_of_ble_eq_true rfl) rfl skM_0 (ltM skM_0 rfl) recv_11 (rest := []) rfl rfl (Nat.le_of_ble_eq_true rfl) dX11_voice_60 (fun r13 => ?_)
    refine q_goto C 97 dX11_voice_63 rfl ?_
    exact q_ireti C rfl dX11_voice_97
  refine q_aload_n C 0 dX11_voice_17 rfl ?_
  refine q_ldc C (v := (-1000000001)) (TB_of (List.mem_of_getElem? (i := 1119) (by decide +kernel)) rfl) dX11_voice_18 ?_
  refine q_cVI C lk_X11_75 (w_X11_finding (Y := Y) (-1000000001) r3.2) (Nat.le_of_ble_eq_true rfl) rfl skM_0 (ltM skM_0 rfl) recv_11 (rest := []) rfl rfl (Nat.le_of_ble_eq_true rfl) dX11_voice_20 (fun r14 => ?_)
  exact q_ireti C rfl dX11_voice_23
def f_X11_trace (a1 : Int32) (σ : St) : Option (Int32 × St) := (Option.bind (f_X11_within a1 0 ((σ 0 15) - 1) σ) fun r1 => (if r1.1 = 0 then (Option.bind (f_X11_finding (-1000000002) r1.2) fun r2 => (some (r2.1, r2.2))) else (if inb a1 (shM 9 - 100) = true then (some ((r1.2 9 a1.toNatClampNeg), r1.2)) else none)))
theorem w_X11_trace {Y : YT} (a1 : Int32)   (σ : St) : CtE (emI FM Y) FM Y yX11_trace cX11_trace 2 (some .int) 1 [Rf Y 0, .int a1] σ (f_X11_trace a1 σ) := by
  refine Ct.ofG (by decide) (Nat.le_of_ble_eq_true rfl) (fun X C0 => ?_)
  have C : Cx FM Y X cX11_trace 2 RX11 (some .int) 1 (0, 0) := C0
  show G FM Y X 2 (emI FM Y) (0, 0) (0, 0) 0 [(0, Rf Y 0), (1, .int a1)] [] (RepS FM Y σ) (f_X11_trace a1 σ)
  rw [f_X11_trace]
  refine q_iload_n C 1 dX11_trace_0 rfl ?_
  refine q_iconst C (v := 0) dX11_trace_1 (by decide) ?_
  refine q_aload_n C 0 dX11_trace_2 rfl ?_
  refine gf_X11_288 C skM_0 dX11_trace_3 ?_
  refine q_iconst C (v := 1) dX11_trace_6 (by decide) ?_
  refine q_isub C dX11_trace_7 ?_
  refine q_cSI C lk_X11_70 (w_X11_within (Y := Y) a1 0 ((σ 0 15) - 1) σ) (Nat.le_of_ble_eq_true rfl) rfl (rest := []) rfl rfl (Nat.le_of_ble_eq_true rfl) dX11_trace_8 (fun r1 => ?_)
  refine q_if_eq C 23 dX11_trace_11 rfl (fun _ => ?_) (fun _ => ?_)
  · refine q_aload_n C 0 dX11_trace_23 rfl ?_
    refine q_ldcw C (v := (-1000000002)) (TB_of (List.mem_of_getElem? (i := 1413) (by decide +kernel)) rfl) dX11_trace_24 ?_
    refine q_cVI C lk_X11_75 (w_X11_finding (Y := Y) (-1000000002) r1.2) (Nat.le_of_ble_eq_true rfl) rfl skM_0 (ltM skM_0 rfl) recv_11 (rest := []) rfl rfl (Nat.le_of_ble_eq_true rfl) dX11_trace_27 (fun r2 => ?_)
    exact q_ireti C rfl dX11_trace_30
  refine q_aload_n C 0 dX11_trace_14 rfl ?_
  refine gf_X11_41 C skM_0 dX11_trace_15 ?_
  refine q_iload_n C 1 dX11_trace_18 rfl ?_
  refine q_aldS C saM_9 (ltMa saM_9) dX11_trace_19 (fun _ => ?_)
  refine q_goto C 30 dX11_trace_20 rfl ?_
  exact q_ireti C rfl dX11_trace_30
def f_X11_sheet_L93 : Nat → Int32 → Int32 → St → Option (Int32 × St)
  | 0, _, _, _ => none
  | n + 1, v1, v4, σ => (if 40 ≤ v4 then (some (1, σ)) else (if inb ((40 * v1) + v4) (shM 12 - 100) = true then (Bst (up σ 12 ((40 * v1) + v4).toNatClampNeg 0) fun s10 => ((f_X11_sheet_L93 n) v1 (v4 + 1) s10)) else none))
theorem w_X11_sheet_L93 {Y : YT} {X : XT} (C : Cx FM Y X cX11_sheet 5 RX11 (some .int) 2 (0, 0)) : ∀ (n : Nat), ∀ (v1 : Int32), ∀ (v4 : Int32), ∀ (σ : St), G FM Y X 5 (emI FM Y) (0, 0) (0, 0) 93 [(0, Rf Y 0), (1, .int v1), (4, .int v4)] [] (RepS FM Y σ) (f_X11_sheet_L93 n v1 v4 σ) := by
  intro n
  induction n with
  | zero =>
    intro v1 v4 σ
    rw [f_X11_sheet_L93]; exact G.none
  | succ n ih =>
    intro v1 v4 σ
    rw [f_X11_sheet_L93]
    refine q_iload C 2 dX11_sheet_93 rfl ?_
    refine q_bipush C (v := 40) dX11_sheet_95 (by decide) ?_
    refine q_icmp_ge C 119 dX11_sheet_97 rfl (fun _ => ?_) (fun _ => ?_)
    · refine q_iconst C (v := 1) dX11_sheet_119 (by decide) ?_
      exact q_ireti C rfl dX11_sheet_120
    refine q_aload_n C 0 dX11_sheet_100 rfl ?_
    refine gf_X11_50 C skM_0 dX11_sheet_101 ?_
    refine q_bipush C (v := 40) dX11_sheet_104 (by decide) ?_
    refine q_iload_n C 1 dX11_sheet_106 rfl ?_
    refine q_imul C dX11_sheet_107 ?_
    refine q_iload C 2 dX11_sheet_108 rfl ?_
    refine q_iadd C dX11_sheet_110 ?_
    refine q_iconst C (v := 0) dX11_sheet_111 (by decide) ?_
    refine q_astS C saM_12 (ltMa saM_12) dX11_sheet_112 (fun _ s10 => ?_)
    refine q_iinc C 2 [(4, .int (v4 + 1)), (0, Rf Y 0), (1, .int v1)] dX11_sheet_113 rfl rfl rfl rfl ?_
    refine q_goto C 93 dX11_sheet_116 rfl ?_
    refine G.sub [1, 2, 0] (lv' := [(0, Rf Y 0), (1, .int v1), (4, .int (v4 + 1))]) rfl ?_
    exact ih v1 (v4 + 1) s10
def f_X11_sheet_L68 (v1 : Int32) (v2 : Int32) (v3 : Int32) (σ : St) : Option (Int32 × St) := (if inb v1 (shM 10 - 100) = true then (Bst (up σ 10 v1.toNatClampNeg v2) fun s7 => (if v2 = 0 then (if inb v1 (shM 11 - 100) = true then (Bst (up s7 11 v1.toNatClampNeg 0) fun s9 => (f_X11_sheet_L93 400 v1 0 s9)) else none) else (if inb v1 (shM 11 - 100) = true then (Bst (up s7 11 v1.toNatClampNeg v3) fun s8 => (f_X11_sheet_L93 400 v1 0 s8)) else none))) else none)
theorem w_X11_sheet_L68 {Y : YT} {X : XT} (C : Cx FM Y X cX11_sheet 5 RX11 (some .int) 2 (0, 0)) : ∀ (v1 : Int32), ∀ (v2 : Int32), ∀ (v3 : Int32), ∀ (σ : St), G FM Y X 5 (emI FM Y) (0, 0) (0, 0) 68 [(0, Rf Y 0), (1, .int v1), (2, .int v2), (3, .int v3)] [] (RepS FM Y σ) (f_X11_sheet_L68 v1 v2 v3 σ) := by
  intro v1 v2 v3 σ
  rw [f_X11_sheet_L68]
  refine q_aload_n C 0 dX11_sheet_68 rfl ?_
  refine gf_X11_44 C skM_0 dX11_sheet_69 ?_
  refine q_iload_n C 1 dX11_sheet_72 rfl ?_
  refine q_iload_n C 2 dX11_sheet_73 rfl ?_
  refine q_astS C saM_10 (ltMa saM_10) dX11_sheet_74 (fun _ s7 => ?_)
  refine q_aload_n C 0 dX11_sheet_75 rfl ?_
  refine gf_X11_47 C skM_0 dX11_sheet_76 ?_
  refine q_iload_n C 1 dX11_sheet_79 rfl ?_
  refine q_iload_n C 2 dX11_sheet_80 rfl ?_
  refine q_if_ne C 88 dX11_sheet_81 rfl (fun _ => ?_) (fun _ => ?_)
  · refine q_iload_n C 3 dX11_sheet_88 rfl ?_
    refine q_astS C saM_11 (ltMa saM_11) dX11_sheet_89 (fun _ s8 => ?_)
    refine q_iconst C (v := 0) dX11_sheet_90 (by decide) ?_
    refine q_istore C [(4, .int 0), (0, Rf Y 0), (1, .int v1), (2, .int v2), (3, .int v3)] dX11_sheet_91 rfl rfl ?_
    refine G.sub [1, 2, 0] (lv' := [(0, Rf Y 0), (1, .int v1), (4, .int 0)]) rfl ?_
    exact w_X11_sheet_L93 C 400 v1 0 s8
  refine q_iconst C (v := 0) dX11_sheet_84 (by decide) ?_
  refine q_goto C 89 dX11_sheet_85 rfl ?_
  refine q_astS C saM_11 (ltMa saM_11) dX11_sheet_89 (fun _ s9 => ?_)
  refine q_iconst C (v := 0) dX11_sheet_90 (by decide) ?_
  refine q_istore C [(4, .int 0), (0, Rf Y 0), (1, .int v1), (2, .int v2), (3, .int v3)] dX11_sheet_91 rfl rfl ?_
  refine G.sub [1, 2, 0] (lv' := [(0, Rf Y 0), (1, .int v1), (4, .int 0)]) rfl ?_
  exact w_X11_sheet_L93 C 400 v1 0 s9
def f_X11_sheet_L36 (v1 : Int32) (v2 : Int32) (v3 : Int32) (σ : St) : Option (Int32 × St) := (if v2 = 0 then (if v2 = 0 then (f_X11_sheet_L68 v1 v2 v3 σ) else (if v3 ≤ 40 then (f_X11_sheet_L68 v1 v2 v3 σ) else (Option.bind (f_X11_finding (-1000000001) σ) fun r4 => (some (r4.1, r4.2))))) else (if 0 ≤ v3 then (if v2 = 0 then (f_X11_sheet_L68 v1 v2 v3 σ) else (if v3 ≤ 40 then (f_X11_sheet_L68 v1 v2 v3 σ) else (Option.bind (f_X11_finding (-1000000001) σ) fun r5 => (some (r5.1, r5.2))))) else (Option.bind (f_X11_finding (-1000000003) σ) fun r6 => (some (r6.1, r6.2)))))
theorem w_X11_sheet_L36 {Y : YT} {X : XT} (C : Cx FM Y X cX11_sheet 5 RX11 (some .int) 2 (0, 0)) : ∀ (v1 : Int32), ∀ (v2 : Int32), ∀ (v3 : Int32), ∀ (σ : St), G FM Y X 5 (emI FM Y) (0, 0) (0, 0) 36 [(0, Rf Y 0), (1, .int v1), (2, .int v2), (3, .int v3)] [] (RepS FM Y σ) (f_X11_sheet_L36 v1 v2 v3 σ) := by
  intro v1 v2 v3 σ
  rw [f_X11_sheet_L36]
  refine q_iload_n C 2 dX11_sheet_36 rfl ?_
  refine q_if_eq C 51 dX11_sheet_37 rfl (fun _ => ?_) (fun _ => ?_)
  · refine q_iload_n C 2 dX11_sheet_51 rfl ?_
    refine q_if_eq C 68 dX11_sheet_52 rfl (fun _ => ?_) (fun _ => ?_)
    · exact w_X11_sheet_L68 C v1 v2 v3 σ
    refine q_iload_n C 3 dX11_sheet_55 rfl ?_
    refine q_bipush C (v := 40) dX11_sheet_56 (by decide) ?_
    refine q_icmp_le C 68 dX11_sheet_58 rfl (fun _ => ?_) (fun _ => ?_)
    · exact w_X11_sheet_L68 C v1 v2 v3 σ
    refine q_aload_n C 0 dX11_sheet_61 rfl ?_
    refine q_ldc C (v := (-1000000001)) (TB_of (List.mem_of_getElem? (i := 1119) (by decide +kernel)) rfl) dX11_sheet_62 ?_
    refine q_cVI C lk_X11_75 (w_X11_finding (Y := Y) (-1000000001) σ) (Nat.le_of_ble_eq_true rfl) rfl skM_0 (ltM skM_0 rfl) recv_11 (rest := []) rfl rfl (Nat.le_of_ble_eq_true rfl) dX11_sheet_64 (fun r4 => ?_)
    exact q_ireti C rfl dX11_sheet_67
  refine q_iload_n C 3 dX11_sheet_40 rfl ?_
  refine q_if_ge C 51 dX11_sheet_41 rfl (fun _ => ?_) (fun _ => ?_)
  · refine q_iload_n C 2 dX11_sheet_51 rfl ?_
    refine q_if_eq C 68 dX11_sheet_52 rfl (fun _ => ?_) (fun _ => ?_)
    · exact w_X11_sheet_L68 C v1 v2 v3 σ
    refine q_iload_n C 3 dX11_sheet_55 rfl ?_
    refine q_bipush C (v := 40) dX11_sheet_56 (by decide) ?_
    refine q_icmp_le C 68 dX11_sheet_58 rfl (fun _ => ?_) (fun _ => ?_)
    · exact w_X11_sheet_L68 C v1 v2 v3 σ
    refine q_aload_n C 0 dX11_sheet_61 rfl ?_
    refine q_ldc C (v := (-1000000001)) (TB_of (List.mem_of_getElem? (i := 1119) (by decide +kernel)) rfl) dX11_sheet_62 ?_
    refine q_cVI C lk_X11_75 (w_X11_finding (Y := Y) (-1000000001) σ) (Nat.le_of_ble_eq_true rfl) rfl skM_0 (ltM skM_0 rfl) recv_11 (rest := []) rfl rfl (Nat.le_of_ble_eq_true rfl) dX11_sheet_64 (fun r5 => ?_)
    exact q_ireti C rfl dX11_sheet_67
  refine q_aload_n C 0 dX11_sheet_44 rfl ?_
  refine q_ldc C (v := (-1000000003)) (TB_of (List.mem_of_getElem? (i := 1220) (by decide +kernel)) rfl) dX11_sheet_45 ?_
  refine q_cVI C lk_X11_75 (w_X11_finding (Y := Y) (-1000000003) σ) (Nat.le_of_ble_eq_true rfl) rfl skM_0 (ltM skM_0 rfl) recv_11 (rest := []) rfl rfl (Nat.le_of_ble_eq_true rfl) dX11_sheet_47 (fun r6 => ?_)
  exact q_ireti C rfl dX11_sheet_50
def f_X11_sheet (a1 : Int32) (a2 : Int32) (a3 : Int32) (σ : St) : Option (Int32 × St) := (Option.bind (f_X11_isSheet a1 σ) fun r1 => (if r1.1 = 0 then (Option.bind (f_X11_finding (-1000000001) r1.2) fun r2 => (some (r2.1, r2.2))) else (if a2 = 0 then (f_X11_sheet_L36 a1 a2 a3 r1.2) else (if a2 = 8 then (f_X11_sheet_L36 a1 a2 a3 r1.2) else (if a2 = 16 then (f_X11_sheet_L36 a1 a2 a3 r1.2) else (if a2 = 32 then (f_X11_sheet_L36 a1 a2 a3 r1.2) else (Option.bind (f_X11_finding (-1000000001) r1.2) fun r3 => (some (r3.1, r3.2)))))))))
theorem w_X11_sheet {Y : YT} (a1 : Int32) (a2 : Int32) (a3 : Int32)   (σ : St) : CtE (emI FM Y) FM Y yX11_sheet cX11_sheet 5 (some .int) 2 [Rf Y 0, .int a1, .int a2, .int a3] σ (f_X11_sheet a1 a2 a3 σ) := by
  refine Ct.ofG (by decide) (Nat.le_of_ble_eq_true rfl) (fun X C0 => ?_)
  have C : Cx FM Y X cX11_sheet 5 RX11 (some .int) 2 (0, 0) := C0
  show G FM Y X 5 (emI FM Y) (0, 0) (0, 0) 0 [(0, Rf Y 0), (1, .int a1), (2, .int a2), (3, .int a3)] [] (RepS FM Y σ) (f_X11_sheet a1 a2 a3 σ)
  rw [f_X11_sheet]
  refine q_iload_n C 1 dX11_sheet_0 rfl ?_
  refine q_cSI C lk_X11_276 (w_X11_isSheet (Y := Y) a1 σ) (Nat.le_of_ble_eq_true rfl) rfl (rest := []) rfl rfl (Nat.le_of_ble_eq_true rfl) dX11_sheet_1 (fun r1 => ?_)
  refine q_if_eq C 29 dX11_sheet_4 rfl (fun _ => ?_) (fun _ => ?_)
  · refine q_aload_n C 0 dX11_sheet_29 rfl ?_
    refine q_ldc C (v := (-1000000001)) (TB_of (List.mem_of_getElem? (i := 1119) (by decide +kernel)) rfl) dX11_sheet_30 ?_
    refine q_cVI C lk_X11_75 (w_X11_finding (Y := Y) (-1000000001) r1.2) (Nat.le_of_ble_eq_true rfl) rfl skM_0 (ltM skM_0 rfl) recv_11 (rest := []) rfl rfl (Nat.le_of_ble_eq_true rfl) dX11_sheet_32 (fun r2 => ?_)
    exact q_ireti C rfl dX11_sheet_35
  refine q_iload_n C 2 dX11_sheet_7 rfl ?_
  refine q_if_eq C 36 dX11_sheet_8 rfl (fun _ => ?_) (fun _ => ?_)
  · exact w_X11_sheet_L36 C a1 a2 a3 r1.2
  refine q_iload_n C 2 dX11_sheet_11 rfl ?_
  refine q_bipush C (v := 8) dX11_sheet_12 (by decide) ?_
  refine q_icmp_eq C 36 dX11_sheet_14 rfl (fun _ => ?_) (fun _ => ?_)
  · exact w_X11_sheet_L36 C a1 a2 a3 r1.2
  refine q_iload_n C 2 dX11_sheet_17 rfl ?_
  refine q_bipush C (v := 16) dX11_sheet_18 (by decide) ?_
  refine q_icmp_eq C 36 dX11_sheet_20 rfl (fun _ => ?_) (fun _ => ?_)
  · exact w_X11_sheet_L36 C a1 a2 a3 r1.2
  refine q_iload_n C 2 dX11_sheet_23 rfl ?_
  refine q_bipush C (v := 32) dX11_sheet_24 (by decide) ?_
  refine q_icmp_eq C 36 dX11_sheet_26 rfl (fun _ => ?_) (fun _ => ?_)
  · exact w_X11_sheet_L36 C a1 a2 a3 r1.2
  refine q_aload_n C 0 dX11_sheet_29 rfl ?_
  refine q_ldc C (v := (-1000000001)) (TB_of (List.mem_of_getElem? (i := 1119) (by decide +kernel)) rfl) dX11_sheet_30 ?_
  refine q_cVI C lk_X11_75 (w_X11_finding (Y := Y) (-1000000001) r1.2) (Nat.le_of_ble_eq_true rfl) rfl skM_0 (ltM skM_0 rfl) recv_11 (rest := []) rfl rfl (Nat.le_of_ble_eq_true rfl) dX11_sheet_32 (fun r3 => ?_)
  exact q_ireti C rfl dX11_sheet_35
def f_X11_put (a1 : Int32) (a2 : Int32) (a3 : Int32) (σ : St) : Option (Int32 × St) := (Option.bind (f_X11_isSheet a1 σ) fun r1 => (if r1.1 = 0 then (Option.bind (f_X11_finding (-1000000001) r1.2) fun r12 => (some (r12.1, r12.2))) else (if inb a1 (shM 10 - 100) = true then (if (r1.2 10 a1.toNatClampNeg) = 0 then (Option.bind (f_X11_finding (-1000000002) r1.2) fun r11 => (some (r11.1, r11.2))) else (if inb a1 (shM 11 - 100) = true then (Option.bind (f_X11_within a2 0 ((r1.2 11 a1.toNatClampNeg) - 1) r1.2) fun r4 => (if r4.1 = 0 then (Option.bind (f_X11_finding (-1000000001) r4.2) fun r10 => (some (r10.1, r10.2))) else (if inb a1 (shM 10 - 100) = true then (if (r4.2 10 a1.toNatClampNeg) = 8 then (if inb ((40 * a1) + a2) (shM 12 - 100) = true then (Bst (up r4.2 12 ((40 * a1) + a2).toNatClampNeg (toB a3)) fun s9 => (some (1, s9))) else none) else (if inb a1 (shM 10 - 100) = true then (if (r4.2 10 a1.toNatClampNeg) = 16 then (if inb ((40 * a1) + a2) (shM 12 - 100) = true then (Bst (up r4.2 12 ((40 * a1) + a2).toNatClampNeg (toS a3)) fun s8 => (some (1, s8))) else none) else (if inb ((40 * a1) + a2) (shM 12 - 100) = true then (Bst (up r4.2 12 ((40 * a1) + a2).toNatClampNeg a3) fun s7 => (some (1, s7))) else none)) else none)) else none))) else none)) else none)))
theorem w_X11_put {Y : YT} (a1 : Int32) (a2 : Int32) (a3 : Int32)   (σ : St) : CtE (emI FM Y) FM Y yX11_put cX11_put 4 (some .int) 2 [Rf Y 0, .int a1, .int a2, .int a3] σ (f_X11_put a1 a2 a3 σ) := by
  refine Ct.ofG (by decide) (Nat.le_of_ble_eq_true rfl) (fun X C0 => ?_)
  have C : Cx FM Y X cX11_put 4 RX11 (some .int) 2 (0, 0) := C0
  show G FM Y X 4 (emI FM Y) (0, 0) (0, 0) 0 [(0, Rf Y 0), (1, .int a1), (2, .int a2), (3, .int a3)] [] (RepS FM Y σ) (f_X11_put a1 a2 a3 σ)
  rw [f_X11_put]
  refine q_iload_n C 1 dX11_put_0 rfl ?_
  refine q_cSI C lk_X11_276 (w_X11_isSheet (Y := Y) a1 σ) (Nat.le_of_ble_eq_true rfl) rfl (rest := []) rfl rfl (Nat.le_of_ble_eq_true rfl) dX11_put_1 (fun r1 => ?_)
  refine q_if_ne C 14 dX11_put_4 rfl (fun _ => ?_) (fun _ => ?_)
  · refine q_aload_n C 0 dX11_put_14 rfl ?_
    refine gf_X11_44 C skM_0 dX11_put_15 ?_
    refine q_iload_n C 1 dX11_put_18 rfl ?_
    refine q_aldS C saM_10 (ltMa saM_10) dX11_put_19 (fun _ => ?_)
    refine q_if_ne C 31 dX11_put_20 rfl (fun _ => ?_) (fun _ => ?_)
    · refine q_iload_n C 2 dX11_put_31 rfl ?_
      refine q_iconst C (v := 0) dX11_put_32 (by decide) ?_
      refine q_aload_n C 0 dX11_put_33 rfl ?_
      refine gf_X11_47 C skM_0 dX11_put_34 ?_
      refine q_iload_n C 1 dX11_put_37 rfl ?_
      refine q_aldS C saM_11 (ltMa saM_11) dX11_put_38 (fun _ => ?_)
      refine q_iconst C (v := 1) dX11_put_39 (by decide) ?_
      refine q_isub C dX11_put_40 ?_
      refine q_cSI C lk_X11_70 (w_X11_within (Y := Y) a2 0 ((r1.2 11 a1.toNatClampNeg) - 1) r1.2) (Nat.le_of_ble_eq_true rfl) rfl (rest := []) rfl rfl (Nat.le_of_ble_eq_true rfl) dX11_put_41 (fun r4 => ?_)
      refine q_if_ne C 54 dX11_put_44 rfl (fun _ => ?_) (fun _ => ?_)
      · refine q_aload_n C 0 dX11_put_54 rfl ?_
        refine gf_X11_50 C skM_0 dX11_put_55 ?_
        refine q_bipush C (v := 40) dX11_put_58 (by decide) ?_
        refine q_iload_n C 1 dX11_put_60 rfl ?_
        refine q_imul C dX11_put_61 ?_
        refine q_iload_n C 2 dX11_put_62 rfl ?_
        refine q_iadd C dX11_put_63 ?_
        refine q_aload_n C 0 dX11_put_64 rfl ?_
        refine gf_X11_44 C skM_0 dX11_put_65 ?_
        refine q_iload_n C 1 dX11_put_68 rfl ?_
        refine q_aldS C saM_10 (ltMa saM_10) dX11_put_69 (fun _ => ?_)
        refine q_bipush C (v := 8) dX11_put_70 (by decide) ?_
        refine q_icmp_ne C 80 dX11_put_72 rfl (fun _ => ?_) (fun _ => ?_)
        · refine q_aload_n C 0 dX11_put_80 rfl ?_
          refine gf_X11_44 C skM_0 dX11_put_81 ?_
          refine q_iload_n C 1 dX11_put_84 rfl ?_
          refine q_aldS C saM_10 (ltMa saM_10) dX11_put_85 (fun _ => ?_)
          refine q_bipush C (v := 16) dX11_put_86 (by decide) ?_
          refine q_icmp_ne C 96 dX11_put_88 rfl (fun _ => ?_) (fun _ => ?_)
          · refine q_iload_n C 3 dX11_put_96 rfl ?_
            refine q_astS C saM_12 (ltMa saM_12) dX11_put_97 (fun _ s7 => ?_)
            refine q_iconst C (v := 1) dX11_put_98 (by decide) ?_
            exact q_ireti C rfl dX11_put_99
          refine q_iload_n C 3 dX11_put_91 rfl ?_
          refine q_i2s C dX11_put_92 ?_
          refine q_goto C 97 dX11_put_93 rfl ?_
          refine q_astS C saM_12 (ltMa saM_12) dX11_put_97 (fun _ s8 => ?_)
          refine q_iconst C (v := 1) dX11_put_98 (by decide) ?_
          exact q_ireti C rfl dX11_put_99
        refine q_iload_n C 3 dX11_put_75 rfl ?_
        refine q_i2b C dX11_put_76 ?_
        refine q_goto C 97 dX11_put_77 rfl ?_
        refine q_astS C saM_12 (ltMa saM_12) dX11_put_97 (fun _ s9 => ?_)
        refine q_iconst C (v := 1) dX11_put_98 (by decide) ?_
        exact q_ireti C rfl dX11_put_99
      refine q_aload_n C 0 dX11_put_47 rfl ?_
      refine q_ldc C (v := (-1000000001)) (TB_of (List.mem_of_getElem? (i := 1119) (by decide +kernel)) rfl) dX11_put_48 ?_
      refine q_cVI C lk_X11_75 (w_X11_finding (Y := Y) (-1000000001) r4.2) (Nat.le_of_ble_eq_true rfl) rfl skM_0 (ltM skM_0 rfl) recv_11 (rest := []) rfl rfl (Nat.le_of_ble_eq_true rfl) dX11_put_50 (fun r10 => ?_)
      exact q_ireti C rfl dX11_put_53
    refine q_aload_n C 0 dX11_put_23 rfl ?_
    refine q_ldcw C (v := (-1000000002)) (TB_of (List.mem_of_getElem? (i := 1413) (by decide +kernel)) rfl) dX11_put_24 ?_
    refine q_cVI C lk_X11_75 (w_X11_finding (Y := Y) (-1000000002) r1.2) (Nat.le_of_ble_eq_true rfl) rfl skM_0 (ltM skM_0 rfl) recv_11 (rest := []) rfl rfl (Nat.le_of_ble_eq_true rfl) dX11_put_27 (fun r11 => ?_)
    exact q_ireti C rfl dX11_put_30
  refine q_aload_n C 0 dX11_put_7 rfl ?_
  refine q_ldc C (v := (-1000000001)) (TB_of (List.mem_of_getElem? (i := 1119) (by decide +kernel)) rfl) dX11_put_8 ?_
  refine q_cVI C lk_X11_75 (w_X11_finding (Y := Y) (-1000000001) r1.2) (Nat.le_of_ble_eq_true rfl) rfl skM_0 (ltM skM_0 rfl) recv_11 (rest := []) rfl rfl (Nat.le_of_ble_eq_true rfl) dX11_put_10 (fun r12 => ?_)
  exact q_ireti C rfl dX11_put_13
def f_X11_move_L165 : Nat → Int32 → Int32 → Int32 → Int32 → St → Option (Int32 × St)
  | 0, _, _, _, _, _ => none
  | n + 1, v3, v4, v5, v6, σ => (if v5 ≤ v6 then (some (v5, σ)) else (if inb v6 (shM 13 - 100) = true then (if inb (((40 * v3) + v4) + v6) (shM 12 - 100) = true then (Bst (up σ 12 (((40 * v3) + v4) + v6).toNatClampNeg (σ 13 v6.toNatClampNeg)) fun s22 => ((f_X11_move_L165 n) v3 v4 v5 (v6 + 1) s22)) else none) else none))
theorem w_X11_move_L165 {Y : YT} {X : XT} (C : Cx FM Y X cX11_move 7 RX11 (some .int) 2 (0, 0)) : ∀ (n : Nat), ∀ (v3 : Int32), ∀ (v4 : Int32), ∀ (v5 : Int32), ∀ (v6 : Int32), ∀ (σ : St), G FM Y X 7 (emI FM Y) (0, 0) (0, 0) 165 [(0, Rf Y 0), (3, .int v3), (4, .int v4), (5, .int v5), (6, .int v6)] [] (RepS FM Y σ) (f_X11_move_L165 n v3 v4 v5 v6 σ) := by
  intro n
  induction n with
  | zero =>
    intro v3 v4 v5 v6 σ
    rw [f_X11_move_L165]; exact G.none
  | succ n ih =>
    intro v3 v4 v5 v6 σ
    rw [f_X11_move_L165]
    refine q_iload C 4 dX11_move_165 rfl ?_
    refine q_iload C 3 dX11_move_167 rfl ?_
    refine q_icmp_ge C 200 dX11_move_169 rfl (fun _ => ?_) (fun _ => ?_)
    · refine q_iload C 3 dX11_move_200 rfl ?_
      exact q_ireti C rfl dX11_move_202
    refine q_aload_n C 0 dX11_move_172 rfl ?_
    refine gf_X11_50 C skM_0 dX11_move_173 ?_
    refine q_bipush C (v := 40) dX11_move_176 (by decide) ?_
    refine q_iload_n C 1 dX11_move_178 rfl ?_
    refine q_imul C dX11_move_179 ?_
    refine q_iload C 2 dX11_move_180 rfl ?_
    refine q_iadd C dX11_move_182 ?_
    refine q_iload C 4 dX11_move_183 rfl ?_
    refine q_iadd C dX11_move_185 ?_
    refine q_aload_n C 0 dX11_move_186 rfl ?_
    refine gf_X11_53 C skM_0 dX11_move_187 ?_
    refine q_iload C 4 dX11_move_190 rfl ?_
    refine q_aldS C saM_13 (ltMa saM_13) dX11_move_192 (fun _ => ?_)
    refine q_astS C saM_12 (ltMa saM_12) dX11_move_193 (fun _ s22 => ?_)
    refine q_iinc C 4 [(6, .int (v6 + 1)), (0, Rf Y 0), (3, .int v3), (4, .int v4), (5, .int v5)] dX11_move_194 rfl rfl rfl rfl ?_
    refine q_goto C 165 dX11_move_197 rfl ?_
    refine G.sub [1, 2, 3, 4, 0] (lv' := [(0, Rf Y 0), (3, .int v3), (4, .int v4), (5, .int v5), (6, .int (v6 + 1))]) rfl ?_
    exact ih v3 v4 v5 (v6 + 1) s22
def f_X11_move_L128 : Nat → Int32 → Int32 → Int32 → Int32 → Int32 → Int32 → St → Option (Int32 × St)
  | 0, _, _, _, _, _, _, _ => none
  | n + 1, v1, v2, v3, v4, v5, v6, σ => (if v5 ≤ v6 then (f_X11_move_L165 400 v3 v4 v5 0 σ) else (if inb (((40 * v1) + v2) + v6) (shM 12 - 100) = true then (if inb v6 (shM 13 - 100) = true then (Bst (up σ 13 v6.toNatClampNeg (σ 12 (((40 * v1) + v2) + v6).toNatClampNeg)) fun s20 => ((f_X11_move_L128 n) v1 v2 v3 v4 v5 (v6 + 1) s20)) else none) else none))
theorem w_X11_move_L128 {Y : YT} {X : XT} (C : Cx FM Y X cX11_move 7 RX11 (some .int) 2 (0, 0)) : ∀ (n : Nat), ∀ (v1 : Int32), ∀ (v2 : Int32), ∀ (v3 : Int32), ∀ (v4 : Int32), ∀ (v5 : Int32), ∀ (v6 : Int32), ∀ (σ : St), G FM Y X 7 (emI FM Y) (0, 0) (0, 0) 128 [(0, Rf Y 0), (1, .int v1), (2, .int v2), (3, .int v3), (4, .int v4), (5, .int v5), (6, .int v6)] [] (RepS FM Y σ) (f_X11_move_L128 n v1 v2 v3 v4 v5 v6 σ) := by
  intro n
  induction n with
  | zero =>
    intro v1 v2 v3 v4 v5 v6 σ
    rw [f_X11_move_L128]; exact G.none
  | succ n ih =>
    intro v1 v2 v3 v4 v5 v6 σ
    rw [f_X11_move_L128]
    refine q_iload C 6 dX11_move_128 rfl ?_
    refine q_iload C 5 dX11_move_130 rfl ?_
    refine q_icmp_ge C 162 dX11_move_132 rfl (fun _ => ?_) (fun _ => ?_)
    · refine q_iconst C (v := 0) dX11_move_162 (by decide) ?_
      refine q_istore C [(6, .int 0), (0, Rf Y 0), (1, .int v1), (2, .int v2), (3, .int v3), (4, .int v4), (5, .int v5)] dX11_move_163 rfl rfl ?_
      refine G.sub [1, 4, 5, 6, 0] (lv' := [(0, Rf Y 0), (3, .int v3), (4, .int v4), (5, .int v5), (6, .int 0)]) rfl ?_
      exact w_X11_move_L165 C 400 v3 v4 v5 0 σ
    refine q_aload_n C 0 dX11_move_135 rfl ?_
    refine gf_X11_53 C skM_0 dX11_move_136 ?_
    refine q_iload C 6 dX11_move_139 rfl ?_
    refine q_aload_n C 0 dX11_move_141 rfl ?_
    refine gf_X11_50 C skM_0 dX11_move_142 ?_
    refine q_bipush C (v := 40) dX11_move_145 (by decide) ?_
    refine q_iload_n C 1 dX11_move_147 rfl ?_
    refine q_imul C dX11_move_148 ?_
    refine q_iload_n C 2 dX11_move_149 rfl ?_
    refine q_iadd C dX11_move_150 ?_
    refine q_iload C 6 dX11_move_151 rfl ?_
    refine q_iadd C dX11_move_153 ?_
    refine q_aldS C saM_12 (ltMa saM_12) dX11_move_154 (fun _ => ?_)
    refine q_astS C saM_13 (ltMa saM_13) dX11_move_155 (fun _ s20 => ?_)
    refine q_iinc C 6 [(6, .int (v6 + 1)), (0, Rf Y 0), (1, .int v1), (2, .int v2), (3, .int v3), (4, .int v4), (5, .int v5)] dX11_move_156 rfl rfl rfl rfl ?_
    refine q_goto C 128 dX11_move_159 rfl ?_
    refine G.sub [1, 2, 3, 4, 5, 6, 0] (lv' := [(0, Rf Y 0), (1, .int v1), (2, .int v2), (3, .int v3), (4, .int v4), (5, .int v5), (6, .int (v6 + 1))]) rfl ?_
    exact ih v1 v2 v3 v4 v5 (v6 + 1) s20
def f_X11_move (a1 : Int32) (a2 : Int32) (a3 : Int32) (a4 : Int32) (a5 : Int32) (σ : St) : Option (Int32 × St) := (Option.bind (f_X11_isSheet a1 σ) fun r1 => (if r1.1 = 0 then (Option.bind (f_X11_finding (-1000000001) r1.2) fun r2 => (some (r2.1, r2.2))) else (Option.bind (f_X11_isSheet a3 r1.2) fun r3 => (if r3.1 = 0 then (Option.bind (f_X11_finding (-1000000001) r3.2) fun r18 => (some (r18.1, r18.2))) else (if inb a1 (shM 10 - 100) = true then (if (r3.2 10 a1.toNatClampNeg) = 0 then (Option.bind (f_X11_finding (-1000000002) r3.2) fun r5 => (some (r5.1, r5.2))) else (if inb a3 (shM 10 - 100) = true then (if (r3.2 10 a3.toNatClampNeg) = 0 then (Option.bind (f_X11_finding (-1000000002) r3.2) fun r17 => (some (r17.1, r17.2))) else (if inb a1 (shM 10 - 100) = true then (if inb a3 (shM 10 - 100) = true then (if (r3.2 10 a1.toNatClampNeg) = (r3.2 10 a3.toNatClampNeg) then (if a5 < 0 then (Option.bind (f_X11_finding (-1000000001) r3.2) fun r9 => (some (r9.1, r9.2))) else (if a2 < 0 then (Option.bind (f_X11_finding (-1000000001) r3.2) fun r10 => (some (r10.1, r10.2))) else (if a4 < 0 then (Option.bind (f_X11_finding (-1000000001) r3.2) fun r11 => (some (r11.1, r11.2))) else (if inb a1 (shM 11 - 100) = true then (if 0 < (lg_cmp ((Int32.toInt64 a2) + (Int32.toInt64 a5)) (Int32.toInt64 (r3.2 11 a1.toNatClampNeg))) then (Option.bind (f_X11_finding (-1000000001) r3.2) fun r13 => (some (r13.1, r13.2))) else (if inb a3 (shM 11 - 100) = true then (if (lg_cmp ((Int32.toInt64 a4) + (Int32.toInt64 a5)) (Int32.toInt64 (r3.2 11 a3.toNatClampNeg))) ≤ 0 then (f_X11_move_L128 400 a1 a2 a3 a4 a5 0 r3.2) else (Option.bind (f_X11_finding (-1000000001) r3.2) fun r15 => (some (r15.1, r15.2)))) else none)) else none)))) else (Option.bind (f_X11_finding (-1000000005) r3.2) fun r16 => (some (r16.1, r16.2)))) else none) else none)) else none)) else none)))))
theorem w_X11_move {Y : YT} (a1 : Int32) (a2 : Int32) (a3 : Int32) (a4 : Int32) (a5 : Int32)   (σ : St) : CtE (emI FM Y) FM Y yX11_move cX11_move 7 (some .int) 2 [Rf Y 0, .int a1, .int a2, .int a3, .int a4, .int a5] σ (f_X11_move a1 a2 a3 a4 a5 σ) := by
  refine Ct.ofG (by decide) (Nat.le_of_ble_eq_true rfl) (fun X C0 => ?_)
  have C : Cx FM Y X cX11_move 7 RX11 (some .int) 2 (0, 0) := C0
  show G FM Y X 7 (emI FM Y) (0, 0) (0, 0) 0 [(0, Rf Y 0), (1, .int a1), (2, .int a2), (3, .int a3), (4, .int a4), (5, .int a5)] [] (RepS FM Y σ) (f_X11_move a1 a2 a3 a4 a5 σ)
  rw [f_X11_move]
  refine q_iload_n C 1 dX11_move_0 rfl ?_
  refine q_cSI C lk_X11_276 (w_X11_isSheet (Y := Y) a1 σ) (Nat.le_of_ble_eq_true rfl) rfl (rest := []) rfl rfl (Nat.le_of_ble_eq_true rfl) dX11_move_1 (fun r1 => ?_)
  refine q_if_eq C 14 dX11_move_4 rfl (fun _ => ?_) (fun _ => ?_)
  · refine q_aload_n C 0 dX11_move_14 rfl ?_
    refine q_ldc C (v := (-1000000001)) (TB_of (List.mem_of_getElem? (i := 1119) (by decide +kernel)) rfl) dX11_move_15 ?_
    refine q_cVI C lk_X11_75 (w_X11_finding (Y := Y) (-1000000001) r1.2) (Nat.le_of_ble_eq_true rfl) rfl skM_0 (ltM skM_0 rfl) recv_11 (rest := []) rfl rfl (Nat.le_of_ble_eq_true rfl) dX11_move_17 (fun r2 => ?_)
    exact q_ireti C rfl dX11_move_20
  refine q_iload_n C 3 dX11_move_7 rfl ?_
  refine q_cSI C lk_X11_276 (w_X11_isSheet (Y := Y) a3 r1.2) (Nat.le_of_ble_eq_true rfl) rfl (rest := []) rfl rfl (Nat.le_of_ble_eq_true rfl) dX11_move_8 (fun r3 => ?_)
  refine q_if_ne C 21 dX11_move_11 rfl (fun _ => ?_) (fun _ => ?_)
  · refine q_aload_n C 0 dX11_move_21 rfl ?_
    refine gf_X11_44 C skM_0 dX11_move_22 ?_
    refine q_iload_n C 1 dX11_move_25 rfl ?_
    refine q_aldS C saM_10 (ltMa saM_10) dX11_move_26 (fun _ => ?_)
    refine q_if_eq C 39 dX11_move_27 rfl (fun _ => ?_) (fun _ => ?_)
    · refine q_aload_n C 0 dX11_move_39 rfl ?_
      refine q_ldcw C (v := (-1000000002)) (TB_of (List.mem_of_getElem? (i := 1413) (by decide +kernel)) rfl) dX11_move_40 ?_
      refine q_cVI C lk_X11_75 (w_X11_finding (Y := Y) (-1000000002) r3.2) (Nat.le_of_ble_eq_true rfl) rfl skM_0 (ltM skM_0 rfl) recv_11 (rest := []) rfl rfl (Nat.le_of_ble_eq_true rfl) dX11_move_43 (fun r5 => ?_)
      exact q_ireti C rfl dX11_move_46
    refine q_aload_n C 0 dX11_move_30 rfl ?_
    refine gf_X11_44 C skM_0 dX11_move_31 ?_
    refine q_iload_n C 3 dX11_move_34 rfl ?_
    refine q_aldS C saM_10 (ltMa saM_10) dX11_move_35 (fun _ => ?_)
    refine q_if_ne C 47 dX11_move_36 rfl (fun _ => ?_) (fun _ => ?_)
    · refine q_aload_n C 0 dX11_move_47 rfl ?_
      refine gf_X11_44 C skM_0 dX11_move_48 ?_
      refine q_iload_n C 1 dX11_move_51 rfl ?_
      refine q_aldS C saM_10 (ltMa saM_10) dX11_move_52 (fun _ => ?_)
      refine q_aload_n C 0 dX11_move_53 rfl ?_
      refine gf_X11_44 C skM_0 dX11_move_54 ?_
      refine q_iload_n C 3 dX11_move_57 rfl ?_
      refine q_aldS C saM_10 (ltMa saM_10) dX11_move_58 (fun _ => ?_)
      refine q_icmp_eq C 69 dX11_move_59 rfl (fun _ => ?_) (fun _ => ?_)
      · refine q_iload C 5 dX11_move_69 rfl ?_
        refine q_if_lt C 118 dX11_move_71 rfl (fun _ => ?_) (fun _ => ?_)
        · refine q_aload_n C 0 dX11_move_118 rfl ?_
          refine q_ldc C (v := (-1000000001)) (TB_of (List.mem_of_getElem? (i := 1119) (by decide +kernel)) rfl) dX11_move_119 ?_
          refine q_cVI C lk_X11_75 (w_X11_finding (Y := Y) (-1000000001) r3.2) (Nat.le_of_ble_eq_true rfl) rfl skM_0 (ltM skM_0 rfl) recv_11 (rest := []) rfl rfl (Nat.le_of_ble_eq_true rfl) dX11_move_121 (fun r9 => ?_)
          exact q_ireti C rfl dX11_move_124
        refine q_iload_n C 2 dX11_move_74 rfl ?_
        refine q_if_lt C 118 dX11_move_75 rfl (fun _ => ?_) (fun _ => ?_)
        · refine q_aload_n C 0 dX11_move_118 rfl ?_
          refine q_ldc C (v := (-1000000001)) (TB_of (List.mem_of_getElem? (i := 1119) (by decide +kernel)) rfl) dX11_move_119 ?_
          refine q_cVI C lk_X11_75 (w_X11_finding (Y := Y) (-1000000001) r3.2) (Nat.le_of_ble_eq_true rfl) rfl skM_0 (ltM skM_0 rfl) recv_11 (rest := []) rfl rfl (Nat.le_of_ble_eq_true rfl) dX11_move_121 (fun r10 => ?_)
          exact q_ireti C rfl dX11_move_124
        refine q_iload C 4 dX11_move_78 rfl ?_
        refine q_if_lt C 118 dX11_move_80 rfl (fun _ => ?_) (fun _ => ?_)
        · refine q_aload_n C 0 dX11_move_118 rfl ?_
          refine q_ldc C (v := (-1000000001)) (TB_of (List.mem_of_getElem? (i := 1119) (by decide +kernel)) rfl) dX11_move_119 ?_
          refine q_cVI C lk_X11_75 (w_X11_finding (Y := Y) (-1000000001) r3.2) (Nat.le_of_ble_eq_true rfl) rfl skM_0 (ltM skM_0 rfl) recv_11 (rest := []) rfl rfl (Nat.le_of_ble_eq_true rfl) dX11_move_121 (fun r11 => ?_)
          exact q_ireti C rfl dX11_move_124
        refine q_iload_n C 2 dX11_move_83 rfl ?_
        refine q_i2l C dX11_move_84 ?_
        refine q_iload C 5 dX11_move_85 rfl ?_
        refine q_i2l C dX11_move_87 ?_
        refine q_ladd C dX11_move_88 ?_
        refine q_aload_n C 0 dX11_move_89 rfl ?_
        refine gf_X11_47 C skM_0 dX11_move_90 ?_
        refine q_iload_n C 1 dX11_move_93 rfl ?_
        refine q_aldS C saM_11 (ltMa saM_11) dX11_move_94 (fun _ => ?_)
        refine q_i2l C dX11_move_95 ?_
        refine q_lcmp C dX11_move_96 ?_
        refine q_if_gt C 118 dX11_move_97 rfl (fun _ => ?_) (fun _ => ?_)
        · refine q_aload_n C 0 dX11_move_118 rfl ?_
          refine q_ldc C (v := (-1000000001)) (TB_of (List.mem_of_getElem? (i := 1119) (by decide +kernel)) rfl) dX11_move_119 ?_
          refine q_cVI C lk_X11_75 (w_X11_finding (Y := Y) (-1000000001) r3.2) (Nat.le_of_ble_eq_true rfl) rfl skM_0 (ltM skM_0 rfl) recv_11 (rest := []) rfl rfl (Nat.le_of_ble_eq_true rfl) dX11_move_121 (fun r13 => ?_)
          exact q_ireti C rfl dX11_move_124
        refine q_iload C 4 dX11_move_100 rfl ?_
        refine q_i2l C dX11_move_102 ?_
        refine q_iload C 5 dX11_move_103 rfl ?_
        refine q_i2l C dX11_move_105 ?_
        refine q_ladd C dX11_move_106 ?_
        refine q_aload_n C 0 dX11_move_107 rfl ?_
        refine gf_X11_47 C skM_0 dX11_move_108 ?_
        refine q_iload_n C 3 dX11_move_111 rfl ?_
        refine q_aldS C saM_11 (ltMa saM_11) dX11_move_112 (fun _ => ?_)
        refine q_i2l C dX11_move_113 ?_
        refine q_lcmp C dX11_move_114 ?_
        refine q_if_le C 125 dX11_move_115 rfl (fun _ => ?_) (fun _ => ?_)
        · refine q_iconst C (v := 0) dX11_move_125 (by decide) ?_
          refine q_istore C [(6, .int 0), (0, Rf Y 0), (1, .int a1), (2, .int a2), (3, .int a3), (4, .int a4), (5, .int a5)] dX11_move_126 rfl rfl ?_
          refine G.sub [1, 2, 3, 4, 5, 6, 0] (lv' := [(0, Rf Y 0), (1, .int a1), (2, .int a2), (3, .int a3), (4, .int a4), (5, .int a5), (6, .int 0)]) rfl ?_
          exact w_X11_move_L128 C 400 a1 a2 a3 a4 a5 0 r3.2
        refine q_aload_n C 0 dX11_move_118 rfl ?_
        refine q_ldc C (v := (-1000000001)) (TB_of (List.mem_of_getElem? (i := 1119) (by decide +kernel)) rfl) dX11_move_119 ?_
        refine q_cVI C lk_X11_75 (w_X11_finding (Y := Y) (-1000000001) r3.2) (Nat.le_of_ble_eq_true rfl) rfl skM_0 (ltM skM_0 rfl) recv_11 (rest := []) rfl rfl (Nat.le_of_ble_eq_true rfl) dX11_move_121 (fun r15 => ?_)
        exact q_ireti C rfl dX11_move_124
      refine q_aload_n C 0 dX11_move_62 rfl ?_
      refine q_ldc C (v := (-1000000005)) (TB_of (List.mem_of_getElem? (i := 1337) (by decide +kernel)) rfl) dX11_move_63 ?_
      refine q_cVI C lk_X11_75 (w_X11_finding (Y := Y) (-1000000005) r3.2) (Nat.le_of_ble_eq_true rfl) rfl skM_0 (ltM skM_0 rfl) recv_11 (rest := []) rfl rfl (Nat.le_of_ble_eq_true rfl) dX11_move_65 (fun r16 => ?_)
      exact q_ireti C rfl dX11_move_68
    refine q_aload_n C 0 dX11_move_39 rfl ?_
    refine q_ldcw C (v := (-1000000002)) (TB_of (List.mem_of_getElem? (i := 1413) (by decide +kernel)) rfl) dX11_move_40 ?_
    refine q_cVI C lk_X11_75 (w_X11_finding (Y := Y) (-1000000002) r3.2) (Nat.le_of_ble_eq_true rfl) rfl skM_0 (ltM skM_0 rfl) recv_11 (rest := []) rfl rfl (Nat.le_of_ble_eq_true rfl) dX11_move_43 (fun r17 => ?_)
    exact q_ireti C rfl dX11_move_46
  refine q_aload_n C 0 dX11_move_14 rfl ?_
  refine q_ldc C (v := (-1000000001)) (TB_of (List.mem_of_getElem? (i := 1119) (by decide +kernel)) rfl) dX11_move_15 ?_
  refine q_cVI C lk_X11_75 (w_X11_finding (Y := Y) (-1000000001) r3.2) (Nat.le_of_ble_eq_true rfl) rfl skM_0 (ltM skM_0 rfl) recv_11 (rest := []) rfl rfl (Nat.le_of_ble_eq_true rfl) dX11_move_17 (fun r18 => ?_)
  exact q_ireti C rfl dX11_move_20
def f_X11_palates_L33 : Nat → Int32 → Int32 → St → Option (Int32 × St)
  | 0, _, _, _ => none
  | n + 1, v1, v2, σ => (if inb v1 (shM 11 - 100) = true then (if (σ 11 v1.toNatClampNeg) ≤ v2 then (some (v2, σ)) else (Option.bind (f_X11_isOne v2 σ) fun r6 => (if r6.1 = 0 then (some (v2, r6.2)) else (if inb ((40 * v1) + v2) (shM 12 - 100) = true then (Option.bind (f_X11_isStrength (r6.2 12 ((40 * v1) + v2).toNatClampNeg) r6.2) fun r8 => (if r8.1 = 0 then (some (v2, r8.2)) else (Option.bind (f_X11_folkAt v2 1 r8.2) fun r9 => (if inb ((40 * v1) + v2) (shM 12 - 100) = true then (if inb r9.1 (shM 1 - 100) = true then (Bst (up r9.2 1 r9.1.toNatClampNeg (r9.2 12 ((40 * v1) + v2).toNatClampNeg)) fun s11 => ((f_X11_palates_L33 n) v1 (v2 + 1) s11)) else none) else none)))) else none)))) else none)
theorem w_X11_palates_L33 {Y : YT} {X : XT} (C : Cx FM Y X cX11_palates 3 RX11 (some .int) 2 (0, 0)) : ∀ (n : Nat), ∀ (v1 : Int32), ∀ (v2 : Int32), ∀ (σ : St), G FM Y X 3 (emI FM Y) (0, 0) (0, 0) 33 [(0, Rf Y 0), (1, .int v1), (2, .int v2)] [] (RepS FM Y σ) (f_X11_palates_L33 n v1 v2 σ) := by
  intro n
  induction n with
  | zero =>
    intro v1 v2 σ
    rw [f_X11_palates_L33]; exact G.none
  | succ n ih =>
    intro v1 v2 σ
    rw [f_X11_palates_L33]
    refine q_iload_n C 2 dX11_palates_33 rfl ?_
    refine q_aload_n C 0 dX11_palates_34 rfl ?_
    refine gf_X11_47 C skM_0 dX11_palates_35 ?_
    refine q_iload_n C 1 dX11_palates_38 rfl ?_
    refine q_aldS C saM_11 (ltMa saM_11) dX11_palates_39 (fun _ => ?_)
    refine q_icmp_ge C 95 dX11_palates_40 rfl (fun _ => ?_) (fun _ => ?_)
    · refine q_iload_n C 2 dX11_palates_95 rfl ?_
      exact q_ireti C rfl dX11_palates_96
    refine q_aload_n C 0 dX11_palates_43 rfl ?_
    refine q_iload_n C 2 dX11_palates_44 rfl ?_
    refine q_cVI C lk_X11_228 (w_X11_isOne (Y := Y) v2 σ) (Nat.le_of_ble_eq_true rfl) rfl skM_0 (ltM skM_0 rfl) recv_11 (rest := []) rfl rfl (Nat.le_of_ble_eq_true rfl) dX11_palates_45 (fun r6 => ?_)
    refine q_if_eq C 95 dX11_palates_48 rfl (fun _ => ?_) (fun _ => ?_)
    · refine q_iload_n C 2 dX11_palates_95 rfl ?_
      exact q_ireti C rfl dX11_palates_96
    refine q_aload_n C 0 dX11_palates_51 rfl ?_
    refine gf_X11_50 C skM_0 dX11_palates_52 ?_
    refine q_bipush C (v := 40) dX11_palates_55 (by decide) ?_
    refine q_iload_n C 1 dX11_palates_57 rfl ?_
    refine q_imul C dX11_palates_58 ?_
    refine q_iload_n C 2 dX11_palates_59 rfl ?_
    refine q_iadd C dX11_palates_60 ?_
    refine q_aldS C saM_12 (ltMa saM_12) dX11_palates_61 (fun _ => ?_)
    refine q_cSI C lk_X11_184 (w_X11_isStrength (Y := Y) (r6.2 12 ((40 * v1) + v2).toNatClampNeg) r6.2) (Nat.le_of_ble_eq_true rfl) rfl (rest := []) rfl rfl (Nat.le_of_ble_eq_true rfl) dX11_palates_62 (fun r8 => ?_)
    refine q_if_eq C 95 dX11_palates_65 rfl (fun _ => ?_) (fun _ => ?_)
    · refine q_iload_n C 2 dX11_palates_95 rfl ?_
      exact q_ireti C rfl dX11_palates_96
    refine q_aload_n C 0 dX11_palates_68 rfl ?_
    refine gf_X11_9 C skM_0 dX11_palates_69 ?_
    refine q_iload_n C 2 dX11_palates_72 rfl ?_
    refine q_iconst C (v := 1) dX11_palates_73 (by decide) ?_
    refine q_cSI C lk_X11_162 (w_X11_folkAt (Y := Y) v2 1 r8.2) (Nat.le_of_ble_eq_true rfl) rfl (rest := [Rf Y 1]) rfl rfl (Nat.le_of_ble_eq_true rfl) dX11_palates_74 (fun r9 => ?_)
    refine q_aload_n C 0 dX11_palates_77 rfl ?_
    refine gf_X11_50 C skM_0 dX11_palates_78 ?_
    refine q_bipush C (v := 40) dX11_palates_81 (by decide) ?_
    refine q_iload_n C 1 dX11_palates_83 rfl ?_
    refine q_imul C dX11_palates_84 ?_
    refine q_iload_n C 2 dX11_palates_85 rfl ?_
    refine q_iadd C dX11_palates_86 ?_
    refine q_aldS C saM_12 (ltMa saM_12) dX11_palates_87 (fun _ => ?_)
    refine q_astS C saM_1 (ltMa saM_1) dX11_palates_88 (fun _ s11 => ?_)
    refine q_iinc C 2 [(2, .int (v2 + 1)), (0, Rf Y 0), (1, .int v1)] dX11_palates_89 rfl rfl rfl rfl ?_
    refine q_goto C 33 dX11_palates_92 rfl ?_
    refine G.sub [1, 2, 0] (lv' := [(0, Rf Y 0), (1, .int v1), (2, .int (v2 + 1))]) rfl ?_
    exact ih v1 (v2 + 1) s11
def f_X11_palates (a1 : Int32) (σ : St) : Option (Int32 × St) := (Option.bind (f_X11_isSheet a1 σ) fun r1 => (if r1.1 = 0 then (Option.bind (f_X11_finding (-1000000001) r1.2) fun r4 => (some (r4.1, r4.2))) else (if inb a1 (shM 10 - 100) = true then (if (r1.2 10 a1.toNatClampNeg) = 0 then (Option.bind (f_X11_finding (-1000000002) r1.2) fun r3 => (some (r3.1, r3.2))) else (f_X11_palates_L33 400 a1 0 r1.2)) else none)))
theorem w_X11_palates {Y : YT} (a1 : Int32)   (σ : St) : CtE (emI FM Y) FM Y yX11_palates cX11_palates 3 (some .int) 2 [Rf Y 0, .int a1] σ (f_X11_palates a1 σ) := by
  refine Ct.ofG (by decide) (Nat.le_of_ble_eq_true rfl) (fun X C0 => ?_)
  have C : Cx FM Y X cX11_palates 3 RX11 (some .int) 2 (0, 0) := C0
  show G FM Y X 3 (emI FM Y) (0, 0) (0, 0) 0 [(0, Rf Y 0), (1, .int a1)] [] (RepS FM Y σ) (f_X11_palates a1 σ)
  rw [f_X11_palates]
  refine q_iload_n C 1 dX11_palates_0 rfl ?_
  refine q_cSI C lk_X11_276 (w_X11_isSheet (Y := Y) a1 σ) (Nat.le_of_ble_eq_true rfl) rfl (rest := []) rfl rfl (Nat.le_of_ble_eq_true rfl) dX11_palates_1 (fun r1 => ?_)
  refine q_if_ne C 14 dX11_palates_4 rfl (fun _ => ?_) (fun _ => ?_)
  · refine q_aload_n C 0 dX11_palates_14 rfl ?_
    refine gf_X11_44 C skM_0 dX11_palates_15 ?_
    refine q_iload_n C 1 dX11_palates_18 rfl ?_
    refine q_aldS C saM_10 (ltMa saM_10) dX11_palates_19 (fun _ => ?_)
    refine q_if_ne C 31 dX11_palates_20 rfl (fun _ => ?_) (fun _ => ?_)
    · refine q_iconst C (v := 0) dX11_palates_31 (by decide) ?_
      refine q_istore_n C [(2, .int 0), (0, Rf Y 0), (1, .int a1)] dX11_palates_32 rfl rfl ?_
      refine G.sub [1, 2, 0] (lv' := [(0, Rf Y 0), (1, .int a1), (2, .int 0)]) rfl ?_
      exact w_X11_palates_L33 C 400 a1 0 r1.2
    refine q_aload_n C 0 dX11_palates_23 rfl ?_
    refine q_ldcw C (v := (-1000000002)) (TB_of (List.mem_of_getElem? (i := 1413) (by decide +kernel)) rfl) dX11_palates_24 ?_
    refine q_cVI C lk_X11_75 (w_X11_finding (Y := Y) (-1000000002) r1.2) (Nat.le_of_ble_eq_true rfl) rfl skM_0 (ltM skM_0 rfl) recv_11 (rest := []) rfl rfl (Nat.le_of_ble_eq_true rfl) dX11_palates_27 (fun r3 => ?_)
    exact q_ireti C rfl dX11_palates_30
  refine q_aload_n C 0 dX11_palates_7 rfl ?_
  refine q_ldc C (v := (-1000000001)) (TB_of (List.mem_of_getElem? (i := 1119) (by decide +kernel)) rfl) dX11_palates_8 ?_
  refine q_cVI C lk_X11_75 (w_X11_finding (Y := Y) (-1000000001) r1.2) (Nat.le_of_ble_eq_true rfl) rfl skM_0 (ltM skM_0 rfl) recv_11 (rest := []) rfl rfl (Nat.le_of_ble_eq_true rfl) dX11_palates_10 (fun r4 => ?_)
  exact q_ireti C rfl dX11_palates_13
def f_X11_judge_L77 (v1 : Int32) (v2 : Int32) (σ : St) : Option (Int32 × St) := (if inb v1 (shM 11 - 100) = true then (if v2 = (σ 11 v1.toNatClampNeg) then (if v2 = (σ 1 3) then (some ((-1), σ)) else (some (v2, σ))) else (some (v2, σ))) else none)
theorem w_X11_judge_L77 {Y : YT} {X : XT} (C : Cx FM Y X cX11_judge 3 RX11 (some .int) 2 (0, 0)) : ∀ (v1 : Int32), ∀ (v2 : Int32), ∀ (σ : St), G FM Y X 3 (emI FM Y) (0, 0) (0, 0) 77 [(0, Rf Y 0), (1, .int v1), (2, .int v2)] [] (RepS FM Y σ) (f_X11_judge_L77 v1 v2 σ) := by
  intro v1 v2 σ
  rw [f_X11_judge_L77]
  refine q_iload_n C 2 dX11_judge_77 rfl ?_
  refine q_aload_n C 0 dX11_judge_78 rfl ?_
  refine gf_X11_47 C skM_0 dX11_judge_79 ?_
  refine q_iload_n C 1 dX11_judge_82 rfl ?_
  refine q_aldS C saM_11 (ltMa saM_11) dX11_judge_83 (fun _ => ?_)
  refine q_icmp_ne C 101 dX11_judge_84 rfl (fun _ => ?_) (fun _ => ?_)
  · refine q_iload_n C 2 dX11_judge_101 rfl ?_
    exact q_ireti C rfl dX11_judge_102
  refine q_iload_n C 2 dX11_judge_87 rfl ?_
  refine q_aload_n C 0 dX11_judge_88 rfl ?_
  refine gf_X11_9 C skM_0 dX11_judge_89 ?_
  refine q_iconst C (v := 3) dX11_judge_92 (by decide) ?_
  refine q_aldK C (j := 3) saM_1 (ltMa saM_1) (by decide +kernel) (by decide +kernel) dX11_judge_93 ?_
  refine q_icmp_ne C 101 dX11_judge_94 rfl (fun _ => ?_) (fun _ => ?_)
  · refine q_iload_n C 2 dX11_judge_101 rfl ?_
    exact q_ireti C rfl dX11_judge_102
  refine q_iconst C (v := (-1)) dX11_judge_97 (by decide) ?_
  refine q_goto C 102 dX11_judge_98 rfl ?_
  exact q_ireti C rfl dX11_judge_102
def f_X11_judge_L33 : Nat → Int32 → Int32 → St → Option (Int32 × St)
  | 0, _, _, _ => none
  | n + 1, v1, v2, σ => (if inb v1 (shM 11 - 100) = true then (if (σ 11 v1.toNatClampNeg) ≤ v2 then (f_X11_judge_L77 v1 v2 σ) else (Option.bind (f_X11_isSaying v2 σ) fun r6 => (if r6.1 = 0 then (f_X11_judge_L77 v1 v2 r6.2) else (if inb ((40 * v1) + v2) (shM 12 - 100) = true then (Option.bind (f_X11_sayingIs v2 3 r6.2) fun r8 => (if (r6.2 12 ((40 * v1) + v2).toNatClampNeg) = r8.1 then ((f_X11_judge_L33 n) v1 (v2 + 1) r8.2) else (f_X11_judge_L77 v1 v2 r8.2))) else none)))) else none)
theorem w_X11_judge_L33 {Y : YT} {X : XT} (C : Cx FM Y X cX11_judge 3 RX11 (some .int) 2 (0, 0)) : ∀ (n : Nat), ∀ (v1 : Int32), ∀ (v2 : Int32), ∀ (σ : St), G FM Y X 3 (emI FM Y) (0, 0) (0, 0) 33 [(0, Rf Y 0), (1, .int v1), (2, .int v2)] [] (RepS FM Y σ) (f_X11_judge_L33 n v1 v2 σ) := by
  intro n
  induction n with
  | zero =>
    intro v1 v2 σ
    rw [f_X11_judge_L33]; exact G.none
  | succ n ih =>
    intro v1 v2 σ
    rw [f_X11_judge_L33]
    refine q_iload_n C 2 dX11_judge_33 rfl ?_
    refine q_aload_n C 0 dX11_judge_34 rfl ?_
    refine gf_X11_47 C skM_0 dX11_judge_35 ?_
    refine q_iload_n C 1 dX11_judge_38 rfl ?_
    refine q_aldS C saM_11 (ltMa saM_11) dX11_judge_39 (fun _ => ?_)
    refine q_icmp_ge C 77 dX11_judge_40 rfl (fun _ => ?_) (fun _ => ?_)
    · exact w_X11_judge_L77 C v1 v2 σ
    refine q_aload_n C 0 dX11_judge_43 rfl ?_
    refine q_iload_n C 2 dX11_judge_44 rfl ?_
    refine q_cVI C lk_X11_215 (w_X11_isSaying (Y := Y) v2 σ) (Nat.le_of_ble_eq_true rfl) rfl skM_0 (ltM skM_0 rfl) recv_11 (rest := []) rfl rfl (Nat.le_of_ble_eq_true rfl) dX11_judge_45 (fun r6 => ?_)
    refine q_if_eq C 77 dX11_judge_48 rfl (fun _ => ?_) (fun _ => ?_)
    · exact w_X11_judge_L77 C v1 v2 r6.2
    refine q_aload_n C 0 dX11_judge_51 rfl ?_
    refine gf_X11_50 C skM_0 dX11_judge_52 ?_
    refine q_bipush C (v := 40) dX11_judge_55 (by decide) ?_
    refine q_iload_n C 1 dX11_judge_57 rfl ?_
    refine q_imul C dX11_judge_58 ?_
    refine q_iload_n C 2 dX11_judge_59 rfl ?_
    refine q_iadd C dX11_judge_60 ?_
    refine q_aldS C saM_12 (ltMa saM_12) dX11_judge_61 (fun _ => ?_)
    refine q_aload_n C 0 dX11_judge_62 rfl ?_
    refine q_iload_n C 2 dX11_judge_63 rfl ?_
    refine q_iconst C (v := 3) dX11_judge_64 (by decide) ?_
    refine q_cVI C lk_X11_193 (w_X11_sayingIs (Y := Y) v2 3 r6.2) (Nat.le_of_ble_eq_true rfl) rfl skM_0 (ltM skM_0 rfl) recv_11 (rest := [.int (r6.2 12 ((40 * v1) + v2).toNatClampNeg)]) rfl rfl (Nat.le_of_ble_eq_true rfl) dX11_judge_65 (fun r8 => ?_)
    refine q_icmp_ne C 77 dX11_judge_68 rfl (fun _ => ?_) (fun _ => ?_)
    · exact w_X11_judge_L77 C v1 v2 r8.2
    refine q_iinc C 2 [(2, .int (v2 + 1)), (0, Rf Y 0), (1, .int v1)] dX11_judge_71 rfl rfl rfl rfl ?_
    refine q_goto C 33 dX11_judge_74 rfl ?_
    refine G.sub [1, 2, 0] (lv' := [(0, Rf Y 0), (1, .int v1), (2, .int (v2 + 1))]) rfl ?_
    exact ih v1 (v2 + 1) r8.2
def f_X11_judge (a1 : Int32) (σ : St) : Option (Int32 × St) := (Option.bind (f_X11_isSheet a1 σ) fun r1 => (if r1.1 = 0 then (Option.bind (f_X11_finding (-1000000001) r1.2) fun r4 => (some (r4.1, r4.2))) else (if inb a1 (shM 10 - 100) = true then (if (r1.2 10 a1.toNatClampNeg) = 0 then (Option.bind (f_X11_finding (-1000000002) r1.2) fun r3 => (some (r3.1, r3.2))) else (f_X11_judge_L33 400 a1 0 r1.2)) else none)))
theorem w_X11_judge {Y : YT} (a1 : Int32)   (σ : St) : CtE (emI FM Y) FM Y yX11_judge cX11_judge 3 (some .int) 2 [Rf Y 0, .int a1] σ (f_X11_judge a1 σ) := by
  refine Ct.ofG (by decide) (Nat.le_of_ble_eq_true rfl) (fun X C0 => ?_)
  have C : Cx FM Y X cX11_judge 3 RX11 (some .int) 2 (0, 0) := C0
  show G FM Y X 3 (emI FM Y) (0, 0) (0, 0) 0 [(0, Rf Y 0), (1, .int a1)] [] (RepS FM Y σ) (f_X11_judge a1 σ)
  rw [f_X11_judge]
  refine q_iload_n C 1 dX11_judge_0 rfl ?_
  refine q_cSI C lk_X11_276 (w_X11_isSheet (Y := Y) a1 σ) (Nat.le_of_ble_eq_true rfl) rfl (rest := []) rfl rfl (Nat.le_of_ble_eq_true rfl) dX11_judge_1 (fun r1 => ?_)
  refine q_if_ne C 14 dX11_judge_4 rfl (fun _ => ?_) (fun _ => ?_)
  · refine q_aload_n C 0 dX11_judge_14 rfl ?_
    refine gf_X11_44 C skM_0 dX11_judge_15 ?_
    refine q_iload_n C 1 dX11_judge_18 rfl ?_
    refine q_aldS C saM_10 (ltMa saM_10) dX11_judge_19 (fun _ => ?_)
    refine q_if_ne C 31 dX11_judge_20 rfl (fun _ => ?_) (fun _ => ?_)
    · refine q_iconst C (v := 0) dX11_judge_31 (by decide) ?_
      refine q_istore_n C [(2, .int 0), (0, Rf Y 0), (1, .int a1)] dX11_judge_32 rfl rfl ?_
      refine G.sub [1, 2, 0] (lv' := [(0, Rf Y 0), (1, .int a1), (2, .int 0)]) rfl ?_
      exact w_X11_judge_L33 C 400 a1 0 r1.2
    refine q_aload_n C 0 dX11_judge_23 rfl ?_
    refine q_ldcw C (v := (-1000000002)) (TB_of (List.mem_of_getElem? (i := 1413) (by decide +kernel)) rfl) dX11_judge_24 ?_
    refine q_cVI C lk_X11_75 (w_X11_finding (Y := Y) (-1000000002) r1.2) (Nat.le_of_ble_eq_true rfl) rfl skM_0 (ltM skM_0 rfl) recv_11 (rest := []) rfl rfl (Nat.le_of_ble_eq_true rfl) dX11_judge_27 (fun r3 => ?_)
    exact q_ireti C rfl dX11_judge_30
  refine q_aload_n C 0 dX11_judge_7 rfl ?_
  refine q_ldc C (v := (-1000000001)) (TB_of (List.mem_of_getElem? (i := 1119) (by decide +kernel)) rfl) dX11_judge_8 ?_
  refine q_cVI C lk_X11_75 (w_X11_finding (Y := Y) (-1000000001) r1.2) (Nat.le_of_ble_eq_true rfl) rfl skM_0 (ltM skM_0 rfl) recv_11 (rest := []) rfl rfl (Nat.le_of_ble_eq_true rfl) dX11_judge_10 (fun r4 => ?_)
  exact q_ireti C rfl dX11_judge_13
def f_X11_image  (σ : St) : Option (Int32 × St) := (Option.bind (f_X11_copy 1 2 σ) fun r1 => (Bst (up r1 0 3 ((r1 0 3) + 1)) fun s2 => (some ((s2 0 3), s2))))
theorem w_X11_image {Y : YT}    (σ : St) : CtE (emI FM Y) FM Y yX11_image cX11_image 1 (some .int) 1 [Rf Y 0] σ (f_X11_image σ) := by
  refine Ct.ofG (by decide) (Nat.le_of_ble_eq_true rfl) (fun X C0 => ?_)
  have C : Cx FM Y X cX11_image 1 RX11 (some .int) 1 (0, 0) := C0
  show G FM Y X 1 (emI FM Y) (0, 0) (0, 0) 0 [(0, Rf Y 0)] [] (RepS FM Y σ) (f_X11_image σ)
  rw [f_X11_image]
  refine q_aload_n C 0 dX11_image_0 rfl ?_
  refine gf_X11_9 C skM_0 dX11_image_1 ?_
  refine q_aload_n C 0 dX11_image_4 rfl ?_
  refine gf_X11_13 C skM_0 dX11_image_5 ?_
  refine q_cSV C lk_X11_66 (w_X11_copy (Y := Y) 1 2 saM_1 saM_2 σ) (Nat.le_of_ble_eq_true rfl) rfl (rest := []) rfl rfl (Nat.le_of_ble_eq_true rfl) dX11_image_8 (fun r1 => ?_)
  refine q_aload_n C 0 dX11_image_11 rfl ?_
  refine q_dup C dX11_image_12 rfl ?_
  refine gf_X11_318 C skM_0 dX11_image_13 ?_
  refine q_iconst C (v := 1) dX11_image_16 (by decide) ?_
  refine q_iadd C dX11_image_17 ?_
  refine pf_X11_318 C skM_0 dX11_image_18 (fun s2 => ?_)
  refine q_aload_n C 0 dX11_image_21 rfl ?_
  refine gf_X11_318 C skM_0 dX11_image_22 ?_
  exact q_ireti C rfl dX11_image_25
def f_X11_restore  (σ : St) : Option (Int32 × St) := (if (σ 0 3) = 0 then (Option.bind (f_X11_finding (-1000000002) σ) fun r3 => (some (r3.1, r3.2))) else (Option.bind (f_X11_copy 2 1 σ) fun r1 => (some ((r1 1 0), r1))))
theorem w_X11_restore {Y : YT}    (σ : St) : CtE (emI FM Y) FM Y yX11_restore cX11_restore 1 (some .int) 1 [Rf Y 0] σ (f_X11_restore σ) := by
  refine Ct.ofG (by decide) (Nat.le_of_ble_eq_true rfl) (fun X C0 => ?_)
  have C : Cx FM Y X cX11_restore 1 RX11 (some .int) 1 (0, 0) := C0
  show G FM Y X 1 (emI FM Y) (0, 0) (0, 0) 0 [(0, Rf Y 0)] [] (RepS FM Y σ) (f_X11_restore σ)
  rw [f_X11_restore]
  refine q_aload_n C 0 dX11_restore_0 rfl ?_
  refine gf_X11_318 C skM_0 dX11_restore_1 ?_
  refine q_if_ne C 15 dX11_restore_4 rfl (fun _ => ?_) (fun _ => ?_)
  · refine q_aload_n C 0 dX11_restore_15 rfl ?_
    refine gf_X11_13 C skM_0 dX11_restore_16 ?_
    refine q_aload_n C 0 dX11_restore_19 rfl ?_
    refine gf_X11_9 C skM_0 dX11_restore_20 ?_
    refine q_cSV C lk_X11_66 (w_X11_copy (Y := Y) 2 1 saM_2 saM_1 σ) (Nat.le_of_ble_eq_true rfl) rfl (rest := []) rfl rfl (Nat.le_of_ble_eq_true rfl) dX11_restore_23 (fun r1 => ?_)
    refine q_aload_n C 0 dX11_restore_26 rfl ?_
    refine gf_X11_9 C skM_0 dX11_restore_27 ?_
    refine q_iconst C (v := 0) dX11_restore_30 (by decide) ?_
    refine q_aldK C (j := 0) saM_1 (ltMa saM_1) (by decide +kernel) (by decide +kernel) dX11_restore_31 ?_
    exact q_ireti C rfl dX11_restore_32
  refine q_aload_n C 0 dX11_restore_7 rfl ?_
  refine q_ldcw C (v := (-1000000002)) (TB_of (List.mem_of_getElem? (i := 1413) (by decide +kernel)) rfl) dX11_restore_8 ?_
  refine q_cVI C lk_X11_75 (w_X11_finding (Y := Y) (-1000000002) σ) (Nat.le_of_ble_eq_true rfl) rfl skM_0 (ltM skM_0 rfl) recv_11 (rest := []) rfl rfl (Nat.le_of_ble_eq_true rfl) dX11_restore_11 (fun r3 => ?_)
  exact q_ireti C rfl dX11_restore_14
def f_X11_tell (a1 : Int32) (σ : St) : Option (Int32 × St) := (if (σ 1 8) = 20 then (Option.bind (f_X11_finding (-1000000004) σ) fun r7 => (some (r7.1, r7.2))) else (if inb (149 + (σ 1 8)) (shM 1 - 100) = true then (Bst (up σ 1 (149 + (σ 1 8)).toNatClampNeg a1) fun s3 => (Bst (up s3 1 8 ((s3 1 8) + 1)) fun s5 => (some ((s5 1 8), s5)))) else none))
theorem w_X11_tell {Y : YT} (a1 : Int32)   (σ : St) : CtE (emI FM Y) FM Y yX11_tell cX11_tell 2 (some .int) 1 [Rf Y 0, .int a1] σ (f_X11_tell a1 σ) := by
  refine Ct.ofG (by decide) (Nat.le_of_ble_eq_true rfl) (fun X C0 => ?_)
  have C : Cx FM Y X cX11_tell 2 RX11 (some .int) 1 (0, 0) := C0
  show G FM Y X 2 (emI FM Y) (0, 0) (0, 0) 0 [(0, Rf Y 0), (1, .int a1)] [] (RepS FM Y σ) (f_X11_tell a1 σ)
  rw [f_X11_tell]
  refine q_aload_n C 0 dX11_tell_0 rfl ?_
  refine gf_X11_9 C skM_0 dX11_tell_1 ?_
  refine q_bipush C (v := 8) dX11_tell_4 (by decide) ?_
  refine q_aldK C (j := 8) saM_1 (ltMa saM_1) (by decide +kernel) (by decide +kernel) dX11_tell_6 ?_
  refine q_bipush C (v := 20) dX11_tell_7 (by decide) ?_
  refine q_icmp_ne C 19 dX11_tell_9 rfl (fun _ => ?_) (fun _ => ?_)
  · refine q_aload_n C 0 dX11_tell_19 rfl ?_
    refine gf_X11_9 C skM_0 dX11_tell_20 ?_
    refine q_sipush C (v := 149) dX11_tell_23 (by decide) ?_
    refine q_aload_n C 0 dX11_tell_26 rfl ?_
    refine gf_X11_9 C skM_0 dX11_tell_27 ?_
    refine q_bipush C (v := 8) dX11_tell_30 (by decide) ?_
    refine q_aldK C (j := 8) saM_1 (ltMa saM_1) (by decide +kernel) (by decide +kernel) dX11_tell_32 ?_
    refine q_iadd C dX11_tell_33 ?_
    refine q_iload_n C 1 dX11_tell_34 rfl ?_
    refine q_astS C saM_1 (ltMa saM_1) dX11_tell_35 (fun _ s3 => ?_)
    refine q_aload_n C 0 dX11_tell_36 rfl ?_
    refine gf_X11_9 C skM_0 dX11_tell_37 ?_
    refine q_bipush C (v := 8) dX11_tell_40 (by decide) ?_
    refine q_dup2 C dX11_tell_42 rfl rfl ?_
    refine q_aldK C (j := 8) saM_1 (ltMa saM_1) (by decide +kernel) (by decide +kernel) dX11_tell_43 ?_
    refine q_iconst C (v := 1) dX11_tell_44 (by decide) ?_
    refine q_iadd C dX11_tell_45 ?_
    refine q_astK C (j := 8) saM_1 (ltMa saM_1) (by decide +kernel) (by decide +kernel) dX11_tell_46 (fun s5 => ?_)
    refine q_aload_n C 0 dX11_tell_47 rfl ?_
    refine gf_X11_9 C skM_0 dX11_tell_48 ?_
    refine q_bipush C (v := 8) dX11_tell_51 (by decide) ?_
    refine q_aldK C (j := 8) saM_1 (ltMa saM_1) (by decide +kernel) (by decide +kernel) dX11_tell_53 ?_
    exact q_ireti C rfl dX11_tell_54
  refine q_aload_n C 0 dX11_tell_12 rfl ?_
  refine q_ldc C (v := (-1000000004)) (TB_of (List.mem_of_getElem? (i := 1125) (by decide +kernel)) rfl) dX11_tell_13 ?_
  refine q_cVI C lk_X11_75 (w_X11_finding (Y := Y) (-1000000004) σ) (Nat.le_of_ble_eq_true rfl) rfl skM_0 (ltM skM_0 rfl) recv_11 (rest := []) rfl rfl (Nat.le_of_ble_eq_true rfl) dX11_tell_15 (fun r7 => ?_)
  exact q_ireti C rfl dX11_tell_18
def f_X11_strengths_L4 : Nat → Int32 → Int32 → St → Option (Int32 × St)
  | 0, _, _, _ => none
  | n + 1, v1, v2, σ => (if (σ 1 3) ≤ v2 then (some (v1, σ)) else (Option.bind (f_X11_sayingIs v2 3 σ) fun r2 => ((f_X11_strengths_L4 n) (v1 + r2.1) (v2 + 1) r2.2)))
theorem w_X11_strengths_L4 {Y : YT} {X : XT} (C : Cx FM Y X cX11_strengths 3 RX11 (some .int) 2 (0, 0)) : ∀ (n : Nat), ∀ (v1 : Int32), ∀ (v2 : Int32), ∀ (σ : St), G FM Y X 3 (emI FM Y) (0, 0) (0, 0) 4 [(0, Rf Y 0), (1, .int v1), (2, .int v2)] [] (RepS FM Y σ) (f_X11_strengths_L4 n v1 v2 σ) := by
  intro n
  induction n with
  | zero =>
    intro v1 v2 σ
    rw [f_X11_strengths_L4]; exact G.none
  | succ n ih =>
    intro v1 v2 σ
    rw [f_X11_strengths_L4]
    refine q_iload_n C 2 dX11_strengths_4 rfl ?_
    refine q_aload_n C 0 dX11_strengths_5 rfl ?_
    refine gf_X11_9 C skM_0 dX11_strengths_6 ?_
    refine q_iconst C (v := 3) dX11_strengths_9 (by decide) ?_
    refine q_aldK C (j := 3) saM_1 (ltMa saM_1) (by decide +kernel) (by decide +kernel) dX11_strengths_10 ?_
    refine q_icmp_ge C 29 dX11_strengths_11 rfl (fun _ => ?_) (fun _ => ?_)
    · refine q_iload_n C 1 dX11_strengths_29 rfl ?_
      exact q_ireti C rfl dX11_strengths_30
    refine q_iload_n C 1 dX11_strengths_14 rfl ?_
    refine q_aload_n C 0 dX11_strengths_15 rfl ?_
    refine q_iload_n C 2 dX11_strengths_16 rfl ?_
    refine q_iconst C (v := 3) dX11_strengths_17 (by decide) ?_
    refine q_cVI C lk_X11_193 (w_X11_sayingIs (Y := Y) v2 3 σ) (Nat.le_of_ble_eq_true rfl) rfl skM_0 (ltM skM_0 rfl) recv_11 (rest := [.int v1]) rfl rfl (Nat.le_of_ble_eq_true rfl) dX11_strengths_18 (fun r2 => ?_)
    refine q_iadd C dX11_strengths_21 ?_
    refine q_istore_n C [(1, .int (v1 + r2.1)), (0, Rf Y 0), (2, .int v2)] dX11_strengths_22 rfl rfl ?_
    refine q_iinc C 2 [(2, .int (v2 + 1)), (1, .int (v1 + r2.1)), (0, Rf Y 0)] dX11_strengths_23 rfl rfl rfl rfl ?_
    refine q_goto C 4 dX11_strengths_26 rfl ?_
    refine G.sub [2, 1, 0] (lv' := [(0, Rf Y 0), (1, .int (v1 + r2.1)), (2, .int (v2 + 1))]) rfl ?_
    exact ih (v1 + r2.1) (v2 + 1) r2.2
def f_X11_strengths  (σ : St) : Option (Int32 × St) := (f_X11_strengths_L4 400 0 0 σ)
theorem w_X11_strengths {Y : YT}    (σ : St) : CtE (emI FM Y) FM Y yX11_strengths cX11_strengths 3 (some .int) 2 [Rf Y 0] σ (f_X11_strengths σ) := by
  refine Ct.ofG (by decide) (Nat.le_of_ble_eq_true rfl) (fun X C0 => ?_)
  have C : Cx FM Y X cX11_strengths 3 RX11 (some .int) 2 (0, 0) := C0
  show G FM Y X 3 (emI FM Y) (0, 0) (0, 0) 0 [(0, Rf Y 0)] [] (RepS FM Y σ) (f_X11_strengths σ)
  rw [f_X11_strengths]
  refine q_iconst C (v := 0) dX11_strengths_0 (by decide) ?_
  refine q_istore_n C [(1, .int 0), (0, Rf Y 0)] dX11_strengths_1 rfl rfl ?_
  refine q_iconst C (v := 0) dX11_strengths_2 (by decide) ?_
  refine q_istore_n C [(2, .int 0), (1, .int 0), (0, Rf Y 0)] dX11_strengths_3 rfl rfl ?_
  refine G.sub [2, 1, 0] (lv' := [(0, Rf Y 0), (1, .int 0), (2, .int 0)]) rfl ?_
  exact w_X11_strengths_L4 C 400 0 0 σ
theorem lk_X11_321 : LkV RX11 321 yX11_strengths cX11_strengths 3 (some .int) 0 := ⟨TB_p [1548, 1550, 66, 81, 1551] (by decide +kernel) (by decide +kernel), by decide +kernel, by decide +kernel, by decide +kernel⟩
def f_X11_check_L31 : Nat → Int32 → Int32 → Int32 → St → Option (Int32 × St)
  | 0, _, _, _, _ => none
  | n + 1, v1, v2, v3, σ => (if v1 ≤ v3 then (Option.bind (f_X11_putBack v2 σ) fun r4 => (some (r4.1, r4.2))) else (if v2 = 0 then (Option.bind (f_X11_hour σ) fun r6 => (if inb (149 + v3) (shM 1 - 100) = true then (Option.bind (f_X11_strengths r6) fun r8 => (if (r6 1 (149 + v3).toNatClampNeg) = r8.1 then ((f_X11_check_L31 n) v1 0 (v3 + 1) r8.2) else ((f_X11_check_L31 n) v1 (1 + v3) (v3 + 1) r8.2))) else none)) else (Option.bind (f_X11_putBack v2 σ) fun r5 => (some (r5.1, r5.2)))))
theorem w_X11_check_L31 {Y : YT} {X : XT} (C : Cx FM Y X cX11_check 4 RX11 (some .int) 6 (0, 0)) : ∀ (n : Nat), ∀ (v1 : Int32), ∀ (v2 : Int32), ∀ (v3 : Int32), ∀ (σ : St), G FM Y X 4 (emI FM Y) (0, 0) (0, 0) 31 [(0, Rf Y 0), (1, .int v1), (2, .int v2), (3, .int v3)] [] (RepS FM Y σ) (f_X11_check_L31 n v1 v2 v3 σ) := by
  intro n
  induction n with
  | zero =>
    intro v1 v2 v3 σ
    rw [f_X11_check_L31]; exact G.none
  | succ n ih =>
    intro v1 v2 v3 σ
    rw [f_X11_check_L31]
    refine q_iload_n C 3 dX11_check_31 rfl ?_
    refine q_iload_n C 1 dX11_check_32 rfl ?_
    refine q_icmp_ge C 75 dX11_check_33 rfl (fun _ => ?_) (fun _ => ?_)
    · refine q_aload_n C 0 dX11_check_75 rfl ?_
      refine q_iload_n C 2 dX11_check_76 rfl ?_
      refine q_cVI C lk_X11_253 (w_X11_putBack (Y := Y) v2 σ) (Nat.le_of_ble_eq_true rfl) rfl skM_0 (ltM skM_0 rfl) recv_11 (rest := []) rfl rfl (Nat.le_of_ble_eq_true rfl) dX11_check_77 (fun r4 => ?_)
      exact q_ireti C rfl dX11_check_80
    refine q_iload_n C 2 dX11_check_36 rfl ?_
    refine q_if_ne C 75 dX11_check_37 rfl (fun _ => ?_) (fun _ => ?_)
    · refine q_aload_n C 0 dX11_check_75 rfl ?_
      refine q_iload_n C 2 dX11_check_76 rfl ?_
      refine q_cVI C lk_X11_253 (w_X11_putBack (Y := Y) v2 σ) (Nat.le_of_ble_eq_true rfl) rfl skM_0 (ltM skM_0 rfl) recv_11 (rest := []) rfl rfl (Nat.le_of_ble_eq_true rfl) dX11_check_77 (fun r5 => ?_)
      exact q_ireti C rfl dX11_check_80
    refine q_aload_n C 0 dX11_check_40 rfl ?_
    refine q_cVV C lk_X11_237 (w_X11_hour (Y := Y) σ) (Nat.le_of_ble_eq_true rfl) rfl skM_0 (ltM skM_0 rfl) recv_11 (rest := []) rfl rfl (Nat.le_of_ble_eq_true rfl) dX11_check_41 (fun r6 => ?_)
    refine q_aload_n C 0 dX11_check_44 rfl ?_
    refine gf_X11_9 C skM_0 dX11_check_45 ?_
    refine q_sipush C (v := 149) dX11_check_48 (by decide) ?_
    refine q_iload_n C 3 dX11_check_51 rfl ?_
    refine q_iadd C dX11_check_52 ?_
    refine q_aldS C saM_1 (ltMa saM_1) dX11_check_53 (fun _ => ?_)
    refine q_aload_n C 0 dX11_check_54 rfl ?_
    refine q_cVI C lk_X11_321 (w_X11_strengths (Y := Y) r6) (Nat.le_of_ble_eq_true rfl) rfl skM_0 (ltM skM_0 rfl) recv_11 (rest := [.int (r6 1 (149 + v3).toNatClampNeg)]) rfl rfl (Nat.le_of_ble_eq_true rfl) dX11_check_55 (fun r8 => ?_)
    refine q_icmp_ne C 65 dX11_check_58 rfl (fun _ => ?_) (fun _ => ?_)
    · refine q_iconst C (v := 1) dX11_check_65 (by decide) ?_
      refine q_iload_n C 3 dX11_check_66 rfl ?_
      refine q_iadd C dX11_check_67 ?_
      refine q_istore_n C [(2, .int (1 + v3)), (0, Rf Y 0), (1, .int v1), (3, .int v3)] dX11_check_68 rfl rfl ?_
      refine q_iinc C 3 [(3, .int (v3 + 1)), (2, .int (1 + v3)), (0, Rf Y 0), (1, .int v1)] dX11_check_69 rfl rfl rfl rfl ?_
      refine q_goto C 31 dX11_check_72 rfl ?_
      refine G.sub [2, 3, 1, 0] (lv' := [(0, Rf Y 0), (1, .int v1), (2, .int (1 + v3)), (3, .int (v3 + 1))]) rfl ?_
      exact ih v1 (1 + v3) (v3 + 1) r8.2
    refine q_iconst C (v := 0) dX11_check_61 (by decide) ?_
    refine q_goto C 68 dX11_check_62 rfl ?_
    refine q_istore_n C [(2, .int 0), (0, Rf Y 0), (1, .int v1), (3, .int v3)] dX11_check_68 rfl rfl ?_
    refine q_iinc C 3 [(3, .int (v3 + 1)), (2, .int 0), (0, Rf Y 0), (1, .int v1)] dX11_check_69 rfl rfl rfl rfl ?_
    refine q_goto C 31 dX11_check_72 rfl ?_
    refine G.sub [2, 3, 1, 0] (lv' := [(0, Rf Y 0), (1, .int v1), (2, .int 0), (3, .int (v3 + 1))]) rfl ?_
    exact ih v1 0 (v3 + 1) r8.2
def f_X11_check  (σ : St) : Option (Int32 × St) := (Bst (up σ 1 8 0) fun s2 => (Option.bind (f_X11_copy 1 3 s2) fun r3 => (f_X11_check_L31 400 (σ 1 8) 0 0 r3)))
theorem w_X11_check {Y : YT}    (σ : St) : CtE (emI FM Y) FM Y yX11_check cX11_check 4 (some .int) 6 [Rf Y 0] σ (f_X11_check σ) := by
  refine Ct.ofG (by decide) (Nat.le_of_ble_eq_true rfl) (fun X C0 => ?_)
  have C : Cx FM Y X cX11_check 4 RX11 (some .int) 6 (0, 0) := C0
  show G FM Y X 4 (emI FM Y) (0, 0) (0, 0) 0 [(0, Rf Y 0)] [] (RepS FM Y σ) (f_X11_check σ)
  rw [f_X11_check]
  refine q_aload_n C 0 dX11_check_0 rfl ?_
  refine gf_X11_9 C skM_0 dX11_check_1 ?_
  refine q_bipush C (v := 8) dX11_check_4 (by decide) ?_
  refine q_aldK C (j := 8) saM_1 (ltMa saM_1) (by decide +kernel) (by decide +kernel) dX11_check_6 ?_
  refine q_istore_n C [(1, .int (σ 1 8)), (0, Rf Y 0)] dX11_check_7 rfl rfl ?_
  refine q_aload_n C 1 dX11_check_8 rfl ?_
  refine gf_X11_9 C skM_0 dX11_check_9 ?_
  refine q_bipush C (v := 8) dX11_check_12 (by decide) ?_
  refine q_iconst C (v := 0) dX11_check_14 (by decide) ?_
  refine q_astK C (j := 8) saM_1 (ltMa saM_1) (by decide +kernel) (by decide +kernel) dX11_check_15 (fun s2 => ?_)
  refine q_aload_n C 1 dX11_check_16 rfl ?_
  refine gf_X11_9 C skM_0 dX11_check_17 ?_
  refine q_aload_n C 1 dX11_check_20 rfl ?_
  refine gf_X11_16 C skM_0 dX11_check_21 ?_
  refine q_cSV C lk_X11_66 (w_X11_copy (Y := Y) 1 3 saM_1 saM_3 s2) (Nat.le_of_ble_eq_true rfl) rfl (rest := []) rfl rfl (Nat.le_of_ble_eq_true rfl) dX11_check_24 (fun r3 => ?_)
  refine q_iconst C (v := 0) dX11_check_27 (by decide) ?_
  refine q_istore_n C [(2, .int 0), (1, .int (σ 1 8)), (0, Rf Y 0)] dX11_check_28 rfl rfl ?_
  refine q_iconst C (v := 0) dX11_check_29 (by decide) ?_
  refine q_istore_n C [(3, .int 0), (2, .int 0), (1, .int (σ 1 8)), (0, Rf Y 0)] dX11_check_30 rfl rfl ?_
  refine G.sub [3, 2, 1, 0] (lv' := [(0, Rf Y 0), (1, .int (σ 1 8)), (2, .int 0), (3, .int 0)]) rfl ?_
  exact w_X11_check_L31 C 400 (σ 1 8) 0 0 r3
def f_X11_stopped_L4 : Nat → Int32 → Int32 → St → Option (Int32 × St)
  | 0, _, _, _ => none
  | n + 1, v1, v2, σ => (if (σ 1 2) ≤ v2 then (some (v1, σ)) else (Option.bind (f_X11_wayIs v2 3 σ) fun r2 => ((f_X11_stopped_L4 n) (v1 ||| (r2.1 <<< (v2 &&& 31))) (v2 + 1) r2.2)))
theorem w_X11_stopped_L4 {Y : YT} {X : XT} (C : Cx FM Y X cX11_stopped 3 RX11 (some .int) 2 (0, 0)) : ∀ (n : Nat), ∀ (v1 : Int32), ∀ (v2 : Int32), ∀ (σ : St), G FM Y X 3 (emI FM Y) (0, 0) (0, 0) 4 [(0, Rf Y 0), (1, .int v1), (2, .int v2)] [] (RepS FM Y σ) (f_X11_stopped_L4 n v1 v2 σ) := by
  intro n
  induction n with
  | zero =>
    intro v1 v2 σ
    rw [f_X11_stopped_L4]; exact G.none
  | succ n ih =>
    intro v1 v2 σ
    rw [f_X11_stopped_L4]
    refine q_iload_n C 2 dX11_stopped_4 rfl ?_
    refine q_aload_n C 0 dX11_stopped_5 rfl ?_
    refine gf_X11_9 C skM_0 dX11_stopped_6 ?_
    refine q_iconst C (v := 2) dX11_stopped_9 (by decide) ?_
    refine q_aldK C (j := 2) saM_1 (ltMa saM_1) (by decide +kernel) (by decide +kernel) dX11_stopped_10 ?_
    refine q_icmp_ge C 31 dX11_stopped_11 rfl (fun _ => ?_) (fun _ => ?_)
    · refine q_iload_n C 1 dX11_stopped_31 rfl ?_
      exact q_ireti C rfl dX11_stopped_32
    refine q_iload_n C 1 dX11_stopped_14 rfl ?_
    refine q_aload_n C 0 dX11_stopped_15 rfl ?_
    refine q_iload_n C 2 dX11_stopped_16 rfl ?_
    refine q_iconst C (v := 3) dX11_stopped_17 (by decide) ?_
    refine q_cVI C lk_X11_178 (w_X11_wayIs (Y := Y) v2 3 σ) (Nat.le_of_ble_eq_true rfl) rfl skM_0 (ltM skM_0 rfl) recv_11 (rest := [.int v1]) rfl rfl (Nat.le_of_ble_eq_true rfl) dX11_stopped_18 (fun r2 => ?_)
    refine q_iload_n C 2 dX11_stopped_21 rfl ?_
    refine q_ishl C dX11_stopped_22 ?_
    refine q_ior C dX11_stopped_23 ?_
    refine q_istore_n C [(1, .int (v1 ||| (r2.1 <<< (v2 &&& 31)))), (0, Rf Y 0), (2, .int v2)] dX11_stopped_24 rfl rfl ?_
    refine q_iinc C 2 [(2, .int (v2 + 1)), (1, .int (v1 ||| (r2.1 <<< (v2 &&& 31)))), (0, Rf Y 0)] dX11_stopped_25 rfl rfl rfl rfl ?_
    refine q_goto C 4 dX11_stopped_28 rfl ?_
    refine G.sub [2, 1, 0] (lv' := [(0, Rf Y 0), (1, .int (v1 ||| (r2.1 <<< (v2 &&& 31)))), (2, .int (v2 + 1))]) rfl ?_
    exact ih (v1 ||| (r2.1 <<< (v2 &&& 31))) (v2 + 1) r2.2
def f_X11_stopped  (σ : St) : Option (Int32 × St) := (f_X11_stopped_L4 400 0 0 σ)
theorem w_X11_stopped {Y : YT}    (σ : St) : CtE (emI FM Y) FM Y yX11_stopped cX11_stopped 3 (some .int) 2 [Rf Y 0] σ (f_X11_stopped σ) := by
  refine Ct.ofG (by decide) (Nat.le_of_ble_eq_true rfl) (fun X C0 => ?_)
  have C : Cx FM Y X cX11_stopped 3 RX11 (some .int) 2 (0, 0) := C0
  show G FM Y X 3 (emI FM Y) (0, 0) (0, 0) 0 [(0, Rf Y 0)] [] (RepS FM Y σ) (f_X11_stopped σ)
  rw [f_X11_stopped]
  refine q_iconst C (v := 0) dX11_stopped_0 (by decide) ?_
  refine q_istore_n C [(1, .int 0), (0, Rf Y 0)] dX11_stopped_1 rfl rfl ?_
  refine q_iconst C (v := 0) dX11_stopped_2 (by decide) ?_
  refine q_istore_n C [(2, .int 0), (1, .int 0), (0, Rf Y 0)] dX11_stopped_3 rfl rfl ?_
  refine G.sub [2, 1, 0] (lv' := [(0, Rf Y 0), (1, .int 0), (2, .int 0)]) rfl ?_
  exact w_X11_stopped_L4 C 400 0 0 σ
theorem lk_X11_324 : LkV RX11 324 yX11_stopped cX11_stopped 3 (some .int) 0 := ⟨TB_p [1556, 1558, 67, 81, 1559] (by decide +kernel) (by decide +kernel), by decide +kernel, by decide +kernel, by decide +kernel⟩
def f_X11_count (a1 : Int32) (σ : St) : Option (Int32 × St) := (if a1 = 0 then (some ((σ 1 1), σ)) else (if a1 = 1 then (some ((σ 1 2), σ)) else (if a1 = 2 then (some ((σ 1 3), σ)) else (if a1 = 3 then (some ((σ 1 4), σ)) else (if a1 = 4 then (some ((σ 1 0), σ)) else (if a1 = 5 then (some ((σ 1 5), σ)) else (if a1 = 6 then (Option.bind (f_X11_stopped σ) fun r14 => (some (r14.1, r14.2))) else (if a1 = 7 then (Option.bind (f_X11_strengths σ) fun r16 => (some (r16.1, r16.2))) else (if a1 = 8 then (Option.bind (f_X11_knowing σ) fun r18 => (some (r18.1, r18.2))) else (if a1 = 9 then (some ((σ 1 7), σ)) else (if a1 = 10 then (some ((σ 1 8), σ)) else (if a1 = 11 then (some ((σ 0 15), σ)) else (if a1 = 12 then (some ((σ 1 6), σ)) else (Option.bind (f_X11_finding (-1000000001) σ) fun r26 => (some (r26.1, r26.2))))))))))))))))
theorem w_X11_count {Y : YT} (a1 : Int32)   (σ : St) : CtE (emI FM Y) FM Y yX11_count cX11_count 2 (some .int) 3 [Rf Y 0, .int a1] σ (f_X11_count a1 σ) := by
  refine Ct.ofG (by decide) (Nat.le_of_ble_eq_true rfl) (fun X C0 => ?_)
  have C : Cx FM Y X cX11_count 2 RX11 (some .int) 3 (0, 0) := C0
  show G FM Y X 2 (emI FM Y) (0, 0) (0, 0) 0 [(0, Rf Y 0), (1, .int a1)] [] (RepS FM Y σ) (f_X11_count a1 σ)
  rw [f_X11_count]
  refine q_iload_n C 1 dX11_count_0 rfl ?_
  refine G.ite (fun h1 => ?_) (fun h1 => ?_)
  · refine q_tsw_in C 68 dX11_count_1 h1 (by decide) (by decide) rfl rfl ?_
    refine q_aload_n C 0 dX11_count_68 rfl ?_
    refine gf_X11_9 C skM_0 dX11_count_69 ?_
    refine q_iconst C (v := 1) dX11_count_72 (by decide) ?_
    refine q_aldK C (j := 1) saM_1 (ltMa saM_1) (by decide +kernel) (by decide +kernel) dX11_count_73 ?_
    exact q_ireti C rfl dX11_count_74
  refine G.ite (fun h3 => ?_) (fun h3 => ?_)
  · refine q_tsw_in C 75 dX11_count_1 h3 (by decide) (by decide) rfl rfl ?_
    refine q_aload_n C 0 dX11_count_75 rfl ?_
    refine gf_X11_9 C skM_0 dX11_count_76 ?_
    refine q_iconst C (v := 2) dX11_count_79 (by decide) ?_
    refine q_aldK C (j := 2) saM_1 (ltMa saM_1) (by decide +kernel) (by decide +kernel) dX11_count_80 ?_
    exact q_ireti C rfl dX11_count_81
  refine G.ite (fun h5 => ?_) (fun h5 => ?_)
  · refine q_tsw_in C 82 dX11_count_1 h5 (by decide) (by decide) rfl rfl ?_
    refine q_aload_n C 0 dX11_count_82 rfl ?_
    refine gf_X11_9 C skM_0 dX11_count_83 ?_
    refine q_iconst C (v := 3) dX11_count_86 (by decide) ?_
    refine q_aldK C (j := 3) saM_1 (ltMa saM_1) (by decide +kernel) (by decide +kernel) dX11_count_87 ?_
    exact q_ireti C rfl dX11_count_88
  refine G.ite (fun h7 => ?_) (fun h7 => ?_)
  · refine q_tsw_in C 89 dX11_count_1 h7 (by decide) (by decide) rfl rfl ?_
    refine q_aload_n C 0 dX11_count_89 rfl ?_
    refine gf_X11_9 C skM_0 dX11_count_90 ?_
    refine q_iconst C (v := 4) dX11_count_93 (by decide) ?_
    refine q_aldK C (j := 4) saM_1 (ltMa saM_1) (by decide +kernel) (by decide +kernel) dX11_count_94 ?_
    exact q_ireti C rfl dX11_count_95
  refine G.ite (fun h9 => ?_) (fun h9 => ?_)
  · refine q_tsw_in C 96 dX11_count_1 h9 (by decide) (by decide) rfl rfl ?_
    refine q_aload_n C 0 dX11_count_96 rfl ?_
    refine gf_X11_9 C skM_0 dX11_count_97 ?_
    refine q_iconst C (v := 0) dX11_count_100 (by decide) ?_
    refine q_aldK C (j := 0) saM_1 (ltMa saM_1) (by decide +kernel) (by decide +kernel) dX11_count_101 ?_
    exact q_ireti C rfl dX11_count_102
  refine G.ite (fun h11 => ?_) (fun h11 => ?_)
  · refine q_tsw_in C 103 dX11_count_1 h11 (by decide) (by decide) rfl rfl ?_
    refine q_aload_n C 0 dX11_count_103 rfl ?_
    refine gf_X11_9 C skM_0 dX11_count_104 ?_
    refine q_iconst C (v := 5) dX11_count_107 (by decide) ?_
    refine q_aldK C (j := 5) saM_1 (ltMa saM_1) (by decide +kernel) (by decide +kernel) dX11_count_108 ?_
    exact q_ireti C rfl dX11_count_109
  refine G.ite (fun h13 => ?_) (fun h13 => ?_)
  · refine q_tsw_in C 110 dX11_count_1 h13 (by decide) (by decide) rfl rfl ?_
    refine q_aload_n C 0 dX11_count_110 rfl ?_
    refine q_cVI C lk_X11_324 (w_X11_stopped (Y := Y) σ) (Nat.le_of_ble_eq_true rfl) rfl skM_0 (ltM skM_0 rfl) recv_11 (rest := []) rfl rfl (Nat.le_of_ble_eq_true rfl) dX11_count_111 (fun r14 => ?_)
    exact q_ireti C rfl dX11_count_114
  refine G.ite (fun h15 => ?_) (fun h15 => ?_)
  · refine q_tsw_in C 115 dX11_count_1 h15 (by decide) (by decide) rfl rfl ?_
    refine q_aload_n C 0 dX11_count_115 rfl ?_
    refine q_cVI C lk_X11_321 (w_X11_strengths (Y := Y) σ) (Nat.le_of_ble_eq_true rfl) rfl skM_0 (ltM skM_0 rfl) recv_11 (rest := []) rfl rfl (Nat.le_of_ble_eq_true rfl) dX11_count_116 (fun r16 => ?_)
    exact q_ireti C rfl dX11_count_119
  refine G.ite (fun h17 => ?_) (fun h17 => ?_)
  · refine q_tsw_in C 120 dX11_count_1 h17 (by decide) (by decide) rfl rfl ?_
    refine q_aload_n C 0 dX11_count_120 rfl ?_
    refine q_cVI C lk_X11_243 (w_X11_knowing (Y := Y) σ) (Nat.le_of_ble_eq_true rfl) rfl skM_0 (ltM skM_0 rfl) recv_11 (rest := []) rfl rfl (Nat.le_of_ble_eq_true rfl) dX11_count_121 (fun r18 => ?_)
    exact q_ireti C rfl dX11_count_124
  refine G.ite (fun h19 => ?_) (fun h19 => ?_)
  · refine q_tsw_in C 125 dX11_count_1 h19 (by decide) (by decide) rfl rfl ?_
    refine q_aload_n C 0 dX11_count_125 rfl ?_
    refine gf_X11_9 C skM_0 dX11_count_126 ?_
    refine q_bipush C (v := 7) dX11_count_129 (by decide) ?_
    refine q_aldK C (j := 7) saM_1 (ltMa saM_1) (by decide +kernel) (by decide +kernel) dX11_count_131 ?_
    exact q_ireti C rfl dX11_count_132
  refine G.ite (fun h21 => ?_) (fun h21 => ?_)
  · refine q_tsw_in C 133 dX11_count_1 h21 (by decide) (by decide) rfl rfl ?_
    refine q_aload_n C 0 dX11_count_133 rfl ?_
    refine gf_X11_9 C skM_0 dX11_count_134 ?_
    refine q_bipush C (v := 8) dX11_count_137 (by decide) ?_
    refine q_aldK C (j := 8) saM_1 (ltMa saM_1) (by decide +kernel) (by decide +kernel) dX11_count_139 ?_
    exact q_ireti C rfl dX11_count_140
  refine G.ite (fun h23 => ?_) (fun h23 => ?_)
  · refine q_tsw_in C 141 dX11_count_1 h23 (by decide) (by decide) rfl rfl ?_
    refine q_aload_n C 0 dX11_count_141 rfl ?_
    refine gf_X11_288 C skM_0 dX11_count_142 ?_
    exact q_ireti C rfl dX11_count_145
  refine G.ite (fun h24 => ?_) (fun h24 => ?_)
  · refine q_tsw_in C 146 dX11_count_1 h24 (by decide) (by decide) rfl rfl ?_
    refine q_aload_n C 0 dX11_count_146 rfl ?_
    refine gf_X11_9 C skM_0 dX11_count_147 ?_
    refine q_bipush C (v := 6) dX11_count_150 (by decide) ?_
    refine q_aldK C (j := 6) saM_1 (ltMa saM_1) (by decide +kernel) (by decide +kernel) dX11_count_152 ?_
    exact q_ireti C rfl dX11_count_153
  refine q_tsw_out C 154 dX11_count_1 ?_ rfl ?_
  · have hsw := sw_out 0 13 (by decide) (by decide) ⟨h1, h3, h5, h7, h9, h11, h13, h15, h17, h19, h21, h23, h24, trivial⟩
    omega
  refine q_aload_n C 0 dX11_count_154 rfl ?_
  refine q_ldc C (v := (-1000000001)) (TB_of (List.mem_of_getElem? (i := 1119) (by decide +kernel)) rfl) dX11_count_155 ?_
  refine q_cVI C lk_X11_75 (w_X11_finding (Y := Y) (-1000000001) σ) (Nat.le_of_ble_eq_true rfl) rfl skM_0 (ltM skM_0 rfl) recv_11 (rest := []) rfl rfl (Nat.le_of_ble_eq_true rfl) dX11_count_157 (fun r26 => ?_)
  exact q_ireti C rfl dX11_count_160
def f_X11_told (a1 : Int32) (σ : St) : Option (Int32 × St) := (Option.bind (f_X11_within a1 1 5 σ) fun r1 => (if r1.1 = 0 then (Option.bind (f_X11_finding (-1000000001) r1.2) fun r2 => (some (r2.1, r2.2))) else (if inb a1 (shM 4 - 100) = true then (some ((r1.2 4 a1.toNatClampNeg), r1.2)) else none)))
theorem w_X11_told {Y : YT} (a1 : Int32)   (σ : St) : CtE (emI FM Y) FM Y yX11_told cX11_told 2 (some .int) 1 [Rf Y 0, .int a1] σ (f_X11_told a1 σ) := by
  refine Ct.ofG (by decide) (Nat.le_of_ble_eq_true rfl) (fun X C0 => ?_)
  have C : Cx FM Y X cX11_told 2 RX11 (some .int) 1 (0, 0) := C0
  show G FM Y X 2 (emI FM Y) (0, 0) (0, 0) 0 [(0, Rf Y 0), (1, .int a1)] [] (RepS FM Y σ) (f_X11_told a1 σ)
  rw [f_X11_told]
  refine q_iload_n C 1 dX11_told_0 rfl ?_
  refine q_iconst C (v := 1) dX11_told_1 (by decide) ?_
  refine q_iconst C (v := 5) dX11_told_2 (by decide) ?_
  refine q_cSI C lk_X11_70 (w_X11_within (Y := Y) a1 1 5 σ) (Nat.le_of_ble_eq_true rfl) rfl (rest := []) rfl rfl (Nat.le_of_ble_eq_true rfl) dX11_told_3 (fun r1 => ?_)
  refine q_if_eq C 18 dX11_told_6 rfl (fun _ => ?_) (fun _ => ?_)
  · refine q_aload_n C 0 dX11_told_18 rfl ?_
    refine q_ldc C (v := (-1000000001)) (TB_of (List.mem_of_getElem? (i := 1119) (by decide +kernel)) rfl) dX11_told_19 ?_
    refine q_cVI C lk_X11_75 (w_X11_finding (Y := Y) (-1000000001) r1.2) (Nat.le_of_ble_eq_true rfl) rfl skM_0 (ltM skM_0 rfl) recv_11 (rest := []) rfl rfl (Nat.le_of_ble_eq_true rfl) dX11_told_21 (fun r2 => ?_)
    exact q_ireti C rfl dX11_told_24
  refine q_aload_n C 0 dX11_told_9 rfl ?_
  refine gf_X11_19 C skM_0 dX11_told_10 ?_
  refine q_iload_n C 1 dX11_told_13 rfl ?_
  refine q_aldS C saM_4 (ltMa saM_4) dX11_told_14 (fun _ => ?_)
  refine q_goto C 24 dX11_told_15 rfl ?_
  exact q_ireti C rfl dX11_told_24
