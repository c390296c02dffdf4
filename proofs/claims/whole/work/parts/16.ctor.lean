theorem lenO_1 {Y : YT} {k : Nat} : (O_1 Y k).length = 5 := rfl
theorem lenO_2 {Y : YT} {k m : Nat} : (O_2 Y k m).length = 2 := rfl
theorem lenO_5 {Y : YT} {k : Nat} : (O_5 Y k).length = 3 := rfl
theorem lenO_7 {Y : YT} {k : Nat} : (O_7 Y k).length = 43 := rfl
theorem lenO_8 {Y : YT} {k : Nat} : (O_8 Y k).length = 3 := rfl
set_option maxHeartbeats 2000000 in
theorem half10 {Y : YT} {X : XT} (C : CxI FC Y X cX10_init 2 RX10 4 (111, 1256)) (hh : RepL Y [.inr (10, [.null, .null, .null, .null, .null, .null, .null, .int 0])] (sX X).heap) : G FC Y X 2 (fun _ : Unit => (none, fun H => RepS FC Y st1C H ∧ H.size = bY Y + 112)) (111, 1256) (99, 1080) 87 [(0, Rf Y 0)] [] (RepL Y (A10 Y ++ (.inl (Y.2.1.2.1, 4, .inr (.inr (.inr (.inr (fun _ => none)))))) :: (([] ++ O_2 Y 96 40) ++ O_2 Y 98 6))) (some ()) := by
  refine q_iconst C.1 (v := 0) dX10_init_87 (by decide) ?_
  refine q_istore_n C.1 [(1, .int 0), (0, Rf Y 0)] dX10_init_88 rfl rfl ?_
  refine q_iload_n C.1 0 dX10_init_89 rfl ?_
  refine q_aload_n C.1 1 dX10_init_90 rfl ?_
  refine q_getS C.1 (ci := 10) (RC := RX10) (T := TX10) (N := 8) (fs := [Rf Y 1, Rf Y 44, Rf Y 87, Rf Y 92, Rf Y 95, Rf Y 96, Rf Y 98, .int 0]) (v := Rf Y 95) rfl in_X10 4 (by decide) (TB_of (List.mem_of_getElem? (i := 400) (by decide +kernel)) rfl) rfl (fun H h => h.2 0 _ (A10_0 _)) rfl dX10_init_91 ?_
  refine q_alen C.1 (x := (4, .inr (.inr (.inr (.inr (fun _ => none)))))) (fun H h => h.2 95 _ (mid_at A10_len)) 1 rfl (v := 4) rfl dX10_init_94 ?_
  refine q_ge_no C 117 (by decide) dX10_init_95 rfl ?_
  refine q_aload_n C.1 1 dX10_init_98 rfl ?_
  refine q_getS C.1 (ci := 10) (RC := RX10) (T := TX10) (N := 8) (fs := [Rf Y 1, Rf Y 44, Rf Y 87, Rf Y 92, Rf Y 95, Rf Y 96, Rf Y 98, .int 0]) (v := Rf Y 95) rfl in_X10 4 (by decide) (TB_of (List.mem_of_getElem? (i := 400) (by decide +kernel)) rfl) rfl (fun H h => h.2 0 _ (A10_0 _)) rfl dX10_init_99 ?_
  refine q_iload_n C.1 0 dX10_init_102 rfl ?_
  refine c_new (z := (99, 1080)) C (ci := 5) (RC := RX5) (T := TX5) (N := 2) (fs := [.int 0, .null]) rfl in_X5 tyX5 tyX5_ok (TB_of (List.mem_of_getElem? (i := 364) (by decide +kernel)) rfl) (TB_of (List.mem_of_getElem? (i := 368) (by decide +kernel)) rfl) (TB_of (List.mem_of_getElem? (i := 80) (by decide +kernel)) rfl) dflt_5 (n := 100) (len_ap (c := 5) A10_len rfl) (by decide) (by decide) dX10_init_103 ?_
  refine q_dup C.1 dX10_init_106 rfl ?_
  refine q_callIN (z := (100, 1082)) C.1 lk_X10_55 (ct_X5 (k := 100) (len_ap (c := 5) A10_len rfl) (by decide)) (Nat.le_of_ble_eq_true rfl) rfl (rest := [Rf Y 100, .int 0, Rf Y 95]) rfl rfl (Nat.le_of_ble_eq_true rfl) dX10_init_107 (by decide) ?_
  refine G.cast (app3 (A10 Y) (.inl (Y.2.1.2.1, 4, .inr (.inr (.inr (.inr (fun _ => none)))))) ((([] ++ O_2 Y 96 40) ++ O_2 Y 98 6)) (O_5 Y 100)) ?_
  refine c_aast (P := (A10 Y)) (Q := ((([] ++ O_2 Y 96 40) ++ O_2 Y 98 6) ++ O_5 Y 100)) (kk := 95) (N := 4) (v := bY Y + 100) (f := fun _ => none) C A10_len 1 rfl (fun H locs h2 _ => any_obj C (k := 100) (ci := 5) (q := (RX5, TX5, 2)) (beh_at (j := 5) A10_len rfl) rfl h2) (i := 0) (inb_in (by decide)) (by decide) dX10_init_110 ?_
  refine q_iinc C.1 0 (v := 1) [(1, .int 1), (0, Rf Y 0)] dX10_init_111 rfl (by decide) rfl rfl ?_
  refine q_goto C.1 89 dX10_init_114 rfl ?_
  refine q_iload_n C.1 0 dX10_init_89 rfl ?_
  refine q_aload_n C.1 1 dX10_init_90 rfl ?_
  refine q_getS C.1 (ci := 10) (RC := RX10) (T := TX10) (N := 8) (fs := [Rf Y 1, Rf Y 44, Rf Y 87, Rf Y 92, Rf Y 95, Rf Y 96, Rf Y 98, .int 0]) (v := Rf Y 95) rfl in_X10 4 (by decide) (TB_of (List.mem_of_getElem? (i := 400) (by decide +kernel)) rfl) rfl (fun H h => h.2 0 _ (A10_0 _)) rfl dX10_init_91 ?_
  refine q_alen C.1 (x := (4, .inr (.inr (.inr (.inr (va_up (fun _ => none) ((0 : Int32).toNatClampNeg) (some (bY Y + 100)))))))) (fun H h => h.2 95 _ (mid_at A10_len)) 1 rfl (v := 4) rfl dX10_init_94 ?_
  refine q_ge_no C 117 (by decide) dX10_init_95 rfl ?_
  refine q_aload_n C.1 1 dX10_init_98 rfl ?_
  refine q_getS C.1 (ci := 10) (RC := RX10) (T := TX10) (N := 8) (fs := [Rf Y 1, Rf Y 44, Rf Y 87, Rf Y 92, Rf Y 95, Rf Y 96, Rf Y 98, .int 0]) (v := Rf Y 95) rfl in_X10 4 (by decide) (TB_of (List.mem_of_getElem? (i := 400) (by decide +kernel)) rfl) rfl (fun H h => h.2 0 _ (A10_0 _)) rfl dX10_init_99 ?_
  refine q_iload_n C.1 0 dX10_init_102 rfl ?_
  refine c_new (z := (102, 1124)) C (ci := 5) (RC := RX5) (T := TX5) (N := 2) (fs := [.int 0, .null]) rfl in_X5 tyX5 tyX5_ok (TB_of (List.mem_of_getElem? (i := 364) (by decide +kernel)) rfl) (TB_of (List.mem_of_getElem? (i := 368) (by decide +kernel)) rfl) (TB_of (List.mem_of_getElem? (i := 80) (by decide +kernel)) rfl) dflt_5 (n := 103) (len_ap (c := 8) A10_len rfl) (by decide) (by decide) dX10_init_103 ?_
  refine q_dup C.1 dX10_init_106 rfl ?_
  refine q_callIN (z := (103, 1126)) C.1 lk_X10_55 (ct_X5 (k := 103) (len_ap (c := 8) A10_len rfl) (by decide)) (Nat.le_of_ble_eq_true rfl) rfl (rest := [Rf Y 103, .int 1, Rf Y 95]) rfl rfl (Nat.le_of_ble_eq_true rfl) dX10_init_107 (by decide) ?_
  refine G.cast (app3 (A10 Y) (.inl (Y.2.1.2.1, 4, .inr (.inr (.inr (.inr (va_up (fun _ => none) ((0 : Int32).toNatClampNeg) (some (bY Y + 100)))))))) (((([] ++ O_2 Y 96 40) ++ O_2 Y 98 6) ++ O_5 Y 100)) (O_5 Y 103)) ?_
  refine c_aast (P := (A10 Y)) (Q := (((([] ++ O_2 Y 96 40) ++ O_2 Y 98 6) ++ O_5 Y 100) ++ O_5 Y 103)) (kk := 95) (N := 4) (v := bY Y + 103) (f := va_up (fun _ => none) ((0 : Int32).toNatClampNeg) (some (bY Y + 100))) C A10_len 1 rfl (fun H locs h2 _ => any_obj C (k := 103) (ci := 5) (q := (RX5, TX5, 2)) (beh_at (j := 8) A10_len rfl) rfl h2) (i := 1) (inb_in (by decide)) (by decide) dX10_init_110 ?_
  refine q_iinc C.1 0 (v := 2) [(1, .int 2), (0, Rf Y 0)] dX10_init_111 rfl (by decide) rfl rfl ?_
  refine q_goto C.1 89 dX10_init_114 rfl ?_
  refine q_iload_n C.1 0 dX10_init_89 rfl ?_
  refine q_aload_n C.1 1 dX10_init_90 rfl ?_
  refine q_getS C.1 (ci := 10) (RC := RX10) (T := TX10) (N := 8) (fs := [Rf Y 1, Rf Y 44, Rf Y 87, Rf Y 92, Rf Y 95, Rf Y 96, Rf Y 98, .int 0]) (v := Rf Y 95) rfl in_X10 4 (by decide) (TB_of (List.mem_of_getElem? (i := 400) (by decide +kernel)) rfl) rfl (fun H h => h.2 0 _ (A10_0 _)) rfl dX10_init_91 ?_
  refine q_alen C.1 (x := (4, .inr (.inr (.inr (.inr (va_up (va_up (fun _ => none) ((0 : Int32).toNatClampNeg) (some (bY Y + 100))) ((1 : Int32).toNatClampNeg) (some (bY Y + 103)))))))) (fun H h => h.2 95 _ (mid_at A10_len)) 1 rfl (v := 4) rfl dX10_init_94 ?_
  refine q_ge_no C 117 (by decide) dX10_init_95 rfl ?_
  refine q_aload_n C.1 1 dX10_init_98 rfl ?_
  refine q_getS C.1 (ci := 10) (RC := RX10) (T := TX10) (N := 8) (fs := [Rf Y 1, Rf Y 44, Rf Y 87, Rf Y 92, Rf Y 95, Rf Y 96, Rf Y 98, .int 0]) (v := Rf Y 95) rfl in_X10 4 (by decide) (TB_of (List.mem_of_getElem? (i := 400) (by decide +kernel)) rfl) rfl (fun H h => h.2 0 _ (A10_0 _)) rfl dX10_init_99 ?_
  refine q_iload_n C.1 0 dX10_init_102 rfl ?_
  refine c_new (z := (105, 1168)) C (ci := 5) (RC := RX5) (T := TX5) (N := 2) (fs := [.int 0, .null]) rfl in_X5 tyX5 tyX5_ok (TB_of (List.mem_of_getElem? (i := 364) (by decide +kernel)) rfl) (TB_of (List.mem_of_getElem? (i := 368) (by decide +kernel)) rfl) (TB_of (List.mem_of_getElem? (i := 80) (by decide +kernel)) rfl) dflt_5 (n := 106) (len_ap (c := 11) A10_len rfl) (by decide) (by decide) dX10_init_103 ?_
  refine q_dup C.1 dX10_init_106 rfl ?_
  refine q_callIN (z := (106, 1170)) C.1 lk_X10_55 (ct_X5 (k := 106) (len_ap (c := 11) A10_len rfl) (by decide)) (Nat.le_of_ble_eq_true rfl) rfl (rest := [Rf Y 106, .int 2, Rf Y 95]) rfl rfl (Nat.le_of_ble_eq_true rfl) dX10_init_107 (by decide) ?_
  refine G.cast (app3 (A10 Y) (.inl (Y.2.1.2.1, 4, .inr (.inr (.inr (.inr (va_up (va_up (fun _ => none) ((0 : Int32).toNatClampNeg) (some (bY Y + 100))) ((1 : Int32).toNatClampNeg) (some (bY Y + 103)))))))) ((((([] ++ O_2 Y 96 40) ++ O_2 Y 98 6) ++ O_5 Y 100) ++ O_5 Y 103)) (O_5 Y 106)) ?_
  refine c_aast (P := (A10 Y)) (Q := ((((([] ++ O_2 Y 96 40) ++ O_2 Y 98 6) ++ O_5 Y 100) ++ O_5 Y 103) ++ O_5 Y 106)) (kk := 95) (N := 4) (v := bY Y + 106) (f := va_up (va_up (fun _ => none) ((0 : Int32).toNatClampNeg) (some (bY Y + 100))) ((1 : Int32).toNatClampNeg) (some (bY Y + 103))) C A10_len 1 rfl (fun H locs h2 _ => any_obj C (k := 106) (ci := 5) (q := (RX5, TX5, 2)) (beh_at (j := 11) A10_len rfl) rfl h2) (i := 2) (inb_in (by decide)) (by decide) dX10_init_110 ?_
  refine q_iinc C.1 0 (v := 3) [(1, .int 3), (0, Rf Y 0)] dX10_init_111 rfl (by decide) rfl rfl ?_
  refine q_goto C.1 89 dX10_init_114 rfl ?_
  refine q_iload_n C.1 0 dX10_init_89 rfl ?_
  refine q_aload_n C.1 1 dX10_init_90 rfl ?_
  refine q_getS C.1 (ci := 10) (RC := RX10) (T := TX10) (N := 8) (fs := [Rf Y 1, Rf Y 44, Rf Y 87, Rf Y 92, Rf Y 95, Rf Y 96, Rf Y 98, .int 0]) (v := Rf Y 95) rfl in_X10 4 (by decide) (TB_of (List.mem_of_getElem? (i := 400) (by decide +kernel)) rfl) rfl (fun H h => h.2 0 _ (A10_0 _)) rfl dX10_init_91 ?_
  refine q_alen C.1 (x := (4, .inr (.inr (.inr (.inr (va_up (va_up (va_up (fun _ => none) ((0 : Int32).toNatClampNeg) (some (bY Y + 100))) ((1 : Int32).toNatClampNeg) (some (bY Y + 103))) ((2 : Int32).toNatClampNeg) (some (bY Y + 106)))))))) (fun H h => h.2 95 _ (mid_at A10_len)) 1 rfl (v := 4) rfl dX10_init_94 ?_
  refine q_ge_no C 117 (by decide) dX10_init_95 rfl ?_
  refine q_aload_n C.1 1 dX10_init_98 rfl ?_
  refine q_getS C.1 (ci := 10) (RC := RX10) (T := TX10) (N := 8) (fs := [Rf Y 1, Rf Y 44, Rf Y 87, Rf Y 92, Rf Y 95, Rf Y 96, Rf Y 98, .int 0]) (v := Rf Y 95) rfl in_X10 4 (by decide) (TB_of (List.mem_of_getElem? (i := 400) (by decide +kernel)) rfl) rfl (fun H h => h.2 0 _ (A10_0 _)) rfl dX10_init_99 ?_
  refine q_iload_n C.1 0 dX10_init_102 rfl ?_
  refine c_new (z := (108, 1212)) C (ci := 5) (RC := RX5) (T := TX5) (N := 2) (fs := [.int 0, .null]) rfl in_X5 tyX5 tyX5_ok (TB_of (List.mem_of_getElem? (i := 364) (by decide +kernel)) rfl) (TB_of (List.mem_of_getElem? (i := 368) (by decide +kernel)) rfl) (TB_of (List.mem_of_getElem? (i := 80) (by decide +kernel)) rfl) dflt_5 (n := 109) (len_ap (c := 14) A10_len rfl) (by decide) (by decide) dX10_init_103 ?_
  refine q_dup C.1 dX10_init_106 rfl ?_
  refine q_callIN (z := (109, 1214)) C.1 lk_X10_55 (ct_X5 (k := 109) (len_ap (c := 14) A10_len rfl) (by decide)) (Nat.le_of_ble_eq_true rfl) rfl (rest := [Rf Y 109, .int 3, Rf Y 95]) rfl rfl (Nat.le_of_ble_eq_true rfl) dX10_init_107 (by decide) ?_
  refine G.cast (app3 (A10 Y) (.inl (Y.2.1.2.1, 4, .inr (.inr (.inr (.inr (va_up (va_up (va_up (fun _ => none) ((0 : Int32).toNatClampNeg) (some (bY Y + 100))) ((1 : Int32).toNatClampNeg) (some (bY Y + 103))) ((2 : Int32).toNatClampNeg) (some (bY Y + 106)))))))) (((((([] ++ O_2 Y 96 40) ++ O_2 Y 98 6) ++ O_5 Y 100) ++ O_5 Y 103) ++ O_5 Y 106)) (O_5 Y 109)) ?_
  refine c_aast (P := (A10 Y)) (Q := (((((([] ++ O_2 Y 96 40) ++ O_2 Y 98 6) ++ O_5 Y 100) ++ O_5 Y 103) ++ O_5 Y 106) ++ O_5 Y 109)) (kk := 95) (N := 4) (v := bY Y + 109) (f := va_up (va_up (va_up (fun _ => none) ((0 : Int32).toNatClampNeg) (some (bY Y + 100))) ((1 : Int32).toNatClampNeg) (some (bY Y + 103))) ((2 : Int32).toNatClampNeg) (some (bY Y + 106))) C A10_len 1 rfl (fun H locs h2 _ => any_obj C (k := 109) (ci := 5) (q := (RX5, TX5, 2)) (beh_at (j := 14) A10_len rfl) rfl h2) (i := 3) (inb_in (by decide)) (by decide) dX10_init_110 ?_
  refine q_iinc C.1 0 (v := 4) [(1, .int 4), (0, Rf Y 0)] dX10_init_111 rfl (by decide) rfl rfl ?_
  refine q_goto C.1 89 dX10_init_114 rfl ?_
  refine q_iload_n C.1 0 dX10_init_89 rfl ?_
  refine q_aload_n C.1 1 dX10_init_90 rfl ?_
  refine q_getS C.1 (ci := 10) (RC := RX10) (T := TX10) (N := 8) (fs := [Rf Y 1, Rf Y 44, Rf Y 87, Rf Y 92, Rf Y 95, Rf Y 96, Rf Y 98, .int 0]) (v := Rf Y 95) rfl in_X10 4 (by decide) (TB_of (List.mem_of_getElem? (i := 400) (by decide +kernel)) rfl) rfl (fun H h => h.2 0 _ (A10_0 _)) rfl dX10_init_91 ?_
  refine q_alen C.1 (x := (4, .inr (.inr (.inr (.inr (va_up (va_up (va_up (va_up (fun _ => none) ((0 : Int32).toNatClampNeg) (some (bY Y + 100))) ((1 : Int32).toNatClampNeg) (some (bY Y + 103))) ((2 : Int32).toNatClampNeg) (some (bY Y + 106))) ((3 : Int32).toNatClampNeg) (some (bY Y + 109)))))))) (fun H h => h.2 95 _ (mid_at A10_len)) 1 rfl (v := 4) rfl dX10_init_94 ?_
  refine q_ge_yes C 117 (by decide) dX10_init_95 rfl ?_
  refine q_aload_n C.1 1 dX10_init_117 rfl ?_
  refine q_getS C.1 (ci := 10) (RC := RX10) (T := TX10) (N := 8) (fs := [Rf Y 1, Rf Y 44, Rf Y 87, Rf Y 92, Rf Y 95, Rf Y 96, Rf Y 98, .int 0]) (v := Rf Y 98) rfl in_X10 6 (by decide) (TB_of (List.mem_of_getElem? (i := 402) (by decide +kernel)) rfl) rfl (fun H h => h.2 0 _ (A10_0 _)) rfl dX10_init_118 ?_
  refine q_bipush C.1 (v := 6) dX10_init_121 (by decide) ?_
  refine G.imp C.1 (fun H h => full10 h) ?_
  refine q_callV (z := (111, 1256)) C.1 lk_X10_56 (w_X2_zeros (Y := Y) 98 6 skC_98 st0C _ zeros0) (Nat.le_of_ble_eq_true rfl) rfl (rcv_of C.1 skC_98 (ltC skC_98 rfl) recv_2) (rest := []) rfl rfl (Nat.le_of_ble_eq_true rfl) dX10_init_123 (by decide) ?_
  refine G.bound ?_
  refine G.imp C.1 (hp' := fun H => RepS FC Y st1C H ∧ H.size = bY Y + 112) (fun H h => ⟨h.1, made10 (hp' := True) hh h.1 h.2⟩) ?_
  exact q_vret C.1 rfl dX10_init_126
set_option maxHeartbeats 2000000 in
theorem ct_X10 {Y : YT} : Ct FC Y yX10_init cX10_init 2 none 4 111 1256 [Rf Y 0] (RepL Y [.inr (10, [.null, .null, .null, .null, .null, .null, .null, .int 0])]) none (fun H => RepS FC Y st1C H ∧ H.size = bY Y + 112) := by
  refine Ct.ofGj (em := fun _ : Unit => (none, fun H => RepS FC Y st1C H ∧ H.size = bY Y + 112)) (o := some ()) (by decide) rfl (Nat.le_of_ble_eq_true rfl) (fun X C0 hh => ?_) () rfl
  have C : CxI FC Y X cX10_init 2 RX10 4 (111, 1256) := C0
  show G FC Y X 2 (fun _ : Unit => (none, fun H => RepS FC Y st1C H ∧ H.size = bY Y + 112)) (111, 1256) (0, 0) 0 [(0, Rf Y 0)] [] (RepL Y (([] : List va_E) ++ (.inr (10, [.null, .null, .null, .null, .null, .null, .null, .int 0])) :: [])) (some ())
  refine q_aload_n C.1 0 dX10_init_0 rfl ?_
  refine c_obj C (TB_of (List.mem_of_getElem? (i := 93) (by decide +kernel)) rfl) (TB_of (List.mem_of_getElem? (i := 94) (by decide +kernel)) rfl) (TB_of (List.mem_of_getElem? (i := 95) (by decide +kernel)) rfl) (Nat.le_of_ble_eq_true rfl) (Nat.le_of_ble_eq_true rfl) dX10_init_1 ?_
  refine q_aload_n C.1 0 dX10_init_4 rfl ?_
  refine c_new (z := (0, 0)) C (ci := 7) (RC := RX7) (T := TX7) (N := 14) (fs := [.int 0, .int 0, .int 0, .int 0, .null, .null, .null, .null, .null, .null, .null, .null, .null, .int 0]) rfl in_X7 tyX7 tyX7_ok (TB_of (List.mem_of_getElem? (i := 96) (by decide +kernel)) rfl) (TB_of (List.mem_of_getElem? (i := 97) (by decide +kernel)) rfl) (TB_of (List.mem_of_getElem? (i := 70) (by decide +kernel)) rfl) dflt_7 (n := 1) (by simp only [List.length_append, List.length_cons, List.length_nil, lenO_1, lenO_2, lenO_5, lenO_7, lenO_8]) (by decide) (by decide) dX10_init_5 ?_
  refine q_dup C.1 dX10_init_8 rfl ?_
  refine q_callIN (z := (1, 14)) C.1 lk_X10_9 (ct_X7 (k := 1) (by simp only [List.length_append, List.length_cons, List.length_nil, lenO_1, lenO_2, lenO_5, lenO_7, lenO_8]) (by decide)) (Nat.le_of_ble_eq_true rfl) rfl (rest := [Rf Y 1, Rf Y 0]) rfl rfl (Nat.le_of_ble_eq_true rfl) dX10_init_9 (by decide) ?_
  refine G.cast (app3 [] (.inr (10, [.null, .null, .null, .null, .null, .null, .null, .int 0])) ([]) (O_7 Y 1)) ?_
  refine c_put (P := []) (Q := ([] ++ O_7 Y 1)) (fs := [.null, .null, .null, .null, .null, .null, .null, .int 0]) (v := Rf Y 1) (ty := .object "WellTold$Village") C rfl (ci := 10) (T := TX10) (N := 8) rfl in_X10 tyX10 tyX10_ok nmX10 0 (by decide) (TB_of (List.mem_of_getElem? (i := 396) (by decide +kernel)) rfl) rfl (by decide +kernel) rfl rfl (Nat.le_of_ble_eq_true rfl) (by decide) dX10_init_12 ?_
  show G FC Y X 2 _ _ _ _ _ _ (RepL Y (([] : List va_E) ++ (.inr (10, [Rf Y 1, .null, .null, .null, .null, .null, .null, .int 0])) :: ([] ++ O_7 Y 1))) _
  refine q_aload_n C.1 0 dX10_init_15 rfl ?_
  refine c_new (z := (43, 436)) C (ci := 7) (RC := RX7) (T := TX7) (N := 14) (fs := [.int 0, .int 0, .int 0, .int 0, .null, .null, .null, .null, .null, .null, .null, .null, .null, .int 0]) rfl in_X7 tyX7 tyX7_ok (TB_of (List.mem_of_getElem? (i := 96) (by decide +kernel)) rfl) (TB_of (List.mem_of_getElem? (i := 97) (by decide +kernel)) rfl) (TB_of (List.mem_of_getElem? (i := 70) (by decide +kernel)) rfl) dflt_7 (n := 44) (by simp only [List.length_append, List.length_cons, List.length_nil, lenO_1, lenO_2, lenO_5, lenO_7, lenO_8]) (by decide) (by decide) dX10_init_16 ?_
  refine q_dup C.1 dX10_init_19 rfl ?_
  refine q_callIN (z := (44, 450)) C.1 lk_X10_9 (ct_X7 (k := 44) (by simp only [List.length_append, List.length_cons, List.length_nil, lenO_1, lenO_2, lenO_5, lenO_7, lenO_8]) (by decide)) (Nat.le_of_ble_eq_true rfl) rfl (rest := [Rf Y 44, Rf Y 0]) rfl rfl (Nat.le_of_ble_eq_true rfl) dX10_init_20 (by decide) ?_
  refine G.cast (app3 [] (.inr (10, [Rf Y 1, .null, .null, .null, .null, .null, .null, .int 0])) (([] ++ O_7 Y 1)) (O_7 Y 44)) ?_
  refine c_put (P := []) (Q := (([] ++ O_7 Y 1) ++ O_7 Y 44)) (fs := [Rf Y 1, .null, .null, .null, .null, .null, .null, .int 0]) (v := Rf Y 44) (ty := .object "WellTold$Village") C rfl (ci := 10) (T := TX10) (N := 8) rfl in_X10 tyX10 tyX10_ok nmX10 1 (by decide) (TB_of (List.mem_of_getElem? (i := 397) (by decide +kernel)) rfl) rfl (by decide +kernel) rfl rfl (Nat.le_of_ble_eq_true rfl) (by decide) dX10_init_23 ?_
  show G FC Y X 2 _ _ _ _ _ _ (RepL Y (([] : List va_E) ++ (.inr (10, [Rf Y 1, Rf Y 44, .null, .null, .null, .null, .null, .int 0])) :: (([] ++ O_7 Y 1) ++ O_7 Y 44))) _
  refine q_aload_n C.1 0 dX10_init_26 rfl ?_
  refine c_new (z := (86, 872)) C (ci := 1) (RC := RX1) (T := TX1) (N := 4) (fs := [.null, .null, .null, .int 0]) rfl in_X1 tyX1 tyX1_ok (TB_of (List.mem_of_getElem? (i := 318) (by decide +kernel)) rfl) (TB_of (List.mem_of_getElem? (i := 319) (by decide +kernel)) rfl) (TB_of (List.mem_of_getElem? (i := 78) (by decide +kernel)) rfl) dflt_1 (n := 87) (by simp only [List.length_append, List.length_cons, List.length_nil, lenO_1, lenO_2, lenO_5, lenO_7, lenO_8]) (by decide) (by decide) dX10_init_27 ?_
  refine q_dup C.1 dX10_init_30 rfl ?_
  refine q_callIN (z := (87, 876)) C.1 lk_X10_21 (ct_X1 (k := 87) (by simp only [List.length_append, List.length_cons, List.length_nil, lenO_1, lenO_2, lenO_5, lenO_7, lenO_8]) (by decide)) (Nat.le_of_ble_eq_true rfl) rfl (rest := [Rf Y 87, Rf Y 0]) rfl rfl (Nat.le_of_ble_eq_true rfl) dX10_init_31 (by decide) ?_
  refine G.cast (app3 [] (.inr (10, [Rf Y 1, Rf Y 44, .null, .null, .null, .null, .null, .int 0])) ((([] ++ O_7 Y 1) ++ O_7 Y 44)) (O_1 Y 87)) ?_
  refine c_put (P := []) (Q := ((([] ++ O_7 Y 1) ++ O_7 Y 44) ++ O_1 Y 87)) (fs := [Rf Y 1, Rf Y 44, .null, .null, .null, .null, .null, .int 0]) (v := Rf Y 87) (ty := .object "WellTold$Reader") C rfl (ci := 10) (T := TX10) (N := 8) rfl in_X10 tyX10 tyX10_ok nmX10 2 (by decide) (TB_of (List.mem_of_getElem? (i := 398) (by decide +kernel)) rfl) rfl (by decide +kernel) rfl rfl (Nat.le_of_ble_eq_true rfl) (by decide) dX10_init_34 ?_
  show G FC Y X 2 _ _ _ _ _ _ (RepL Y (([] : List va_E) ++ (.inr (10, [Rf Y 1, Rf Y 44, Rf Y 87, .null, .null, .null, .null, .int 0])) :: ((([] ++ O_7 Y 1) ++ O_7 Y 44) ++ O_1 Y 87))) _
  refine q_aload_n C.1 0 dX10_init_37 rfl ?_
  refine c_new (z := (91, 980)) C (ci := 8) (RC := RX8) (T := TX8) (N := 4) (fs := [.null, .int 0, .int 0, .int 0]) rfl in_X8 tyX8 tyX8_ok (TB_of (List.mem_of_getElem? (i := 342) (by decide +kernel)) rfl) (TB_of (List.mem_of_getElem? (i := 343) (by decide +kernel)) rfl) (TB_of (List.mem_of_getElem? (i := 79) (by decide +kernel)) rfl) dflt_8 (n := 92) (by simp only [List.length_append, List.length_cons, List.length_nil, lenO_1, lenO_2, lenO_5, lenO_7, lenO_8]) (by decide) (by decide) dX10_init_38 ?_
  refine q_dup C.1 dX10_init_41 rfl ?_
  refine q_callIN (z := (92, 984)) C.1 lk_X10_28 (ct_X8 (k := 92) (by simp only [List.length_append, List.length_cons, List.length_nil, lenO_1, lenO_2, lenO_5, lenO_7, lenO_8]) (by decide)) (Nat.le_of_ble_eq_true rfl) rfl (rest := [Rf Y 92, Rf Y 0]) rfl rfl (Nat.le_of_ble_eq_true rfl) dX10_init_42 (by decide) ?_
  refine G.cast (app3 [] (.inr (10, [Rf Y 1, Rf Y 44, Rf Y 87, .null, .null, .null, .null, .int 0])) (((([] ++ O_7 Y 1) ++ O_7 Y 44) ++ O_1 Y 87)) (O_8 Y 92)) ?_
  refine c_put (P := []) (Q := (((([] ++ O_7 Y 1) ++ O_7 Y 44) ++ O_1 Y 87) ++ O_8 Y 92)) (fs := [Rf Y 1, Rf Y 44, Rf Y 87, .null, .null, .null, .null, .int 0]) (v := Rf Y 92) (ty := .object "WellTold$Voices") C rfl (ci := 10) (T := TX10) (N := 8) rfl in_X10 tyX10 tyX10_ok nmX10 3 (by decide) (TB_of (List.mem_of_getElem? (i := 399) (by decide +kernel)) rfl) rfl (by decide +kernel) rfl rfl (Nat.le_of_ble_eq_true rfl) (by decide) dX10_init_45 ?_
  show G FC Y X 2 _ _ _ _ _ _ (RepL Y (([] : List va_E) ++ (.inr (10, [Rf Y 1, Rf Y 44, Rf Y 87, Rf Y 92, .null, .null, .null, .int 0])) :: (((([] ++ O_7 Y 1) ++ O_7 Y 44) ++ O_1 Y 87) ++ O_8 Y 92))) _
  refine q_aload_n C.1 0 dX10_init_48 rfl ?_
  refine q_iconst C.1 (v := 4) dX10_init_49 (by decide) ?_
  refine c_anew (z := (94, 1026)) C (a0 := 4) (N := 4) (n := 95) 1 rfl (by decide) (by decide) (by decide) (by simp only [List.length_append, List.length_cons, List.length_nil, lenO_1, lenO_2, lenO_5, lenO_7, lenO_8]) (by decide) (TB_of (List.mem_of_getElem? (i := 364) (by decide +kernel)) rfl) C.1.2.2.2.2.2.1.2.2.2.2.2.2.2.1 dX10_init_50 ?_
  refine G.cast (app3 [] (.inr (10, [Rf Y 1, Rf Y 44, Rf Y 87, Rf Y 92, .null, .null, .null, .int 0])) ((((([] ++ O_7 Y 1) ++ O_7 Y 44) ++ O_1 Y 87) ++ O_8 Y 92)) ([.inl (Y.2.1.2.1, 4, .inr (.inr (.inr (.inr (fun _ => none)))))])) ?_
  refine c_put (P := []) (Q := ((((([] ++ O_7 Y 1) ++ O_7 Y 44) ++ O_1 Y 87) ++ O_8 Y 92) ++ [.inl (Y.2.1.2.1, 4, .inr (.inr (.inr (.inr (fun _ => none)))))])) (fs := [Rf Y 1, Rf Y 44, Rf Y 87, Rf Y 92, .null, .null, .null, .int 0]) (v := Rf Y 95) (ty := .array (.object "WellTold$Sheet")) C rfl (ci := 10) (T := TX10) (N := 8) rfl in_X10 tyX10 tyX10_ok nmX10 4 (by decide) (TB_of (List.mem_of_getElem? (i := 400) (by decide +kernel)) rfl) rfl (by decide +kernel) rfl rfl (Nat.le_of_ble_eq_true rfl) (by decide) dX10_init_53 ?_
  show G FC Y X 2 _ _ _ _ _ _ (RepL Y (([] : List va_E) ++ (.inr (10, [Rf Y 1, Rf Y 44, Rf Y 87, Rf Y 92, Rf Y 95, .null, .null, .int 0])) :: ((((([] ++ O_7 Y 1) ++ O_7 Y 44) ++ O_1 Y 87) ++ O_8 Y 92) ++ [.inl (Y.2.1.2.1, 4, .inr (.inr (.inr (.inr (fun _ => none)))))]))) _
  refine q_aload_n C.1 0 dX10_init_56 rfl ?_
  refine c_new (z := (95, 1030)) C (ci := 2) (RC := RX2) (T := TX2) (N := 2) (fs := [.null, .int 0]) rfl in_X2 tyX2 tyX2_ok (TB_of (List.mem_of_getElem? (i := 366) (by decide +kernel)) rfl) (TB_of (List.mem_of_getElem? (i := 109) (by decide +kernel)) rfl) (TB_of (List.mem_of_getElem? (i := 72) (by decide +kernel)) rfl) dflt_2 (n := 96) (by simp only [List.length_append, List.length_cons, List.length_nil, lenO_1, lenO_2, lenO_5, lenO_7, lenO_8]) (by decide) (by decide) dX10_init_57 ?_
  refine q_dup C.1 dX10_init_60 rfl ?_
  refine q_bipush C.1 (v := 40) dX10_init_61 (by decide) ?_
  refine q_callI (z := (96, 1032)) C.1 lk_X10_41 (ct_X2 (k := 96) (a := 40) (m := 40) (by simp only [List.length_append, List.length_cons, List.length_nil, lenO_1, lenO_2, lenO_5, lenO_7, lenO_8]) (by decide) (by decide) (by decide)) (Nat.le_of_ble_eq_true rfl) rfl (rest := [Rf Y 96, Rf Y 0]) rfl rfl (Nat.le_of_ble_eq_true rfl) dX10_init_63 (by decide) ?_
  refine G.cast (app3 [] (.inr (10, [Rf Y 1, Rf Y 44, Rf Y 87, Rf Y 92, Rf Y 95, .null, .null, .int 0])) (((((([] ++ O_7 Y 1) ++ O_7 Y 44) ++ O_1 Y 87) ++ O_8 Y 92) ++ [.inl (Y.2.1.2.1, 4, .inr (.inr (.inr (.inr (fun _ => none)))))])) (O_2 Y 96 40)) ?_
  refine c_put (P := []) (Q := (((((([] ++ O_7 Y 1) ++ O_7 Y 44) ++ O_1 Y 87) ++ O_8 Y 92) ++ [.inl (Y.2.1.2.1, 4, .inr (.inr (.inr (.inr (fun _ => none)))))]) ++ O_2 Y 96 40)) (fs := [Rf Y 1, Rf Y 44, Rf Y 87, Rf Y 92, Rf Y 95, .null, .null, .int 0]) (v := Rf Y 96) (ty := .object "WellTold$Row") C rfl (ci := 10) (T := TX10) (N := 8) rfl in_X10 tyX10 tyX10_ok nmX10 5 (by decide) (TB_of (List.mem_of_getElem? (i := 401) (by decide +kernel)) rfl) rfl (by decide +kernel) rfl rfl (Nat.le_of_ble_eq_true rfl) (by decide) dX10_init_66 ?_
  show G FC Y X 2 _ _ _ _ _ _ (RepL Y (([] : List va_E) ++ (.inr (10, [Rf Y 1, Rf Y 44, Rf Y 87, Rf Y 92, Rf Y 95, Rf Y 96, .null, .int 0])) :: (((((([] ++ O_7 Y 1) ++ O_7 Y 44) ++ O_1 Y 87) ++ O_8 Y 92) ++ [.inl (Y.2.1.2.1, 4, .inr (.inr (.inr (.inr (fun _ => none)))))]) ++ O_2 Y 96 40))) _
  refine q_aload_n C.1 0 dX10_init_69 rfl ?_
  refine c_new (z := (97, 1072)) C (ci := 2) (RC := RX2) (T := TX2) (N := 2) (fs := [.null, .int 0]) rfl in_X2 tyX2 tyX2_ok (TB_of (List.mem_of_getElem? (i := 366) (by decide +kernel)) rfl) (TB_of (List.mem_of_getElem? (i := 109) (by decide +kernel)) rfl) (TB_of (List.mem_of_getElem? (i := 72) (by decide +kernel)) rfl) dflt_2 (n := 98) (by simp only [List.length_append, List.length_cons, List.length_nil, lenO_1, lenO_2, lenO_5, lenO_7, lenO_8]) (by decide) (by decide) dX10_init_70 ?_
  refine q_dup C.1 dX10_init_73 rfl ?_
  refine q_bipush C.1 (v := 6) dX10_init_74 (by decide) ?_
  refine q_callI (z := (98, 1074)) C.1 lk_X10_41 (ct_X2 (k := 98) (a := 6) (m := 6) (by simp only [List.length_append, List.length_cons, List.length_nil, lenO_1, lenO_2, lenO_5, lenO_7, lenO_8]) (by decide) (by decide) (by decide)) (Nat.le_of_ble_eq_true rfl) rfl (rest := [Rf Y 98, Rf Y 0]) rfl rfl (Nat.le_of_ble_eq_true rfl) dX10_init_76 (by decide) ?_
  refine G.cast (app3 [] (.inr (10, [Rf Y 1, Rf Y 44, Rf Y 87, Rf Y 92, Rf Y 95, Rf Y 96, .null, .int 0])) ((((((([] ++ O_7 Y 1) ++ O_7 Y 44) ++ O_1 Y 87) ++ O_8 Y 92) ++ [.inl (Y.2.1.2.1, 4, .inr (.inr (.inr (.inr (fun _ => none)))))]) ++ O_2 Y 96 40)) (O_2 Y 98 6)) ?_
  refine c_put (P := []) (Q := ((((((([] ++ O_7 Y 1) ++ O_7 Y 44) ++ O_1 Y 87) ++ O_8 Y 92) ++ [.inl (Y.2.1.2.1, 4, .inr (.inr (.inr (.inr (fun _ => none)))))]) ++ O_2 Y 96 40) ++ O_2 Y 98 6)) (fs := [Rf Y 1, Rf Y 44, Rf Y 87, Rf Y 92, Rf Y 95, Rf Y 96, .null, .int 0]) (v := Rf Y 98) (ty := .object "WellTold$Row") C rfl (ci := 10) (T := TX10) (N := 8) rfl in_X10 tyX10 tyX10_ok nmX10 6 (by decide) (TB_of (List.mem_of_getElem? (i := 402) (by decide +kernel)) rfl) rfl (by decide +kernel) rfl rfl (Nat.le_of_ble_eq_true rfl) (by decide) dX10_init_79 ?_
  show G FC Y X 2 _ _ _ _ _ _ (RepL Y (([] : List va_E) ++ (.inr (10, [Rf Y 1, Rf Y 44, Rf Y 87, Rf Y 92, Rf Y 95, Rf Y 96, Rf Y 98, .int 0])) :: ((((((([] ++ O_7 Y 1) ++ O_7 Y 44) ++ O_1 Y 87) ++ O_8 Y 92) ++ [.inl (Y.2.1.2.1, 4, .inr (.inr (.inr (.inr (fun _ => none)))))]) ++ O_2 Y 96 40) ++ O_2 Y 98 6))) _
  refine q_aload_n C.1 0 dX10_init_82 rfl ?_
  refine q_iconst C.1 (v := 0) dX10_init_83 (by decide) ?_
  refine c_put (P := []) (Q := ((((((([] ++ O_7 Y 1) ++ O_7 Y 44) ++ O_1 Y 87) ++ O_8 Y 92) ++ [.inl (Y.2.1.2.1, 4, .inr (.inr (.inr (.inr (fun _ => none)))))]) ++ O_2 Y 96 40) ++ O_2 Y 98 6)) (fs := [Rf Y 1, Rf Y 44, Rf Y 87, Rf Y 92, Rf Y 95, Rf Y 96, Rf Y 98, .int 0]) (v := .int 0) (ty := .int) C rfl (ci := 10) (T := TX10) (N := 8) rfl in_X10 tyX10 tyX10_ok nmX10 7 (by decide) (TB_of (List.mem_of_getElem? (i := 403) (by decide +kernel)) rfl) rfl (by decide +kernel) rfl rfl (Nat.le_of_ble_eq_true rfl) (by decide) dX10_init_84 ?_
  show G FC Y X 2 _ _ _ _ _ _ (RepL Y (([] : List va_E) ++ (.inr (10, [Rf Y 1, Rf Y 44, Rf Y 87, Rf Y 92, Rf Y 95, Rf Y 96, Rf Y 98, .int 0])) :: ((((((([] ++ O_7 Y 1) ++ O_7 Y 44) ++ O_1 Y 87) ++ O_8 Y 92) ++ [.inl (Y.2.1.2.1, 4, .inr (.inr (.inr (.inr (fun _ => none)))))]) ++ O_2 Y 96 40) ++ O_2 Y 98 6))) _
  refine G.cast (show (([] : List va_E) ++ (.inr (10, [Rf Y 1, Rf Y 44, Rf Y 87, Rf Y 92, Rf Y 95, Rf Y 96, Rf Y 98, .int 0])) :: ((((((([] ++ O_7 Y 1) ++ O_7 Y 44) ++ O_1 Y 87) ++ O_8 Y 92) ++ [.inl (Y.2.1.2.1, 4, .inr (.inr (.inr (.inr (fun _ => none)))))]) ++ O_2 Y 96 40) ++ O_2 Y 98 6) : List va_E) = ((.inr (10, [Rf Y 1, Rf Y 44, Rf Y 87, Rf Y 92, Rf Y 95, Rf Y 96, Rf Y 98, .int 0])) :: (((([] ++ O_7 Y 1) ++ O_7 Y 44) ++ O_1 Y 87) ++ O_8 Y 92)) ++ (.inl (Y.2.1.2.1, 4, .inr (.inr (.inr (.inr (fun _ => none)))))) :: (([] ++ O_2 Y 96 40) ++ O_2 Y 98 6) by simp only [List.nil_append, List.cons_append, List.append_assoc, List.append_nil]) ?_
  exact half10 C hh
