def fin11 (Y : YT) : List va_E := ((.inr (11, [Rf Y 1, Rf Y 2, Rf Y 3, .int 0, Rf Y 4, Rf Y 5, .int 0, .int 0, .int 0, .int 0, Rf Y 6, .int 0, Rf Y 7, Rf Y 8, Rf Y 9, .int 0, .int 0, .int 0, .int 0, Rf Y 10, Rf Y 11, Rf Y 12, Rf Y 13])) :: []) ++ (.inl (Y.2.1.1, 273, .inl (upd (upd (fun _ => 0) ((6 : Int32).toNatClampNeg) 1) ((1 : Int32).toNatClampNeg) 4))) :: (((((((((((([] ++ [.inl (Y.2.1.1, 273, .inl (fun _ => 0))]) ++ [.inl (Y.2.1.1, 273, .inl (fun _ => 0))]) ++ [.inl (Y.2.1.1, 6, .inl (fun _ => 0))]) ++ [.inl (Y.2.1.2.2, 2, .inr (.inr (.inr (.inr (va_up (va_up (fun _ => none) ((0 : Int32).toNatClampNeg) (some (Y.2.2.1 1))) ((1 : Int32).toNatClampNeg) (some (Y.2.2.1 2)))))))]) ++ [.inl (Y.2.1.1, 60, .inl (fun _ => 0))]) ++ [.inl (Y.2.1.1, 4, .inl (fun _ => 0))]) ++ [.inl (Y.2.1.1, 60, .inl (fun _ => 0))]) ++ [.inl (Y.2.1.1, 40, .inl (fun _ => 0))]) ++ [.inl (Y.2.1.1, 4, .inl (fun _ => 0))]) ++ [.inl (Y.2.1.1, 4, .inl (fun _ => 0))]) ++ [.inl (Y.2.1.1, 160, .inl (fun _ => 0))]) ++ [.inl (Y.2.1.1, 40, .inl (fun _ => 0))])
def fl11 (Y : YT) : List va_E := [.inr (11, [Rf Y 1, Rf Y 2, Rf Y 3, .int 0, Rf Y 4, Rf Y 5, .int 0, .int 0, .int 0, .int 0, Rf Y 6, .int 0, Rf Y 7, Rf Y 8, Rf Y 9, .int 0, .int 0, .int 0, .int 0, Rf Y 10, Rf Y 11, Rf Y 12, Rf Y 13]), .inl (Y.2.1.1, 273, .inl (upd (upd (fun _ => 0) 6 1) 1 4)), .inl (Y.2.1.1, 273, .inl (fun _ => 0)), .inl (Y.2.1.1, 273, .inl (fun _ => 0)), .inl (Y.2.1.1, 6, .inl (fun _ => 0)), .inl (Y.2.1.2.2, 2, .inr (.inr (.inr (.inr (va_up (va_up (fun _ => none) 0 (some (Y.2.2.1 1))) 1 (some (Y.2.2.1 2))))))), .inl (Y.2.1.1, 60, .inl (fun _ => 0)), .inl (Y.2.1.1, 4, .inl (fun _ => 0)), .inl (Y.2.1.1, 60, .inl (fun _ => 0)), .inl (Y.2.1.1, 40, .inl (fun _ => 0)), .inl (Y.2.1.1, 4, .inl (fun _ => 0)), .inl (Y.2.1.1, 4, .inl (fun _ => 0)), .inl (Y.2.1.1, 160, .inl (fun _ => 0)), .inl (Y.2.1.1, 40, .inl (fun _ => 0))]
set_option maxRecDepth 100000 in
set_option maxHeartbeats 20000000 in
theorem fl11_eq (Y : YT) : fin11 Y = fl11 Y := rfl
theorem f11_0 {Y : YT} {H : Heap} (h : RepL Y (fl11 Y) H) : va_at Y.1 vwCl (bY Y + 0, entK Y 0 (shM 0) (st0M 0)) H := by
  have h1 : va_at Y.1 vwCl (bY Y + 0, (.inr (11, [Rf Y 1, Rf Y 2, Rf Y 3, .int 0, Rf Y 4, Rf Y 5, .int 0, .int 0, .int 0, .int 0, Rf Y 6, .int 0, Rf Y 7, Rf Y 8, Rf Y 9, .int 0, .int 0, .int 0, .int 0, Rf Y 10, Rf Y 11, Rf Y 12, Rf Y 13]) : va_E)) H := h.2 0 _ rfl
  rw [skM_0]
  exact h1
theorem f11_1 {Y : YT} {H : Heap} (h : RepL Y (fl11 Y) H) : va_at Y.1 vwCl (bY Y + 1, entK Y 1 (shM 1) (st0M 1)) H := by
  have h1 : va_at Y.1 vwCl (bY Y + 1, (.inl (Y.2.1.1, 273, .inl (upd (upd (fun _ => 0) 6 1) 1 4)) : va_E)) H := h.2 1 _ rfl
  rw [skM_1]
  exact h1
theorem f11_2 {Y : YT} {H : Heap} (h : RepL Y (fl11 Y) H) : va_at Y.1 vwCl (bY Y + 2, entK Y 2 (shM 2) (st0M 2)) H := by
  have h1 : va_at Y.1 vwCl (bY Y + 2, (.inl (Y.2.1.1, 273, .inl (fun _ => 0)) : va_E)) H := h.2 2 _ rfl
  rw [skM_2]
  exact h1
theorem f11_3 {Y : YT} {H : Heap} (h : RepL Y (fl11 Y) H) : va_at Y.1 vwCl (bY Y + 3, entK Y 3 (shM 3) (st0M 3)) H := by
  have h1 : va_at Y.1 vwCl (bY Y + 3, (.inl (Y.2.1.1, 273, .inl (fun _ => 0)) : va_E)) H := h.2 3 _ rfl
  rw [skM_3]
  exact h1
theorem f11_4 {Y : YT} {H : Heap} (h : RepL Y (fl11 Y) H) : va_at Y.1 vwCl (bY Y + 4, entK Y 4 (shM 4) (st0M 4)) H := by
  have h1 : va_at Y.1 vwCl (bY Y + 4, (.inl (Y.2.1.1, 6, .inl (fun _ => 0)) : va_E)) H := h.2 4 _ rfl
  rw [skM_4]
  exact h1
theorem f11_6 {Y : YT} {H : Heap} (h : RepL Y (fl11 Y) H) : va_at Y.1 vwCl (bY Y + 6, entK Y 6 (shM 6) (st0M 6)) H := by
  have h1 : va_at Y.1 vwCl (bY Y + 6, (.inl (Y.2.1.1, 60, .inl (fun _ => 0)) : va_E)) H := h.2 6 _ rfl
  rw [skM_6]
  exact h1
theorem f11_7 {Y : YT} {H : Heap} (h : RepL Y (fl11 Y) H) : va_at Y.1 vwCl (bY Y + 7, entK Y 7 (shM 7) (st0M 7)) H := by
  have h1 : va_at Y.1 vwCl (bY Y + 7, (.inl (Y.2.1.1, 4, .inl (fun _ => 0)) : va_E)) H := h.2 7 _ rfl
  rw [skM_7]
  exact h1
theorem f11_8 {Y : YT} {H : Heap} (h : RepL Y (fl11 Y) H) : va_at Y.1 vwCl (bY Y + 8, entK Y 8 (shM 8) (st0M 8)) H := by
  have h1 : va_at Y.1 vwCl (bY Y + 8, (.inl (Y.2.1.1, 60, .inl (fun _ => 0)) : va_E)) H := h.2 8 _ rfl
  rw [skM_8]
  exact h1
theorem f11_9 {Y : YT} {H : Heap} (h : RepL Y (fl11 Y) H) : va_at Y.1 vwCl (bY Y + 9, entK Y 9 (shM 9) (st0M 9)) H := by
  have h1 : va_at Y.1 vwCl (bY Y + 9, (.inl (Y.2.1.1, 40, .inl (fun _ => 0)) : va_E)) H := h.2 9 _ rfl
  rw [skM_9]
  exact h1
theorem f11_10 {Y : YT} {H : Heap} (h : RepL Y (fl11 Y) H) : va_at Y.1 vwCl (bY Y + 10, entK Y 10 (shM 10) (st0M 10)) H := by
  have h1 : va_at Y.1 vwCl (bY Y + 10, (.inl (Y.2.1.1, 4, .inl (fun _ => 0)) : va_E)) H := h.2 10 _ rfl
  rw [skM_10]
  exact h1
theorem f11_11 {Y : YT} {H : Heap} (h : RepL Y (fl11 Y) H) : va_at Y.1 vwCl (bY Y + 11, entK Y 11 (shM 11) (st0M 11)) H := by
  have h1 : va_at Y.1 vwCl (bY Y + 11, (.inl (Y.2.1.1, 4, .inl (fun _ => 0)) : va_E)) H := h.2 11 _ rfl
  rw [skM_11]
  exact h1
theorem f11_12 {Y : YT} {H : Heap} (h : RepL Y (fl11 Y) H) : va_at Y.1 vwCl (bY Y + 12, entK Y 12 (shM 12) (st0M 12)) H := by
  have h1 : va_at Y.1 vwCl (bY Y + 12, (.inl (Y.2.1.1, 160, .inl (fun _ => 0)) : va_E)) H := h.2 12 _ rfl
  rw [skM_12]
  exact h1
theorem f11_13 {Y : YT} {H : Heap} (h : RepL Y (fl11 Y) H) : va_at Y.1 vwCl (bY Y + 13, entK Y 13 (shM 13) (st0M 13)) H := by
  have h1 : va_at Y.1 vwCl (bY Y + 13, (.inl (Y.2.1.1, 40, .inl (fun _ => 0)) : va_E)) H := h.2 13 _ rfl
  rw [skM_13]
  exact h1
theorem full11 {Y : YT} {H : Heap} (h0 : RepL Y (fin11 Y) H) : RepS FM Y st0M H := by
  have h : RepL Y (fl11 Y) H := fl11_eq Y ▸ h0
  have a0 : ∀ a, a < 0 → va_at Y.1 vwCl (bY Y + a, entK Y a (shM a) (st0M a)) H := lt_0
  have a1 := lt_s a0 (f11_0 h)
  have a2 := lt_s a1 (f11_1 h)
  have a3 := lt_s a2 (f11_2 h)
  have a4 := lt_s a3 (f11_3 h)
  have a5 := lt_s a4 (f11_4 h)
  have a6 := lt_s a5 (by
    show va_at Y.1 vwCl (bY Y + 5, .inl (Y.2.1.2.2, 2, .inr (.inr (.inr (.inr (fun i => some (Y.2.2.1 (i + 1)))))))) H
    refine (h.2 5 _ rfl).trans (congrArg some ?_)
    rw [vp_cell_q, vp_cell_q]
    exact arrV_congr _ (fun i hi => by
      have : i = 0 ∨ i = 1 := by omega
      rcases this with h | h <;> subst h <;> rfl))
  have a7 := lt_s a6 (f11_6 h)
  have a8 := lt_s a7 (f11_7 h)
  have a9 := lt_s a8 (f11_8 h)
  have a10 := lt_s a9 (f11_9 h)
  have a11 := lt_s a10 (f11_10 h)
  have a12 := lt_s a11 (f11_11 h)
  have a13 := lt_s a12 (f11_12 h)
  have a14 := lt_s a13 (f11_13 h)
  exact a14
set_option maxHeartbeats 1000000 in
theorem st11_102 {Y : YT} {X : XT} (C : CxI FM Y X cX11_init 1 RX11 1 (13, 1199)) {em : Unit → Option Value × (Heap → Prop)} {Q : List va_E} (hQ : Q.length = 11) (k : G FM Y X 1 em (13, 1199) (12, 1159) 111 [(0, Rf Y 0)] [] (RepL Y (([] : List va_E) ++ (.inr (11, [Rf Y 1, Rf Y 2, Rf Y 3, .int 0, Rf Y 4, Rf Y 5, .int 0, .int 0, .int 0, .int 0, Rf Y 6, .int 0, Rf Y 7, Rf Y 8, Rf Y 9, .int 0, .int 0, .int 0, .int 0, Rf Y 10, Rf Y 11, Rf Y 12, .null])) :: (Q ++ [.inl (Y.2.1.1, 160, .inl (fun _ => 0))]))) (some ())) : G FM Y X 1 em (13, 1199) (11, 999) 102 [(0, Rf Y 0)] [] (RepL Y (([] : List va_E) ++ (.inr (11, [Rf Y 1, Rf Y 2, Rf Y 3, .int 0, Rf Y 4, Rf Y 5, .int 0, .int 0, .int 0, .int 0, Rf Y 6, .int 0, Rf Y 7, Rf Y 8, Rf Y 9, .int 0, .int 0, .int 0, .int 0, Rf Y 10, Rf Y 11, .null, .null])) :: Q)) (some ()) := by
  refine q_aload_n C.1 0 dX11_init_102 rfl ?_
  refine q_sipush C.1 (v := 160) dX11_init_103 (by decide) ?_
  refine c_newa (z := (11, 999)) C (a0 := 160) (N := 160) (n := 12) (by decide) (by decide) (by decide) (by simp only [List.nil_append, List.length_cons, hQ]) (by decide) (TB_of (List.mem_of_getElem? (i := 124) (by decide +kernel)) rfl) dX11_init_106 ?_
  refine G.cast (app3 [] (.inr (11, [Rf Y 1, Rf Y 2, Rf Y 3, .int 0, Rf Y 4, Rf Y 5, .int 0, .int 0, .int 0, .int 0, Rf Y 6, .int 0, Rf Y 7, Rf Y 8, Rf Y 9, .int 0, .int 0, .int 0, .int 0, Rf Y 10, Rf Y 11, .null, .null])) Q ([.inl (Y.2.1.1, 160, .inl (fun _ => 0))])) ?_
  refine c_put (P := []) (Q := Q ++ [.inl (Y.2.1.1, 160, .inl (fun _ => 0))]) (fs := [Rf Y 1, Rf Y 2, Rf Y 3, .int 0, Rf Y 4, Rf Y 5, .int 0, .int 0, .int 0, .int 0, Rf Y 6, .int 0, Rf Y 7, Rf Y 8, Rf Y 9, .int 0, .int 0, .int 0, .int 0, Rf Y 10, Rf Y 11, .null, .null]) (v := Rf Y 12) (ty := .array .int) C rfl (ci := 11) (T := TX11) (N := 23) rfl in_X11 tyX11 tyX11_ok nmX11 21 (by decide) (TB_of (List.mem_of_getElem? (i := 1063) (by decide +kernel)) rfl) rfl (by decide +kernel) rfl rfl (Nat.le_of_ble_eq_true rfl) (by decide) dX11_init_108 ?_
  exact k
set_option maxHeartbeats 1000000 in
theorem st11_111 {Y : YT} {X : XT} (C : CxI FM Y X cX11_init 1 RX11 1 (13, 1199)) {em : Unit → Option Value × (Heap → Prop)} {Q : List va_E} (hQ : Q.length = 12) (k : G FM Y X 1 em (13, 1199) (13, 1199) 119 [(0, Rf Y 0)] [] (RepL Y (([] : List va_E) ++ (.inr (11, [Rf Y 1, Rf Y 2, Rf Y 3, .int 0, Rf Y 4, Rf Y 5, .int 0, .int 0, .int 0, .int 0, Rf Y 6, .int 0, Rf Y 7, Rf Y 8, Rf Y 9, .int 0, .int 0, .int 0, .int 0, Rf Y 10, Rf Y 11, Rf Y 12, Rf Y 13])) :: (Q ++ [.inl (Y.2.1.1, 40, .inl (fun _ => 0))]))) (some ())) : G FM Y X 1 em (13, 1199) (12, 1159) 111 [(0, Rf Y 0)] [] (RepL Y (([] : List va_E) ++ (.inr (11, [Rf Y 1, Rf Y 2, Rf Y 3, .int 0, Rf Y 4, Rf Y 5, .int 0, .int 0, .int 0, .int 0, Rf Y 6, .int 0, Rf Y 7, Rf Y 8, Rf Y 9, .int 0, .int 0, .int 0, .int 0, Rf Y 10, Rf Y 11, Rf Y 12, .null])) :: Q)) (some ()) := by
  refine q_aload_n C.1 0 dX11_init_111 rfl ?_
  refine q_bipush C.1 (v := 40) dX11_init_112 (by decide) ?_
  refine c_newa (z := (12, 1159)) C (a0 := 40) (N := 40) (n := 13) (by decide) (by decide) (by decide) (by simp only [List.nil_append, List.length_cons, hQ]) (by decide) (TB_of (List.mem_of_getElem? (i := 124) (by decide +kernel)) rfl) dX11_init_114 ?_
  refine G.cast (app3 [] (.inr (11, [Rf Y 1, Rf Y 2, Rf Y 3, .int 0, Rf Y 4, Rf Y 5, .int 0, .int 0, .int 0, .int 0, Rf Y 6, .int 0, Rf Y 7, Rf Y 8, Rf Y 9, .int 0, .int 0, .int 0, .int 0, Rf Y 10, Rf Y 11, Rf Y 12, .null])) Q ([.inl (Y.2.1.1, 40, .inl (fun _ => 0))])) ?_
  refine c_put (P := []) (Q := Q ++ [.inl (Y.2.1.1, 40, .inl (fun _ => 0))]) (fs := [Rf Y 1, Rf Y 2, Rf Y 3, .int 0, Rf Y 4, Rf Y 5, .int 0, .int 0, .int 0, .int 0, Rf Y 6, .int 0, Rf Y 7, Rf Y 8, Rf Y 9, .int 0, .int 0, .int 0, .int 0, Rf Y 10, Rf Y 11, Rf Y 12, .null]) (v := Rf Y 13) (ty := .array .int) C rfl (ci := 11) (T := TX11) (N := 23) rfl in_X11 tyX11 tyX11_ok nmX11 22 (by decide) (TB_of (List.mem_of_getElem? (i := 1064) (by decide +kernel)) rfl) rfl (by decide +kernel) rfl rfl (Nat.le_of_ble_eq_true rfl) (by decide) dX11_init_116 ?_
  exact k
set_option maxHeartbeats 1000000 in
theorem st11_88 {Y : YT} {X : XT} (C : CxI FM Y X cX11_init 1 RX11 1 (13, 1199)) {em : Unit → Option Value × (Heap → Prop)} {Q : List va_E} (hQ : Q.length = 9) (k : G FM Y X 1 em (13, 1199) (10, 995) 95 [(0, Rf Y 0)] [] (RepL Y (([] : List va_E) ++ (.inr (11, [Rf Y 1, Rf Y 2, Rf Y 3, .int 0, Rf Y 4, Rf Y 5, .int 0, .int 0, .int 0, .int 0, Rf Y 6, .int 0, Rf Y 7, Rf Y 8, Rf Y 9, .int 0, .int 0, .int 0, .int 0, Rf Y 10, .null, .null, .null])) :: (Q ++ [.inl (Y.2.1.1, 4, .inl (fun _ => 0))]))) (some ())) : G FM Y X 1 em (13, 1199) (9, 991) 88 [(0, Rf Y 0)] [] (RepL Y (([] : List va_E) ++ (.inr (11, [Rf Y 1, Rf Y 2, Rf Y 3, .int 0, Rf Y 4, Rf Y 5, .int 0, .int 0, .int 0, .int 0, Rf Y 6, .int 0, Rf Y 7, Rf Y 8, Rf Y 9, .int 0, .int 0, .int 0, .int 0, .null, .null, .null, .null])) :: Q)) (some ()) := by
  refine q_aload_n C.1 0 dX11_init_88 rfl ?_
  refine q_iconst C.1 (v := 4) dX11_init_89 (by decide) ?_
  refine c_newa (z := (9, 991)) C (a0 := 4) (N := 4) (n := 10) (by decide) (by decide) (by decide) (by simp only [List.nil_append, List.length_cons, hQ]) (by decide) (TB_of (List.mem_of_getElem? (i := 124) (by decide +kernel)) rfl) dX11_init_90 ?_
  refine G.cast (app3 [] (.inr (11, [Rf Y 1, Rf Y 2, Rf Y 3, .int 0, Rf Y 4, Rf Y 5, .int 0, .int 0, .int 0, .int 0, Rf Y 6, .int 0, Rf Y 7, Rf Y 8, Rf Y 9, .int 0, .int 0, .int 0, .int 0, .null, .null, .null, .null])) Q ([.inl (Y.2.1.1, 4, .inl (fun _ => 0))])) ?_
  refine c_put (P := []) (Q := Q ++ [.inl (Y.2.1.1, 4, .inl (fun _ => 0))]) (fs := [Rf Y 1, Rf Y 2, Rf Y 3, .int 0, Rf Y 4, Rf Y 5, .int 0, .int 0, .int 0, .int 0, Rf Y 6, .int 0, Rf Y 7, Rf Y 8, Rf Y 9, .int 0, .int 0, .int 0, .int 0, .null, .null, .null, .null]) (v := Rf Y 10) (ty := .array .int) C rfl (ci := 11) (T := TX11) (N := 23) rfl in_X11 tyX11 tyX11_ok nmX11 19 (by decide) (TB_of (List.mem_of_getElem? (i := 1061) (by decide +kernel)) rfl) rfl (by decide +kernel) rfl rfl (Nat.le_of_ble_eq_true rfl) (by decide) dX11_init_92 ?_
  exact k
set_option maxHeartbeats 1000000 in
theorem st11_95 {Y : YT} {X : XT} (C : CxI FM Y X cX11_init 1 RX11 1 (13, 1199)) {em : Unit → Option Value × (Heap → Prop)} {Q : List va_E} (hQ : Q.length = 10) (k : G FM Y X 1 em (13, 1199) (11, 999) 102 [(0, Rf Y 0)] [] (RepL Y (([] : List va_E) ++ (.inr (11, [Rf Y 1, Rf Y 2, Rf Y 3, .int 0, Rf Y 4, Rf Y 5, .int 0, .int 0, .int 0, .int 0, Rf Y 6, .int 0, Rf Y 7, Rf Y 8, Rf Y 9, .int 0, .int 0, .int 0, .int 0, Rf Y 10, Rf Y 11, .null, .null])) :: (Q ++ [.inl (Y.2.1.1, 4, .inl (fun _ => 0))]))) (some ())) : G FM Y X 1 em (13, 1199) (10, 995) 95 [(0, Rf Y 0)] [] (RepL Y (([] : List va_E) ++ (.inr (11, [Rf Y 1, Rf Y 2, Rf Y 3, .int 0, Rf Y 4, Rf Y 5, .int 0, .int 0, .int 0, .int 0, Rf Y 6, .int 0, Rf Y 7, Rf Y 8, Rf Y 9, .int 0, .int 0, .int 0, .int 0, Rf Y 10, .null, .null, .null])) :: Q)) (some ()) := by
  refine q_aload_n C.1 0 dX11_init_95 rfl ?_
  refine q_iconst C.1 (v := 4) dX11_init_96 (by decide) ?_
  refine c_newa (z := (10, 995)) C (a0 := 4) (N := 4) (n := 11) (by decide) (by decide) (by decide) (by simp only [List.nil_append, List.length_cons, hQ]) (by decide) (TB_of (List.mem_of_getElem? (i := 124) (by decide +kernel)) rfl) dX11_init_97 ?_
  refine G.cast (app3 [] (.inr (11, [Rf Y 1, Rf Y 2, Rf Y 3, .int 0, Rf Y 4, Rf Y 5, .int 0, .int 0, .int 0, .int 0, Rf Y 6, .int 0, Rf Y 7, Rf Y 8, Rf Y 9, .int 0, .int 0, .int 0, .int 0, Rf Y 10, .null, .null, .null])) Q ([.inl (Y.2.1.1, 4, .inl (fun _ => 0))])) ?_
  refine c_put (P := []) (Q := Q ++ [.inl (Y.2.1.1, 4, .inl (fun _ => 0))]) (fs := [Rf Y 1, Rf Y 2, Rf Y 3, .int 0, Rf Y 4, Rf Y 5, .int 0, .int 0, .int 0, .int 0, Rf Y 6, .int 0, Rf Y 7, Rf Y 8, Rf Y 9, .int 0, .int 0, .int 0, .int 0, Rf Y 10, .null, .null, .null]) (v := Rf Y 11) (ty := .array .int) C rfl (ci := 11) (T := TX11) (N := 23) rfl in_X11 tyX11 tyX11_ok nmX11 20 (by decide) (TB_of (List.mem_of_getElem? (i := 1062) (by decide +kernel)) rfl) rfl (by decide +kernel) rfl rfl (Nat.le_of_ble_eq_true rfl) (by decide) dX11_init_99 ?_
  exact k
set_option maxHeartbeats 1000000 in
theorem st11_72 {Y : YT} {X : XT} (C : CxI FM Y X cX11_init 1 RX11 1 (13, 1199)) {em : Unit → Option Value × (Heap → Prop)} {Q : List va_E} (hQ : Q.length = 7) (k : G FM Y X 1 em (13, 1199) (8, 951) 80 [(0, Rf Y 0)] [] (RepL Y (([] : List va_E) ++ (.inr (11, [Rf Y 1, Rf Y 2, Rf Y 3, .int 0, Rf Y 4, Rf Y 5, .int 0, .int 0, .int 0, .int 0, Rf Y 6, .int 0, Rf Y 7, Rf Y 8, .null, .int 0, .int 0, .int 0, .int 0, .null, .null, .null, .null])) :: (Q ++ [.inl (Y.2.1.1, 60, .inl (fun _ => 0))]))) (some ())) : G FM Y X 1 em (13, 1199) (7, 891) 72 [(0, Rf Y 0)] [] (RepL Y (([] : List va_E) ++ (.inr (11, [Rf Y 1, Rf Y 2, Rf Y 3, .int 0, Rf Y 4, Rf Y 5, .int 0, .int 0, .int 0, .int 0, Rf Y 6, .int 0, Rf Y 7, .null, .null, .int 0, .int 0, .int 0, .int 0, .null, .null, .null, .null])) :: Q)) (some ()) := by
  refine q_aload_n C.1 0 dX11_init_72 rfl ?_
  refine q_bipush C.1 (v := 60) dX11_init_73 (by decide) ?_
  refine c_newa (z := (7, 891)) C (a0 := 60) (N := 60) (n := 8) (by decide) (by decide) (by decide) (by simp only [List.nil_append, List.length_cons, hQ]) (by decide) (TB_of (List.mem_of_getElem? (i := 124) (by decide +kernel)) rfl) dX11_init_75 ?_
  refine G.cast (app3 [] (.inr (11, [Rf Y 1, Rf Y 2, Rf Y 3, .int 0, Rf Y 4, Rf Y 5, .int 0, .int 0, .int 0, .int 0, Rf Y 6, .int 0, Rf Y 7, .null, .null, .int 0, .int 0, .int 0, .int 0, .null, .null, .null, .null])) Q ([.inl (Y.2.1.1, 60, .inl (fun _ => 0))])) ?_
  refine c_put (P := []) (Q := Q ++ [.inl (Y.2.1.1, 60, .inl (fun _ => 0))]) (fs := [Rf Y 1, Rf Y 2, Rf Y 3, .int 0, Rf Y 4, Rf Y 5, .int 0, .int 0, .int 0, .int 0, Rf Y 6, .int 0, Rf Y 7, .null, .null, .int 0, .int 0, .int 0, .int 0, .null, .null, .null, .null]) (v := Rf Y 8) (ty := .array .int) C rfl (ci := 11) (T := TX11) (N := 23) rfl in_X11 tyX11 tyX11_ok nmX11 13 (by decide) (TB_of (List.mem_of_getElem? (i := 1055) (by decide +kernel)) rfl) rfl (by decide +kernel) rfl rfl (Nat.le_of_ble_eq_true rfl) (by decide) dX11_init_77 ?_
  exact k
set_option maxHeartbeats 1000000 in
theorem st11_80 {Y : YT} {X : XT} (C : CxI FM Y X cX11_init 1 RX11 1 (13, 1199)) {em : Unit → Option Value × (Heap → Prop)} {Q : List va_E} (hQ : Q.length = 8) (k : G FM Y X 1 em (13, 1199) (9, 991) 88 [(0, Rf Y 0)] [] (RepL Y (([] : List va_E) ++ (.inr (11, [Rf Y 1, Rf Y 2, Rf Y 3, .int 0, Rf Y 4, Rf Y 5, .int 0, .int 0, .int 0, .int 0, Rf Y 6, .int 0, Rf Y 7, Rf Y 8, Rf Y 9, .int 0, .int 0, .int 0, .int 0, .null, .null, .null, .null])) :: (Q ++ [.inl (Y.2.1.1, 40, .inl (fun _ => 0))]))) (some ())) : G FM Y X 1 em (13, 1199) (8, 951) 80 [(0, Rf Y 0)] [] (RepL Y (([] : List va_E) ++ (.inr (11, [Rf Y 1, Rf Y 2, Rf Y 3, .int 0, Rf Y 4, Rf Y 5, .int 0, .int 0, .int 0, .int 0, Rf Y 6, .int 0, Rf Y 7, Rf Y 8, .null, .int 0, .int 0, .int 0, .int 0, .null, .null, .null, .null])) :: Q)) (some ()) := by
  refine q_aload_n C.1 0 dX11_init_80 rfl ?_
  refine q_bipush C.1 (v := 40) dX11_init_81 (by decide) ?_
  refine c_newa (z := (8, 951)) C (a0 := 40) (N := 40) (n := 9) (by decide) (by decide) (by decide) (by simp only [List.nil_append, List.length_cons, hQ]) (by decide) (TB_of (List.mem_of_getElem? (i := 124) (by decide +kernel)) rfl) dX11_init_83 ?_
  refine G.cast (app3 [] (.inr (11, [Rf Y 1, Rf Y 2, Rf Y 3, .int 0, Rf Y 4, Rf Y 5, .int 0, .int 0, .int 0, .int 0, Rf Y 6, .int 0, Rf Y 7, Rf Y 8, .null, .int 0, .int 0, .int 0, .int 0, .null, .null, .null, .null])) Q ([.inl (Y.2.1.1, 40, .inl (fun _ => 0))])) ?_
  refine c_put (P := []) (Q := Q ++ [.inl (Y.2.1.1, 40, .inl (fun _ => 0))]) (fs := [Rf Y 1, Rf Y 2, Rf Y 3, .int 0, Rf Y 4, Rf Y 5, .int 0, .int 0, .int 0, .int 0, Rf Y 6, .int 0, Rf Y 7, Rf Y 8, .null, .int 0, .int 0, .int 0, .int 0, .null, .null, .null, .null]) (v := Rf Y 9) (ty := .array .int) C rfl (ci := 11) (T := TX11) (N := 23) rfl in_X11 tyX11 tyX11_ok nmX11 14 (by decide) (TB_of (List.mem_of_getElem? (i := 1056) (by decide +kernel)) rfl) rfl (by decide +kernel) rfl rfl (Nat.le_of_ble_eq_true rfl) (by decide) dX11_init_85 ?_
  exact k
set_option maxHeartbeats 1000000 in
theorem st11_57 {Y : YT} {X : XT} (C : CxI FM Y X cX11_init 1 RX11 1 (13, 1199)) {em : Unit → Option Value × (Heap → Prop)} {Q : List va_E} (hQ : Q.length = 5) (k : G FM Y X 1 em (13, 1199) (6, 887) 65 [(0, Rf Y 0)] [] (RepL Y (([] : List va_E) ++ (.inr (11, [Rf Y 1, Rf Y 2, Rf Y 3, .int 0, Rf Y 4, Rf Y 5, .int 0, .int 0, .int 0, .int 0, Rf Y 6, .int 0, .null, .null, .null, .int 0, .int 0, .int 0, .int 0, .null, .null, .null, .null])) :: (Q ++ [.inl (Y.2.1.1, 60, .inl (fun _ => 0))]))) (some ())) : G FM Y X 1 em (13, 1199) (5, 827) 57 [(0, Rf Y 0)] [] (RepL Y (([] : List va_E) ++ (.inr (11, [Rf Y 1, Rf Y 2, Rf Y 3, .int 0, Rf Y 4, Rf Y 5, .int 0, .int 0, .int 0, .int 0, .null, .int 0, .null, .null, .null, .int 0, .int 0, .int 0, .int 0, .null, .null, .null, .null])) :: Q)) (some ()) := by
  refine q_aload_n C.1 0 dX11_init_57 rfl ?_
  refine q_bipush C.1 (v := 60) dX11_init_58 (by decide) ?_
  refine c_newa (z := (5, 827)) C (a0 := 60) (N := 60) (n := 6) (by decide) (by decide) (by decide) (by simp only [List.nil_append, List.length_cons, hQ]) (by decide) (TB_of (List.mem_of_getElem? (i := 124) (by decide +kernel)) rfl) dX11_init_60 ?_
  refine G.cast (app3 [] (.inr (11, [Rf Y 1, Rf Y 2, Rf Y 3, .int 0, Rf Y 4, Rf Y 5, .int 0, .int 0, .int 0, .int 0, .null, .int 0, .null, .null, .null, .int 0, .int 0, .int 0, .int 0, .null, .null, .null, .null])) Q ([.inl (Y.2.1.1, 60, .inl (fun _ => 0))])) ?_
  refine c_put (P := []) (Q := Q ++ [.inl (Y.2.1.1, 60, .inl (fun _ => 0))]) (fs := [Rf Y 1, Rf Y 2, Rf Y 3, .int 0, Rf Y 4, Rf Y 5, .int 0, .int 0, .int 0, .int 0, .null, .int 0, .null, .null, .null, .int 0, .int 0, .int 0, .int 0, .null, .null, .null, .null]) (v := Rf Y 6) (ty := .array .int) C rfl (ci := 11) (T := TX11) (N := 23) rfl in_X11 tyX11 tyX11_ok nmX11 10 (by decide) (TB_of (List.mem_of_getElem? (i := 1052) (by decide +kernel)) rfl) rfl (by decide +kernel) rfl rfl (Nat.le_of_ble_eq_true rfl) (by decide) dX11_init_62 ?_
  exact k
set_option maxHeartbeats 1000000 in
theorem st11_65 {Y : YT} {X : XT} (C : CxI FM Y X cX11_init 1 RX11 1 (13, 1199)) {em : Unit → Option Value × (Heap → Prop)} {Q : List va_E} (hQ : Q.length = 6) (k : G FM Y X 1 em (13, 1199) (7, 891) 72 [(0, Rf Y 0)] [] (RepL Y (([] : List va_E) ++ (.inr (11, [Rf Y 1, Rf Y 2, Rf Y 3, .int 0, Rf Y 4, Rf Y 5, .int 0, .int 0, .int 0, .int 0, Rf Y 6, .int 0, Rf Y 7, .null, .null, .int 0, .int 0, .int 0, .int 0, .null, .null, .null, .null])) :: (Q ++ [.inl (Y.2.1.1, 4, .inl (fun _ => 0))]))) (some ())) : G FM Y X 1 em (13, 1199) (6, 887) 65 [(0, Rf Y 0)] [] (RepL Y (([] : List va_E) ++ (.inr (11, [Rf Y 1, Rf Y 2, Rf Y 3, .int 0, Rf Y 4, Rf Y 5, .int 0, .int 0, .int 0, .int 0, Rf Y 6, .int 0, .null, .null, .null, .int 0, .int 0, .int 0, .int 0, .null, .null, .null, .null])) :: Q)) (some ()) := by
  refine q_aload_n C.1 0 dX11_init_65 rfl ?_
  refine q_iconst C.1 (v := 4) dX11_init_66 (by decide) ?_
  refine c_newa (z := (6, 887)) C (a0 := 4) (N := 4) (n := 7) (by decide) (by decide) (by decide) (by simp only [List.nil_append, List.length_cons, hQ]) (by decide) (TB_of (List.mem_of_getElem? (i := 124) (by decide +kernel)) rfl) dX11_init_67 ?_
  refine G.cast (app3 [] (.inr (11, [Rf Y 1, Rf Y 2, Rf Y 3, .int 0, Rf Y 4, Rf Y 5, .int 0, .int 0, .int 0, .int 0, Rf Y 6, .int 0, .null, .null, .null, .int 0, .int 0, .int 0, .int 0, .null, .null, .null, .null])) Q ([.inl (Y.2.1.1, 4, .inl (fun _ => 0))])) ?_
  refine c_put (P := []) (Q := Q ++ [.inl (Y.2.1.1, 4, .inl (fun _ => 0))]) (fs := [Rf Y 1, Rf Y 2, Rf Y 3, .int 0, Rf Y 4, Rf Y 5, .int 0, .int 0, .int 0, .int 0, Rf Y 6, .int 0, .null, .null, .null, .int 0, .int 0, .int 0, .int 0, .null, .null, .null, .null]) (v := Rf Y 7) (ty := .array .int) C rfl (ci := 11) (T := TX11) (N := 23) rfl in_X11 tyX11 tyX11_ok nmX11 12 (by decide) (TB_of (List.mem_of_getElem? (i := 1054) (by decide +kernel)) rfl) rfl (by decide +kernel) rfl rfl (Nat.le_of_ble_eq_true rfl) (by decide) dX11_init_69 ?_
  exact k
set_option maxHeartbeats 1000000 in
theorem st11_31 {Y : YT} {X : XT} (C : CxI FM Y X cX11_init 1 RX11 1 (13, 1199)) {em : Unit → Option Value × (Heap → Prop)} {Q : List va_E} (hQ : Q.length = 3) (k : G FM Y X 1 em (13, 1199) (4, 825) 39 [(0, Rf Y 0)] [] (RepL Y (([] : List va_E) ++ (.inr (11, [Rf Y 1, Rf Y 2, Rf Y 3, .int 0, Rf Y 4, .null, .int 0, .int 0, .int 0, .int 0, .null, .int 0, .null, .null, .null, .int 0, .int 0, .int 0, .int 0, .null, .null, .null, .null])) :: (Q ++ [.inl (Y.2.1.1, 6, .inl (fun _ => 0))]))) (some ())) : G FM Y X 1 em (13, 1199) (3, 819) 31 [(0, Rf Y 0)] [] (RepL Y (([] : List va_E) ++ (.inr (11, [Rf Y 1, Rf Y 2, Rf Y 3, .int 0, .null, .null, .int 0, .int 0, .int 0, .int 0, .null, .int 0, .null, .null, .null, .int 0, .int 0, .int 0, .int 0, .null, .null, .null, .null])) :: Q)) (some ()) := by
  refine q_aload_n C.1 0 dX11_init_31 rfl ?_
  refine q_bipush C.1 (v := 6) dX11_init_32 (by decide) ?_
  refine c_newa (z := (3, 819)) C (a0 := 6) (N := 6) (n := 4) (by decide) (by decide) (by decide) (by simp only [List.nil_append, List.length_cons, hQ]) (by decide) (TB_of (List.mem_of_getElem? (i := 124) (by decide +kernel)) rfl) dX11_init_34 ?_
  refine G.cast (app3 [] (.inr (11, [Rf Y 1, Rf Y 2, Rf Y 3, .int 0, .null, .null, .int 0, .int 0, .int 0, .int 0, .null, .int 0, .null, .null, .null, .int 0, .int 0, .int 0, .int 0, .null, .null, .null, .null])) Q ([.inl (Y.2.1.1, 6, .inl (fun _ => 0))])) ?_
  refine c_put (P := []) (Q := Q ++ [.inl (Y.2.1.1, 6, .inl (fun _ => 0))]) (fs := [Rf Y 1, Rf Y 2, Rf Y 3, .int 0, .null, .null, .int 0, .int 0, .int 0, .int 0, .null, .int 0, .null, .null, .null, .int 0, .int 0, .int 0, .int 0, .null, .null, .null, .null]) (v := Rf Y 4) (ty := .array .int) C rfl (ci := 11) (T := TX11) (N := 23) rfl in_X11 tyX11 tyX11_ok nmX11 4 (by decide) (TB_of (List.mem_of_getElem? (i := 1046) (by decide +kernel)) rfl) rfl (by decide +kernel) rfl rfl (Nat.le_of_ble_eq_true rfl) (by decide) dX11_init_36 ?_
  exact k
set_option maxHeartbeats 1000000 in
theorem st11_4 {Y : YT} {X : XT} (C : CxI FM Y X cX11_init 1 RX11 1 (13, 1199)) {em : Unit → Option Value × (Heap → Prop)} {Q : List va_E} (hQ : Q.length = 0) (k : G FM Y X 1 em (13, 1199) (1, 273) 13 [(0, Rf Y 0)] [] (RepL Y (([] : List va_E) ++ (.inr (11, [Rf Y 1, .null, .null, .int 0, .null, .null, .int 0, .int 0, .int 0, .int 0, .null, .int 0, .null, .null, .null, .int 0, .int 0, .int 0, .int 0, .null, .null, .null, .null])) :: (Q ++ [.inl (Y.2.1.1, 273, .inl (fun _ => 0))]))) (some ())) : G FM Y X 1 em (13, 1199) (0, 0) 4 [(0, Rf Y 0)] [] (RepL Y (([] : List va_E) ++ (.inr (11, [.null, .null, .null, .int 0, .null, .null, .int 0, .int 0, .int 0, .int 0, .null, .int 0, .null, .null, .null, .int 0, .int 0, .int 0, .int 0, .null, .null, .null, .null])) :: Q)) (some ()) := by
  refine q_aload_n C.1 0 dX11_init_4 rfl ?_
  refine q_sipush C.1 (v := 273) dX11_init_5 (by decide) ?_
  refine c_newa (z := (0, 0)) C (a0 := 273) (N := 273) (n := 1) (by decide) (by decide) (by decide) (by simp only [List.nil_append, List.length_cons, hQ]) (by decide) (TB_of (List.mem_of_getElem? (i := 124) (by decide +kernel)) rfl) dX11_init_8 ?_
  refine G.cast (app3 [] (.inr (11, [.null, .null, .null, .int 0, .null, .null, .int 0, .int 0, .int 0, .int 0, .null, .int 0, .null, .null, .null, .int 0, .int 0, .int 0, .int 0, .null, .null, .null, .null])) Q ([.inl (Y.2.1.1, 273, .inl (fun _ => 0))])) ?_
  refine c_put (P := []) (Q := Q ++ [.inl (Y.2.1.1, 273, .inl (fun _ => 0))]) (fs := [.null, .null, .null, .int 0, .null, .null, .int 0, .int 0, .int 0, .int 0, .null, .int 0, .null, .null, .null, .int 0, .int 0, .int 0, .int 0, .null, .null, .null, .null]) (v := Rf Y 1) (ty := .array .int) C rfl (ci := 11) (T := TX11) (N := 23) rfl in_X11 tyX11 tyX11_ok nmX11 0 (by decide) (TB_of (List.mem_of_getElem? (i := 1042) (by decide +kernel)) rfl) rfl (by decide +kernel) rfl rfl (Nat.le_of_ble_eq_true rfl) (by decide) dX11_init_10 ?_
  exact k
set_option maxHeartbeats 1000000 in
theorem st11_13 {Y : YT} {X : XT} (C : CxI FM Y X cX11_init 1 RX11 1 (13, 1199)) {em : Unit → Option Value × (Heap → Prop)} {Q : List va_E} (hQ : Q.length = 1) (k : G FM Y X 1 em (13, 1199) (2, 546) 22 [(0, Rf Y 0)] [] (RepL Y (([] : List va_E) ++ (.inr (11, [Rf Y 1, Rf Y 2, .null, .int 0, .null, .null, .int 0, .int 0, .int 0, .int 0, .null, .int 0, .null, .null, .null, .int 0, .int 0, .int 0, .int 0, .null, .null, .null, .null])) :: (Q ++ [.inl (Y.2.1.1, 273, .inl (fun _ => 0))]))) (some ())) : G FM Y X 1 em (13, 1199) (1, 273) 13 [(0, Rf Y 0)] [] (RepL Y (([] : List va_E) ++ (.inr (11, [Rf Y 1, .null, .null, .int 0, .null, .null, .int 0, .int 0, .int 0, .int 0, .null, .int 0, .null, .null, .null, .int 0, .int 0, .int 0, .int 0, .null, .null, .null, .null])) :: Q)) (some ()) := by
  refine q_aload_n C.1 0 dX11_init_13 rfl ?_
  refine q_sipush C.1 (v := 273) dX11_init_14 (by decide) ?_
  refine c_newa (z := (1, 273)) C (a0 := 273) (N := 273) (n := 2) (by decide) (by decide) (by decide) (by simp only [List.nil_append, List.length_cons, hQ]) (by decide) (TB_of (List.mem_of_getElem? (i := 124) (by decide +kernel)) rfl) dX11_init_17 ?_
  refine G.cast (app3 [] (.inr (11, [Rf Y 1, .null, .null, .int 0, .null, .null, .int 0, .int 0, .int 0, .int 0, .null, .int 0, .null, .null, .null, .int 0, .int 0, .int 0, .int 0, .null, .null, .null, .null])) Q ([.inl (Y.2.1.1, 273, .inl (fun _ => 0))])) ?_
  refine c_put (P := []) (Q := Q ++ [.inl (Y.2.1.1, 273, .inl (fun _ => 0))]) (fs := [Rf Y 1, .null, .null, .int 0, .null, .null, .int 0, .int 0, .int 0, .int 0, .null, .int 0, .null, .null, .null, .int 0, .int 0, .int 0, .int 0, .null, .null, .null, .null]) (v := Rf Y 2) (ty := .array .int) C rfl (ci := 11) (T := TX11) (N := 23) rfl in_X11 tyX11 tyX11_ok nmX11 1 (by decide) (TB_of (List.mem_of_getElem? (i := 1043) (by decide +kernel)) rfl) rfl (by decide +kernel) rfl rfl (Nat.le_of_ble_eq_true rfl) (by decide) dX11_init_19 ?_
  exact k
set_option maxHeartbeats 1000000 in
theorem st11_22 {Y : YT} {X : XT} (C : CxI FM Y X cX11_init 1 RX11 1 (13, 1199)) {em : Unit → Option Value × (Heap → Prop)} {Q : List va_E} (hQ : Q.length = 2) (k : G FM Y X 1 em (13, 1199) (3, 819) 31 [(0, Rf Y 0)] [] (RepL Y (([] : List va_E) ++ (.inr (11, [Rf Y 1, Rf Y 2, Rf Y 3, .int 0, .null, .null, .int 0, .int 0, .int 0, .int 0, .null, .int 0, .null, .null, .null, .int 0, .int 0, .int 0, .int 0, .null, .null, .null, .null])) :: (Q ++ [.inl (Y.2.1.1, 273, .inl (fun _ => 0))]))) (some ())) : G FM Y X 1 em (13, 1199) (2, 546) 22 [(0, Rf Y 0)] [] (RepL Y (([] : List va_E) ++ (.inr (11, [Rf Y 1, Rf Y 2, .null, .int 0, .null, .null, .int 0, .int 0, .int 0, .int 0, .null, .int 0, .null, .null, .null, .int 0, .int 0, .int 0, .int 0, .null, .null, .null, .null])) :: Q)) (some ()) := by
  refine q_aload_n C.1 0 dX11_init_22 rfl ?_
  refine q_sipush C.1 (v := 273) dX11_init_23 (by decide) ?_
  refine c_newa (z := (2, 546)) C (a0 := 273) (N := 273) (n := 3) (by decide) (by decide) (by decide) (by simp only [List.nil_append, List.length_cons, hQ]) (by decide) (TB_of (List.mem_of_getElem? (i := 124) (by decide +kernel)) rfl) dX11_init_26 ?_
  refine G.cast (app3 [] (.inr (11, [Rf Y 1, Rf Y 2, .null, .int 0, .null, .null, .int 0, .int 0, .int 0, .int 0, .null, .int 0, .null, .null, .null, .int 0, .int 0, .int 0, .int 0, .null, .null, .null, .null])) Q ([.inl (Y.2.1.1, 273, .inl (fun _ => 0))])) ?_
  refine c_put (P := []) (Q := Q ++ [.inl (Y.2.1.1, 273, .inl (fun _ => 0))]) (fs := [Rf Y 1, Rf Y 2, .null, .int 0, .null, .null, .int 0, .int 0, .int 0, .int 0, .null, .int 0, .null, .null, .null, .int 0, .int 0, .int 0, .int 0, .null, .null, .null, .null]) (v := Rf Y 3) (ty := .array .int) C rfl (ci := 11) (T := TX11) (N := 23) rfl in_X11 tyX11 tyX11_ok nmX11 2 (by decide) (TB_of (List.mem_of_getElem? (i := 1044) (by decide +kernel)) rfl) rfl (by decide +kernel) rfl rfl (Nat.le_of_ble_eq_true rfl) (by decide) dX11_init_28 ?_
  exact k
set_option maxHeartbeats 1000000 in
theorem half11_5 {Y : YT} {X : XT} (C : CxI FM Y X cX11_init 1 RX11 1 (13, 1199)) : G FM Y X 1 (fun _ : Unit => (none, fun H => RepS FM Y st0M H ∧ H.size = bY Y + 14)) (13, 1199) (13, 1199) 119 [(0, Rf Y 0)] [] (RepL Y (([] : List va_E) ++ (.inr (11, [Rf Y 1, Rf Y 2, Rf Y 3, .int 0, Rf Y 4, Rf Y 5, .int 0, .int 0, .int 0, .int 0, Rf Y 6, .int 0, Rf Y 7, Rf Y 8, Rf Y 9, .int 0, .int 0, .int 0, .int 0, Rf Y 10, Rf Y 11, Rf Y 12, Rf Y 13])) :: ((((((((((((([] ++ [.inl (Y.2.1.1, 273, .inl (fun _ => 0))]) ++ [.inl (Y.2.1.1, 273, .inl (fun _ => 0))]) ++ [.inl (Y.2.1.1, 273, .inl (fun _ => 0))]) ++ [.inl (Y.2.1.1, 6, .inl (fun _ => 0))]) ++ [.inl (Y.2.1.2.2, 2, .inr (.inr (.inr (.inr (va_up (va_up (fun _ => none) ((0 : Int32).toNatClampNeg) (some (Y.2.2.1 1))) ((1 : Int32).toNatClampNeg) (some (Y.2.2.1 2)))))))]) ++ [.inl (Y.2.1.1, 60, .inl (fun _ => 0))]) ++ [.inl (Y.2.1.1, 4, .inl (fun _ => 0))]) ++ [.inl (Y.2.1.1, 60, .inl (fun _ => 0))]) ++ [.inl (Y.2.1.1, 40, .inl (fun _ => 0))]) ++ [.inl (Y.2.1.1, 4, .inl (fun _ => 0))]) ++ [.inl (Y.2.1.1, 4, .inl (fun _ => 0))]) ++ [.inl (Y.2.1.1, 160, .inl (fun _ => 0))]) ++ [.inl (Y.2.1.1, 40, .inl (fun _ => 0))]))) (some ()) := by
  refine q_aload_n C.1 0 dX11_init_119 rfl ?_
  refine q_getS C.1 (ci := 11) (RC := RX11) (T := TX11) (N := 23) (fs := [Rf Y 1, Rf Y 2, Rf Y 3, .int 0, Rf Y 4, Rf Y 5, .int 0, .int 0, .int 0, .int 0, Rf Y 6, .int 0, Rf Y 7, Rf Y 8, Rf Y 9, .int 0, .int 0, .int 0, .int 0, Rf Y 10, Rf Y 11, Rf Y 12, Rf Y 13]) (v := Rf Y 1) rfl in_X11 0 (by decide) (TB_of (List.mem_of_getElem? (i := 1042) (by decide +kernel)) rfl) rfl (fun H h => h.2 0 _ rfl) rfl dX11_init_120 ?_
  refine q_bipush C.1 (v := 6) dX11_init_123 (by decide) ?_
  refine q_iconst C.1 (v := 1) dX11_init_125 (by decide) ?_
  refine G.cast (show (([] : List va_E) ++ (.inr (11, [Rf Y 1, Rf Y 2, Rf Y 3, .int 0, Rf Y 4, Rf Y 5, .int 0, .int 0, .int 0, .int 0, Rf Y 6, .int 0, Rf Y 7, Rf Y 8, Rf Y 9, .int 0, .int 0, .int 0, .int 0, Rf Y 10, Rf Y 11, Rf Y 12, Rf Y 13])) :: ((((((((((((([] ++ [.inl (Y.2.1.1, 273, .inl (fun _ => 0))]) ++ [.inl (Y.2.1.1, 273, .inl (fun _ => 0))]) ++ [.inl (Y.2.1.1, 273, .inl (fun _ => 0))]) ++ [.inl (Y.2.1.1, 6, .inl (fun _ => 0))]) ++ [.inl (Y.2.1.2.2, 2, .inr (.inr (.inr (.inr (va_up (va_up (fun _ => none) ((0 : Int32).toNatClampNeg) (some (Y.2.2.1 1))) ((1 : Int32).toNatClampNeg) (some (Y.2.2.1 2)))))))]) ++ [.inl (Y.2.1.1, 60, .inl (fun _ => 0))]) ++ [.inl (Y.2.1.1, 4, .inl (fun _ => 0))]) ++ [.inl (Y.2.1.1, 60, .inl (fun _ => 0))]) ++ [.inl (Y.2.1.1, 40, .inl (fun _ => 0))]) ++ [.inl (Y.2.1.1, 4, .inl (fun _ => 0))]) ++ [.inl (Y.2.1.1, 4, .inl (fun _ => 0))]) ++ [.inl (Y.2.1.1, 160, .inl (fun _ => 0))]) ++ [.inl (Y.2.1.1, 40, .inl (fun _ => 0))]) : List va_E) = ((.inr (11, [Rf Y 1, Rf Y 2, Rf Y 3, .int 0, Rf Y 4, Rf Y 5, .int 0, .int 0, .int 0, .int 0, Rf Y 6, .int 0, Rf Y 7, Rf Y 8, Rf Y 9, .int 0, .int 0, .int 0, .int 0, Rf Y 10, Rf Y 11, Rf Y 12, Rf Y 13])) :: []) ++ (.inl (Y.2.1.1, 273, .inl (fun _ => 0))) :: (((((((((((([] ++ [.inl (Y.2.1.1, 273, .inl (fun _ => 0))]) ++ [.inl (Y.2.1.1, 273, .inl (fun _ => 0))]) ++ [.inl (Y.2.1.1, 6, .inl (fun _ => 0))]) ++ [.inl (Y.2.1.2.2, 2, .inr (.inr (.inr (.inr (va_up (va_up (fun _ => none) ((0 : Int32).toNatClampNeg) (some (Y.2.2.1 1))) ((1 : Int32).toNatClampNeg) (some (Y.2.2.1 2)))))))]) ++ [.inl (Y.2.1.1, 60, .inl (fun _ => 0))]) ++ [.inl (Y.2.1.1, 4, .inl (fun _ => 0))]) ++ [.inl (Y.2.1.1, 60, .inl (fun _ => 0))]) ++ [.inl (Y.2.1.1, 40, .inl (fun _ => 0))]) ++ [.inl (Y.2.1.1, 4, .inl (fun _ => 0))]) ++ [.inl (Y.2.1.1, 4, .inl (fun _ => 0))]) ++ [.inl (Y.2.1.1, 160, .inl (fun _ => 0))]) ++ [.inl (Y.2.1.1, 40, .inl (fun _ => 0))]) by simp only [List.nil_append, List.cons_append, List.append_assoc, List.append_nil]) ?_
  refine c_iast (kk := 1) (i := 6) (x := 1) C rfl (inb_in (by decide)) (by decide) dX11_init_126 ?_
  refine q_aload_n C.1 0 dX11_init_127 rfl ?_
  refine q_getS C.1 (ci := 11) (RC := RX11) (T := TX11) (N := 23) (fs := [Rf Y 1, Rf Y 2, Rf Y 3, .int 0, Rf Y 4, Rf Y 5, .int 0, .int 0, .int 0, .int 0, Rf Y 6, .int 0, Rf Y 7, Rf Y 8, Rf Y 9, .int 0, .int 0, .int 0, .int 0, Rf Y 10, Rf Y 11, Rf Y 12, Rf Y 13]) (v := Rf Y 1) rfl in_X11 0 (by decide) (TB_of (List.mem_of_getElem? (i := 1042) (by decide +kernel)) rfl) rfl (fun H h => h.2 0 _ rfl) rfl dX11_init_128 ?_
  refine q_iconst C.1 (v := 1) dX11_init_131 (by decide) ?_
  refine q_iconst C.1 (v := 4) dX11_init_132 (by decide) ?_
  refine c_iast (kk := 1) (i := 1) (x := 4) C rfl (inb_in (by decide)) (by decide) dX11_init_133 ?_
  refine G.bound ?_
  refine G.imp C.1 (hp' := fun H => RepS FM Y st0M H ∧ H.size = bY Y + 14) (fun H h => ⟨full11 h.1, h.1.1⟩) ?_
  exact q_vret C.1 rfl dX11_init_134
set_option maxHeartbeats 1000000 in
theorem half11_4 {Y : YT} {X : XT} (C : CxI FM Y X cX11_init 1 RX11 1 (13, 1199)) : G FM Y X 1 (fun _ : Unit => (none, fun H => RepS FM Y st0M H ∧ H.size = bY Y + 14)) (13, 1199) (11, 999) 102 [(0, Rf Y 0)] [] (RepL Y (([] : List va_E) ++ (.inr (11, [Rf Y 1, Rf Y 2, Rf Y 3, .int 0, Rf Y 4, Rf Y 5, .int 0, .int 0, .int 0, .int 0, Rf Y 6, .int 0, Rf Y 7, Rf Y 8, Rf Y 9, .int 0, .int 0, .int 0, .int 0, Rf Y 10, Rf Y 11, .null, .null])) :: ((((((((((([] ++ [.inl (Y.2.1.1, 273, .inl (fun _ => 0))]) ++ [.inl (Y.2.1.1, 273, .inl (fun _ => 0))]) ++ [.inl (Y.2.1.1, 273, .inl (fun _ => 0))]) ++ [.inl (Y.2.1.1, 6, .inl (fun _ => 0))]) ++ [.inl (Y.2.1.2.2, 2, .inr (.inr (.inr (.inr (va_up (va_up (fun _ => none) ((0 : Int32).toNatClampNeg) (some (Y.2.2.1 1))) ((1 : Int32).toNatClampNeg) (some (Y.2.2.1 2)))))))]) ++ [.inl (Y.2.1.1, 60, .inl (fun _ => 0))]) ++ [.inl (Y.2.1.1, 4, .inl (fun _ => 0))]) ++ [.inl (Y.2.1.1, 60, .inl (fun _ => 0))]) ++ [.inl (Y.2.1.1, 40, .inl (fun _ => 0))]) ++ [.inl (Y.2.1.1, 4, .inl (fun _ => 0))]) ++ [.inl (Y.2.1.1, 4, .inl (fun _ => 0))]))) (some ()) := by
  refine st11_102 C (by simp only [List.length_append, List.length_cons, List.length_nil]) ?_
  refine st11_111 C (by simp only [List.length_append, List.length_cons, List.length_nil]) ?_
  exact half11_5 C
set_option maxHeartbeats 1000000 in
theorem half11_3 {Y : YT} {X : XT} (C : CxI FM Y X cX11_init 1 RX11 1 (13, 1199)) : G FM Y X 1 (fun _ : Unit => (none, fun H => RepS FM Y st0M H ∧ H.size = bY Y + 14)) (13, 1199) (9, 991) 88 [(0, Rf Y 0)] [] (RepL Y (([] : List va_E) ++ (.inr (11, [Rf Y 1, Rf Y 2, Rf Y 3, .int 0, Rf Y 4, Rf Y 5, .int 0, .int 0, .int 0, .int 0, Rf Y 6, .int 0, Rf Y 7, Rf Y 8, Rf Y 9, .int 0, .int 0, .int 0, .int 0, .null, .null, .null, .null])) :: ((((((((([] ++ [.inl (Y.2.1.1, 273, .inl (fun _ => 0))]) ++ [.inl (Y.2.1.1, 273, .inl (fun _ => 0))]) ++ [.inl (Y.2.1.1, 273, .inl (fun _ => 0))]) ++ [.inl (Y.2.1.1, 6, .inl (fun _ => 0))]) ++ [.inl (Y.2.1.2.2, 2, .inr (.inr (.inr (.inr (va_up (va_up (fun _ => none) ((0 : Int32).toNatClampNeg) (some (Y.2.2.1 1))) ((1 : Int32).toNatClampNeg) (some (Y.2.2.1 2)))))))]) ++ [.inl (Y.2.1.1, 60, .inl (fun _ => 0))]) ++ [.inl (Y.2.1.1, 4, .inl (fun _ => 0))]) ++ [.inl (Y.2.1.1, 60, .inl (fun _ => 0))]) ++ [.inl (Y.2.1.1, 40, .inl (fun _ => 0))]))) (some ()) := by
  refine st11_88 C (by simp only [List.length_append, List.length_cons, List.length_nil]) ?_
  refine st11_95 C (by simp only [List.length_append, List.length_cons, List.length_nil]) ?_
  exact half11_4 C
set_option maxHeartbeats 1000000 in
theorem half11_2 {Y : YT} {X : XT} (C : CxI FM Y X cX11_init 1 RX11 1 (13, 1199)) : G FM Y X 1 (fun _ : Unit => (none, fun H => RepS FM Y st0M H ∧ H.size = bY Y + 14)) (13, 1199) (7, 891) 72 [(0, Rf Y 0)] [] (RepL Y (([] : List va_E) ++ (.inr (11, [Rf Y 1, Rf Y 2, Rf Y 3, .int 0, Rf Y 4, Rf Y 5, .int 0, .int 0, .int 0, .int 0, Rf Y 6, .int 0, Rf Y 7, .null, .null, .int 0, .int 0, .int 0, .int 0, .null, .null, .null, .null])) :: ((((((([] ++ [.inl (Y.2.1.1, 273, .inl (fun _ => 0))]) ++ [.inl (Y.2.1.1, 273, .inl (fun _ => 0))]) ++ [.inl (Y.2.1.1, 273, .inl (fun _ => 0))]) ++ [.inl (Y.2.1.1, 6, .inl (fun _ => 0))]) ++ [.inl (Y.2.1.2.2, 2, .inr (.inr (.inr (.inr (va_up (va_up (fun _ => none) ((0 : Int32).toNatClampNeg) (some (Y.2.2.1 1))) ((1 : Int32).toNatClampNeg) (some (Y.2.2.1 2)))))))]) ++ [.inl (Y.2.1.1, 60, .inl (fun _ => 0))]) ++ [.inl (Y.2.1.1, 4, .inl (fun _ => 0))]))) (some ()) := by
  refine st11_72 C (by simp only [List.length_append, List.length_cons, List.length_nil]) ?_
  refine st11_80 C (by simp only [List.length_append, List.length_cons, List.length_nil]) ?_
  exact half11_3 C
set_option maxHeartbeats 1000000 in
theorem half11_1 {Y : YT} {X : XT} (C : CxI FM Y X cX11_init 1 RX11 1 (13, 1199)) : G FM Y X 1 (fun _ : Unit => (none, fun H => RepS FM Y st0M H ∧ H.size = bY Y + 14)) (13, 1199) (5, 827) 57 [(0, Rf Y 0)] [] (RepL Y (([] : List va_E) ++ (.inr (11, [Rf Y 1, Rf Y 2, Rf Y 3, .int 0, Rf Y 4, Rf Y 5, .int 0, .int 0, .int 0, .int 0, .null, .int 0, .null, .null, .null, .int 0, .int 0, .int 0, .int 0, .null, .null, .null, .null])) :: ((((([] ++ [.inl (Y.2.1.1, 273, .inl (fun _ => 0))]) ++ [.inl (Y.2.1.1, 273, .inl (fun _ => 0))]) ++ [.inl (Y.2.1.1, 273, .inl (fun _ => 0))]) ++ [.inl (Y.2.1.1, 6, .inl (fun _ => 0))]) ++ [.inl (Y.2.1.2.2, 2, .inr (.inr (.inr (.inr (va_up (va_up (fun _ => none) ((0 : Int32).toNatClampNeg) (some (Y.2.2.1 1))) ((1 : Int32).toNatClampNeg) (some (Y.2.2.1 2)))))))]))) (some ()) := by
  refine st11_57 C (by simp only [List.length_append, List.length_cons, List.length_nil]) ?_
  refine st11_65 C (by simp only [List.length_append, List.length_cons, List.length_nil]) ?_
  exact half11_2 C
set_option maxHeartbeats 1000000 in
theorem half11_0 {Y : YT} {X : XT} (C : CxI FM Y X cX11_init 1 RX11 1 (13, 1199)) : G FM Y X 1 (fun _ : Unit => (none, fun H => RepS FM Y st0M H ∧ H.size = bY Y + 14)) (13, 1199) (3, 819) 31 [(0, Rf Y 0)] [] (RepL Y (([] : List va_E) ++ (.inr (11, [Rf Y 1, Rf Y 2, Rf Y 3, .int 0, .null, .null, .int 0, .int 0, .int 0, .int 0, .null, .int 0, .null, .null, .null, .int 0, .int 0, .int 0, .int 0, .null, .null, .null, .null])) :: ((([] ++ [.inl (Y.2.1.1, 273, .inl (fun _ => 0))]) ++ [.inl (Y.2.1.1, 273, .inl (fun _ => 0))]) ++ [.inl (Y.2.1.1, 273, .inl (fun _ => 0))]))) (some ()) := by
  refine st11_31 C (by simp only [List.length_append, List.length_cons, List.length_nil]) ?_
  refine q_aload_n C.1 0 dX11_init_39 rfl ?_
  refine q_iconst C.1 (v := 2) dX11_init_40 (by decide) ?_
  refine c_anew (z := (4, 825)) C (a0 := 2) (N := 2) (n := 5) 2 rfl (by decide) (by decide) (by decide) (by simp only [List.length_append, List.length_cons, List.length_nil, lenO_1, lenO_2, lenO_5, lenO_7, lenO_8]) (by decide) (TB_of (List.mem_of_getElem? (i := 1038) (by decide +kernel)) rfl) C.1.2.2.2.2.2.1.2.2.2.2.2.2.2.2 dX11_init_41 ?_
  refine G.cast (app3 [] (.inr (11, [Rf Y 1, Rf Y 2, Rf Y 3, .int 0, Rf Y 4, .null, .int 0, .int 0, .int 0, .int 0, .null, .int 0, .null, .null, .null, .int 0, .int 0, .int 0, .int 0, .null, .null, .null, .null])) ((((([] ++ [.inl (Y.2.1.1, 273, .inl (fun _ => 0))]) ++ [.inl (Y.2.1.1, 273, .inl (fun _ => 0))]) ++ [.inl (Y.2.1.1, 273, .inl (fun _ => 0))]) ++ [.inl (Y.2.1.1, 6, .inl (fun _ => 0))])) ([.inl (Y.2.1.2.2, 2, .inr (.inr (.inr (.inr (fun _ => none)))))])) ?_
  refine q_dup C.1 dX11_init_44 rfl ?_
  refine q_iconst C.1 (v := 0) dX11_init_45 (by decide) ?_
  refine q_ldcS C.1 (tx := "smr") (e := 1) (by decide +kernel) dX11_init_46 ?_
  refine G.cast (show (([] : List va_E) ++ (.inr (11, [Rf Y 1, Rf Y 2, Rf Y 3, .int 0, Rf Y 4, .null, .int 0, .int 0, .int 0, .int 0, .null, .int 0, .null, .null, .null, .int 0, .int 0, .int 0, .int 0, .null, .null, .null, .null])) :: ((((([] ++ [.inl (Y.2.1.1, 273, .inl (fun _ => 0))]) ++ [.inl (Y.2.1.1, 273, .inl (fun _ => 0))]) ++ [.inl (Y.2.1.1, 273, .inl (fun _ => 0))]) ++ [.inl (Y.2.1.1, 6, .inl (fun _ => 0))]) ++ [.inl (Y.2.1.2.2, 2, .inr (.inr (.inr (.inr (fun _ => none)))))]) : List va_E) = ((.inr (11, [Rf Y 1, Rf Y 2, Rf Y 3, .int 0, Rf Y 4, .null, .int 0, .int 0, .int 0, .int 0, .null, .int 0, .null, .null, .null, .int 0, .int 0, .int 0, .int 0, .null, .null, .null, .null])) :: (((([] ++ [.inl (Y.2.1.1, 273, .inl (fun _ => 0))]) ++ [.inl (Y.2.1.1, 273, .inl (fun _ => 0))]) ++ [.inl (Y.2.1.1, 273, .inl (fun _ => 0))]) ++ [.inl (Y.2.1.1, 6, .inl (fun _ => 0))])) ++ (.inl (Y.2.1.2.2, 2, .inr (.inr (.inr (.inr (fun _ => none)))))) :: [] by simp only [List.nil_append, List.cons_append, List.append_assoc, List.append_nil]) ?_
  refine c_aast (kk := 5) (v := Y.2.2.1 1) C rfl 2 rfl (fun H locs _ h3 => any_str C (by decide) h3) (i := 0) (inb_in (by decide)) (by decide) dX11_init_48 ?_
  refine q_dup C.1 dX11_init_49 rfl ?_
  refine q_iconst C.1 (v := 1) dX11_init_50 (by decide) ?_
  refine q_ldcS C.1 (tx := "sph") (e := 2) (by decide +kernel) dX11_init_51 ?_
  refine c_aast (kk := 5) (v := Y.2.2.1 2) C rfl 2 rfl (fun H locs _ h3 => any_str C (by decide) h3) (i := 1) (inb_in (by decide)) (by decide) dX11_init_53 ?_
  refine G.cast (show (((.inr (11, [Rf Y 1, Rf Y 2, Rf Y 3, .int 0, Rf Y 4, .null, .int 0, .int 0, .int 0, .int 0, .null, .int 0, .null, .null, .null, .int 0, .int 0, .int 0, .int 0, .null, .null, .null, .null])) :: (((([] ++ [.inl (Y.2.1.1, 273, .inl (fun _ => 0))]) ++ [.inl (Y.2.1.1, 273, .inl (fun _ => 0))]) ++ [.inl (Y.2.1.1, 273, .inl (fun _ => 0))]) ++ [.inl (Y.2.1.1, 6, .inl (fun _ => 0))])) ++ (.inl (Y.2.1.2.2, 2, .inr (.inr (.inr (.inr (va_up (va_up (fun _ => none) ((0 : Int32).toNatClampNeg) (some (Y.2.2.1 1))) ((1 : Int32).toNatClampNeg) (some (Y.2.2.1 2)))))))) :: [] : List va_E) = ([] : List va_E) ++ (.inr (11, [Rf Y 1, Rf Y 2, Rf Y 3, .int 0, Rf Y 4, .null, .int 0, .int 0, .int 0, .int 0, .null, .int 0, .null, .null, .null, .int 0, .int 0, .int 0, .int 0, .null, .null, .null, .null])) :: ((((([] ++ [.inl (Y.2.1.1, 273, .inl (fun _ => 0))]) ++ [.inl (Y.2.1.1, 273, .inl (fun _ => 0))]) ++ [.inl (Y.2.1.1, 273, .inl (fun _ => 0))]) ++ [.inl (Y.2.1.1, 6, .inl (fun _ => 0))]) ++ [.inl (Y.2.1.2.2, 2, .inr (.inr (.inr (.inr (va_up (va_up (fun _ => none) ((0 : Int32).toNatClampNeg) (some (Y.2.2.1 1))) ((1 : Int32).toNatClampNeg) (some (Y.2.2.1 2)))))))]) by simp only [List.nil_append, List.cons_append, List.append_assoc, List.append_nil]) ?_
  refine c_put (P := []) (Q := ((((([] ++ [.inl (Y.2.1.1, 273, .inl (fun _ => 0))]) ++ [.inl (Y.2.1.1, 273, .inl (fun _ => 0))]) ++ [.inl (Y.2.1.1, 273, .inl (fun _ => 0))]) ++ [.inl (Y.2.1.1, 6, .inl (fun _ => 0))]) ++ [.inl (Y.2.1.2.2, 2, .inr (.inr (.inr (.inr (va_up (va_up (fun _ => none) ((0 : Int32).toNatClampNeg) (some (Y.2.2.1 1))) ((1 : Int32).toNatClampNeg) (some (Y.2.2.1 2)))))))])) (fs := [Rf Y 1, Rf Y 2, Rf Y 3, .int 0, Rf Y 4, .null, .int 0, .int 0, .int 0, .int 0, .null, .int 0, .null, .null, .null, .int 0, .int 0, .int 0, .int 0, .null, .null, .null, .null]) (v := Rf Y 5) (ty := .array (.object "java/lang/String")) C rfl (ci := 11) (T := TX11) (N := 23) rfl in_X11 tyX11 tyX11_ok nmX11 5 (by decide) (TB_of (List.mem_of_getElem? (i := 1047) (by decide +kernel)) rfl) rfl (by decide +kernel) rfl rfl (Nat.le_of_ble_eq_true rfl) (by decide) dX11_init_54 ?_
  show G FM Y X 1 _ _ _ _ _ _ (RepL Y (([] : List va_E) ++ (.inr (11, [Rf Y 1, Rf Y 2, Rf Y 3, .int 0, Rf Y 4, Rf Y 5, .int 0, .int 0, .int 0, .int 0, .null, .int 0, .null, .null, .null, .int 0, .int 0, .int 0, .int 0, .null, .null, .null, .null])) :: ((((([] ++ [.inl (Y.2.1.1, 273, .inl (fun _ => 0))]) ++ [.inl (Y.2.1.1, 273, .inl (fun _ => 0))]) ++ [.inl (Y.2.1.1, 273, .inl (fun _ => 0))]) ++ [.inl (Y.2.1.1, 6, .inl (fun _ => 0))]) ++ [.inl (Y.2.1.2.2, 2, .inr (.inr (.inr (.inr (va_up (va_up (fun _ => none) ((0 : Int32).toNatClampNeg) (some (Y.2.2.1 1))) ((1 : Int32).toNatClampNeg) (some (Y.2.2.1 2)))))))]))) _
  exact half11_1 C
set_option maxHeartbeats 1000000 in
theorem ct_X11 {Y : YT} : Ct FM Y yX11_init cX11_init 1 none 1 13 1199 [Rf Y 0] (RepL Y [.inr (11, [.null, .null, .null, .int 0, .null, .null, .int 0, .int 0, .int 0, .int 0, .null, .int 0, .null, .null, .null, .int 0, .int 0, .int 0, .int 0, .null, .null, .null, .null])]) none (fun H => RepS FM Y st0M H ∧ H.size = bY Y + 14) := by
  refine Ct.ofGj (em := fun _ : Unit => (none, fun H => RepS FM Y st0M H ∧ H.size = bY Y + 14)) (o := some ()) (by decide) rfl (Nat.le_of_ble_eq_true rfl) (fun X C0 hh => ?_) () rfl
  have C : CxI FM Y X cX11_init 1 RX11 1 (13, 1199) := C0
  show G FM Y X 1 (fun _ : Unit => (none, fun H => RepS FM Y st0M H ∧ H.size = bY Y + 14)) (13, 1199) (0, 0) 0 [(0, Rf Y 0)] [] (RepL Y (([] : List va_E) ++ (.inr (11, [.null, .null, .null, .int 0, .null, .null, .int 0, .int 0, .int 0, .int 0, .null, .int 0, .null, .null, .null, .int 0, .int 0, .int 0, .int 0, .null, .null, .null, .null])) :: [])) (some ())
  refine q_aload_n C.1 0 dX11_init_0 rfl ?_
  refine c_obj C (TB_of (List.mem_of_getElem? (i := 1037) (by decide +kernel)) rfl) (TB_of (List.mem_of_getElem? (i := 94) (by decide +kernel)) rfl) (TB_of (List.mem_of_getElem? (i := 95) (by decide +kernel)) rfl) (Nat.le_of_ble_eq_true rfl) (Nat.le_of_ble_eq_true rfl) dX11_init_1 ?_
  refine st11_4 C (by simp only [List.length_append, List.length_cons, List.length_nil]) ?_
  refine st11_13 C (by simp only [List.length_append, List.length_cons, List.length_nil]) ?_
  refine st11_22 C (by simp only [List.length_append, List.length_cons, List.length_nil]) ?_
  exact half11_0 C
