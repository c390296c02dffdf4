def fin11 (Y : YT) : List va_E := ((.inr (11, [Rf Y 1, Rf Y 2, Rf Y 3, .int 0, Rf Y 4, Rf Y 5, .int 0, .int 0, .int 0, .int 0, Rf Y 6, .int 0, Rf Y 7, Rf Y 8, Rf Y 9, .int 0, .int 0, .int 0, .int 0, Rf Y 10, Rf Y 11, Rf Y 12, Rf Y 13])) :: []) ++ (.inl (Y.2.1.1, 273, .inl (upd (upd (fun _ => 0) ((6 : Int32).toNatClampNeg) 1) ((1 : Int32).toNatClampNeg) 4))) :: (((((((((((([] ++ [.inl (Y.2.1.1, 273, .inl (fun _ => 0))]) ++ [.inl (Y.2.1.1, 273, .inl (fun _ => 0))]) ++ [.inl (Y.2.1.1, 6, .inl (fun _ => 0))]) ++ [.inl (Y.2.1.2.2, 2, .inr (.inr (.inr (.inr (va_up (va_up (fun _ => none) ((0 : Int32).toNatClampNeg) (some (Y.2.2.1 1))) ((1 : Int32).toNatClampNeg) (some (Y.2.2.1 2)))))))]) ++ [.inl (Y.2.1.1, 60, .inl (fun _ => 0))]) ++ [.inl (Y.2.1.1, 4, .inl (fun _ => 0))]) ++ [.inl (Y.2.1.1, 60, .inl (fun _ => 0))]) ++ [.inl (Y.2.1.1, 40, .inl (fun _ => 0))]) ++ [.inl (Y.2.1.1, 4, .inl (fun _ => 0))]) ++ [.inl (Y.2.1.1, 4, .inl (fun _ => 0))]) ++ [.inl (Y.2.1.1, 160, .inl (fun _ => 0))]) ++ [.inl (Y.2.1.1, 40, .inl (fun _ => 0))])
def fl11 (Y : YT) : List va_E := [.inr (11, [Rf Y 1, Rf Y 2, Rf Y 3, .int 0, Rf Y 4, Rf Y 5, .int 0, .int 0, .int 0, .int 0, Rf Y 6, .int 0, Rf Y 7, Rf Y 8, Rf Y 9, .int 0, .int 0, .int 0, .int 0, Rf Y 10, Rf Y 11, Rf Y 12, Rf Y 13]), .inl (Y.2.1.1, 273, .inl (upd (upd (fun _ => 0) 6 1) 1 4)), .inl (Y.2.1.1, 273, .inl (fun _ => 0)), .inl (Y.2.1.1, 273, .inl (fun _ => 0)), .inl (Y.2.1.1, 6, .inl (fun _ => 0)), .inl (Y.2.1.2.2, 2, .inr (.inr (.inr (.inr (va_up (va_up (fun _ => none) 0 (some (Y.2.2.1 1))) 1 (some (Y.2.2.1 2))))))), .inl (Y.2.1.1, 60, .inl (fun _ => 0)), .inl (Y.2.1.1, 4, .inl (fun _ => 0)), .inl (Y.2.1.1, 60, .inl (fun _ => 0)), .inl (Y.2.1.1, 40, .inl (fun _ => 0)), .inl (Y.2.1.1, 4, .inl (fun _ => 0)), .inl (Y.2.1.1, 4, .inl (fun _ => 0)), .inl (Y.2.1.1, 160, .inl (fun _ => 0)), .inl (Y.2.1.1, 40, .inl (fun _ => 0))]
set_option maxRecDepth 100000 in
set_option maxHeartbeats 20000000 in
theorem fl11_eq (Y : YT) : fin11 Y = fl11 Y := rfl
theorem f11_0 {Y : YT} {H : Heap} (h : RepL Y (fl11 Y) H) : va_at Y.1 vwCl (bY Y + 0, entK Y 0 (shM 0) (st0M 0)) H := by
  have h1 : va_at Y.1 vwCl (bY Y + 0, (.inr (11, [Rf Y 1, Rf Y 2, Rf Y 3, .int 0, Rf Y 4, Rf Y 5, .int 0, .int 0, .int 0, .int 0, Rf Y 6, .int 0, Rf Y 7, Rf Y 8, Rf Y 9, .int 0, .int 0, .int 0, .int 0, Rf Y 10, Rf Y 11, Rf Y 12, Rf Y 13]) : va_E)) H := h.2 0 _ rfl
  rw [skM_0]
  exact h1
theorem f11_1 {Y : YT} {H : Heap} (h : RepL Y (fl11 Y) H) : va_at Y.1 vwCl (bY Y + 1, entK Y 1 (shM 1) (st0M 1)) H := by
  have h1 : va_at Y.1 vwCl (bY Y + 1, (.inl (Y.2.1.1, 273, .inl (upd (upd (fun _ => 0) 6 1) 1 4)) : va_E)) H := h.2 1 _ rfl
  rw [skM_1]
  exact h1
theorem f11_2 {Y : YT} {H : Heap} (h : RepL Y (fl11 Y) H) : va_at Y.1 vwCl (bY Y + 2, entK Y 2 (shM 2) (st0M 2)) H := by
  have h1 : va_at Y.1 vwCl (bY Y + 2, (.inl (Y.2.1.1, 273, .inl (fun _ => 0)) : va_E)) H := h.2 2 _ rfl
  rw [skM_2]
  exact h1
theorem f11_3 {Y : YT} {H : Heap} (h : RepL Y (fl11 Y) H) : va_at Y.1 vwCl (bY Y + 3, entK Y 3 (shM 3) (st0M 3)) H := by
  have h1 : va_at Y.1 vwCl (bY Y + 3, (.inl (Y.2.1.1, 273, .inl (fun _ => 0)) : va_E)) H := h.2 3 _ rfl
  rw [skM_3]
  exact h1
theorem f11_4 {Y : YT} {H : Heap} (h : RepL Y (fl11 Y) H) : va_at Y.1 vwCl (bY Y + 4, entK Y 4 (shM 4) (st0M 4)) H := by
  have h1 : va_at Y.1 vwCl (bY Y + 4, (.inl (Y.2.1.1, 6, .inl (fun _ => 0)) : va_E)) H := h.2 4 _ rfl
  rw [skM_4]
  exact h1
theorem f11_6 {Y : YT} {H : Heap} (h : RepL Y (fl11 Y) H) : va_at Y.1 vwCl (bY Y + 6, entK Y 6 (shM 6) (st0M 6)) H := by
  have h1 : va_at Y.1 vwCl (bY Y + 6, (.inl (Y.2.1.1, 60, .inl (fun _ => 0)) : va_E)) H := h.2 6 _ rfl
  rw [skM_6]
  exact h1
theorem f11_7 {Y : YT} {H : Heap} (h : RepL Y (fl11 Y) H) : va_at Y.1 vwCl (bY Y + 7, entK Y 7 (shM 7) (st0M 7)) H := by
  have h1 : va_at Y.1 vwCl (bY Y + 7, (.inl (Y.2.1.1, 4, .inl (fun _ => 0)) : va_E)) H := h.2 7 _ rfl
  rw [skM_7]
  exact h1
theorem f11_8 {Y : YT} {H : Heap} (h : RepL Y (fl11 Y) H) : va_at Y.1 vwCl (bY Y + 8, entK Y 8 (shM 8) (st0M 8)) H := by
  have h1 : va_at Y.1 vwCl (bY Y + 8, (.inl (Y.2.1.1, 60, .inl (fun _ => 0)) : va_E)) H := h.2 8 _ rfl
  rw [skM_8]
  exact h1
theorem f11_9 {Y : YT} {H : Heap} (h : RepL Y (fl11 Y) H) : va_at Y.1 vwCl (bY Y + 9, entK Y 9 (shM 9) (st0M 9)) H := by
  have h1 : va_at Y.1 vwCl (bY Y + 9, (.inl (Y.2.1.1, 40, .inl (fun _ => 0)) : va_E)) H := h.2 9 _ rfl
  rw [skM_9]
  exact h1
theorem f11_10 {Y : YT} {H : Heap} (h : RepL Y (fl11 Y) H) : va_at Y.1 vwCl (bY Y + 10, entK Y 10 (shM 10) (st0M 10)) H := by
  have h1 : va_at Y.1 vwCl (bY Y + 10, (.inl (Y.2.1.1, 4, .inl (fun _ => 0)) : va_E)) H := h.2 10 _ rfl
  rw [skM_10]
  exact h1
theorem f11_11 {Y : YT} {H : Heap} (h : RepL Y (fl11 Y) H) : va_at Y.1 vwCl (bY Y + 11, entK Y 11 (shM 11) (st0M 11)) H := by
  have h1 : va_at Y.1 vwCl (bY Y + 11, (.inl (Y.2.1.1, 4, .inl (fun _ => 0)) : va_E)) H := h.2 11 _ rfl
  rw [skM_11]
  exact h1
theorem f11_12 {Y : YT} {H : Heap} (h : RepL Y (fl11 Y) H) : va_at Y.1 vwCl (bY Y + 12, entK Y 12 (shM 12) (st0M 12)) H := by
  have h1 : va_at Y.1 vwCl (bY Y + 12, (.inl (Y.2.1.1, 160, .inl (fun _ => 0)) : va_E)) H := h.2 12 _ rfl
  rw [skM_12]
  exact h1
theorem f11_13 {Y : YT} {H : Heap} (h : RepL Y (fl11 Y) H) : va_at Y.1 vwCl (bY Y + 13, entK Y 13 (shM 13) (st0M 13)) H := by
  have h1 : va_at Y.1 vwCl (bY Y + 13, (.inl (Y.2.1.1, 40, .inl (fun _ => 0)) : va_E)) H := h.2 13 _ rfl
  rw [skM_13]
  exact h1
theorem full11 {Y : YT} {H : Heap} (h0 : RepL Y (fin11 Y) H) : RepS FM Y st0M H := by
  have h : RepL Y (fl11 Y) H := fl11_eq Y ▸ h0
  have a0 : ∀ a, a < 0 → va_at Y.1 vwCl (bY Y + a, entK Y a (shM a) (st0M a)) H := lt_0
  have a1 := lt_s a0 (f11_0 h)
  have a2 := lt_s a1 (f11_1 h)
  have a3 := lt_s a2 (f11_2 h)
  have a4 := lt_s a3 (f11_3 h)
  have a5 := lt_s a4 (f11_4 h)
  have a6 := lt_s a5 (by
    show va_at Y.1 vwCl (bY Y + 5, .inl (Y.2.1.2.2, 2, .inr (.inr (.inr (.inr (fun i => some (Y.2.2.1 (i + 1)))))))) H
    refine (h.2 5 _ rfl).trans (congrArg some ?_)
    rw [vp_cell_q, vp_cell_q]
    exact arrV_congr _ (fun i hi => by
      have : i = 0 ∨ i = 1 := by omega
      rcases this with h | h <;> subst h <;> rfl))
  have a7 := lt_s a6 (f11_6 h)
  have a8 := lt_s a7 (f11_7 h)
  have a9 := lt_s a8 (f11_8 h)
  have a10 := lt_s a9 (f11_9 h)
  have a11 := lt_s a10 (f11_10 h)
  have a12 := lt_s a11 (f11_11 h)
  have a13 := lt_s a12 (f11_12 h)
  have a14 := lt_s a13 (f11_13 h)
  exact a14
set_option maxHeartbeats 1000000 in
theorem half11_5 {Y : YT} {X : XT} (C : CxI FM Y X cX11_init 1 RX11 1 (13, 1199)) : G FM Y X 1 (fun _ : Unit => (none, fun H => RepS FM Y st0M H ∧ H.size = bY Y + 14)) (13, 1199) (13, 1199) 119 [(0, Rf Y 0)] [] (RepL Y (([] : List va_E) ++ (.inr (11, [Rf Y 1, Rf Y 2, Rf Y 3, .int 0, Rf Y 4, Rf Y 5, .int 0, .int 0, .int 0, .int 0, Rf Y 6, .int 0, Rf Y 7, Rf Y 8, Rf Y 9, .int 0, .int 0, .int 0, .int 0, Rf Y 10, Rf Y 11, Rf Y 12, Rf Y 13])) :: ((((((((((((([] ++ [.inl (Y.2.1.1, 273, .inl (fun _ => 0))]) ++ [.inl (Y.2.1.1, 273, .inl (fun _ => 0))]) ++ [.inl (Y.2.1.1, 273, .inl (fun _ => 0))]) ++ [.inl (Y.2.1.1, 6, .inl (fun _ => 0))]) ++ [.inl (Y.2.1.2.2, 2, .inr (.inr (.inr (.inr (va_up (va_up (fun _ => none) ((0 : Int32).toNatClampNeg) (some (Y.2.2.1 1))) ((1 : Int32).toNatClampNeg) (some (Y.2.2.1 2)))))))]) ++ [.inl (Y.2.1.1, 60, .inl (fun _ => 0))]) ++ [.inl (Y.2.1.1, 4, .inl (fun _ => 0))]) ++ [.inl (Y.2.1.1, 60, .inl (fun _ => 0))]) ++ [.inl (Y.2.1.1, 40, .inl (fun _ => 0))]) ++ [.inl (Y.2.1.1, 4, .inl (fun _ => 0))]) ++ [.inl (Y.2.1.1, 4, .inl (fun _ => 0))]) ++ [.inl (Y.2.1.1, 160, .inl (fun _ => 0))]) ++ [.inl (Y.2.1.1, 40, .inl (fun _ => 0))]))) (some ()) := by
  refine q_aload_n C.1 0 dX11_init_119 rfl ?_
  refine q_getS C.1 (ci := 11) (RC := RX11) (T := TX11) (N := 23) (fs := [Rf Y 1, Rf Y 2, Rf Y 3, .int 0, Rf Y 4, Rf Y 5, .int 0, .int 0, .int 0, .int 0, Rf Y 6, .int 0, Rf Y 7, Rf Y 8, Rf Y 9, .int 0, .int 0, .int 0, .int 0, Rf Y 10, Rf Y 11, Rf Y 12, Rf Y 13]) (v := Rf Y 1) rfl in_X11 0 (by decide) (TB_of (List.mem_of_getElem? (i := 1042) (by decide +kernel)) rfl) rfl (fun H h => h.2 0 _ rfl) rfl dX11_init_120 ?_
  refine q_bipush C.1 (v := 6) dX11_init_123 (by decide) ?_
  refine q_iconst C.1 (v := 1) dX11_init_125 (by decide) ?_
  refine G.cast (show (([] : List va_E) ++ (.inr (11, [Rf Y 1, Rf Y 2, Rf Y 3, .int 0, Rf Y 4, Rf Y 5, .int 0, .int 0, .int 0, .int 0, Rf Y 6, .int 0, Rf Y 7, Rf Y 8, Rf Y 9, .int 0, .int 0, .int 0, .int 0, Rf Y 10, Rf Y 11, Rf Y 12, Rf Y 13])) :: ((((((((((((([] ++ [.inl (Y.2.1.1, 273, .inl (fun _ => 0))]) ++ [.inl (Y.2.1.1, 273, .inl (fun _ => 0))]) ++ [.inl (Y.2.1.1, 273, .inl (fun _ => 0))]) ++ [.inl (Y.2.1.1, 6, .inl (fun _ => 0))]) ++ [.inl (Y.2.1.2.2, 2, .inr (.inr (.inr (.inr (va_up (va_up (fun _ => none) ((0 : Int32).toNatClampNeg) (some (Y.2.2.1 1))) ((1 : Int32).toNatClampNeg) (some (Y.2.2.1 2)))))))]) ++ [.inl (Y.2.1.1, 60, .inl (fun _ => 0))]) ++ [.inl (Y.2.1.1, 4, .inl (fun _ => 0))]) ++ [.inl (Y.2.1.1, 60, .inl (fun _ => 0))]) ++ [.inl (Y.2.1.1, 40, .inl (fun _ => 0))]) ++ [.inl (Y.2.1.1, 4, .inl (fun _ => 0))]) ++ [.inl (Y.2.1.1, 4, .inl (fun _ => 0))]) ++ [.inl (Y.2.1.1, 160, .inl (fun _ => 0))]) ++ [.inl (Y.2.1.1, 40, .inl (fun _ => 0))]) : List va_E) = ((.inr (11, [Rf Y 1, Rf Y 2, Rf Y 3, .int 0, Rf Y 4, Rf Y 5, .int 0, .int 0, .int 0, .int 0, Rf Y 6, .int 0, Rf Y 7, Rf Y 8, Rf Y 9, .int 0, .int 0, .int 0, .int 0, Rf Y 10, Rf Y 11, Rf Y 12, Rf Y 13])) :: []) ++ (.inl (Y.2.1.1, 273, .inl (fun _ => 0))) :: (((((((((((([] ++ [.inl (Y.2.1.1, 273, .inl (fun _ => 0))]) ++ [.inl (Y.2.1.1, 273, .inl (fun _ => 0))]) ++ [.inl (Y.2.1.1, 6, .inl (fun _ => 0))]) ++ [.inl (Y.2.1.2.2, 2, .inr (.inr (.inr (.inr (va_up (va_up (fun _ => none) ((0 : Int32).toNatClampNeg) (some (Y.2.2.1 1))) ((1 : Int32).toNatClampNeg) (some (Y.2.2.1 2)))))))]) ++ [.inl (Y.2.1.1, 60, .inl (fun _ => 0))]) ++ [.inl (Y.2.1.1, 4, .inl (fun _ => 0))]) ++ [.inl (Y.2.1.1, 60, .inl (fun _ => 0))]) ++ [.inl (Y.2.1.1, 40, .inl (fun _ => 0))]) ++ [.inl (Y.2.1.1, 4, .inl (fun _ => 0))]) ++ [.inl (Y.2.1.1, 4, .inl (fun _ => 0))]) ++ [.inl (Y.2.1.1, 160, .inl (fun _ => 0))]) ++ [.inl (Y.2.1.1, 40, .inl (fun _ => 0))]) by simp only [List.nil_append, List.cons_append, List.append_assoc, List.append_nil]) ?_
  refine c_iast (kk := 1) (i := 6) (x := 1) C rfl (inb_in (by decide)) (by decide) dX11_init_126 ?_
  refine q_aload_n C.1 0 dX11_init_127 rfl ?_
  refine q_getS C.1 (ci := 11) (RC := RX11) (T := TX11) (N := 23) (fs := [Rf Y 1, Rf Y 2, Rf Y 3, .int 0, Rf Y 4, Rf Y 5, .int 0, .int 0, .int 0, .int 0, Rf Y 6, .int 0, Rf Y 7, Rf Y 8, Rf Y 9, .int 0, .int 0, .int 0, .int 0, Rf Y 10, Rf Y 11, Rf Y 12, Rf Y 13]) (v := Rf Y 1) rfl in_X11 0 (by decide) (TB_of (List.mem_of_getElem? (i := 1042) (by decide +kernel)) rfl) rfl (fun H h => h.2 0 _ rfl) rfl dX11_init_128 ?_
  refine q_iconst C.1 (v := 1) dX11_init_131 (by decide) ?_
  refine q_iconst C.1 (v := 4) dX11_init_132 (by decide) ?_
  refine c_iast (kk := 1) (i := 1) (x := 4) C rfl (inb_in (by decide)) (by decide) dX11_init_133 ?_
  refine G.bound ?_
  refine G.imp C.1 (hp' := fun H => RepS FM Y st0M H ∧ H.size = bY Y + 14) (fun H h => ⟨full11 h.1, h.1.1⟩) ?_
  exact q_vret C.1 rfl dX11_init_134
