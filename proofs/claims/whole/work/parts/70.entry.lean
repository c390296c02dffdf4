/-! what holds at the law's entry of the world outside, from the Statement's words -/
abbrev fl0 : List Cond := flatC (Jvm.Cond.and given_1 narrow_1)
def strT : List Term := [.string "WellTold$Reader" 23, .string "WellTold" 214, .string "WellTold" 216, .string "WellTold$Reader" 91, .string "WellTold$Reader" 61, .string "WellTold$Reader" 63, .string "WellTold$Reader" 65, .string "WellTold$Reader" 67, .string "WellTold$Reader" 69]
abbrev tmS (i : Nat) : Term := strT.getD i (.arg 0)
theorem fs_ex : ∀ i, i < 9 → Cond.exactly (tmS i) "java/lang/String" ∈ fl0 := by decide +kernel
theorem fs_co : ∀ i, i < 9 → Cond.eq (.field (tmS i) "java/lang/String" "coder" "B") (.int 0) ∈ fl0 := by decide +kernel
theorem fs_ar : ∀ i, i < 9 → Cond.arrayOf (.field (tmS i) "java/lang/String" "value" "[B") .byte ∈ fl0 := by decide +kernel
theorem fs_le : ∀ i, i < 9 → Cond.eq (.length (.field (tmS i) "java/lang/String" "value" "[B")) (.int (Int32.ofNat (lenS.getD i 0))) ∈ fl0 := by decide +kernel
theorem fs_el : ∀ i, i < 9 → ∀ j, j < lenS.getD i 0 → Cond.eq (.elem (.field (tmS i) "java/lang/String" "value" "[B") (.int (Int32.ofNat j))) (.int ((bytS.getD i []).getD j 0)) ∈ fl0 := by decide +kernel
theorem fs_ne : ∀ i, i < 9 → ∀ j, j < 9 → i ≠ j → Cond.not (Cond.eq (tmS i) (tmS j)) ∈ fl0 ∨ Cond.not (Cond.eq (tmS j) (tmS i)) ∈ fl0 := by decide +kernel
theorem fs_n : ∀ i, i < 9 → lenS.getD i 0 < 2 ^ 31 := by decide +kernel
theorem ft_ar : Cond.arrayOf (.static "WellTold$Voices" "ABOVE" "[I") .int ∈ fl0 := by decide +kernel
theorem ft_al : Cond.eq (.length (.static "WellTold$Voices" "ABOVE" "[I")) (.int (Int32.ofNat 7)) ∈ fl0 := by decide +kernel
theorem ft_ae : ∀ j, j < 7 → Cond.eq (.elem (.static "WellTold$Voices" "ABOVE" "[I") (.int (Int32.ofNat j))) (.int (tabA.getD j 0)) ∈ fl0 := by decide +kernel
theorem ft_br : Cond.arrayOf (.static "WellTold$Voices" "BODIES" "[I") .int ∈ fl0 := by decide +kernel
theorem ft_bl : Cond.eq (.length (.static "WellTold$Voices" "BODIES" "[I")) (.int (Int32.ofNat 28)) ∈ fl0 := by decide +kernel
theorem ft_be : ∀ j, j < 28 → Cond.eq (.elem (.static "WellTold$Voices" "BODIES" "[I") (.int (Int32.ofNat j))) (.int (tabB.getD j 0)) ∈ fl0 := by decide +kernel
theorem fc_s : Cond.eq (.static "java/lang/String" "COMPACT_STRINGS" "Z") (.int 1) ∈ fl0 := by decide +kernel
theorem fc_f : Cond.isRef (.static "jdk/internal/util/Preconditions" "SIOOBE_FORMATTER" "Ljava/util/function/BiFunction;") ∈ fl0 := by decide +kernel
theorem fc_r1 : Cond.eq (.string "WellTold" 214) (.string "WellToldModel" 24) ∈ fl0 := by decide +kernel
theorem fc_r2 : Cond.eq (.string "WellTold" 216) (.string "WellToldModel" 26) ∈ fl0 := by decide +kernel
theorem nw_in : ∀ w ∈ NWL.map (fun q => Cond.methodLinkNest q.1 q.2.1 q.2.2.1 q.2.2.2), w ∈ lw_tbl := by
  have h : NWL.map (fun q => Cond.methodLinkNest q.1 q.2.1 q.2.2.1 q.2.2.2) = [98, 104, 147, 180, 221, 320, 344, 369, 467, 562, 568, 621, 622, 822, 901].filterMap (fun i => lw_tbl[i]?) := by decide +kernel
  intro w hw
  rw [h] at hw
  obtain ⟨i, -, hi⟩ := List.mem_filterMap.mp hw
  exact List.mem_of_getElem? hi
theorem va_O_narrow {F : FT} {Y : YT} {sz : Nat} (h : sz ≤ bY Y) : ∀ q, AF F Y q → sz ≤ q := fun _ hq => Nat.le_trans h hq.1
set_option maxHeartbeats 4000000 in
theorem ex_start {s : State} {A : Array Value} (hts : ∀ w ∈ lw_tbl, w.before A s = true) (hgv : (Jvm.Cond.and given_1 narrow_1).before A s = true) : ∃ (D : va_G) (cs : ClassId × ClassId × ClassId) (aK aV : Nat → Nat), ∀ (F : FT) (n : Nat), s.heap.size ≤ n → Ex F (D, cs, aK, aV, n) s := by
  have hs : ∀ c ∈ fl0, c.before A s = true := flat_of_before _ hgv
  have hT : ∀ w ∈ TB, w.before A s = true := fun w hw => hts w (List.mem_filter.mp hw).1
  obtain ⟨c0, i0, h0⟩ := u_known (n := 2) hT in_X0 (hts _ (List.mem_of_getElem? (i := 179) (by decide +kernel) : Cond.instantiable RX0 2 ∈ lw_tbl))
  obtain ⟨c1, i1, h1⟩ := u_known (n := 4) hT in_X1 (hts _ (List.mem_of_getElem? (i := 319) (by decide +kernel) : Cond.instantiable RX1 4 ∈ lw_tbl))
  obtain ⟨c2, i2, h2⟩ := u_known (n := 2) hT in_X2 (hts _ (List.mem_of_getElem? (i := 109) (by decide +kernel) : Cond.instantiable RX2 2 ∈ lw_tbl))
  obtain ⟨c3, i3, h3⟩ := u_known (n := 6) hT in_X3 (hts _ (List.mem_of_getElem? (i := 220) (by decide +kernel) : Cond.instantiable RX3 6 ∈ lw_tbl))
  obtain ⟨c4, i4, h4⟩ := u_known (n := 6) hT in_X4 (hts _ (List.mem_of_getElem? (i := 146) (by decide +kernel) : Cond.instantiable RX4 6 ∈ lw_tbl))
  obtain ⟨c5, i5, h5⟩ := u_known (n := 2) hT in_X5 (hts _ (List.mem_of_getElem? (i := 368) (by decide +kernel) : Cond.instantiable RX5 2 ∈ lw_tbl))
  obtain ⟨c6, i6, h6⟩ := u_known (n := 3) hT in_X6 (hts _ (List.mem_of_getElem? (i := 200) (by decide +kernel) : Cond.instantiable RX6 3 ∈ lw_tbl))
  obtain ⟨c7, i7, h7⟩ := u_known (n := 14) hT in_X7 (hts _ (List.mem_of_getElem? (i := 97) (by decide +kernel) : Cond.instantiable RX7 14 ∈ lw_tbl))
  obtain ⟨c8, i8, h8⟩ := u_known (n := 4) hT in_X8 (hts _ (List.mem_of_getElem? (i := 343) (by decide +kernel) : Cond.instantiable RX8 4 ∈ lw_tbl))
  obtain ⟨c9, i9, h9⟩ := u_known (n := 4) hT in_X9 (hts _ (List.mem_of_getElem? (i := 103) (by decide +kernel) : Cond.instantiable RX9 4 ∈ lw_tbl))
  obtain ⟨c10, i10, h10⟩ := u_known (n := 8) hT in_X10 (hts _ (List.mem_of_getElem? (i := 89) (by decide +kernel) : Cond.instantiable RX10 8 ∈ lw_tbl))
  obtain ⟨c11, i11, h11⟩ := u_known (n := 23) hT in_X11 (hts _ (List.mem_of_getElem? (i := 1033) (by decide +kernel) : Cond.instantiable RX11 23 ∈ lw_tbl))
  have hKc : ∀ (k : Nat) (q : vw_C), vwCl[k]? = some q → u_Kn s q.1 q.2.1 q.2.2 (([c0, c1, c2, c3, c4, c5, c6, c7, c8, c9, c10, c11] : List ClassId).getD k c0) (([i0, i1, i2, i3, i4, i5, i6, i7, i8, i9, i10, i11] : List (Nat → Nat)).getD k i0) := by
    intro k q hq
    match k, hq with
    | 0, hq => cases hq; exact h0
    | 1, hq => cases hq; exact h1
    | 2, hq => cases hq; exact h2
    | 3, hq => cases hq; exact h3
    | 4, hq => cases hq; exact h4
    | 5, hq => cases hq; exact h5
    | 6, hq => cases hq; exact h6
    | 7, hq => cases hq; exact h7
    | 8, hq => cases hq; exact h8
    | 9, hq => cases hq; exact h9
    | 10, hq => cases hq; exact h10
    | 11, hq => cases hq; exact h11
    | k + 12, hq => simp [vwCl] at hq
  obtain ⟨ca, ka, pa, a1, a2, a3⟩ := Cond.arrayClass_spec (args := A) (first := s) (o := none) (idx := []) (hts _ (List.mem_of_getElem? (i := 124) (by decide +kernel) : Cond.arrayClass .int ∈ lw_tbl))
  have hb := hts _ (List.mem_of_getElem? (i := 365) (by decide +kernel) : Cond.arrayOver (.object "WellTold$Sheet") ∈ lw_tbl)
  obtain ⟨pb, cb, kb, b1, -, b2, b3, b4⟩ := Cond.arrayOver_spec (args := A) (first := s) (o := none) (idx := []) hb
  have hc := hts _ (List.mem_of_getElem? (i := 1039) (by decide +kernel) : Cond.arrayOver (.object "java/lang/String") ∈ lw_tbl)
  obtain ⟨pe, ce, ke, e1, -, e2, e3, e4⟩ := Cond.arrayOver_spec (args := A) (first := s) (o := none) (idx := []) hc
  obtain ⟨aK, aV, hS, hev⟩ := vk_Sof (args := A) (s := s) (N := 9) (tm := tmS) (len := lenS) (byt := bytS) (A := fun q => s.heap.size ≤ q) fs_n (fun i hi => hs _ (fs_ex i hi)) (fun i hi => hs _ (fs_co i hi)) (fun i hi => hs _ (fs_ar i hi)) (fun i hi => hs _ (fs_le i hi)) (fun i hi j hj => hs _ (fs_el i hi j hj)) (fun i j hi hj hn => (fs_ne i hi j hj hn).imp (fun h => hs _ h) (fun h => hs _ h)) (fun a ha h => absurd ha (Nat.not_lt.mpr h))
  have hA0 : ∀ a : Nat, a < s.heap.size → ¬ (fun q => s.heap.size ≤ q) a := fun a ha h => absurd ha (Nat.not_lt.mpr h)
  have iV := hts _ (List.mem_of_getElem? (i := 79) (by decide +kernel) : Cond.initialized "WellTold$Voices" ∈ lw_tbl)
  obtain ⟨ta, ea, Ta⟩ := va_Tof (args := A) (s := s) (tm := .static "WellTold$Voices" "ABOVE" "[I") (ty := .int) (N := 7) (f := fun j => .int (tabA.getD j 0)) (by decide) (hs _ ft_ar) (va_eqt (hs _ ft_al)) (fun j hj => va_eqt (hs _ (ft_ae j hj))) hA0
  have Za := va_Zref (hts _ (List.mem_of_getElem? (i := 589) (by decide +kernel) : Cond.laysStatic "WellTold$Voices" "ABOVE" "[I" ∈ lw_tbl)) iV ea hA0
  obtain ⟨tb, eb, Tb⟩ := va_Tof (args := A) (s := s) (tm := .static "WellTold$Voices" "BODIES" "[I") (ty := .int) (N := 28) (f := fun j => .int (tabB.getD j 0)) (by decide) (hs _ ft_br) (va_eqt (hs _ ft_bl)) (fun j hj => va_eqt (hs _ (ft_be j hj))) hA0
  have Zb := va_Zref (hts _ (List.mem_of_getElem? (i := 943) (by decide +kernel) : Cond.laysStatic "WellTold$Voices" "BODIES" "[I" ∈ lw_tbl)) iV eb hA0
  have ZC := va_Zof (hts _ (List.mem_of_getElem? (i := 696) (by decide +kernel) : Cond.laysStatic "java/lang/String" "COMPACT_STRINGS" "Z" ∈ lw_tbl)) (hts _ (List.mem_of_getElem? (i := 82) (by decide +kernel) : Cond.initialized "java/lang/String" ∈ lw_tbl)) (va_eqi (hs _ fc_s)) hA0
  have ZF := va_Zqof (hts _ (List.mem_of_getElem? (i := 737) (by decide +kernel) : Cond.laysStatic "jdk/internal/util/Preconditions" "SIOOBE_FORMATTER" "Ljava/util/function/BiFunction;" ∈ lw_tbl)) (hts _ (List.mem_of_getElem? (i := 85) (by decide +kernel) : Cond.initialized "jdk/internal/util/Preconditions" ∈ lw_tbl)) (hs _ fc_f) hA0
  have hR : ∀ q ∈ strL, vk_R q.1 q.2.1 q.2.2.1 (aK q.2.2.2) s := by
    show ∀ q ∈ strRefs, _
    exact List.forall_mem_cons.mpr ⟨vk_R.of (hts _ (List.mem_of_getElem? (i := 326) (by decide +kernel) : Cond.stringRef "WellTold$Reader" 23 "" ∈ lw_tbl)) (hev 0 (by decide)), List.forall_mem_cons.mpr ⟨vk_R.of (hts _ (List.mem_of_getElem? (i := 649) (by decide +kernel) : Cond.stringRef "WellTold" 214 "smr" ∈ lw_tbl)) (hev 1 (by decide)), List.forall_mem_cons.mpr ⟨vk_R.of (hts _ (List.mem_of_getElem? (i := 650) (by decide +kernel) : Cond.stringRef "WellTold" 216 "sph" ∈ lw_tbl)) (hev 2 (by decide)), List.forall_mem_cons.mpr ⟨vk_R.of (hts _ (List.mem_of_getElem? (i := 679) (by decide +kernel) : Cond.stringRef "WellTold$Reader" 91 "0123456789" ∈ lw_tbl)) (hev 3 (by decide)), List.forall_mem_cons.mpr ⟨vk_R.of (hts _ (List.mem_of_getElem? (i := 783) (by decide +kernel) : Cond.stringRef "WellTold$Reader" 61 "|" ∈ lw_tbl)) (hev 4 (by decide)), List.forall_mem_cons.mpr ⟨vk_R.of (hts _ (List.mem_of_getElem? (i := 784) (by decide +kernel) : Cond.stringRef "WellTold$Reader" 63 "&" ∈ lw_tbl)) (hev 5 (by decide)), List.forall_mem_cons.mpr ⟨vk_R.of (hts _ (List.mem_of_getElem? (i := 785) (by decide +kernel) : Cond.stringRef "WellTold$Reader" 65 "<=>" ∈ lw_tbl)) (hev 6 (by decide)), List.forall_mem_cons.mpr ⟨vk_R.of (hts _ (List.mem_of_getElem? (i := 786) (by decide +kernel) : Cond.stringRef "WellTold$Reader" 67 "+-" ∈ lw_tbl)) (hev 7 (by decide)), List.forall_mem_cons.mpr ⟨vk_R.of (hts _ (List.mem_of_getElem? (i := 787) (by decide +kernel) : Cond.stringRef "WellTold$Reader" 69 "*/%" ∈ lw_tbl)) (hev 8 (by decide)), List.forall_mem_cons.mpr ⟨vk_R.of (hts _ (List.mem_of_getElem? (i := 1040) (by decide +kernel) : Cond.stringRef "WellToldModel" 24 "smr" ∈ lw_tbl)) (va_eqR (hs _ fc_r1) (hev 1 (by decide))), List.forall_mem_cons.mpr ⟨vk_R.of (hts _ (List.mem_of_getElem? (i := 1041) (by decide +kernel) : Cond.stringRef "WellToldModel" 26 "sph" ∈ lw_tbl)) (va_eqR (hs _ fc_r2) (hev 2 (by decide))), fun _ h => by cases h⟩⟩⟩⟩⟩⟩⟩⟩⟩⟩⟩
  refine ⟨(fun k => ([c0, c1, c2, c3, c4, c5, c6, c7, c8, c9, c10, c11] : List ClassId).getD k c0, fun k => ([i0, i1, i2, i3, i4, i5, i6, i7, i8, i9, i10, i11] : List (Nat → Nat)).getD k i0), (ca, cb, ce), aK, aV, fun F n hn => ?_⟩
  have nar : ∀ q, AF F ((fun k => ([c0, c1, c2, c3, c4, c5, c6, c7, c8, c9, c10, c11] : List ClassId).getD k c0, fun k => ([i0, i1, i2, i3, i4, i5, i6, i7, i8, i9, i10, i11] : List (Nat → Nat)).getD k i0), (ca, cb, ce), aK, aV, n) q → s.heap.size ≤ q := fun q hq => Nat.le_trans hn hq.1
  refine ⟨⟨hKc, fun k q hk => ?_⟩, fun q hq => va_Nw.of rfl (hts _ (nw_in _ (List.mem_map.mpr ⟨q, hq, rfl⟩))), hS.narrow nar, hR, ⟨ta, tb, Za.narrow nar, Zb.narrow nar, Ta.narrow nar, Tb.narrow nar⟩, ZC.narrow nar, ?_, va_AO.of hb, va_AO.of hc⟩
  · match k, hk with
    | 0, hk => cases hk; exact ⟨fun n z => ⟨fun k h => (by cases h), ka, a2, pa, a3⟩, a1⟩
    | 1, hk => cases hk; exact ⟨fun n z => ⟨fun k h => (by cases h), kb, b2, pb, b3⟩, ⟨kb, pb, b2, b3, b1, b4⟩⟩
    | 2, hk => cases hk; exact ⟨fun n z => ⟨fun k h => (by cases h), ke, e2, pe, e3⟩, ⟨ke, pe, e2, e3, e1, e4⟩⟩
    | k + 3, hk => simp [tysY] at hk
  · rcases ZF with h | ⟨t, h⟩
    · exact ⟨.null, rfl, h.narrow nar⟩
    · exact ⟨.ref t, rfl, h.narrow nar⟩
