/-! the law's loop and its start -/
theorem lk_L_9 : LkI R_law 9 yX10_init cX10_init 2 0 := ⟨TB_p [90, 91, 69, 92] (by decide +kernel) (by decide +kernel), rfl, by decide +kernel, by decide +kernel, by decide +kernel⟩
theorem lk_L_12 : LkI R_law 12 yX11_init cX11_init 1 0 := ⟨TB_p [1034, 1035, 81, 1036] (by decide +kernel) (by decide +kernel), rfl, by decide +kernel, by decide +kernel, by decide +kernel⟩
def cAt (k : Nat) : Nat := [212, 235, 278, 311, 344, 367, 410, 443, 486, 519, 552, 585, 618, 661, 724, 747, 800, 823, 846, 879, 912, 965, 1008, 1041, 1094, 1117, 1150, 1203, 1226, 1269, 1292, 1335, 1378, 1441, 1464, 1487, 1500, 1513, 1536, 1549, 1572].getD k 0
theorem offA_ok : ∀ k, k < 41 → (#[179, 202, 245, 278, 311, 334, 377, 410, 453, 486, 519, 552, 585, 628, 691, 714, 767, 790, 813, 846, 879, 932, 975, 1008, 1061, 1084, 1117, 1170, 1193, 1236, 1259, 1302, 1345, 1408, 1431, 1454, 1467, 1480, 1503, 1516, 1539] : Array Int)[k]? = some ((cAt k : Int) - 33) := by decide +kernel
theorem lt6_a : ∀ L, L < 6 → ∀ i, i < 6 → nI L - 6 < nI i := by decide +kernel
theorem lt6 {L i : Nat} (hL : L ≤ 3072) (hi : i ≤ L) (h : L < i + 6) : nI L - 6 < nI i := by
  by_cases h6 : L < 6
  · exact lt6_a L h6 i (by omega)
  · obtain ⟨k, rfl⟩ : ∃ k, L = k + 6 := ⟨L - 6, by omega⟩
    have e : nI (k + 6) - 6 = nI k := by
      rw [← nI_add]
      exact Int32.add_sub_cancel (nI k) (nI 6)
    rw [e]
    exact nI_lt (by omega) (by omega)
section LLOOP
variable {V : LV} {W : WT} {pc : Nat} {i : Nat} {σ τ : St}
theorem law_sw (C : LAt V) (x : Int32) {lv : List (Nat × Value)} {hp : Heap → Prop} (k0 : LJ V zL 1595 lv [] hp) (k : ∀ q, q < 41 → LJ V zL (cAt q) lv [] hp) : LJ V zL 33 lv [.int x] hp := by
  by_cases h1 : x.toInt < 0
  · exact l_tout C 1595 dL_law_33 (Or.inl h1) (by decide) k0
  · by_cases h2 : 40 < x.toInt
    · exact l_tout C 1595 dL_law_33 (Or.inr h2) (by decide) k0
    · have hq : x.toInt.toNat < 41 := by omega
      exact l_tin C (cAt x.toInt.toNat) dL_law_33 h1 h2 (off := (cAt x.toInt.toNat : Int) - 33) (by rw [Int.sub_zero]; exact offA_ok _ hq) (by omega) (k _ hq)
theorem law_case (C : LAt V) (E : EA V W) (hL : LL V ≤ 3072) (hi : i + 6 ≤ LL V) (h : RR σ τ) (ih : ∀ σ' τ' : St, RR σ' τ' → LJ V zL 1595 (lvL V W i) [] (PL2 V W σ' τ')) : ∀ q, q < 41 → LJ V zL (cAt q) (lvL V W i) [] (PL2 V W σ τ) := by
  intro q hq
  match q, hq with
  | 0, _ => exact case_wells C E hL hi h ih
  | 1, _ => exact case_way C E hL hi h ih
  | 2, _ => exact case_ofWay C E hL hi h ih
  | 3, _ => exact case_stop C E hL hi h ih
  | 4, _ => exact case_rain C E hL hi h ih
  | 5, _ => exact case_call C E hL hi h ih
  | 6, _ => exact case_ofSaying C E hL hi h ih
  | 7, _ => exact case_change C E hL hi h ih
  | 8, _ => exact case_become C E hL hi h ih
  | 9, _ => exact case_as C E hL hi h ih
  | 10, _ => exact case_folk C E hL hi h ih
  | 11, _ => exact case_ofFolk C E hL hi h ih
  | 12, _ => exact case_drink C E hL hi h ih
  | 13, _ => exact case_feed C E hL hi h ih
  | 14, _ => exact case_text C E hL hi h ih
  | 15, _ => exact case_law C E hL hi h ih
  | 16, _ => exact case_hours C E hL hi h ih
  | 17, _ => exact case_loose C E hL hi h ih
  | 18, _ => exact case_then C E hL hi h ih
  | 19, _ => exact case_learns C E hL hi h ih
  | 20, _ => exact case_calls C E hL hi h ih
  | 21, _ => exact case_stops C E hL hi h ih
  | 22, _ => exact case_who C E hL hi h ih
  | 23, _ => exact case_loud C E hL hi h ih
  | 24, _ => exact case_alike C E hL hi h ih
  | 25, _ => exact case_furthest C E hL hi h ih
  | 26, _ => exact case_odds C E hL hi h ih
  | 27, _ => exact case_seed C E hL hi h ih
  | 28, _ => exact case_voice C E hL hi h ih
  | 29, _ => exact case_trace C E hL hi h ih
  | 30, _ => exact case_sheet C E hL hi h ih
  | 31, _ => exact case_put C E hL hi h ih
  | 32, _ => exact case_move C E hL hi h ih
  | 33, _ => exact case_palates C E hL hi h ih
  | 34, _ => exact case_judge C E hL hi h ih
  | 35, _ => exact case_image C E hL hi h ih
  | 36, _ => exact case_restore C E hL hi h ih
  | 37, _ => exact case_tell C E hL hi h ih
  | 38, _ => exact case_check C E hL hi h ih
  | 39, _ => exact case_count C E hL hi h ih
  | 40, _ => exact case_told C E hL hi h ih
  | q + 41, hq => omega
theorem law_step (C : LAt V) (E : EA V W) (hL : LL V ≤ 3072) (hi : i + 6 ≤ LL V) (h : RR σ τ) (ih : ∀ σ' τ' : St, RR σ' τ' → LJ V zL 18 (lvL V W (i + 6)) [] (PL2 V W σ' τ')) : LJ V zL 27 (lvL V W i) [] (PL2 V W σ τ) := by
  have next : ∀ σ' τ' : St, RR σ' τ' → LJ V zL 1595 (lvL V W i) [] (PL2 V W σ' τ') := fun σ' τ' hR => l_iinc C 0 (lvL V W (i + 6)) dL_law_1595 rfl (show nI i + Int32.ofInt 6 = nI (i + 6) from nI_add i 6) (by decide) rfl (l_goto C 18 dL_law_1598 (by decide) (ih _ _ hR))
  refine l_aload_n C 3 dL_law_27 rfl ?_
  refine l_iload_n C 0 dL_law_28 rfl ?_
  refine l_at C (by omega) (Nat.lt_of_le_of_lt hL (by decide)) dL_law_29 ?_
  refine l_bipush C (v := 63) dL_law_30 (by decide) ?_
  refine l_iand C dL_law_32 ?_
  exact law_sw C _ (next _ _ h) (law_case C E hL hi h next)
theorem law_loop (C : LAt V) (E : EA V W) (hL : LL V ≤ 3072) : ∀ (n i : Nat), LL V < i + n → i ≤ LL V → ∀ σ τ : St, RR σ τ → LJ V zL 18 (lvL V W i) [] (PL2 V W σ τ) := by
  intro n
  induction n with
  | zero => intro i h1 h2; omega
  | succ n ih =>
    intro i h1 h2 σ τ h
    refine l_iload_n C 0 dL_law_18 rfl ?_
    refine l_aload_n C 3 dL_law_19 rfl ?_
    refine l_len C dL_law_20 ?_
    refine l_bipush C (v := 6) dL_law_21 (by decide) ?_
    refine l_isub C dL_law_23 ?_
    refine l_gt C 1601 dL_law_24 (by decide) (fun _ => ?_) (fun hng => ?_)
    · refine l_iconst C (v := 1) dL_law_1601 (by decide) ?_
      exact l_ret C dL_law_1602
    · have hi : i + 6 ≤ LL V := Nat.not_lt.mp fun q => hng (lt6 hL h2 q)
      exact law_step C E hL hi h (fun σ' τ' hR => ih (i + 6) (by omega) hi σ' τ' hR)
set_option maxHeartbeats 4000000 in
theorem law_init (C : LAt V) (E : EA V W) (hL : LL V ≤ 3072) : LJ V (0, 0) 0 [(0, .ref (bL V))] [] (fun H => H = (sL V).heap) := by
  refine l_new C E.1 (ci := 10) (RC := RX10) (T := TX10) (N := 8) (fs := [.null, .null, .null, .null, .null, .null, .null, .int 0]) rfl in_X10 tyX10 tyX10_ok (List.mem_of_getElem? (i := 88) (by decide +kernel)) (List.mem_of_getElem? (i := 89) (by decide +kernel)) (List.mem_of_getElem? (i := 69) (by decide +kernel)) dflt_10 (fun H h => by rw [h]) (hp' := RepL (YC V W) [.inr (10, [.null, .null, .null, .null, .null, .null, .null, .int 0])]) (fun H H1 _ h1 _ => h1) ⟨Nat.le_of_ble_eq_true rfl, Nat.le_of_ble_eq_true rfl⟩ dL_law_0 ?_
  refine l_dup C dL_law_3 rfl ?_
  refine l_callI C E.1 (Nat.le_refl _) lk_L_9 ct_X10 rfl rfl rfl (rest := [Rf (YC V W) 0]) rfl (Nat.le_of_ble_eq_true rfl) dL_law_4 ⟨Nat.le_of_ble_eq_true rfl, Nat.le_of_ble_eq_true rfl⟩ (fun H h => h) (hp' := fun H => RepS FC (YC V W) st1C H ∧ H.size = (sL V).heap.size + 112) (fun H H1 _ h1 _ => h1) ?_
  refine l_astore_n C [(1, Rf (YC V W) 0), (0, .ref (bL V))] dL_law_7 rfl rfl ?_
  refine l_new C E.2 (ci := 11) (RC := RX11) (T := TX11) (N := 23) (fs := [.null, .null, .null, .int 0, .null, .null, .int 0, .int 0, .int 0, .int 0, .null, .int 0, .null, .null, .null, .int 0, .int 0, .int 0, .int 0, .null, .null, .null, .null]) rfl in_X11 tyX11 tyX11_ok (List.mem_of_getElem? (i := 1032) (by decide +kernel)) (List.mem_of_getElem? (i := 1033) (by decide +kernel)) (List.mem_of_getElem? (i := 81) (by decide +kernel)) dflt_11 (fun H h => h.2) (hp' := fun H => RepS FC (YC V W) st1C H ∧ RepL (YM V W) [.inr (11, [.null, .null, .null, .int 0, .null, .null, .int 0, .int 0, .int 0, .int 0, .null, .int 0, .null, .null, .null, .int 0, .int 0, .int 0, .int 0, .null, .null, .null, .null])] H) (fun H H1 h h1 q => ⟨h.1.keep (fun _ => False) (fun _ _ _ a => a) (fun a b _ => q a b), h1⟩) ⟨Nat.le_of_ble_eq_true rfl, Nat.le_of_ble_eq_true rfl⟩ dL_law_8 ?_
  refine l_dup C dL_law_11 rfl ?_
  refine l_callI C E.2 (Nat.le_add_right _ _) lk_L_12 ct_X11 rfl rfl rfl (rest := [Rf (YM V W) 0]) rfl (Nat.le_of_ble_eq_true rfl) dL_law_12 ⟨Nat.le_of_ble_eq_true rfl, Nat.le_of_ble_eq_true rfl⟩ (fun H h => h.2) (hp' := PL2 V W st1C st0M) (fun H H1 h h1 q => ⟨h.1.keep (AF FM (YM V W)) (fun a _ b e => by have := e.1; change a < (sL V).heap.size + 112 at b; change (sL V).heap.size + 112 ≤ a at this; omega) q, h1.1⟩) ?_
  refine l_astore_n C [(2, Rf (YM V W) 0), (1, Rf (YC V W) 0), (0, .ref (bL V))] dL_law_15 rfl rfl ?_
  refine l_iconst C (v := nI 0) dL_law_16 (by decide) ?_
  refine l_istore_n C (lvL V W 0) dL_law_17 rfl rfl ?_
  refine l_widen (z' := zL) ⟨Nat.le_of_ble_eq_true rfl, Nat.le_of_ble_eq_true rfl⟩ ?_
  exact law_loop C E hL (LL V + 1) 0 (by omega) (Nat.zero_le _) _ _ rr_start
end LLOOP
