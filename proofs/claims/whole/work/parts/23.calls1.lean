/-! calls about wells, ways, rain, draws' number -/
theorem n0 : nI 0 = 0 := rfl
theorem n1 : nI 1 = 1 := rfl
theorem n2 : nI 2 = 2 := rfl
theorem n3 : nI 3 = 3 := rfl
theorem n4 : nI 4 = 4 := rfl
theorem n5 : nI 5 = 5 := rfl
theorem n6 : nI 6 = 6 := rfl
theorem n7 : nI 7 = 7 := rfl
theorem n8 : nI 8 = 8 := rfl
theorem n9 : nI 9 = 9 := rfl
theorem up_o {σ : St} {k j q i : Nat} {v : Int32} (h : q ≠ k ∨ i ≠ j) : up σ k j v q i = σ q i := by
  rw [up_ap, if_neg]
  rintro ⟨h1, h2⟩
  exact h.elim (fun x => x h1) (fun x => x h2)
theorem up_e {σ : St} {k j q i : Nat} {v : Int32} (h1 : q = k) (h2 : i = j) : up σ k j v q i = v := by
  rw [up_ap, if_pos ⟨h1, h2⟩]
theorem nI_z {n : Nat} (h : n < 2147483648) : nI n = 0 ↔ n = 0 := nI_eq (b := 0) h (by decide)
theorem nI_le0 {n : Nat} (h : n < 2147483648) : nI n ≤ 0 ↔ n = 0 := by
  rw [show (0 : Int32) = nI 0 from rfl, nI_leI h (by decide)]
  omega
theorem nI_lt0 {n : Nat} (h : n < 2147483648) : 0 < nI n ↔ 0 < n := nI_ltI (a := 0) (by decide) h
theorem k_wells {σ τ : St} (h : RR σ τ) (a : Int32) : Agree (f_X10_wells a σ) (f_X11_wells a τ) := by
  have hV := h.1
  obtain ⟨⟨w, hh, A1, A2, A3, A4, A5, A6, A7, A8, A9⟩, ⟨nw, sp, W⟩, ⟨ns, nf, kn, kf, Y, F, K⟩, -⟩ := h.1
  have W3 : σ 3 1 = nI nw := W.2.2.2.1
  have Y10 : σ 10 1 = nI ns := Y.2.2.1
  have F23 : σ 23 1 = nI nf := F.2.2.1
  have W2 : τ 1 2 = nI nw := W.2.2.1
  have Y3 : τ 1 3 = nI ns := Y.2.1
  have F4 : τ 1 4 = nI nf := F.2.1
  have w8 : nw ≤ 8 := W.1
  have s8 : ns ≤ 8 := Y.1
  have f6 : nf ≤ 6 := F.1
  simp only [f_X10_wells, f_X11_wells, within_ok, mwithin_ok, ob_some, ob_eta, bst_ok, if_bI, cSizW W3, cSizY Y10, cSizF F23, W2, Y3, F4, nI_add]
  refine Agree.cond (fun hb => ?_) (fun _ => Agree.err h 1)
  have e0 : nI (nw + ns + nf) ≤ 0 ↔ nw + ns + nf = 0 := nI_le0 (by omega)
  have e1 : 0 < nI nw ↔ 0 < nw := nI_lt0 (by omega)
  have e2 : 0 < nI ns ↔ 0 < ns := nI_lt0 (by omega)
  have e3 : nI nf ≤ 0 ↔ nf = 0 := nI_le0 (by omega)
  by_cases hz : nw + ns + nf = 0
  · rw [if_pos (e0.mpr hz), if_neg (by rw [e1]; omega), if_neg (by rw [e2]; omega), if_pos (by rw [e3]; omega), show (1 : Int32) = nI 1 from rfl, turn_ok a τ (by decide)]
    obtain ⟨v, hv1, hv2, rfl⟩ := btw_nI 2 8 hb
    refine Agree.of' (by rw [A4, A5]) (h.now (same_up (by unfold nowC; omega)) (same_up (by unfold nowM; omega)) (hV.newA (fun q j e => ?_) (fun i e => ?_) ⟨v, hh, hv1, hv2, A3, rfl, rfl, A6, A7, A8, A9⟩))
    · unfold fpA at e
      exact up_o (by omega)
    · unfold nfA at e
      exact up_o (by omega)
  · rw [if_neg (fun x => hz (e0.mp x))]
    by_cases h1 : 0 < nw
    · rw [if_pos (e1.mpr h1)]; exact Agree.err h 3
    · rw [if_neg (fun x => h1 (e1.mp x))]
      by_cases h2 : 0 < ns
      · rw [if_pos (e2.mpr h2)]; exact Agree.err h 3
      · rw [if_neg (fun x => h2 (e2.mp x)), if_neg (by rw [e3]; omega)]; exact Agree.err h 3
theorem cAddW {σ : St} {n : Nat} (a b c : Int32) (h3 : σ 3 1 = nI n) (h5 : σ 5 1 = nI n) (h7 : σ 7 1 = nI n) (hn : n < 8) :
    f_X9_add a b c σ = some (up (up (up (up (up (up σ 4 n a) 3 1 (nI (n + 1))) 6 n b) 5 1 (nI (n + 1))) 8 n c) 7 1 (nI (n + 1))) := by
  rw [f_X9_add, add3 a σ h3 hn, ob_some, add5 b _ (by simp (disch := omega) only [up_o]; exact h5) hn, ob_some, add7 c _ (by simp (disch := omega) only [up_o]; exact h7) hn, ob_some]
theorem mWayComes {τ : St} {n : Nat} (a b c : Int32) (h2 : τ 1 2 = nI n) (hn : n < 8) :
    f_X11_wayComes a b c τ = some (nI n, up (up (up (up (up τ 1 (9 + 4 * n) a) 1 (10 + 4 * n) b) 1 (11 + 4 * n) c) 1 (12 + 4 * n) 0) 1 2 (nI (n + 1))) := by
  simp (disch := omega) only [f_X11_wayComes, h2, wayAt0, wayAt1, wayAt2, wayAt3, ob_some, bst_ok, if_in, clampN, up_o, nI_1]
theorem k_way {σ τ : St} (h : RR σ τ) (a b c : Int32) : Agree (f_X10_way a b c σ) (f_X11_way a b c τ) := by
  have hV := h.1
  obtain ⟨⟨w, hh, A1, A2, A3, A4, A5, A6, A7, A8, A9⟩, ⟨nw, sp, W1, W2, W3, W4, W5, W6, W7, W8⟩, -⟩ := h.1
  have R3 : σ 3 1 = nI nw := W4
  have R5 : σ 5 1 = nI nw := W5
  have R7 : σ 7 1 = nI nw := W6
  simp only [f_X10_way, f_X11_way, cWell _ A4 (by omega), mWell _ A5 (by omega), within_ok, mwithin_ok, ob_some, ob_eta, if_bI, cSizW R3, W3]
  refine Agree.cond (fun _ => ?_) (fun _ => Agree.err h 1)
  refine Agree.cond (fun _ => ?_) (fun _ => Agree.err h 1)
  refine Agree.ite (fun _ => Agree.err h 1) (fun _ => ?_)
  refine Agree.cond (fun _ => ?_) (fun _ => Agree.err h 1)
  by_cases h8 : nw = 8
  · subst h8
    rw [if_neg (by decide), if_pos (by decide)]
    exact Agree.err h 4
  · have hn : nw < 8 := by omega
    rw [if_pos (show nI nw < 8 from nI_lt hn (by decide)), if_neg (show ¬ nI nw = 8 from fun x => h8 ((nI_eq (b := 8) (by omega) (by decide)).mp x)), cAddW a b c R3 R5 R7 hn, mWayComes a b c W3 hn, ob_some, f_X9_size, size_ok, ob_some, ob_some]
    refine Agree.of' ?_ (h.now (fun q j e => ?_) (fun q j e => ?_) (hV.newW (fun q j e => ?_) (fun i e => ?_) ⟨nw + 1, sp, hn, ?_, ?_, ?_, ?_, ?_, ?_, fun i hi => ?_⟩))
    · simp (disch := omega) only [up_o, up_e]
      exact nI_pred nw
    · unfold nowC at e
      simp (disch := omega) only [up_o]
    · unfold nowM at e
      simp (disch := omega) only [up_o]
    · unfold fpW at e
      simp (disch := omega) only [up_o]
    · unfold nfW at e
      simp (disch := omega) only [up_o]
    · exact Nat.lt_of_lt_of_le W2 (Nat.pow_le_pow_right (by decide) (by omega))
    · simp (disch := omega) only [up_o, up_e]
    · unfold rowN
      simp (disch := omega) only [up_o, up_e]
    · unfold rowN
      simp (disch := omega) only [up_o, up_e]
    · unfold rowN
      simp (disch := omega) only [up_o, up_e]
    · simp (disch := omega) only [up_o]
      exact W7
    · by_cases hin : i < nw
      · simp (disch := omega) only [up_o]
        exact W8 i hin
      · have : i = nw := by omega
        subst this
        simp (disch := omega) only [up_o, up_e]
        rw [tb_ge W2 (Nat.le_refl _)]
        exact ⟨trivial, trivial, trivial, rfl⟩
theorem k_ofWay {σ τ : St} (h : RR σ τ) (a b : Int32) : Agree (f_X10_ofWay a b σ) (f_X11_ofWay a b τ) := by
  obtain ⟨-, ⟨nw, sp, W1, W2, W3, W4, W5, W6, W7, W8⟩, -⟩ := h.1
  have R3 : σ 3 1 = nI nw := W4
  have R2 : σ 2 3 = nI sp := W7
  simp only [f_X10_ofWay, f_X11_ofWay, cHasW _ R3, mWay _ W3 (by omega), mwithin_ok, ob_some, ob_eta, if_bI]
  refine Agree.cond (fun hb => ?_) (fun _ => Agree.err h 1)
  obtain ⟨j, hj, rfl⟩ := isIx_nI hb (by omega)
  obtain ⟨q1, q2, q3, q4⟩ := W8 j hj
  have q1 : σ 4 j = τ 1 (9 + 4 * j) := q1
  have q2 : σ 6 j = τ 1 (10 + 4 * j) := q2
  have q3 : σ 8 j = τ 1 (11 + 4 * j) := q3
  have j8 : j < 8 := by omega
  cases hc : btw b 0 3
  · rw [if_neg (by rintro rfl; exact absurd hc (by decide)), if_neg (by rintro rfl; exact absurd hc (by decide)), if_neg (by rintro rfl; exact absurd hc (by decide)), if_neg (by rintro rfl; exact absurd hc (by decide))]
    exact Agree.err h 1
  · obtain ⟨v, hv1, hv2, rfl⟩ := btw_nI 0 3 hc
    have : v = 0 ∨ v = 1 ∨ v = 2 ∨ v = 3 := by omega
    rcases this with rfl | rfl | rfl | rfl
    · rw [n0, if_pos rfl, get3 σ j8]
      show Agree _ (f_X11_wayIs (nI j) 0 τ)
      rw [wayIs0 τ j8]
      exact Agree.of' q1 h
    · rw [n1, if_neg (by decide), if_pos rfl, get5 σ j8]
      show Agree _ (f_X11_wayIs (nI j) 1 τ)
      rw [wayIs1 τ j8]
      exact Agree.of' q2 h
    · rw [n2, if_neg (by decide), if_neg (by decide), if_pos rfl, get7 σ j8]
      show Agree _ (f_X11_wayIs (nI j) 2 τ)
      rw [wayIs2 τ j8]
      exact Agree.of' q3 h
    · rw [n3, if_neg (by decide), if_neg (by decide), if_neg (by decide), if_pos rfl, R2, inSet_ok (lt_256 W2 W1) j8]
      show Agree _ (f_X11_wayIs (nI j) 3 τ)
      rw [wayIs3 τ j8]
      exact Agree.of' q4.symm h
theorem k_stop {σ τ : St} (h : RR σ τ) (a b : Int32) : Agree (f_X10_stop a b σ) (f_X11_stop a b τ) := by
  have hV := h.1
  obtain ⟨-, ⟨nw, sp, W1, W2, W3, W4, W5, W6, W7, W8⟩, -⟩ := h.1
  have R3 : σ 3 1 = nI nw := W4
  have R2 : σ 2 3 = nI sp := W7
  have s8 : sp < 256 := lt_256 W2 W1
  simp only [f_X10_stop, f_X11_stop, cHasW _ R3, mWay _ W3 (by omega), within_ok, mwithin_ok, ob_some, ob_eta, if_bI, bst_ok, R2]
  refine Agree.cond (fun hb => ?_) (fun _ => Agree.err h 1)
  refine Agree.cond (fun hc => ?_) (fun _ => Agree.err h 1)
  obtain ⟨j, hj, rfl⟩ := isIx_nI hb (by omega)
  have j8 : j < 8 := by omega
  obtain ⟨q1, q2, q3, q4⟩ := W8 j hj
  rw [inSet_ok s8 j8, ob_some, wayAt3, ob_some, turn_ok b τ (by omega)]
  dsimp only
  rw [R2]
  have main : ∀ t : Bool, b = nI t.toNat → Agree (some (nI (sp.testBit j).toNat, up σ 2 3 (nI (wm sp j t)))) (some (τ 1 (12 + 4 * j), up τ 1 (12 + 4 * j) b)) := by
    intro t ht
    refine Agree.of' q4.symm (h.now (fun q j e => ?_) (fun q j e => ?_) (hV.newW (fun q j e => ?_) (fun i e => ?_) ⟨nw, wm sp j t, W1, wm_pw W2 W1 hj, (up_o (by omega)).trans W3, W4, W5, W6, rfl, fun i hi => ?_⟩))
    · unfold nowC at e
      simp (disch := omega) only [up_o]
    · unfold nowM at e
      simp (disch := omega) only [up_o]
    · unfold fpW at e
      simp (disch := omega) only [up_o]
    · unfold nfW at e
      simp (disch := omega) only [up_o]
    · rw [wm_bit s8 j8 (by omega)]
      by_cases hij : i = j
      · subst hij
        simp (disch := omega) only [up_o, up_e]
        exact ⟨q1, q2, q3, by rw [if_pos trivial]; exact ht⟩
      · rw [if_neg hij]
        simp (disch := omega) only [up_o]
        exact W8 i hi
  obtain ⟨v, hv1, hv2, rfl⟩ := btw_nI 0 1 hc
  have : v = 0 ∨ v = 1 := by omega
  rcases this with rfl | rfl
  · rw [if_neg (by decide), with_ok (b := false) (v := 0) s8 j8 (by decide), ob_some]
    exact main false rfl
  · rw [n1, if_pos rfl, with_ok (b := true) (v := 1) s8 j8 (by decide), ob_some]
    exact main true rfl
theorem k_rain {σ τ : St} (h : RR σ τ) (a : Int32) : Agree (f_X10_rain a σ) (f_X11_rain a τ) := by
  have hV := h.1
  obtain ⟨⟨w, hh, A1, A2, A3, A4, A5, A6, A7, A8, A9⟩, -⟩ := h.1
  simp only [f_X10_rain, f_X11_rain, within_ok, mwithin_ok, ob_some, ob_eta, if_bI, bst_ok]
  refine Agree.cond (fun _ => ?_) (fun _ => Agree.err h 1)
  rw [show (5 : Int32) = nI 5 from rfl, turn_ok a τ (by decide)]
  refine Agree.of' A8 (h.now (same_up (by unfold nowC; omega)) (same_up (by unfold nowM; omega)) (hV.newA (fun q j e => ?_) (fun i e => ?_) ⟨w, hh, A1, A2, A3, A4, A5, A6, A7, rfl, A9⟩))
  · unfold fpA at e
    exact up_o (by omega)
  · unfold nfA at e
    exact up_o (by omega)
theorem k_seed {σ τ : St} (h : RR σ τ) (a : Int32) : Agree (f_X10_seed a σ) (f_X11_seed a τ) := by
  have hV := h.1
  obtain ⟨⟨w, hh, A1, A2, A3, A4, A5, A6, A7, A8, A9⟩, -⟩ := h.1
  simp only [f_X10_seed, f_X11_seed, ob_eta, bst_ok]
  rw [show (6 : Int32) = nI 6 from rfl, turn_ok a τ (by decide)]
  refine Agree.of' A9 (h.now (same_up (by unfold nowC; omega)) (same_up (by unfold nowM; omega)) (hV.newA (fun q j e => ?_) (fun i e => ?_) ⟨w, hh, A1, A2, A3, A4, A5, A6, A7, A8, rfl⟩))
  · unfold fpA at e
    exact up_o (by omega)
  · unfold nfA at e
    exact up_o (by omega)
theorem k_told {σ τ : St} (h : RR σ τ) (a : Int32) : Agree (f_X10_told a σ) (f_X11_told a τ) := by
  simp only [f_X10_told, f_X11_told, within_ok, mwithin_ok, ob_some, ob_eta, if_bI]
  refine Agree.cond (fun hb => ?_) (fun _ => Agree.err h 1)
  obtain ⟨v, hv1, hv2, rfl⟩ := btw_nI 1 5 hb
  rw [get98 σ (by omega), if_pos (show inb (nI v) (shM 4 - 100) = true from nI_inb (show v < 6 by omega) (by decide)), clampN (by omega)]
  exact Agree.of' (h.2.2.2.1 v hv1 hv2) h
theorem k_trace {σ τ : St} (h : RR σ τ) (a : Int32) : Agree (f_X10_trace a σ) (f_X11_trace a τ) := by
  obtain ⟨n, n4, n1, n2, n3⟩ := h.2.2.2.2.2.1
  simp only [f_X10_trace, f_X11_trace, has_ok 93 a σ n2, n1, mwithin_ok, btw_ix a (show n < 2 ^ 30 by omega), ob_some, ob_eta, if_bI]
  refine Agree.cond (fun hb => ?_) (fun _ => Agree.err h 2)
  obtain ⟨j, hj, rfl⟩ := isIx_nI hb (by omega)
  rw [get93 σ (by omega), if_pos (show inb (nI j) (shM 9 - 100) = true from nI_inb (show j < 40 by omega) (by decide)), clampN (by omega)]
  exact Agree.of' (n3 j hj) h
