/-! calls about sayings -/
def und (d o : Nat) : Bool := d == o || (o == 0) || (d == 4 && o == 1) || (d == 5 && o == 2) || (d == 6 && o == 3)
theorem le6 {d : Nat} (h : d ≤ 6) : d = 0 ∨ d = 1 ∨ d = 2 ∨ d = 3 ∨ d = 4 ∨ d = 5 ∨ d = 6 := by omega
theorem cUnder {d o : Nat} (hd : d ≤ 6) (ho : o ≤ 6) (σ : St) : f_X8_isUnder (nI d) (nI o) σ = some (bI (und d o), σ) := by
  rcases le6 hd with rfl | rfl | rfl | rfl | rfl | rfl | rfl <;> rcases le6 ho with rfl | rfl | rfl | rfl | rfl | rfl | rfl <;> rfl
theorem mUnder {d o : Nat} (hd : d ≤ 6) (ho : o ≤ 6) (σ : St) : f_X11_isUnder (nI d) (nI o) σ = some (bI (und d o), σ) := by
  rcases le6 hd with rfl | rfl | rfl | rfl | rfl | rfl | rfl <;> rcases le6 ho with rfl | rfl | rfl | rfl | rfl | rfl | rfl <;> rfl
theorem k_as {σ τ : St} (h : RR σ τ) (a b : Int32) : Agree (f_X10_as a b σ) (f_X11_as a b τ) := by
  obtain ⟨-, -, ⟨ns, nf, kn, kf, Y, F, K⟩, -⟩ := h.1
  obtain ⟨y8, Y3, Y10, -, -, -, -, -, Y9⟩ := Y
  have R10 : σ 10 1 = nI ns := Y10
  simp only [f_X10_as, f_X11_as, cHasY _ R10, mSay _ Y3 (by omega), within_ok, mwithin_ok, ob_some, ob_eta, if_bI]
  refine Agree.cond (fun hb => ?_) (fun _ => Agree.err h 1)
  refine Agree.cond (fun hc => ?_) (fun _ => Agree.err h 1)
  obtain ⟨j, hj, rfl⟩ := isIx_nI hb (by omega)
  obtain ⟨v, hv1, hv2, rfl⟩ := btw_nI 0 6 hc
  obtain ⟨q0, q1, q2, q3, q4, ⟨d, hd, qd⟩, -⟩ := Y9 j hj
  have j8 : j < 8 := by omega
  have q0 : σ 11 j = τ 1 (41 + 5 * j) := q0
  have q1 : σ 13 j = τ 1 (42 + 5 * j) := q1
  rw [get10 σ j8, sayIs0 τ j8, ob_some, ob_some]
  dsimp only
  rw [q0, qd, cUnder hd hv2, mUnder hd hv2, ob_some, ob_some]
  simp only [if_bI]
  refine Agree.cond (fun _ => ?_) (fun _ => Agree.err h 5)
  rw [get12 σ j8, sayIs1 τ j8]
  exact Agree.of' q1 h
theorem km_ok {a : Int32} (h : btw a 0 69 = true) : ∃ d m, d ≤ 6 ∧ m ≤ 9 ∧ a / 10 = nI d ∧ irm a 10 = nI m := by
  obtain ⟨v, hv1, hv2, rfl⟩ := btw_nI 0 69 h
  refine ⟨v / 10, v % 10, by omega, by omega, pk_div (d := 10) (by omega) (by omega) (by omega), ?_⟩
  exact pk_rem (d := 10) (by omega) (by omega) (by omega)
theorem k_call {σ τ : St} (h : RR σ τ) (a b c : Int32) : Agree (f_X10_call a b c σ) (f_X11_call a b c τ) := by
  have hV := h.1
  obtain ⟨⟨w, hh, A1, A2, A3, A4, A5, A6, A7, A8, A9⟩, -, ⟨ns, nf, kn, kf, ⟨Y1, Y2, Y3, Y4, Y5, Y6, Y7, Y8, Y9⟩, F, K1, K2, K3⟩, -⟩ := h.1
  have R10 : σ 10 1 = nI ns := Y3
  have R12 : σ 12 1 = nI ns := Y4
  have R14 : σ 14 1 = nI ns := Y5
  have R16 : σ 16 1 = nI ns := Y6
  have R18 : σ 18 1 = nI ns := Y7
  have R20 : σ 20 1 = nI ns := Y8
  have f6 : nf ≤ 6 := F.1
  simp only [f_X10_call, f_X11_call, cKind, mKind, cWell _ A4 (by omega), mWell _ A5 (by omega), within_ok, mStrong, ob_some, ob_eta, if_bI, cSizY R10, Y2]
  refine Agree.cond (fun hk => ?_) (fun _ => Agree.err h 1)
  refine Agree.cond (fun _ => ?_) (fun _ => Agree.err h 1)
  refine Agree.cond (fun hg => ?_) (fun _ => Agree.err h 1)
  by_cases h8 : ns = 8
  · subst h8
    rw [if_neg (by decide), if_pos (by decide)]
    exact Agree.err h 4
  · have hn : ns < 8 := by omega
    obtain ⟨d, m, hd, hm, ed, em⟩ := km_ok hk
    obtain ⟨g, hg1, hg2, rfl⟩ := btw_nI 0 99 hg
    have ec : f_X4_add (a / 10) (irm a 10) b (nI g) σ = some (up (up (up (up (up (up (up (up (up (up (up (up σ 11 ns (nI d)) 10 1 (nI (ns + 1))) 13 ns (nI m)) 12 1 (nI (ns + 1))) 15 ns b) 14 1 (nI (ns + 1))) 17 ns (nI g)) 16 1 (nI (ns + 1))) 19 ns 0) 18 1 (nI (ns + 1))) 21 ns 0) 20 1 (nI (ns + 1))) := by
      rw [f_X4_add, ed, em, add10 _ σ R10 hn, ob_some, add12 _ _ (by simp (disch := omega) only [up_o]; exact R12) hn, ob_some, add14 _ _ (by simp (disch := omega) only [up_o]; exact R14) hn, ob_some,
        add16 _ _ (by simp (disch := omega) only [up_o]; exact R16) hn, ob_some, add18 _ _ (by simp (disch := omega) only [up_o]; exact R18) hn, ob_some, add20 _ _ (by simp (disch := omega) only [up_o]; exact R20) hn, ob_some]
    have er : f_X11_sayingComes a b (nI g) τ = some (nI ns, up (up (up (up (up (up τ 1 (41 + 5 * ns) (nI d)) 1 (42 + 5 * ns) (nI m)) 1 (43 + 5 * ns) b) 1 (44 + 5 * ns) (nI g)) 1 (45 + 5 * ns) 0) 1 3 (nI (ns + 1))) := by
      simp (disch := omega) only [f_X11_sayingComes, ed, em, Y2, sayAt0, sayAt1, sayAt2, sayAt3, sayAt4, ob_some, bst_ok, if_in, clampN, up_o, nI_1]
    rw [if_pos (show nI ns < 8 from nI_lt hn (by decide)), if_neg (show ¬ nI ns = 8 from fun x => h8 ((nI_eq (b := 8) (by omega) (by decide)).mp x)), ec, er, ob_some, f_X4_size, size_ok, ob_some, ob_some]
    refine Agree.of' ?_ (h.now (fun q j e => ?_) (fun q j e => ?_) (hV.newY (fun q j e => ?_) (fun i e => ?_) ⟨ns + 1, nf, fun s => if s = ns then 0 else kn s, kf, ⟨hn, ?_, ?_, ?_, ?_, ?_, ?_, ?_, fun i hi => ?_⟩, F.congr (fun q j a b => ?_) ⟨?_, fun i a => ⟨?_, ?_⟩⟩, fun s hs => ?_, fun f hf => ?_, fun s f a b => ?_⟩))
    · simp (disch := omega) only [up_o, up_e]
      exact nI_pred ns
    · unfold nowC at e
      simp (disch := omega) only [up_o]
    · unfold nowM at e
      simp (disch := omega) only [up_o]
    · unfold fpY at e
      simp (disch := omega) only [up_o]
    · unfold nfY at e
      simp (disch := omega) only [up_o]
    · simp (disch := omega) only [up_o, up_e]
    · unfold rowN
      simp (disch := omega) only [up_o, up_e]
    · unfold rowN
      simp (disch := omega) only [up_o, up_e]
    · unfold rowN
      simp (disch := omega) only [up_o, up_e]
    · unfold rowN
      simp (disch := omega) only [up_o, up_e]
    · unfold rowN
      simp (disch := omega) only [up_o, up_e]
    · unfold rowN
      simp (disch := omega) only [up_o, up_e]
    · by_cases hin : i < ns
      · simp (disch := omega) only [up_o]
        exact Y9 i hin
      · have : i = ns := by omega
        subst this
        simp (disch := omega) only [up_o, up_e]
        exact ⟨trivial, trivial, trivial, trivial, trivial, ⟨d, hd, rfl⟩, ⟨m, hm, rfl⟩, g, hg2, rfl⟩
    · simp (disch := omega) only [up_o]
    · simp (disch := omega) only [up_o]
    · simp (disch := omega) only [up_o]
    · simp (disch := omega) only [up_o]
    · dsimp only
      by_cases hin : s < ns
      · rw [if_neg (by omega)]
        simp (disch := omega) only [up_o]
        exact K1 s hin
      · have : s = ns := by omega
        subst this
        rw [if_pos rfl]
        simp (disch := omega) only [up_o, up_e]
        exact ⟨Nat.two_pow_pos nf, rfl⟩
    · simp (disch := omega) only [up_o]
      exact ⟨Nat.lt_of_lt_of_le (K2 f hf).1 (Nat.pow_le_pow_right (by decide) (by omega)), (K2 f hf).2⟩
    · dsimp only
      by_cases hin : s < ns
      · rw [if_neg (by omega)]
        exact K3 s f hin b
      · have : s = ns := by omega
        subst this
        rw [if_pos rfl, tb_ge (K2 f b).1 (Nat.le_refl _), Nat.zero_testBit]
theorem k_become {σ τ : St} (h : RR σ τ) (a b : Int32) : Agree (f_X10_become a b σ) (f_X11_become a b τ) := by
  have hV := h.1
  obtain ⟨-, -, ⟨ns, nf, kn, kf, ⟨Y1, Y2, Y3, Y4, Y5, Y6, Y7, Y8, Y9⟩, F, K⟩, -⟩ := h.1
  have R10 : σ 10 1 = nI ns := Y3
  have f6 : nf ≤ 6 := F.1
  simp only [f_X10_become, f_X11_become, cHasY _ R10, mSay _ Y2 (by omega), cKind, mKind, ob_some, ob_eta, if_bI]
  refine Agree.cond (fun hb => ?_) (fun _ => Agree.err h 1)
  refine Agree.cond (fun hc => ?_) (fun _ => Agree.err h 1)
  obtain ⟨j, hj, rfl⟩ := isIx_nI hb (by omega)
  obtain ⟨d, m, hd, hm, ed, em⟩ := km_ok hc
  have j8 : j < 8 := by omega
  have q := Y9 j hj
  rw [get10 σ j8, ob_some, ed, em]
  dsimp only
  rw [set10 _ _ j8, ob_some, set12 _ _ j8, ob_some, sayAt1, ob_some]
  dsimp only
  rw [if_in (by omega), bst_ok, sayAt0, ob_some, clampN (by omega)]
  dsimp only
  rw [turn_ok _ _ (by omega), up_o (by omega)]
  refine Agree.of' q.1 (h.now (fun q j e => ?_) (fun q j e => ?_) (hV.newY (fun q j e => ?_) (fun i e => ?_) ⟨ns, nf, kn, kf, ⟨Y1, ?_, Y3, Y4, Y5, Y6, Y7, Y8, fun i hi => ?_⟩, F.congr (fun q j a b => ?_) ⟨?_, fun i a => ⟨?_, ?_⟩⟩, K.congr (fun j => ?_) (fun f hf => ?_)⟩))
  · unfold nowC at e
    simp (disch := omega) only [up_o]
  · unfold nowM at e
    simp (disch := omega) only [up_o]
  · unfold fpY at e
    simp (disch := omega) only [up_o]
  · unfold nfY at e
    simp (disch := omega) only [up_o]
  · simp (disch := omega) only [up_o]
    exact Y2
  · by_cases hij : i = j
    · subst hij
      simp (disch := omega) only [up_o, up_e]
      exact ⟨trivial, trivial, q.2.2.1, q.2.2.2.1, q.2.2.2.2.1, ⟨d, hd, rfl⟩, ⟨m, hm, rfl⟩, q.2.2.2.2.2.2.2⟩
    · simp (disch := omega) only [up_o]
      exact Y9 i hi
  · simp (disch := omega) only [up_o]
  · simp (disch := omega) only [up_o]
  · simp (disch := omega) only [up_o]
  · simp (disch := omega) only [up_o]
  · simp (disch := omega) only [up_o]
  · simp (disch := omega) only [up_o]
theorem k_change {σ τ : St} (h : RR σ τ) (a b c : Int32) : Agree (f_X10_change a b c σ) (f_X11_change a b c τ) := by
  have hV := h.1
  obtain ⟨⟨w, hh, A1, A2, A3, A4, A5, A6, A7, A8, A9⟩, -, ⟨ns, nf, kn, kf, ⟨Y1, Y2, Y3, Y4, Y5, Y6, Y7, Y8, Y9⟩, F, K⟩, -⟩ := h.1
  have R10 : σ 10 1 = nI ns := Y3
  have f6 : nf ≤ 6 := F.1
  have err := Agree.err h 1 (k := -1000000001)
  have err' : Agree (f_X10_error 1 σ) (f_X11_finding (-1000000001) τ) := err
  simp only [f_X10_change, f_X11_change, f_X10_change_L90, f_X11_change_L29, cHasY _ R10, mSay _ Y2 (by omega), cWell _ A4 (by omega), mWell _ A5 (by omega), within_ok, mStrong, ob_some, ob_eta, if_bI]
  cases hb : isIx a ns
  · dsimp only [cond]
    by_cases b0 : b = 0
    · rw [if_pos b0]; exact err'
    · rw [if_neg b0]
      by_cases b1 : b = 1
      · rw [if_pos b1]; cases btw c 0 99 <;> exact err'
      · rw [if_neg b1]; exact err'
  · dsimp only [cond]
    obtain ⟨j, hj, rfl⟩ := isIx_nI hb (by omega)
    have j8 : j < 8 := by omega
    have q := Y9 j hj
    by_cases b0 : b = 0
    · subst b0
      rw [show btw 0 0 1 = true by decide]
      simp only [if_true]
      cases hc : isIx c w
      · exact err'
      · dsimp only
        rw [get14 σ j8, ob_some]
        dsimp only
        rw [set14 _ _ j8, ob_some, show (0 : Int32) = nI 0 from rfl, set18 _ _ j8, ob_some, n0, sayAt4, ob_some]
        dsimp only
        rw [if_in (by omega), bst_ok, sayAt2, ob_some, clampN (by omega)]
        dsimp only
        rw [turn_ok _ _ (by omega), up_o (by omega)]
        refine Agree.of' q.2.2.1 (h.now (fun q j e => ?_) (fun q j e => ?_) (hV.newY (fun q j e => ?_) (fun i e => ?_) ⟨ns, nf, kn, kf, ⟨Y1, ?_, Y3, Y4, Y5, Y6, Y7, Y8, fun i hi => ?_⟩, F.congr (fun q j a b => ?_) ⟨?_, fun i a => ⟨?_, ?_⟩⟩, K.congr (fun j => ?_) (fun f hf => ?_)⟩))
        · unfold nowC at e
          simp (disch := omega) only [up_o]
        · unfold nowM at e
          simp (disch := omega) only [up_o]
        · unfold fpY at e
          simp (disch := omega) only [up_o]
        · unfold nfY at e
          simp (disch := omega) only [up_o]
        · simp (disch := omega) only [up_o]
          exact Y2
        · by_cases hij : i = j
          · subst hij
            simp (disch := omega) only [up_o, up_e]
            exact ⟨q.1, q.2.1, trivial, q.2.2.2.1, trivial, q.2.2.2.2.2⟩
          · simp (disch := omega) only [up_o]
            exact Y9 i hi
        · simp (disch := omega) only [up_o]
        · simp (disch := omega) only [up_o]
        · simp (disch := omega) only [up_o]
        · simp (disch := omega) only [up_o]
        · simp (disch := omega) only [up_o]
        · simp (disch := omega) only [up_o]
    · simp only [if_neg b0]
      by_cases b1 : b = 1
      · subst b1
        rw [show btw 1 0 1 = true by decide, if_pos rfl]
        cases hc : btw c 0 99
        · exact err'
        · obtain ⟨g, hg1, hg2, rfl⟩ := btw_nI 0 99 hc
          dsimp only
          rw [get16 σ j8, ob_some]
          dsimp only
          rw [set16 _ _ j8, ob_some, sayAt4, ob_some, if_neg (by decide)]
          dsimp only
          rw [sayIs4 _ j8, ob_some, if_in (by omega), bst_ok, sayAt3, ob_some, clampN (by omega)]
          dsimp only
          rw [turn_ok _ _ (by omega), up_o (by omega)]
          refine Agree.of' q.2.2.2.1 (h.now (fun q j e => ?_) (fun q j e => ?_) (hV.newY (fun q j e => ?_) (fun i e => ?_) ⟨ns, nf, kn, kf, ⟨Y1, ?_, Y3, Y4, Y5, Y6, Y7, Y8, fun i hi => ?_⟩, F.congr (fun q j a b => ?_) ⟨?_, fun i a => ⟨?_, ?_⟩⟩, K.congr (fun j => ?_) (fun f hf => ?_)⟩))
          · unfold nowC at e
            simp (disch := omega) only [up_o]
          · unfold nowM at e
            simp (disch := omega) only [up_o]
          · unfold fpY at e
            simp (disch := omega) only [up_o]
          · unfold nfY at e
            simp (disch := omega) only [up_o]
          · simp (disch := omega) only [up_o]
            exact Y2
          · by_cases hij : i = j
            · subst hij
              simp (disch := omega) only [up_o, up_e]
              exact ⟨q.1, q.2.1, q.2.2.1, trivial, q.2.2.2.2.1, q.2.2.2.2.2.1, q.2.2.2.2.2.2.1, g, hg2, rfl⟩
            · simp (disch := omega) only [up_o]
              exact Y9 i hi
          · simp (disch := omega) only [up_o]
          · simp (disch := omega) only [up_o]
          · simp (disch := omega) only [up_o]
          · simp (disch := omega) only [up_o]
          · simp (disch := omega) only [up_o]
          · simp (disch := omega) only [up_o]
      · have hf : btw b 0 1 = false := by
          apply bnot
          intro hc
          obtain ⟨v, hv1, hv2, rfl⟩ := btw_nI 0 1 hc
          have hv : v = 0 ∨ v = 1 := by omega
          rcases hv with e | e
          · subst e; exact b0 rfl
          · subst e; exact b1 rfl
        rw [if_neg b1, hf, if_pos trivial]
        exact err'
