/-! hours that pass; what is asked of a saying -/
theorem thoughtR {σ : St} {s : Nat} (s8 : s < 8) : ∃ σ', f_X7_thought (nI s) σ = some (41, σ') ∧ same (fun q _ => q = 41) σ σ' ∧ σ' 41 0 = σ 11 s ∧ σ' 41 1 = σ 13 s ∧ σ' 41 2 = σ 15 s ∧ σ' 41 3 = σ 17 s ∧ σ' 41 4 = σ 19 s ∧ σ' 41 5 = σ 21 s := by
  have e : f_X4_load (nI s) 41 σ = some (up (up (up (up (up (up σ 41 0 (σ 11 s)) 41 1 (σ 13 s)) 41 2 (σ 15 s)) 41 3 (σ 17 s)) 41 4 (σ 19 s)) 41 5 (σ 21 s)) := by
    rw [f_X4_load, get10 σ s8, ob_some, bst_ok]
    dsimp only
    rw [get12 _ s8, ob_some, bst_ok]
    dsimp only
    rw [get14 _ s8, ob_some, bst_ok]
    dsimp only
    rw [get16 _ s8, ob_some, bst_ok]
    dsimp only
    rw [get18 _ s8, ob_some, bst_ok]
    dsimp only
    rw [get20 _ s8, ob_some, bst_ok]
    dsimp only
    simp (disch := omega) only [up_o]
  rw [f_X7_thought, e, ob_some]
  refine ⟨_, rfl, fun q j hq => ?_, ?_, ?_, ?_, ?_, ?_, ?_⟩
  · have hq : ¬ q = 41 := hq
    simp (disch := omega) only [up_o]
  all_goals simp (disch := omega) only [up_o, up_e]
def fpP (q j : Nat) : Prop := fpH q j ∨ q = 41 ∨ q = 15 ∨ q = 17 ∨ q = 19 ∨ q = 21 ∨ (q = 1 ∧ j = 2)
section PASS
variable {nw ns nf l0 l1 sp w : Nat} {g0 g1 : Nat → Int32} {kn kf km : Nat → Nat}
theorem cPassHour {σ : St} {N M : Nat → Int32} (T : TK σ N w nw sp ns nf l0 l1 g0 g1 kn kf) (r : HR nw ns nf l0 l1 g0 g1 N M kf km) :
    ∃ σ', f_X7_passHour σ = some σ' ∧ same fpP σ σ' ∧ σ' 1 2 = N 0 + 1 ∧ ∀ s, s < ns → σ' 15 s = M (43 + 5 * s) ∧ σ' 17 s = M (44 + 5 * s) ∧ σ' 19 s = M (45 + 5 * s) ∧ σ' 21 s = nI (kst nf km s) := by
  obtain ⟨⟨a0, a0', a1, a2, a3, a4⟩, Y, F, K, C, ek⟩ := T
  have y8 : ns ≤ 8 := Y.1
  have R10 : σ 10 1 = nI ns := Y.2.2.1
  have L : ∀ f i (σ1 : St), i ≤ ns → ns - i < f → (∀ q j, ¬ (fpH q j ∨ q = 41 ∨ ((q = 15 ∨ q = 17 ∨ q = 19 ∨ q = 21) ∧ j < i)) → σ1 q j = σ q j) → (∀ s, s < i → σ1 15 s = M (43 + 5 * s) ∧ σ1 17 s = M (44 + 5 * s) ∧ σ1 19 s = M (45 + 5 * s) ∧ σ1 21 s = nI (kst nf km s)) →
      ∃ σ', f_X7_passHour_L2 f (nI i) σ1 = some σ' ∧ same fpP σ σ' ∧ σ' 1 2 = N 0 + 1 ∧ ∀ s, s < ns → σ' 15 s = M (43 + 5 * s) ∧ σ' 17 s = M (44 + 5 * s) ∧ σ' 19 s = M (45 + 5 * s) ∧ σ' 21 s = nI (kst nf km s) := by
    intro f
    induction f with
    | zero => intro i _ _ h; omega
    | succ f ih =>
      intro i σ1 hi hf S V
      rw [f_X7_passHour_L2, cSizY ((S 10 1 (by unfold fpH; omega)).trans R10), ob_some]
      dsimp only
      by_cases e : i = ns
      · subst e
        rw [if_pos Int32.le_rfl, bst_ok, S 1 2 (by unfold fpH; omega), a2]
        refine ⟨_, rfl, fun q j hq => ?_, up_e rfl rfl, fun s hs => ?_⟩
        · unfold fpP at hq
          rw [up_o (by omega)]
          exact S q j (fun x => hq (by rcases x with x | x | x; exact Or.inl x; exact Or.inr (Or.inl x); omega))
        · rw [up_o (by omega), up_o (by omega), up_o (by omega), up_o (by omega)]
          exact V s hs
      · have hlt : i < ns := by omega
        obtain ⟨σ2, e1, e2, m0, m1, m2, m3, m4, m5⟩ := thoughtR (σ := σ1) (s := i) (by omega)
        obtain ⟨q1, q2, q3, q4, q5, -⟩ := Y.2.2.2.2.2.2.2.2 i hlt
        have mv : MV σ2 N (kst nf kf i) i := by
          refine ⟨m0.trans ((S 11 i (by unfold fpH; omega)).trans q1), m1.trans ((S 13 i (by unfold fpH; omega)).trans q2), m2.trans ((S 15 i (by unfold fpH; omega)).trans q3), m3.trans ((S 17 i (by unfold fpH; omega)).trans q4), m4.trans ((S 19 i (by unfold fpH; omega)).trans q5), m5.trans ((S 21 i (by unfold fpH; omega)).trans ?_)⟩
          rw [← ek i hlt]
          exact (K.1 i hlt).2
        have C2 : CS σ2 N nw nf l0 l1 sp g0 g1 := C.moved (fun q j hq => (e2 q j (by omega)).trans (S q j (by unfold fpH; omega)))
        obtain ⟨σ3, p1, p2, p3, p4⟩ := cStep C2 r y8 hlt mv
        have i8 : i < 8 := by omega
        have S3 : ∀ q j, ¬ (fpH q j ∨ q = 41 ∨ ((q = 15 ∨ q = 17 ∨ q = 19 ∨ q = 21) ∧ j < i)) → σ3 q j = σ q j := fun q j hq => (p2 q j (fun x => hq (Or.inl x))).trans ((e2 q j (fun x => hq (Or.inr (Or.inl x)))).trans (S q j hq))
        rw [if_neg (fun x => e (by have := (nI_leI (by omega) (by omega)).mp x; omega)), e1, ob_some]
        dsimp only
        rw [if_pos (by decide), e2 1 1 (by omega), S 1 1 (by unfold fpH; omega), a1, e2 2 3 (by omega), S 2 3 (by unfold fpH; omega), a3, e2 1 2 (by omega), S 1 2 (by unfold fpH; omega), a2, p1, ob_some, f_X4_keep, set14 _ σ3 i8, ob_some, set16 _ _ i8, ob_some, set18 _ _ i8, ob_some, set20 _ _ i8, ob_some, ob_some, nI_1]
        simp (disch := omega) only [up_o]
        refine ih (i + 1) _ hlt (by omega) (fun q j hq => ?_) (fun s hs => ?_)
        · rw [up_o (by omega), up_o (by omega), up_o (by omega), up_o (by omega)]
          exact S3 q j (fun x => hq (by rcases x with x | x | x; exact Or.inl x; exact Or.inr (Or.inl x); omega))
        · by_cases q : s = i
          · subst q
            simp (disch := omega) only [up_o, up_e]
            exact ⟨p4.2.2.1, p4.2.2.2.1, p4.2.2.2.2.1, p4.2.2.2.2.2⟩
          · simp (disch := omega) only [up_o]
            have u : ∀ x, x = 15 ∨ x = 17 ∨ x = 19 ∨ x = 21 → σ3 x s = σ1 x s := fun x hx => (p2 x s (by unfold fpH; omega)).trans (e2 x s (by omega))
            rw [u 15 (by omega), u 17 (by omega), u 19 (by omega), u 21 (by omega)]
            exact V s (by omega)
  exact L 400 0 σ (Nat.zero_le _) (by omega) (fun _ _ _ => rfl) (fun s hs => by omega)
end PASS
/-- an hour passes for both -/
theorem hourBoth {σ τ : St} (h : RR σ τ) {x : Nat} (hx : x < 9999) (h2 : τ 1 0 = nI x) : ∃ σ' τ', f_X7_passHour σ = some σ' ∧ f_X11_hour τ = some τ' ∧ RR σ' τ' ∧ τ' 1 0 = nI (x + 1) := by
  obtain ⟨w, nw, sp, ns, nf, l0, l1, kn, kf, T, M, hw⟩ := tk_of h.1 h.2.2.2.2.2.2.1 h.2.2.2.2.2.2.2
  obtain ⟨τ', km, m1, m2, r⟩ := mHour M
  obtain ⟨σ', c1, c2, c3, c4⟩ := cPassHour T r
  obtain ⟨⟨a0, a0', a1, a2, a3, a4⟩, Y, F, K, C, ek⟩ := T
  have y8 := M.1.2.1
  have f6 := M.1.2.2.1
  have sta := r.1
  unfold HRs dynI at sta
  have h0 : τ' 1 0 = nI (x + 1) := by rw [r.2.1, h2, nI_1]
  refine ⟨σ', τ', c1, m1, h.now (c2.mono (fun q j z => ?_)) (m2.mono (fun q j z => by unfold nowM; omega)) ?_, h0⟩
  · unfold fpP fpH at z
    unfold nowC
    omega
  · unfold same fpP fpH at c2
    have hV := h.1
    have hC := c2
    obtain ⟨⟨w', hh, A1, A2, A3, A4, A5, A6, A7, A8, A9⟩, -⟩ := h.1
    obtain ⟨Y1, Y2, Y3, Y4, Y5, Y6, Y7, Y8, Y9⟩ := Y
    refine ⟨⟨w', x + 1, A1, A2, by omega, (hC 1 0 (by omega)).trans A4, (sta 1 (by omega)).trans A5, ?_, h0, ?_, ?_⟩, rw_of hV (fun q j e => hC q j (by unfold fpW at e; omega)) (fun i e => sta i (by unfold nfW at e; omega)),
      ⟨ns, nf, kst nf km, km, ⟨Y1, (sta 3 (by omega)).trans Y2, (hC 10 1 (by omega)).trans Y3, (hC 12 1 (by omega)).trans Y4, (hC 14 1 (by omega)).trans Y5, (hC 16 1 (by omega)).trans Y6, (hC 18 1 (by omega)).trans Y7, (hC 20 1 (by omega)).trans Y8, fun i hi => ?_⟩, F.congr (fun q j a b => hC q j (by omega)) ⟨sta 4 (by omega), fun i a => ⟨sta _ (by omega), sta _ (by omega)⟩⟩, fun s hs => ⟨bset_lt _ _, (c4 s hs).2.2.2⟩, fun f hf => ⟨(r.2.2.2 f hf).1, (r.2.2.2 f hf).2.1⟩, fun s f hs hf => kst_bit hf⟩,
      rt_of hV (fun q j e => hC q j (by unfold fpT at e; omega)) (fun i e => sta i (by unfold nfT at e; omega)), rx_of hV (fun q j e => hC q j (by unfold fpX at e; omega)) (fun i e => sta i (by unfold nfX at e; omega)), r0_of hV (fun q j e => hC q j (by unfold fp0 at e; omega)) (fun i e => sta i (by unfold nf0 at e; omega)), r1_of hV (fun q j e => hC q j (by unfold fp1 at e; omega)) (fun i e => sta i (by unfold nf1 at e; omega))⟩
    · rw [c3, h2, nI_1]
    · rw [hC 1 1 (by omega), sta 5 (by omega)]
      exact A8
    · rw [hC 1 3 (by omega), sta 6 (by omega)]
      exact A9
    · obtain ⟨q1, q2, q3, q4, q5, q6, q7, q8⟩ := Y9 i hi
      obtain ⟨v1, v2, v3, v4⟩ := c4 i hi
      obtain ⟨g, hg, eg⟩ := q8
      obtain ⟨g', hg', eg'⟩ := qSt_fall (l0 := l0) (g0 := σ 33) (N := τ 1) (show g < 2 ^ 30 by omega) eg
      refine ⟨?_, ?_, v1, v2, v3, ?_, ?_, g', by omega, (r.2.2.1 i hi).1.trans eg'⟩
      · rw [sta (41 + 5 * i) (by omega)]
        exact (hC 11 i (by omega)).trans q1
      · rw [sta (42 + 5 * i) (by omega)]
        exact (hC 13 i (by omega)).trans q2
      · rw [sta (41 + 5 * i) (by omega)]
        exact q6
      · rw [sta (42 + 5 * i) (by omega)]
        exact q7
theorem knowBoth {σ τ : St} (h : RR σ τ) : Agree (Option.bind (f_X4_allKnowers σ) fun r4 => some (bitc r4.1, r4.2)) (f_X11_knowing τ) := by
  obtain ⟨-, -, ⟨ns, nf, kn, kf, Y, F, K1, K2, K3⟩, -⟩ := h.1
  rw [allKnowers_ok (kn := kn) Y.2.2.1 Y.1 (fun s hs => (K1 s hs).2), ob_some, knowing_ok (kf := kf) F.2.1 F.1 (fun f hf => ⟨(K2 f hf).2, lt_256 (K2 f hf).1 Y.1⟩)]
  dsimp only
  rw [know_eq (ns := ns) (kn := kn) (kf := kf) F.1 (fun s hs => (K1 s hs).1) (fun f hf => (K2 f hf).1) K3]
  exact Agree.of h
theorem k_hours {σ τ : St} (h : RR σ τ) (a : Int32) : Agree (f_X10_hours a σ) (f_X11_hours a τ) := by
  obtain ⟨⟨w, hh, A1, A2, A3, A4, A5, A6, A7, A8, A9⟩, -⟩ := h.1
  simp only [f_X10_hours, f_X11_hours, within_ok, mwithin_ok, ob_some, ob_eta, if_bI, A6, A7]
  refine Agree.cond (fun ha => ?_) (fun _ => Agree.err h 1)
  obtain ⟨n, hn1, hn, rfl⟩ := btw_nI 1 99 ha
  rw [nI_add]
  refine Agree.ite (fun hle => ?_) (fun _ => Agree.err h 3)
  have hle' : hh + n ≤ 9999 := (nI_leI (b := 9999) (by omega) (by decide)).mp hle
  have L : ∀ m f f' i (σ1 τ1 : St), i + m = n → m < f → m < f' → RR σ1 τ1 → τ1 1 0 = nI (hh + i) → Agree (f_X10_hours_L39 f (nI n) (nI i) σ1) (Option.bind (f_X11_hoursGo_L2 f' (nI n) (nI i) τ1) fun r3 => f_X11_knowing r3) := by
    intro m
    induction m with
    | zero =>
      intro f f' i σ1 τ1 hi hf hf' R hz
      obtain ⟨f, rfl⟩ : ∃ x, f = x + 1 := ⟨f - 1, by omega⟩
      obtain ⟨f', rfl⟩ : ∃ x, f' = x + 1 := ⟨f' - 1, by omega⟩
      have : i = n := by omega
      subst this
      rw [f_X10_hours_L39, f_X11_hoursGo_L2, if_pos Int32.le_rfl, if_pos Int32.le_rfl, ob_some]
      exact knowBoth R
    | succ m ih =>
      intro f f' i σ1 τ1 hi hf hf' R hz
      obtain ⟨f, rfl⟩ : ∃ x, f = x + 1 := ⟨f - 1, by omega⟩
      obtain ⟨f', rfl⟩ : ∃ x, f' = x + 1 := ⟨f' - 1, by omega⟩
      have hneg : ¬ nI n ≤ nI i := fun x => by have := (nI_leI (by omega) (by omega)).mp x; omega
      obtain ⟨σ2, τ2, e1, e2, R2, h2⟩ := hourBoth R (x := hh + i) (by omega) hz
      rw [f_X10_hours_L39, f_X11_hoursGo_L2, if_neg hneg, if_neg hneg, e1, e2, ob_some, ob_some, nI_1]
      exact ih f f' (i + 1) σ2 τ2 (by omega) (by omega) (by omega) R2 h2
  exact L n 400 400 0 σ τ (by omega) (by omega) (by omega) h A7
theorem k_loose {σ τ : St} (h : RR σ τ) (a : Int32) : Agree (f_X10_loose a σ) (f_X11_loose a τ) := by
  obtain ⟨⟨w, hh, A1, A2, A3, A4, A5, A6, A7, A8, A9⟩, -⟩ := h.1
  simp only [f_X10_loose, f_X11_loose, within_ok, mwithin_ok, ob_some, ob_eta, if_bI, A6, A7]
  refine Agree.cond (fun ha => ?_) (fun _ => Agree.err h 1)
  obtain ⟨n, hn1, hn, rfl⟩ := btw_nI 1 40 ha
  rw [nI_add]
  refine Agree.ite (fun hle => ?_) (fun _ => Agree.err h 3)
  have hle' : hh + n ≤ 9999 := (nI_leI (b := 9999) (by omega) (by decide)).mp hle
  have L : ∀ m f f' i (σ1 τ1 : St), i + m = n → m < f → m < f' → RR σ1 τ1 → τ1 1 0 = nI (hh + i) → Agree (f_X10_loose_L39 f (nI n) (nI i) σ1) (f_X11_loose_L40 f' (nI n) (nI i) τ1) := by
    intro m
    induction m with
    | zero =>
      intro f f' i σ1 τ1 hi hf hf' R hz
      obtain ⟨f, rfl⟩ : ∃ x, f = x + 1 := ⟨f - 1, by omega⟩
      obtain ⟨f', rfl⟩ : ∃ x, f' = x + 1 := ⟨f' - 1, by omega⟩
      have : i = n := by omega
      subst this
      rw [f_X10_loose_L39, f_X11_loose_L40, if_pos Int32.le_rfl, if_pos Int32.le_rfl, ob_eta]
      exact knowBoth R
    | succ m ih =>
      intro f f' i σ1 τ1 hi hf hf' R hz
      obtain ⟨f, rfl⟩ : ∃ x, f = x + 1 := ⟨f - 1, by omega⟩
      obtain ⟨f', rfl⟩ : ∃ x, f' = x + 1 := ⟨f' - 1, by omega⟩
      have hneg : ¬ nI n ≤ nI i := fun x => by have := (nI_leI (by omega) (by omega)).mp x; omega
      have hV := R.1
      obtain ⟨⟨w', hh', B1, B2, B3, B4, B5, B6, B7, B8, B9⟩, -⟩ := R.1
      have R1 : ∀ z r : Int32, RR (up (up σ1 1 3 z) 1 1 r) (up (up τ1 1 6 z) 1 5 r) := fun z r => by
        refine R.now ((same_up (by unfold nowC; omega)).tr (same_up (by unfold nowC; omega))) ((same_up (by unfold nowM; omega)).tr (same_up (by unfold nowM; omega))) (hV.newA (fun q j e => ?_) (fun i e => ?_) ⟨w', hh', B1, B2, B3, ?_, ?_, ?_, ?_, ?_, ?_⟩)
        · unfold fpA at e
          rw [up_o (by omega), up_o (by omega)]
        · unfold nfA at e
          rw [up_o (by omega), up_o (by omega)]
        · rw [up_o (by omega), up_o (by omega)]; exact B4
        · rw [up_o (by omega), up_o (by omega)]; exact B5
        · rw [up_o (by omega), up_o (by omega)]; exact B6
        · rw [up_o (by omega), up_o (by omega)]; exact B7
        · rw [up_e rfl rfl, up_e rfl rfl]
        · rw [up_o (by omega), up_e rfl rfl, up_o (by omega), up_e rfl rfl]
      rw [f_X10_loose_L39, f_X11_loose_L40, if_neg hneg, if_neg hneg, f_X7_draw, f_X11_drawn, bst_ok, bst_ok, ob_some, ob_some, bst_ok, bst_ok, up_e rfl rfl, up_e rfl rfl, B9]
      dsimp only
      obtain ⟨σ2, τ2, e1, e2, R2, h2⟩ := hourBoth (R1 (τ1 1 6 * 1103515245 + 12345) (irm (iush (τ1 1 6 * 1103515245 + 12345) 8) 10)) (x := hh + i) (by omega) (by rw [up_o (by omega), up_o (by omega)]; exact hz)
      rw [e1, e2, ob_some, ob_some, nI_1]
      exact ih f f' (i + 1) σ2 τ2 (by omega) (by omega) (by omega) R2 h2
  exact L n 400 400 0 σ τ (by omega) (by omega) (by omega) h A7
theorem k_ofSaying {σ τ : St} (h : RR σ τ) (a b : Int32) : Agree (f_X10_ofSaying a b σ) (f_X11_ofSaying a b τ) := by
  obtain ⟨w, nw, sp, ns, nf, l0, l1, kn, kf, T, M, hw⟩ := tk_of h.1 h.2.2.2.2.2.2.1 h.2.2.2.2.2.2.2
  obtain ⟨⟨a0, a0', a1, a2, a3, a4⟩, Y, F, K, C, ek⟩ := T
  have y8 := M.1.2.1
  have f6 := M.1.2.2.1
  simp only [f_X10_ofSaying, f_X11_ofSaying, cHasY a Y.2.2.1, mSay a Y.2.1 (by omega), mwithin_ok, ob_some, ob_eta, if_bI]
  refine Agree.cond (fun ha => ?_) (fun _ => Agree.err h 1)
  obtain ⟨s, hs, rfl⟩ := isIx_nI ha (by omega)
  obtain ⟨σ1, e1, e2, mv⟩ := cThought Y K hs
  rw [ek s hs] at mv
  obtain ⟨m0, m1, m2, m3, m4, m5⟩ := mv
  have S1 : same scrC σ σ1 := e2.mono (fun q j x => by unfold scrC; omega)
  have R1 : RR σ1 τ := h.scr S1 same.rf
  have C1 : CS σ1 (τ 1) nw nf l0 l1 sp (σ 33) (σ 38) := C.moved (fun q j hq => e2 q j (by omega))
  rw [e1, ob_some]
  dsimp only
  rw [if_pos (by decide)]
  cases hb : btw b 0 7
  · have nb : ∀ k : Nat, k ≤ 7 → ¬ b = nI k := fun k hk x => by
      rw [x] at hb
      exact absurd (decide_eq_true (show (0 : Int32) ≤ nI k ∧ nI k ≤ 7 from ⟨nI_pos' (by omega), (nI_leI (b := 7) (by omega) (by decide)).mpr hk⟩)) (by rw [show decide ((0 : Int32) ≤ nI k ∧ nI k ≤ 7) = false from hb]; decide)
    rw [if_neg (show ¬ b = 0 from nb 0 (by decide)), if_neg (show ¬ b = 1 from nb 1 (by decide)), if_neg (show ¬ b = 2 from nb 2 (by decide)), if_neg (show ¬ b = 3 from nb 3 (by decide)), if_neg (show ¬ b = 4 from nb 4 (by decide)), if_neg (show ¬ b = 5 from nb 5 (by decide)), if_neg (show ¬ b = 6 from nb 6 (by decide)), if_neg (show ¬ b = 7 from nb 7 (by decide))]
    exact Agree.err R1 1
  · obtain ⟨v, -, hv, rfl⟩ := btw_nI 0 7 hb
    dsimp only [cond]
    have : v = 0 ∨ v = 1 ∨ v = 2 ∨ v = 3 ∨ v = 4 ∨ v = 5 ∨ v = 6 ∨ v = 7 := by omega
    rcases this with rfl | rfl | rfl | rfl | rfl | rfl | rfl | rfl
    · rw [n0, if_pos rfl, if_neg (by decide), if_neg (by decide), if_neg (by decide), sayIs0 τ (by omega)]
      exact Agree.of' m0 R1
    · rw [n1, if_neg (by decide), if_pos rfl, if_neg (by decide), if_neg (by decide), if_neg (by decide), sayIs1 τ (by omega)]
      exact Agree.of' m1 R1
    · rw [n2, if_neg (by decide), if_neg (by decide), if_pos rfl, if_neg (by decide), if_neg (by decide), if_neg (by decide), sayIs2 τ (by omega)]
      exact Agree.of' m2 R1
    · rw [n3, if_neg (by decide), if_neg (by decide), if_neg (by decide), if_pos rfl, if_neg (by decide), if_neg (by decide), if_neg (by decide), sayIs3 τ (by omega)]
      exact Agree.of' m3 R1
    · rw [n4, if_neg (by decide), if_neg (by decide), if_neg (by decide), if_neg (by decide), if_pos rfl, if_neg (by decide), if_neg (by decide), if_neg (by decide), sayIs4 τ (by omega)]
      exact Agree.of' m4 R1
    · obtain ⟨σ2, c1, c2⟩ := cWeak C1 (σ1 1 1)
      obtain ⟨τ2, d1, d2⟩ := mWeak M hs
      rw [n5, if_neg (by decide), if_neg (by decide), if_neg (by decide), if_neg (by decide), if_neg (by decide), if_pos rfl, if_pos rfl, c1, d1, m0, m1, m3, e2 1 1 (by omega), a1]
      exact Agree.of (h.scr (S1.tr (c2.mono (fun q j x => by unfold scrC; omega))) (d2.mono (fun q j x => by unfold scrM; omega)))
    · rw [n6, if_neg (by decide), if_neg (by decide), if_neg (by decide), if_neg (by decide), if_neg (by decide), if_neg (by decide), if_pos rfl, if_neg (by decide), if_pos rfl, e2 2 3 (by omega), a3, cNext C1 m5, mGoesOn M hs, m0, m2]
      exact Agree.of R1
    · rw [n7, if_neg (by decide), if_neg (by decide), if_neg (by decide), if_neg (by decide), if_neg (by decide), if_neg (by decide), if_neg (by decide), if_pos rfl, if_neg (by decide), if_neg (by decide), if_pos rfl, mKnowers f6 F.2.1 (fun f hf => ⟨lt_256 (M.2.2.2 f hf).1 y8, (M.2.2.2 f hf).2⟩) (by omega)]
      exact Agree.of' m5 R1
