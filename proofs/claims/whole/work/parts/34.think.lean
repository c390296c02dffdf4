/-! what is thought of one saying, of all sayings (the class); rows kept aside (the reference) -/
theorem cs_of {σ : St} {N : Nat → Int32} (h : RV σ 1 N) (u0 : σ 31 2 = 0) (u1 : σ 36 2 = 1) : ∃ nw sp ns nf kn kf l0 l1, RVw σ 1 N nw sp ∧ RVy σ 1 N ns ∧ RVf σ 1 N nf ∧ RVk σ 1 N ns nf kn kf ∧
    CS σ N nw nf l0 l1 sp (σ 33) (σ 38) ∧ MS N nw ns nf l0 l1 (σ 33) (σ 38) kf ∧ ∀ s, s < ns → kn s = kst nf kf s := by
  obtain ⟨-, ⟨nw, sp, W⟩, ⟨ns, nf, kn, kf, Y, F, K⟩, -, -, ⟨l0, C0⟩, ⟨l1, C1⟩⟩ := h
  have W0 := W
  have Y0 := Y
  have F0 := F
  have K0 := K
  obtain ⟨W1, W2, W3, W4, W5, W6, W7, W8⟩ := W
  obtain ⟨Y1, Y2, Y3, Y4, Y5, Y6, Y7, Y8, Y9⟩ := Y
  obtain ⟨F1, F2, F3, F4, F5⟩ := F
  obtain ⟨K1, K2, K3⟩ := K
  refine ⟨nw, sp, ns, nf, kn, kf, l0, l1, W0, Y0, F0, K0, ⟨⟨W1, F1, lt_256 W2 W1, W4, F3⟩, W8, F5, ⟨u0, u1, C0.2.2.1, C1.2.2.1⟩, rfl, rfl, C0.txt, C1.txt⟩, ⟨⟨W1, Y1, F1, W3, Y2, F2⟩, ⟨C0.txt, C1.txt⟩, fun s hs => (Y9 s hs).2.2.2.2.2.1, K2⟩, fun s hs => ?_⟩
  refine bset_ext (K1 s hs).1 (bset_lt _ _) (fun f hf => ?_)
  rw [K3 s f hs hf, kst_bit hf]
theorem CS.row {σ : St} {N N' : Nat → Int32} {nw nf l0 l1 sp : Nat} {g0 g1 : Nat → Int32} (h : CS σ N nw nf l0 l1 sp g0 g1) (hs : HRs N N') : CS σ N' nw nf l0 l1 sp g0 g1 := by
  obtain ⟨⟨a1, a2, a3, a4, a5⟩, b, c, d, e1, e2, e3, e4⟩ := h
  unfold HRs dynI at hs
  refine ⟨⟨a1, a2, a3, a4, a5⟩, fun i hi => ?_, fun f hf => ?_, d, e1, e2, e3.row (fun i x y => hs i (by omega)), e4.row (fun i x y => hs i (by omega))⟩
  · rw [hs (9 + 4 * i) (by omega), hs (10 + 4 * i) (by omega), hs (11 + 4 * i) (by omega), hs (12 + 4 * i) (by omega)]
    exact b i hi
  · rw [hs (81 + 3 * f) (by omega), hs (82 + 3 * f) (by omega)]
    exact c f hf
/-- the mind holds saying s as row N has it -/
def MV (σ : St) (N : Nat → Int32) (K s : Nat) : Prop := σ 41 0 = N (41 + 5 * s) ∧ σ 41 1 = N (42 + 5 * s) ∧ σ 41 2 = N (43 + 5 * s) ∧ σ 41 3 = N (44 + 5 * s) ∧ σ 41 4 = N (45 + 5 * s) ∧ σ 41 5 = nI K
theorem cThought {σ : St} {N : Nat → Int32} {ns nf s : Nat} {kn kf : Nat → Nat} (Y : RVy σ 1 N ns) (K : RVk σ 1 N ns nf kn kf) (hs : s < ns) : ∃ σ', f_X7_thought (nI s) σ = some (41, σ') ∧ same (fun q _ => q = 41) σ σ' ∧ MV σ' N (kn s) s := by
  obtain ⟨Y1, Y2, Y3, Y4, Y5, Y6, Y7, Y8, Y9⟩ := Y
  obtain ⟨q1, q2, q3, q4, q5, -⟩ := Y9 s hs
  have q6 := (K.1 s hs).2
  have s8 : s < 8 := by omega
  have e : f_X4_load (nI s) 41 σ = some (up (up (up (up (up (up σ 41 0 (σ 11 s)) 41 1 (σ 13 s)) 41 2 (σ 15 s)) 41 3 (σ 17 s)) 41 4 (σ 19 s)) 41 5 (σ 21 s)) := by
    rw [f_X4_load, get10 σ s8, ob_some, bst_ok]
    dsimp only
    rw [get12 _ s8, ob_some, bst_ok]
    dsimp only
    rw [get14 _ s8, ob_some, bst_ok]
    dsimp only
    rw [get16 _ s8, ob_some, bst_ok]
    dsimp only
    rw [get18 _ s8, ob_some, bst_ok]
    dsimp only
    rw [get20 _ s8, ob_some, bst_ok]
    dsimp only
    simp (disch := omega) only [up_o]
  rw [f_X7_thought, e, ob_some]
  refine ⟨_, rfl, fun q j hq => ?_, ?_, ?_, ?_, ?_, ?_, ?_⟩
  · have hq : ¬ q = 41 := hq
    simp (disch := omega) only [up_o]
  · simp (disch := omega) only [up_o, up_e]; exact q1
  · simp (disch := omega) only [up_o, up_e]; exact q2
  · simp (disch := omega) only [up_o, up_e]; exact q3
  · simp (disch := omega) only [up_o, up_e]; exact q4
  · simp (disch := omega) only [up_o, up_e]; exact q5
  · simp (disch := omega) only [up_o, up_e]; exact q6
section THINK
variable {nw ns nf l0 l1 sp : Nat} {g0 g1 : Nat → Int32}
/-- an hour: the mind follows the row -/
theorem cStep {σ : St} {N M : Nat → Int32} {kf km : Nat → Nat} {s : Nat} (h : CS σ N nw nf l0 l1 sp g0 g1) (r : HR nw ns nf l0 l1 g0 g1 N M kf km) (y8 : ns ≤ 8) (hs : s < ns) (mv : MV σ N (kst nf kf s) s) :
    ∃ σ', f_X7_pass 41 (N 5) (nI sp) (N 0) σ = some σ' ∧ same fpH σ σ' ∧ CS σ' M nw nf l0 l1 sp g0 g1 ∧ MV σ' M (kst nf km s) s := by
  obtain ⟨m0, m1, m2, m3, m4, m5⟩ := mv
  obtain ⟨v1, v2, v3⟩ := r.2.2.1 s hs
  obtain ⟨σ', e1, e2, e3, e4, e5, e6⟩ := cPass h m5 (bset_lt _ _) (st' := M (44 + 5 * s)) (x := qNx N nw nf kf s) (w' := M (43 + 5 * s)) (lf' := M (45 + 5 * s)) (by rw [v1, m0, m1, m3]; rfl) (by rw [m0, m2]; rfl) (by rw [v2, m2, m4]; rfl) (by rw [v3, m4]; rfl)
  have st := r.1
  unfold HRs dynI at st
  exact ⟨σ', e1, e2, (h.fp e2).row r.1, (e2 41 0 (by unfold fpH; omega)).trans (m0.trans (st _ (by omega)).symm), (e2 41 1 (by unfold fpH; omega)).trans (m1.trans (st _ (by omega)).symm), e3, e4, e5, by rw [e6, HR.kst r hs]⟩
theorem cPassAll {σ : St} {N N' : Nat → Int32} {kf kf' : Nat → Nat} {n s g : Nat} (h : CS σ N nw nf l0 l1 sp g0 g1) (r : HRn nw ns nf l0 l1 g0 g1 n N N' kf kf') (y8 : ns ≤ 8) (hs : s < ns) (hn : n < 400) (mv : MV σ N (kst nf kf s) s) (hg : g < 2 ^ 30) (h44 : N (44 + 5 * s) = nI g) (hh : σ 1 2 = N 0) :
    ∃ σ', f_X7_passAll 41 (N 5) (nI sp) (nI n) σ = some σ' ∧ same fpH σ σ' ∧ σ' 41 3 = N' (44 + 5 * s) ∧ σ' 41 5 = nI (kst nf kf' s) := by
  have L : ∀ m f i (σ : St) (M : Nat → Int32) (km : Nat → Nat) (g : Nat), i + m = n → m < f → CS σ M nw nf l0 l1 sp g0 g1 → HRn nw ns nf l0 l1 g0 g1 m M N' km kf' → MV σ M (kst nf km s) s → g < 2 ^ 30 → M (44 + 5 * s) = nI g → σ 1 2 + nI i = M 0 → M 5 = N 5 →
      ∃ σ', f_X7_passAll_L3 f 41 (N 5) (nI sp) (nI n) (nI i) σ = some σ' ∧ same fpH σ σ' ∧ σ' 41 3 = N' (44 + 5 * s) ∧ σ' 41 5 = nI (kst nf kf' s) := by
    intro m
    induction m with
    | zero =>
      intro f i σ M km g hi hf C R mv hg h44 hh h5
      obtain ⟨f, rfl⟩ : ∃ f', f = f' + 1 := ⟨f - 1, by omega⟩
      rw [f_X7_passAll_L3, if_pos (by rw [show i = n by omega]; exact Int32.le_rfl)]
      obtain ⟨r1, r2⟩ := R
      rw [r1, r2]
      exact ⟨σ, rfl, same.rf, mv.2.2.2.1, mv.2.2.2.2.2⟩
    | succ m ih =>
      intro f i σ M km g hi hf C R mv hg h44 hh h5
      obtain ⟨f, rfl⟩ : ∃ f', f = f' + 1 := ⟨f - 1, by omega⟩
      rw [f_X7_passAll_L3, if_neg (fun x => by have := (nI_leI (by omega) (by omega)).mp x; omega)]
      by_cases z : σ 41 3 ≤ 0
      · have g0' : g = 0 := (nI_le0 (by omega)).mp (by rw [← h44, ← mv.2.2.2.1]; exact z)
        subst g0'
        obtain ⟨z1, z2⟩ := HRn.zero R hs h44
        rw [if_pos z, z1, z2]
        exact ⟨σ, rfl, same.rf, mv.2.2.2.1.trans h44, mv.2.2.2.2.2⟩
      · obtain ⟨M2, km2, r1, r2⟩ := R
        obtain ⟨σ1, e1, e2, C1, mv1⟩ := cStep C r1 y8 hs mv
        rw [h5] at e1
        rw [if_neg z, hh, e1, ob_some, nI_1]
        obtain ⟨g', g1', g2'⟩ := qSt_fall (l0 := l0) (g0 := g0) hg h44
        obtain ⟨σ', q1, q2, q3, q4⟩ := ih f (i + 1) σ1 M2 km2 g' (by omega) (by omega) C1 r2 mv1 (by omega) ((r1.2.2.1 s hs).1.trans g2') (by rw [e2 1 2 (by unfold fpH; omega), ← nI_1, ← Int32.add_assoc, hh, r1.2.1]) ((r1.1 5 (by unfold dynI; omega)).trans h5)
        exact ⟨σ', q1, e2.tr q2, q3, q4⟩
  exact L n 400 0 σ N kf g (by omega) hn h r mv hg h44 (by rw [hh]; exact Int32.add_zero _) rfl
/-- what thoughts may change -/
def fpTh (q j : Nat) : Prop := q = 34 ∨ q = 35 ∨ q = 39 ∨ q = 40 ∨ q = 41 ∨ q = 42 ∨ q = 43 ∨ (q = 1 ∧ j = 13)
theorem cThinkAll {σ : St} {N N' : Nat → Int32} {kn kf kf' : Nat → Nat} {n : Nat} (hr : σ 1 1 = N 5) (hh : σ 1 2 = N 0) (hsp : σ 2 3 = nI sp) (Y : RVy σ 1 N ns) (K : RVk σ 1 N ns nf kn kf) (h : CS σ N nw nf l0 l1 sp g0 g1) (hk : ∀ s, s < ns → kn s = kst nf kf s) (r : HRn nw ns nf l0 l1 g0 g1 n N N' kf kf') (hn : n < 400) :
    ∃ σ', f_X7_thinkAll (nI n) σ = some σ' ∧ same fpTh σ σ' ∧ σ' 42 1 = nI ns ∧ (∀ s, s < ns → σ' 43 s = nI (kst nf kf' s)) ∧ σ' 1 13 = sumN (fun s => N' (44 + 5 * s)) ns := by
  have y8 : ns ≤ 8 := Y.1
  have R10 : σ 10 1 = nI ns := Y.2.2.1
  have L : ∀ f i (σ1 : St), i ≤ ns → ns - i < f → same fpTh σ σ1 → σ1 42 1 = nI i → (∀ s, s < i → σ1 43 s = nI (kst nf kf' s)) → σ1 1 13 = sumN (fun s => N' (44 + 5 * s)) i →
      ∃ σ', f_X7_thinkAll_L14 f (nI n) (nI i) σ1 = some σ' ∧ same fpTh σ σ' ∧ σ' 42 1 = nI ns ∧ (∀ s, s < ns → σ' 43 s = nI (kst nf kf' s)) ∧ σ' 1 13 = sumN (fun s => N' (44 + 5 * s)) ns := by
    intro f
    induction f with
    | zero => intro i _ _ h; omega
    | succ f ih =>
      intro i σ1 hi hf S s1 s2 s3
      have t10 : σ1 10 1 = nI ns := (S 10 1 (by unfold fpTh; omega)).trans R10
      rw [f_X7_thinkAll_L14, cSizY t10, ob_some]
      by_cases e : i = ns
      · subst e
        rw [if_pos Int32.le_rfl]
        exact ⟨σ1, rfl, S, s1, s2, s3⟩
      · have hlt : i < ns := by omega
        have Y1 : RVy σ1 1 N ns := Y.congr (fun q j a b => S q j (by unfold fpTh; omega)) (fun _ _ => rfl)
        have K1 : RVk σ1 1 N ns nf kn kf := K.congr (fun j => S _ j (by unfold fpTh; omega)) (fun _ _ => rfl)
        obtain ⟨σ2, e1, e2, mv⟩ := cThought Y1 K1 hlt
        have S2 : same fpTh σ σ2 := S.tr (e2.mono (fun q j x => by unfold fpTh; omega))
        have C2 : CS σ2 N nw nf l0 l1 sp g0 g1 := h.moved (fun q j hq => S2 q j (by unfold fpTh; omega))
        rw [hk i hlt] at mv
        obtain ⟨g, hg, eg⟩ := (Y.2.2.2.2.2.2.2.2 i hlt).2.2.2.2.2.2.2
        obtain ⟨σ3, p1, p2, p3, p4⟩ := cPassAll C2 r y8 hlt hn mv (by omega) eg ((S2 1 2 (by unfold fpTh; omega)).trans hh)
        have S3 : same fpTh σ σ3 := S2.tr (p2.mono (fun q j x => by unfold fpH at x; unfold fpTh; omega))
        rw [if_neg (fun x => e (by have := (nI_leI (by omega) (by omega)).mp x; omega)), e1, ob_some]
        dsimp only
        rw [if_pos (by decide), S2 1 1 (by unfold fpTh; omega), hr, S2 2 3 (by unfold fpTh; omega), hsp, p1, ob_some, p4]
        have r42 : σ3 42 1 = nI i := (p2 42 1 (by unfold fpH; omega)).trans ((e2 42 1 (by omega)).trans s1)
        rw [add42 _ σ3 r42 (by omega), ob_some, bst_ok, nI_1]
        have v13 : (up (up σ3 43 i (nI (kst nf kf' i))) 42 1 (nI (i + 1))) 1 13 + (up (up σ3 43 i (nI (kst nf kf' i))) 42 1 (nI (i + 1))) 41 3 = sumN (fun s => N' (44 + 5 * s)) (i + 1) := by
          rw [up_o (by omega), up_o (by omega), up_o (by omega), up_o (by omega), p3, p2 1 13 (by unfold fpH; omega), e2 1 13 (by omega), s3]
          rfl
        rw [v13]
        refine ih (i + 1) _ hlt (by omega) (((S3.tr (same_up (by unfold fpTh; omega))).tr (same_up (by unfold fpTh; omega))).tr (same_up (by unfold fpTh; omega))) ?_ (fun s hsi => ?_) (up_e rfl rfl)
        · rw [up_o (by omega), up_e rfl rfl]
        · rw [up_o (by omega), up_o (by omega)]
          by_cases q : s = i
          · subst q
            exact up_e rfl rfl
          · rw [up_o (by omega), p2 43 s (by unfold fpH; omega), e2 43 s (by omega)]
            exact s2 s (by omega)
  have L0 := L 400 0 (up (up σ 42 1 0) 1 13 0) (Nat.zero_le _) (by omega) ((same_up (by unfold fpTh; omega)).tr (same_up (by unfold fpTh; omega))) ((up_o (by omega)).trans (up_e rfl rfl)) (fun s hs => by omega) (up_e rfl rfl)
  rw [f_X7_thinkAll, clear_ok, ob_some, bst_ok]
  exact L0
end THINK
theorem fpTh_scr (q j : Nat) (h : fpTh q j) : scrC q j := by
  unfold fpTh at h
  unfold scrC
  omega
theorem fpH_scr (q j : Nat) (h : fpH q j) : scrC q j := by
  unfold fpH at h
  unfold scrC
  omega
/-! the reference's rows kept aside -/
/-- a state of thought: all but the row of now and what counts for nothing is as in τ, and aside lies the row of τ -/
def Aside (τ t : St) : Prop := (∀ q j, ¬ (q = 1 ∨ scrM q j) → t q j = τ q j) ∧ ∀ j, j < 273 → t 3 j = τ 1 j
theorem mSave (τ : St) : ∃ t, f_X11_copy 1 3 τ = some t ∧ Aside τ t ∧ t 1 = τ 1 ∧ same (fun q _ => q = 3) τ t := by
  obtain ⟨t, e1, e2, e3⟩ := mcopy (a := 1) (b := 3) rfl rfl (by decide) τ
  exact ⟨t, e1, ⟨fun q j hq => e2 q j (by unfold scrM at hq; omega), e3⟩, funext (fun j => e2 1 j (by decide)), fun q j hq => e2 q j hq⟩
theorem Aside.tr {τ t t' : St} (h : Aside τ t) (g : same (fun q _ => q = 1 ∨ q = 7 ∨ q = 8) t t') : Aside τ t' :=
  ⟨fun q j hq => (g q j (by unfold scrM at hq; omega)).trans (h.1 q j hq), fun j hj => (g 3 j (by omega)).trans (h.2 j hj)⟩
theorem mBack {τ t : St} (h : Aside τ t) (v : Int32) : ∃ t', f_X11_putBack v t = some (v, t') ∧ f_X11_copy 3 1 t = some t' ∧ same scrM τ t' ∧ Aside τ t' ∧ ∀ j, j < 273 → t' 1 j = τ 1 j := by
  obtain ⟨t', e1, e2, e3⟩ := mcopy (a := 3) (b := 1) rfl rfl (by decide) t
  have e4 : ∀ j, j < 273 → t' 1 j = τ 1 j := fun j hj => (e3 j hj).trans (h.2 j hj)
  refine ⟨t', by rw [f_X11_putBack, e1, ob_some], e1, fun q j hq => ?_, ⟨fun q j hq => ?_, fun j hj => ?_⟩, e4⟩
  · by_cases h1 : q = 1
    · subst h1
      exact e4 j (by unfold scrM at hq; omega)
    · rw [e2 q j h1]
      exact h.1 q j (fun x => x.elim h1 hq)
  · rw [e2 q j (by omega)]
    exact h.1 q j hq
  · rw [e2 3 j (by decide)]
    exact h.2 j hj
