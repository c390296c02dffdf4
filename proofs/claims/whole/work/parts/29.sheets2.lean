/-! sheets read -/
theorem imin_ok {a b : Nat} (ha : a < 2147483648) (hb : b < 2147483648) : imin (nI a) (nI b) = nI (min a b) := by
  unfold imin
  by_cases h : b < a
  · rw [if_pos (nI_lt h ha), Nat.min_eq_right (by omega)]
  · rw [if_neg (fun x => h ((nI_ltI hb ha).mp x)), Nat.min_eq_left (by omega)]
theorem palL {i n nf : Nat} (hi : i < 4) (hn : n ≤ 40) (hf : nf ≤ 6) : ∀ f k (σ τ : St), k ≤ min n nf → min n nf - k < f → RR σ τ → τ 11 i = nI n → τ 1 4 = nI nf → Agree (f_X10_palates_L53 f (100 + 3 * i) (nI (min n nf)) (nI k) σ) (f_X11_palates_L33 f (nI i) (nI k) τ) := by
  intro f
  induction f with
  | zero => intro k _ _ _ h; omega
  | succ f ih =>
    intro k σ τ hk hf' h e1 e2
    have hmn : min n nf ≤ n := Nat.min_le_left _ _
    have hmf : min n nf ≤ nf := Nat.min_le_right _ _
    rw [f_X10_palates_L53, f_X11_palates_L33, if_pos (in4 rfl hi), clampN (by omega), e1]
    by_cases e : k = min n nf
    · rw [if_pos (by rw [e]; exact Int32.le_rfl)]
      by_cases hkn : k = n
      · rw [if_pos (show nI n ≤ nI k by rw [hkn]; exact Int32.le_rfl)]
        exact Agree.of' (by rw [e]) h
      · have hkf : k = nf := by omega
        rw [if_neg (show ¬ nI n ≤ nI k from fun x => by have := (nI_leI (by omega) (by omega)).mp x; omega), mOne _ e2 (by omega), ob_some, show isIx (nI k) nf = false from decide_eq_false (fun x => by have := (nI_ltI (by omega) (by omega)).mp x.2; omega)]
        dsimp only
        rw [if_pos (show bI false = 0 from rfl)]
        exact Agree.of' (by rw [e]) h
    · have hlt : k < min n nf := by omega
      obtain ⟨s1, s2, n', s3, s4, s5, s6, s7⟩ := h.2.2.2.2.1 i hi
      have : n' = n := (nI_eq (by omega) (by omega)).mp (s4.symm.trans e1)
      subst this
      rw [if_neg (show ¬ nI (min n' nf) ≤ nI k from fun x => by have := (nI_leI (by omega) (by omega)).mp x; omega), if_neg (show ¬ 100 + 3 * i = 0 by omega), if_neg (show ¬ nI n' ≤ nI k from fun x => by have := (nI_leI (by omega) (by omega)).mp x; omega), show 100 + 3 * i + 1 = 101 + 3 * i by omega, getS σ hi (by omega), ob_some]
      dsimp only
      rw [within_ok, ob_some, mOne _ e2 (by omega), ob_some, s7 k (by omega)]
      simp only [if_bI, isIx_of (show k < nf by omega) (show nf < 2 ^ 31 by omega)]
      dsimp only [cond]
      rw [ix40, if_pos (in160 hi (by omega)), mStrong, ob_some, clampN (by omega)]
      simp only [if_bI]
      refine Agree.cond (fun hb => ?_) (fun _ => Agree.of h)
      rw [set25 _ σ (by omega), ob_some, folkAt1, ob_some, if_pos (in160 hi (by omega)), if_in (by omega), bst_ok, clampN (by omega), nI_1]
      have hV := h.1
      obtain ⟨-, -, ⟨ns, nf', kn, kf, Y, F, K⟩, -⟩ := h.1
      have : nf' = nf := (nI_eq (by have := F.1; omega) (by omega)).mp (F.2.1.symm.trans e2)
      subst this
      obtain ⟨F1, F2, F3, F4, F5⟩ := F
      refine ih (k + 1) _ _ hlt (by omega) (h.now (fun q j e => ?_) (fun q j e => ?_) (hV.newY (fun q j e => ?_) (fun i e => ?_) ⟨ns, nf', kn, kf, Y.congr (fun q j a b => ?_) (fun i a => ?_), ⟨F1, ?_, F3, F4, fun i hi => ?_⟩, K.congr (fun j => ?_) (fun f hf => ?_)⟩)) ?_ ?_
      · unfold nowC at e
        simp (disch := omega) only [up_o]
      · unfold nowM at e
        simp (disch := omega) only [up_o]
      · unfold fpY at e
        simp (disch := omega) only [up_o]
      · unfold nfY at e
        simp (disch := omega) only [up_o]
      · simp (disch := omega) only [up_o]
      · simp (disch := omega) only [up_o]
      · exact (up_o (by omega)).trans F2
      · by_cases hij : i = k
        · subst hij
          simp (disch := omega) only [up_o, up_e]
          exact ⟨(F5 i (by omega)).1, trivial⟩
        · simp (disch := omega) only [up_o]
          exact F5 i (by omega)
      · simp (disch := omega) only [up_o]
      · simp (disch := omega) only [up_o]
      · exact (up_o (by omega)).trans e1
      · exact (up_o (by omega)).trans e2
theorem k_palates {σ τ : St} (h : RR σ τ) (a : Int32) : Agree (f_X10_palates a σ) (f_X11_palates a τ) := by
  simp only [f_X10_palates, f_X11_palates, mSheet, cMiss, ob_some, ob_eta, if_bI]
  rcases sheetAt_cases a σ with ⟨e1, e2⟩ | ⟨i, hi, rfl, e1, e2⟩
  · rw [e1, e2, ob_some]
    dsimp only [cond]
    rw [if_s0, if_pos rfl]
    exact Agree.err h 1
  · obtain ⟨s1, s2, n, s3, s4, s5, s6, s7⟩ := h.2.2.2.2.1 i hi
    obtain ⟨-, -, ⟨ns, nf, kn, kf, Y, F, K⟩, -⟩ := h.1
    have s5' : σ (101 + 3 * i) 1 = nI n := s5
    have R23 : σ 23 1 = nI nf := F.2.2.1
    rw [e1, e2, ob_some]
    dsimp only [cond]
    rw [if_s5 hi, if_neg (by omega), if_pos (in4 rfl hi), clampN (by omega)]
    simp only [s1]
    by_cases h0 : τ 10 i = 0
    · rw [if_pos h0, decide_eq_true h0]
      exact Agree.err h 2
    · rw [if_neg h0, decide_eq_false h0]
      dsimp only
      have f6 := F.1
      rw [size_ok, ob_some, show 100 + 3 * i + 1 = 101 + 3 * i by omega]
      dsimp only
      rw [cSizF R23, ob_some, s5']
      dsimp only
      rw [imin_ok (by omega) (by omega)]
      exact palL hi s3 f6 400 0 σ τ (Nat.zero_le _) (by have : min n nf ≤ n := Nat.min_le_left _ _; omega) h s4 F.2.1
theorem judL {i n ns : Nat} {σ τ : St} (h : RR σ τ) (hi : i < 4) (hn : n ≤ 40) (hs : ns ≤ 8) (e1 : τ 11 i = nI n) (e2 : τ 1 3 = nI ns) : ∀ f k, k ≤ min n ns → min n ns - k < f → Agree (f_X10_judge_L53 f (100 + 3 * i) (nI (min n ns)) (nI k) σ) (f_X11_judge_L33 f (nI i) (nI k) τ) := by
  intro f
  induction f with
  | zero => intro k _ h; omega
  | succ f ih =>
    intro k hk hf'
    have hmn : min n ns ≤ n := Nat.min_le_left _ _
    have hmf : min n ns ≤ ns := Nat.min_le_right _ _
    obtain ⟨s1, s2, n', s3, s4, s5, s6, s7⟩ := h.2.2.2.2.1 i hi
    have : n' = n := (nI_eq (by omega) (by omega)).mp (s4.symm.trans e1)
    subst this
    obtain ⟨-, -, ⟨ns', nf, kn, kf, Y, F, K⟩, -⟩ := h.1
    have : ns' = ns := (nI_eq (by have := Y.1; omega) (by omega)).mp (Y.2.1.symm.trans e2)
    subst this
    have R10 : σ 10 1 = nI ns' := Y.2.2.1
    have s5' : σ (101 + 3 * i) 1 = nI n' := s5
    rw [f_X10_judge_L53, f_X11_judge_L33, if_pos (in4 rfl hi), clampN (by omega), e1, show 100 + 3 * i + 1 = 101 + 3 * i by omega]
    have last : k = min n' ns' → Agree (if 100 + 3 * i = 0 then none else (Option.bind (f_X2_size (101 + 3 * i) σ) fun r10 => (Option.bind (f_X4_size r10.2) fun r11 => (if r10.1 = r11.1 then (some ((-1), r11.2)) else (some (nI (min n' ns'), r11.2)))))) (f_X11_judge_L77 (nI i) (nI k) τ) := by
      intro e
      rw [if_neg (by omega), size_ok, ob_some]
      dsimp only
      rw [cSizY R10, ob_some, s5', f_X11_judge_L77, if_pos (in4 rfl hi), clampN (by omega), e1, e2]
      dsimp only
      by_cases q : n' = ns'
      · subst q
        have : k = n' := by omega
        subst this
        rw [if_pos rfl, if_pos rfl, if_pos rfl]
        exact Agree.of h
      · rw [if_neg (fun x => q ((nI_eq (by omega) (by omega)).mp x))]
        by_cases q2 : k = n'
        · rw [if_pos (by rw [q2]), if_neg (fun x => by have := (nI_eq (by omega) (by omega)).mp x; omega)]
          exact Agree.of' (by rw [e]) h
        · rw [if_neg (fun x => q2 ((nI_eq (by omega) (by omega)).mp x))]
          exact Agree.of' (by rw [e]) h
    by_cases e : k = min n' ns'
    · rw [if_pos (by rw [e]; exact Int32.le_rfl)]
      by_cases hkn : k = n'
      · rw [if_pos (show nI n' ≤ nI k by rw [hkn]; exact Int32.le_rfl)]
        exact last e
      · have hkf : k = ns' := by omega
        rw [if_neg (show ¬ nI n' ≤ nI k from fun x => by have := (nI_leI (by omega) (by omega)).mp x; omega), mSay _ e2 (by omega), ob_some, show isIx (nI k) ns' = false from decide_eq_false (fun x => by have := (nI_ltI (by omega) (by omega)).mp x.2; omega)]
        dsimp only
        rw [if_pos (show bI false = 0 from rfl)]
        exact last e
    · have hlt : k < min n' ns' := by omega
      have q3 := (Y.2.2.2.2.2.2.2.2 k (by omega)).2.2.2.1
      have q3' : σ 17 k = τ 1 (44 + 5 * k) := q3
      rw [if_neg (show ¬ nI (min n' ns') ≤ nI k from fun x => by have := (nI_leI (by omega) (by omega)).mp x; omega), if_neg (show ¬ 100 + 3 * i = 0 by omega), if_neg (show ¬ nI n' ≤ nI k from fun x => by have := (nI_leI (by omega) (by omega)).mp x; omega), getS σ hi (by omega), ob_some]
      dsimp only
      rw [get16 σ (by omega), ob_some, mSay _ e2 (by omega), ob_some, s7 k (by omega), q3']
      simp only [if_bI, isIx_of (show k < ns' by omega) (show ns' < 2 ^ 31 by omega)]
      dsimp only [cond]
      rw [ix40, if_pos (in160 hi (by omega)), sayIs3 τ (by omega), ob_some, clampN (by omega), nI_1]
      dsimp only
      refine Agree.ite (fun _ => ih (k + 1) hlt (by omega)) (fun hne => ?_)
      rw [f_X11_judge_L77, if_pos (in4 rfl hi), clampN (by omega), e1, if_neg (fun x => by have := (nI_eq (by omega) (by omega)).mp x; omega)]
      exact Agree.of h
theorem k_judge {σ τ : St} (h : RR σ τ) (a : Int32) : Agree (f_X10_judge a σ) (f_X11_judge a τ) := by
  simp only [f_X10_judge, f_X11_judge, mSheet, cMiss, ob_some, ob_eta, if_bI]
  rcases sheetAt_cases a σ with ⟨e1, e2⟩ | ⟨i, hi, rfl, e1, e2⟩
  · rw [e1, e2, ob_some]
    dsimp only [cond]
    rw [if_s0, if_pos rfl]
    exact Agree.err h 1
  · obtain ⟨s1, s2, n, s3, s4, s5, s6, s7⟩ := h.2.2.2.2.1 i hi
    obtain ⟨-, -, ⟨ns, nf, kn, kf, Y, F, K⟩, -⟩ := h.1
    have s5' : σ (101 + 3 * i) 1 = nI n := s5
    have R10 : σ 10 1 = nI ns := Y.2.2.1
    rw [e1, e2, ob_some]
    dsimp only [cond]
    rw [if_s5 hi, if_neg (by omega), if_pos (in4 rfl hi), clampN (by omega)]
    simp only [s1]
    by_cases h0 : τ 10 i = 0
    · rw [if_pos h0, decide_eq_true h0]
      exact Agree.err h 2
    · rw [if_neg h0, decide_eq_false h0]
      dsimp only
      have y8 := Y.1
      rw [size_ok, ob_some, show 100 + 3 * i + 1 = 101 + 3 * i by omega]
      dsimp only
      rw [cSizY R10, ob_some, s5']
      dsimp only
      rw [imin_ok (by omega) (by omega)]
      exact judL h hi s3 y8 s4 Y.2.1 400 0 (Nat.zero_le _) (by have : min n ns ≤ n := Nat.min_le_left _ _; omega)
/-! who knows is as a sheet tells -/
def fitP (g : Nat → Int32) (s j : Nat) : Prop := g j < 0 ∨ g j = nI (s.testBit j).toNat
def fitB (g : Nat → Int32) (s n : Nat) : Bool := decide (∀ j, j < n → g j < 0 ∨ g j = nI (s.testBit j).toNat)
theorem fits_L {k n s : Nat} {σ : St} {g : Nat → Int32} {c : Nat} (hc : shC (k + 1 + 1) - 100 = c) (hc2 : c ≤ 100) (hnc : n ≤ c) (hs : s < 256) (hn : n ≤ 8) (h1 : σ (k + 1) 1 = nI n) (h2 : ∀ j, j < n → σ (k + 1 + 1) j = g j) :
    ∀ f i, i ≤ n → n - i < f → (∀ j, j < i → fitP g s j) → f_X5_fits_L2 k f (nI s) (nI i) σ = some (bI (fitB g s n), σ) := by
  intro f
  induction f with
  | zero => intro i _ h; omega
  | succ f ih =>
    intro i hi hf hp
    rw [f_X5_fits_L2, size_ok, ob_some, h1]
    by_cases e : i = n
    · subst e
      rw [if_pos Int32.le_rfl, show fitB g s i = true from decide_eq_true hp]
      rfl
    · have hlt : i < n := by omega
      rw [if_neg (fun x => e (by have := (nI_leI (by omega) (by omega)).mp x; omega)), get_ok hc (by omega) σ (by omega), ob_some, h2 i hlt]
      dsimp only
      have nxt : fitP g s i → f_X5_fits_L2 k f (nI s) (nI (i + 1)) σ = some (bI (fitB g s n), σ) := fun q => ih (i + 1) hlt (by omega) (fun j hj => by
        by_cases hj2 : j = i
        · subst hj2; exact q
        · exact hp j (by omega))
      by_cases q1 : g i < 0
      · rw [if_pos q1, nI_1]
        exact nxt (Or.inl q1)
      · rw [if_neg q1, inSet_ok hs (by omega), ob_some]
        dsimp only
        by_cases q2 : g i = nI (s.testBit i).toNat
        · rw [if_pos q2, nI_1]
          exact nxt (Or.inr q2)
        · rw [if_neg q2, show fitB g s n = false from decide_eq_false (fun x => (x i hlt).elim q1 q2)]
          rfl
theorem told_L {i n s : Nat} {τ : St} {g : Nat → Int32} (hi : i < 4) (hs : s < 256) (hn : n ≤ 8) (h1 : τ 1 4 = nI n) (h2 : ∀ j, j < n → τ 12 (40 * i + j) = g j) :
    ∀ f k, k ≤ n → n - k < f → f_X11_isTold_L5 f (nI i) (nI s) (bI (fitB g s k)) (nI k) τ = some (bI (fitB g s n), τ) := by
  intro f
  induction f with
  | zero => intro k _ h; omega
  | succ f ih =>
    intro k hk hf
    rw [f_X11_isTold_L5, h1]
    by_cases e : k = n
    · subst e
      rw [if_pos Int32.le_rfl, if_bI01]
    · have hlt : k < n := by omega
      rw [if_neg (fun x => e (by have := (nI_leI (by omega) (by omega)).mp x; omega)), ix40, if_pos (in160 hi (by omega)), clampN (by omega), h2 k hlt, z_in s hs k (by omega), nI_1]
      have nxt := ih (k + 1) hlt (by omega)
      have step : fitB g s (k + 1) = true ↔ fitB g s k = true ∧ fitP g s k := by
        unfold fitB fitP
        rw [decide_eq_true_iff, decide_eq_true_iff]
        constructor
        · intro x
          exact ⟨fun j hj => x j (by omega), x k (by omega)⟩
        · rintro ⟨x, y⟩ j hj
          by_cases hj2 : j = k
          · subst hj2; exact y
          · exact x j (by omega)
      cases hb : fitB g s k
      · rw [if_pos (show bI false = 0 from rfl)]
        rw [show fitB g s (k + 1) = false from bnot (fun x => by rw [(step.mp x).1] at hb; cases hb)] at nxt
        exact nxt
      · rw [if_neg (show ¬ bI true = 0 by decide)]
        by_cases q1 : g k < 0
        · rw [if_pos q1]
          rw [step.mpr ⟨hb, Or.inl q1⟩] at nxt
          exact nxt
        · rw [if_neg q1]
          by_cases q2 : g k = nI (s.testBit k).toNat
          · rw [if_pos q2]
            rw [step.mpr ⟨hb, Or.inr q2⟩] at nxt
            exact nxt
          · rw [if_neg q2]
            rw [show fitB g s (k + 1) = false from bnot (fun x => (step.mp x).2.elim q1 q2)] at nxt
            exact nxt
theorem fits_ok {i n s : Nat} {σ : St} {g : Nat → Int32} (hi : i < 4) (hs : s < 256) (hn : n ≤ 8) (h1 : σ (101 + 3 * i) 1 = nI n) (h2 : ∀ j, j < n → σ (102 + 3 * i) j = g j) : f_X5_fits (100 + 3 * i) (nI s) σ = some (bI (fitB g s n), σ) := by
  refine fits_L (k := 100 + 3 * i) (c := 40) ?_ (by decide) (by omega) hs hn ?_ ?_ 400 0 (Nat.zero_le _) (by omega) (fun j hj => by omega)
  · rw [show 100 + 3 * i + 1 + 1 = 101 + 3 * i + 1 by omega]
    exact shS hi
  · rw [show 100 + 3 * i + 1 = 101 + 3 * i by omega]
    exact h1
  · rw [show 100 + 3 * i + 1 + 1 = 102 + 3 * i by omega]
    exact h2
theorem isTold_ok {i n s : Nat} {τ : St} {g : Nat → Int32} (hi : i < 4) (hs : s < 256) (hn : n ≤ 8) (h1 : τ 1 4 = nI n) (h2 : ∀ j, j < n → τ 12 (40 * i + j) = g j) : f_X11_isTold (nI i) (nI s) τ = some (bI (fitB g s n), τ) := by
  have := told_L hi hs hn h1 h2 400 0 (Nat.zero_le _) (by omega)
  rw [show fitB g s 0 = true from decide_eq_true (fun j hj => by omega)] at this
  exact this
/-- whether a sheet tells of all folk, by both -/
theorem tells_ok {σ τ : St} (h : RR σ τ) {i nf : Nat} (hi : i < 4) (hf : nf ≤ 6) (h4 : τ 1 4 = nI nf) : ∃ t : Bool, f_X5_tellsOf (100 + 3 * i) (nI nf) σ = some (bI t, σ) ∧ f_X11_tellsNobody (nI i) τ = some (bI (!t), τ) ∧ (t = true → σ (101 + 3 * i) 1 = nI nf ∧ ∀ j, j < nf → σ (102 + 3 * i) j = τ 12 (40 * i + j)) := by
  obtain ⟨s1, s2, n, s3, s4, s5, s6, s7⟩ := h.2.2.2.2.1 i hi
  have s5' : σ (101 + 3 * i) 1 = nI n := s5
  rw [f_X5_tellsOf, cMiss, ob_some, f_X11_tellsNobody, if_pos (in4 rfl hi), clampN (by omega), show 100 + 3 * i + 1 = 101 + 3 * i by omega]
  simp only [s1, if_bI]
  by_cases h0 : τ 10 i = 0
  · rw [if_pos h0, decide_eq_true h0]
    exact ⟨false, rfl, rfl, fun x => by cases x⟩
  · rw [if_neg h0, decide_eq_false h0, if_pos (in4 rfl hi), s4, h4]
    dsimp only [cond]
    rw [size_ok, ob_some, s5']
    dsimp only
    by_cases q : n = nf
    · subst q
      rw [if_pos rfl, if_pos rfl]
      exact ⟨true, rfl, rfl, fun _ => ⟨rfl, s7⟩⟩
    · have : ¬ nI n = nI nf := fun x => q ((nI_eq (by omega) (by omega)).mp x)
      rw [if_neg this, if_neg this]
      exact ⟨false, rfl, rfl, fun x => by cases x⟩
