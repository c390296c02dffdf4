/-! sheets -/
def fpS (q j : Nat) : Prop := (100 ≤ q ∧ q < 112) ∨ q = 96 ∨ q = 97
def fmS (q j : Nat) : Prop := 10 ≤ q ∧ q ≤ 13
theorem RR.newS {σ σ' τ τ' : St} (h : RR σ τ) (hc : same fpS σ σ') (hm : same fmS τ τ') (hs : RS σ' τ') : RR σ' τ' := by
  obtain ⟨h1, h2, h3, h4, h5, h6, h7, h8⟩ := h
  unfold same fpS at hc
  unfold same fmS at hm
  refine ⟨h1.congr (fun q j hq => hc q j (by unfold vil at hq; omega)) (fun i hi => hm 1 i (by omega)), ?_, by rw [hc 0 7 (by omega), hm 0 3 (by omega), h3], fun i a b => by rw [hc 99 i (by omega), hm 4 i (by omega)]; exact h4 i a b, hs, ?_, by rw [hc 31 2 (by omega)]; exact h7, by rw [hc 36 2 (by omega)]; exact h8⟩
  · rw [hm 0 3 (by omega)]
    exact h2.imp id (fun h => h.congr (fun q j hq => hc q j (by unfold vil at hq; omega)) (fun i hi => hm 2 i (by omega)))
  · obtain ⟨n, c1, c2, c3, c4⟩ := h6
    unfold rowN at c3
    refine ⟨n, c1, by rw [hm 0 15 (by omega)]; exact c2, ?_, fun j hj => by rw [hc 94 j (by omega), hm 9 j (by omega)]; exact c4 j hj⟩
    unfold rowN
    rw [hc 93 1 (by omega)]
    exact c3
theorem sheetAt_cases (a : Int32) (σ : St) : (btw a 0 3 = false ∧ f_X10_sheetAt a σ = some (0, σ)) ∨ ∃ i, i < 4 ∧ a = nI i ∧ btw a 0 3 = true ∧ f_X10_sheetAt a σ = some (100 + 3 * i, σ) := by
  rcases pk_ix a (n := 4) (by decide) with h | h | ⟨j, hj, rfl⟩
  · left
    exact ⟨decide_eq_false (fun x => Int32.not_lt.mpr x.1 h), by rw [f_X10_sheetAt, if_pos h]⟩
  · left
    refine ⟨decide_eq_false (fun x => ?_), ?_⟩
    · exact absurd (Int32.le_trans h x.2) (by decide)
    · rw [f_X10_sheetAt, if_neg (Int32.not_lt.mpr (Int32.le_trans (show (0 : Int32) ≤ nI 4 by decide) h)), if_pos (show (4 : Int32) ≤ a from h)]
  · right
    refine ⟨j, hj, rfl, decide_eq_true ⟨nI_pos' (by omega), (nI_leI (b := 3) (by omega) (by decide)).mpr (by omega)⟩, ?_⟩
    rw [f_X10_sheetAt, if_neg (nI_pos (by omega)), if_neg (show ¬ (4 : Int32) ≤ nI j from fun x => by have := (nI_leI (a := 4) (by decide) (by omega)).mp x; omega), if_pos (nI_inb hj (by decide)), nI_clamp (by omega)]
theorem sh5 {i : Nat} (hi : i < 4) : shC (100 + 3 * i) = 5 := by
  have : i = 0 ∨ i = 1 ∨ i = 2 ∨ i = 3 := by omega
  rcases this with h | h | h | h <;> subst h <;> rfl
theorem if_s0 {α : Type} {x : Option α} : (if (0 : Nat) = 0 ∨ shC 0 = 5 then x else none) = x := if_pos (Or.inl rfl)
theorem if_s5 {α : Type} {i : Nat} {x : Option α} (hi : i < 4) : (if 100 + 3 * i = 0 ∨ shC (100 + 3 * i) = 5 then x else none) = x := if_pos (Or.inr (sh5 hi))
theorem in4 {k i : Nat} (hk : shM k - 100 = 4) (hi : i < 4) : inb (nI i) (shM k - 100) = true := by
  rw [hk]
  exact nI_inb hi (by decide)
theorem in160 {i j : Nat} (hi : i < 4) (hj : j < 40) : inb (nI (40 * i + j)) (shM 12 - 100) = true := nI_inb (show 40 * i + j < 160 by omega) (by decide)
theorem cMiss (k : Nat) (σ : St) : f_X5_isMissing k σ = some (bI (decide (σ k 0 = 0)), σ) := by
  rw [f_X5_isMissing]
  by_cases h : σ k 0 = 0
  · rw [if_pos h, decide_eq_true h]; rfl
  · rw [if_neg h, decide_eq_false h]; rfl
theorem sheetZ {i : Nat} (hi : i < 4) : ∀ n k (τ : St), k ≤ 40 → 40 - k < n → ∃ τ', f_X11_sheet_L93 n (nI i) (nI k) τ = some (1, τ') ∧ (∀ q j, ¬ (q = 12 ∧ 40 * i ≤ j ∧ j < 40 * i + 40) → τ' q j = τ q j) ∧ (∀ j, j < k → τ' 12 (40 * i + j) = τ 12 (40 * i + j)) ∧ ∀ j, k ≤ j → j < 40 → τ' 12 (40 * i + j) = 0 := by
  intro n
  induction n with
  | zero => intro k _ _ h; omega
  | succ n ih =>
    intro k τ hk hn
    rw [f_X11_sheet_L93]
    by_cases e : k = 40
    · subst e
      rw [if_pos (by decide)]
      exact ⟨τ, rfl, fun _ _ _ => rfl, fun _ _ => rfl, fun j a b => by omega⟩
    · have hlt : k < 40 := by omega
      rw [if_neg (show ¬ (40 : Int32) ≤ nI k from fun x => e (by have := (nI_leI (a := 40) (by decide) (by omega)).mp x; omega)), ix40, if_pos (in160 hi hlt), clampN (by omega), bst_ok, nI_1]
      obtain ⟨τ', e1, e2, e3, e4⟩ := ih (k + 1) (up τ 12 (40 * i + k) 0) hlt (by omega)
      refine ⟨τ', e1, fun q j hq => (e2 q j hq).trans (up_o (by omega)), fun j hj => (e3 j (by omega)).trans (up_o (by omega)), fun j h1 h2 => ?_⟩
      by_cases hj : j = k
      · subst hj
        rw [e3 _ (by omega), up_e rfl rfl]
      · exact e4 j (by omega) h2
/-- a sheet is made anew, of n numbers and bits b -/
theorem sheetNew {σ τ : St} (h : RR σ τ) {i n : Nat} {b : Int32} (hi : i < 4) (hn : n ≤ 40) (hb : b = 0 ∨ b = 8 ∨ b = 16 ∨ b = 32) (hz : b = 0 → n = 0) :
    Agree (Option.bind (f_X2_zeros (100 + 3 * i + 1) (nI n) (up σ (100 + 3 * i) 0 b)) fun r => some (1, r)) (f_X11_sheet_L93 400 (nI i) 0 (up (up τ 10 i b) 11 i (nI n))) := by
  obtain ⟨s, e1, e2, e3, e4, e5⟩ := zeros_ok (k := 101 + 3 * i) (c := 40) (n := n) (shS hi) (by decide) hn (up σ (100 + 3 * i) 0 b)
  obtain ⟨t, m1, m2, -, m4⟩ := sheetZ hi 400 0 (up (up τ 10 i b) 11 i (nI n)) (Nat.zero_le _) (by omega)
  rw [show 100 + 3 * i + 1 = 101 + 3 * i by omega, e1, ob_some, show (0 : Int32) = nI 0 from rfl, m1]
  have hs : ∀ q j, q ≠ 101 + 3 * i → q ≠ 102 + 3 * i → s q j = up σ (100 + 3 * i) 0 b q j := fun q j h1 h2 => by rw [e3 q h1 (by omega)]
  refine Agree.of (h.newS (fun q j e => ?_) (fun q j e => ?_) (fun k hk => ?_))
  · unfold fpS at e
    rw [hs q j (by omega) (by omega)]
    exact up_o (by omega)
  · unfold fmS at e
    rw [m2 q j (by omega), up_o (by omega), up_o (by omega)]
  · by_cases hki : k = i
    · subst hki
      refine ⟨?_, ?_, n, hn, ?_, e2, ?_, fun j hj => ?_⟩
      · rw [hs _ _ (by omega) (by omega), m2 _ _ (by omega), up_e rfl rfl, up_o (by omega), up_e rfl rfl]
      · rw [m2 _ _ (by omega), up_o (by omega), up_e rfl rfl]
        exact hb
      · rw [m2 _ _ (by omega), up_e rfl rfl]
      · rw [m2 _ _ (by omega), up_o (by omega), up_e rfl rfl]
        exact hz
      · rw [m4 j (Nat.zero_le _) (by omega)]
        have := e5 j hj
        rw [show 101 + 3 * k + 1 = 102 + 3 * k by omega] at this
        exact this
    · obtain ⟨a, b', n', c1, c2, c3, c4, c5⟩ := h.2.2.2.2.1 k hk
      unfold rowN at c3
      have t10 : t 10 k = τ 10 k := by rw [m2 _ _ (by omega), up_o (by omega), up_o (by omega)]
      have t11 : t 11 k = τ 11 k := by rw [m2 _ _ (by omega), up_o (by omega), up_o (by omega)]
      unfold rowN
      rw [t10, t11, hs _ _ (by omega) (by omega), up_o (by omega), hs _ _ (by omega) (by omega), up_o (by omega)]
      refine ⟨a, b', n', c1, c2, c3, c4, fun j hj => ?_⟩
      rw [hs _ _ (by omega) (by omega), up_o (by omega), m2 _ _ (by omega), up_o (by omega), up_o (by omega)]
      exact c5 j hj
theorem sheetL {σ τ : St} (h : RR σ τ) {i : Nat} {b c : Int32} (hi : i < 4) (hb : b = 8 ∨ b = 16 ∨ b = 32) :
    Agree (if b = 0 then f_X10_sheet_L54 b c (100 + 3 * i) σ else (if 0 ≤ c then f_X10_sheet_L54 b c (100 + 3 * i) σ else f_X10_error 3 σ)) (f_X11_sheet_L36 (nI i) b c τ) := by
  have b0 : ¬ b = 0 := by
    rcases hb with rfl | rfl | rfl <;> decide
  rw [f_X11_sheet_L36, if_neg b0, if_neg b0]
  refine Agree.ite (fun hc => ?_) (fun _ => by rw [ob_eta]; exact Agree.err h 3)
  rw [f_X10_sheet_L54, if_neg b0, if_neg b0, ob_eta, ob_eta]
  refine Agree.ite (fun hc2 => ?_) (fun _ => Agree.err h 1)
  obtain ⟨n, hn, rfl⟩ := nI_of2 (n := 40) (show (40 : Int32).toInt = (40 : Nat) by decide) (Int32.not_lt.mpr hc) hc2
  rw [if_neg (by omega), bst_ok, if_neg b0, f_X11_sheet_L68, if_pos (in4 rfl hi), bst_ok, if_neg b0, if_pos (in4 rfl hi), bst_ok, clampN (by omega)]
  exact sheetNew h hi hn (Or.inr hb) (fun x => absurd x b0)
theorem k_sheet {σ τ : St} (h : RR σ τ) (a b c : Int32) : Agree (f_X10_sheet a b c σ) (f_X11_sheet a b c τ) := by
  simp only [f_X10_sheet, f_X11_sheet, mSheet, ob_some, ob_eta, if_bI]
  rcases sheetAt_cases a σ with ⟨e1, e2⟩ | ⟨i, hi, rfl, e1, e2⟩
  · rw [e1, e2, ob_some]
    dsimp only [cond]
    rw [if_s0, if_pos rfl]
    exact Agree.err h 1
  · rw [e1, e2, ob_some]
    dsimp only [cond]
    rw [if_s5 hi, if_neg (by omega)]
    refine Agree.ite (fun b0 => ?_) (fun b0 => ?_)
    · subst b0
      rw [if_pos rfl, f_X10_sheet_L54, if_pos rfl, if_neg (by omega), bst_ok, if_pos rfl, f_X11_sheet_L36, if_pos rfl, if_pos rfl, f_X11_sheet_L68, if_pos (in4 rfl hi), bst_ok, if_pos rfl, if_pos (in4 rfl hi), bst_ok, clampN (by omega)]
      exact sheetNew (n := 0) h hi (by decide) (Or.inl rfl) (fun _ => rfl)
    · refine Agree.ite (fun b8 => sheetL h hi (Or.inl b8)) (fun _ => ?_)
      refine Agree.ite (fun b8 => sheetL h hi (Or.inr (Or.inl b8))) (fun _ => ?_)
      exact Agree.ite (fun b8 => sheetL h hi (Or.inr (Or.inr b8))) (fun _ => Agree.err h 1)
theorem k_put {σ τ : St} (h : RR σ τ) (a b c : Int32) : Agree (f_X10_put a b c σ) (f_X11_put a b c τ) := by
  simp only [f_X10_put, f_X11_put, mSheet, cMiss, mwithin_ok, ob_some, ob_eta, if_bI]
  rcases sheetAt_cases a σ with ⟨e1, e2⟩ | ⟨i, hi, rfl, e1, e2⟩
  · rw [e1, e2, ob_some]
    dsimp only [cond]
    rw [if_s0, if_pos rfl]
    exact Agree.err h 1
  · obtain ⟨s1, s2, n, s3, s4, s5, s6, s7⟩ := h.2.2.2.2.1 i hi
    have s5' : σ (100 + 3 * i + 1) 1 = nI n := by rw [show 100 + 3 * i + 1 = 101 + 3 * i by omega]; exact s5
    rw [e1, e2, ob_some]
    dsimp only [cond]
    rw [if_s5 hi, if_neg (by omega), if_pos (in4 rfl hi), clampN (by omega)]
    simp only [s1]
    by_cases h0 : τ 10 i = 0
    · rw [if_pos h0, decide_eq_true h0]
      exact Agree.err h 2
    · rw [if_neg h0, decide_eq_false h0, if_pos (in4 rfl hi), s4, btw_ix _ (show n < 2 ^ 30 by omega)]
      dsimp only
      rw [has_ok _ b σ s5', ob_some]
      simp only [if_bI]
      refine Agree.cond (fun hb => ?_) (fun _ => Agree.err h 1)
      obtain ⟨j, hj, rfl⟩ := isIx_nI hb (by omega)
      have main : ∀ v : Int32, Agree (Option.bind (f_X2_set (100 + 3 * i + 1) (nI j) v σ) fun r => some (1, r)) (if inb (nI (40 * i + j)) (shM 12 - 100) = true then (Bst (up τ 12 (nI (40 * i + j)).toNatClampNeg v) fun s9 => (some (1, s9))) else none) := by
        intro v
        rw [if_pos (in160 hi (by omega)), clampN (by omega), bst_ok, show 100 + 3 * i + 1 = 101 + 3 * i by omega, setS v σ hi (by omega), ob_some]
        refine Agree.of (h.newS (fun q j e => ?_) (fun q j e => ?_) (fun k hk => ?_))
        · unfold fpS at e
          exact up_o (by omega)
        · unfold fmS at e
          exact up_o (by omega)
        · obtain ⟨a1, a2, n', a3, a4, a5, a6, a7⟩ := h.2.2.2.2.1 k hk
          unfold rowN at a5
          unfold rowN
          rw [up_o (by omega), up_o (by omega), up_o (by omega), up_o (by omega)]
          refine ⟨a1, a2, n', a3, a4, a5, a6, fun j' hj' => ?_⟩
          by_cases hkj : k = i ∧ j' = j
          · rw [up_e (by omega) (by omega), up_e (by omega) (by omega)]
          · rw [up_o (by omega), up_o (by omega)]
            exact a7 j' hj'
      rw [if_pos (in4 rfl hi), if_pos (in4 rfl hi), f_X5_lowest, s1, ix40]
      by_cases h8 : τ 10 i = 8
      · rw [if_pos h8, if_pos h8, ob_some]
        exact main _
      · rw [if_neg h8, if_neg h8]
        by_cases h16 : τ 10 i = 16
        · rw [if_pos h16, if_pos h16, ob_some]
          exact main _
        · rw [if_neg h16, if_neg h16, ob_some]
          exact main _
theorem hasRun_ok {k n m p : Nat} {σ : St} (h : σ k 1 = nI n) (hn : n ≤ 100) (hm : m < 2 ^ 31) (hp : p < 2 ^ 31) : f_X2_hasRun k (nI p) (nI m) σ = some (bI (decide (p + m ≤ n)), σ) := by
  rw [f_X2_hasRun, h, if_neg (nI_pos hm), if_neg (nI_pos hp)]
  have e : nI n - nI m < nI p ↔ n < p + m := by
    rw [Int32.lt_iff_toInt_lt, Int32.toInt_sub, nI_toInt (by omega), nI_toInt hm, nI_toInt hp, Int.bmod_eq_of_le (by omega) (by omega)]
    omega
  by_cases q : p + m ≤ n
  · rw [if_neg (fun x => by have := e.mp x; omega), decide_eq_true q]; rfl
  · rw [if_pos (e.mpr (by omega)), decide_eq_false q]; rfl
theorem moveC {i p m n1 n2 jj : Nat} (hi : i < 4) (h1 : p + m ≤ n1) (h1' : n1 ≤ 40) (h2 : jj + m ≤ n2) (h2' : n2 ≤ 40) : ∀ f k (σ : St), k ≤ m → m - k < f → ∃ σ', f_X10_move_L121 f (nI p) (nI jj) (nI m) (100 + 3 * i) (nI k) σ = some (nI m, σ') ∧ (∀ q j, ¬ (q = 102 + 3 * i ∧ jj ≤ j ∧ j < jj + m) → σ' q j = σ q j) ∧ (∀ x, x < k → σ' (102 + 3 * i) (jj + x) = σ (102 + 3 * i) (jj + x)) ∧ ∀ x, k ≤ x → x < m → σ' (102 + 3 * i) (jj + x) = σ 97 (p + x) := by
  intro f
  induction f with
  | zero => intro k _ _ h; omega
  | succ f ih =>
    intro k σ hk hf
    rw [f_X10_move_L121]
    by_cases e : k = m
    · subst e
      rw [if_pos Int32.le_rfl]
      exact ⟨σ, rfl, fun _ _ _ => rfl, fun _ _ => rfl, fun x a b => by omega⟩
    · have hlt : k < m := by omega
      rw [if_neg (fun x => e (by have := (nI_leI (by omega) (by omega)).mp x; omega)), if_neg (by omega), nI_add, nI_add, get96 σ (by omega), ob_some]
      dsimp only
      rw [show 100 + 3 * i + 1 = 101 + 3 * i by omega, setS _ σ hi (by omega), ob_some, nI_1]
      obtain ⟨σ', e1, e2, e3, e4⟩ := ih (k + 1) (up σ (102 + 3 * i) (jj + k) (σ 97 (p + k))) hlt (by omega)
      refine ⟨σ', e1, fun q j hq => (e2 q j hq).trans (up_o (by omega)), fun x hx => (e3 x (by omega)).trans (up_o (by omega)), fun x a b => ?_⟩
      by_cases hx : x = k
      · subst hx
        rw [e3 _ (by omega), up_e rfl rfl]
      · rw [e4 x (by omega) b]
        exact up_o (by omega)
theorem moveM2 {i m jj : Nat} (hi : i < 4) (h2 : jj + m ≤ 40) : ∀ f k (τ : St), k ≤ m → m - k < f → ∃ τ', f_X11_move_L165 f (nI i) (nI jj) (nI m) (nI k) τ = some (nI m, τ') ∧ (∀ q j, ¬ (q = 12 ∧ 40 * i + jj ≤ j ∧ j < 40 * i + jj + m) → τ' q j = τ q j) ∧ (∀ x, x < k → τ' 12 (40 * i + jj + x) = τ 12 (40 * i + jj + x)) ∧ ∀ x, k ≤ x → x < m → τ' 12 (40 * i + jj + x) = τ 13 x := by
  intro f
  induction f with
  | zero => intro k _ _ h; omega
  | succ f ih =>
    intro k τ hk hf
    rw [f_X11_move_L165]
    by_cases e : k = m
    · subst e
      rw [if_pos Int32.le_rfl]
      exact ⟨τ, rfl, fun _ _ _ => rfl, fun _ _ => rfl, fun x a b => by omega⟩
    · have hlt : k < m := by omega
      rw [if_neg (fun x => e (by have := (nI_leI (by omega) (by omega)).mp x; omega)), if_pos (show inb (nI k) (shM 13 - 100) = true from nI_inb (show k < 40 by omega) (by decide)), ix40, nI_add, if_pos (show inb (nI (40 * i + jj + k)) (shM 12 - 100) = true from nI_inb (show 40 * i + jj + k < 160 by omega) (by decide)), clampN (by omega), clampN (by omega), bst_ok, nI_1]
      obtain ⟨τ', e1, e2, e3, e4⟩ := ih (k + 1) (up τ 12 (40 * i + jj + k) (τ 13 k)) hlt (by omega)
      refine ⟨τ', e1, fun q j hq => (e2 q j hq).trans (up_o (by omega)), fun x hx => (e3 x (by omega)).trans (up_o (by omega)), fun x a b => ?_⟩
      by_cases hx : x = k
      · subst hx
        rw [e3 _ (by omega), up_e rfl rfl]
      · rw [e4 x (by omega) b]
        exact up_o (by omega)
theorem moveM1 {i i2 m p jj : Nat} (hi : i < 4) (h2 : p + m ≤ 40) : ∀ f k (τ : St), k ≤ m → m - k < f → ∃ τ', f_X11_move_L128 f (nI i) (nI p) (nI i2) (nI jj) (nI m) (nI k) τ = f_X11_move_L165 400 (nI i2) (nI jj) (nI m) 0 τ' ∧ (∀ q j, q ≠ 13 → τ' q j = τ q j) ∧ (∀ x, x < k → τ' 13 x = τ 13 x) ∧ ∀ x, k ≤ x → x < m → τ' 13 x = τ 12 (40 * i + p + x) := by
  intro f
  induction f with
  | zero => intro k _ _ h; omega
  | succ f ih =>
    intro k τ hk hf
    rw [f_X11_move_L128]
    by_cases e : k = m
    · subst e
      rw [if_pos Int32.le_rfl]
      exact ⟨τ, rfl, fun _ _ _ => rfl, fun _ _ => rfl, fun x a b => by omega⟩
    · have hlt : k < m := by omega
      rw [if_neg (fun x => e (by have := (nI_leI (by omega) (by omega)).mp x; omega)), ix40, nI_add, if_pos (show inb (nI (40 * i + p + k)) (shM 12 - 100) = true from nI_inb (show 40 * i + p + k < 160 by omega) (by decide)), if_pos (show inb (nI k) (shM 13 - 100) = true from nI_inb (show k < 40 by omega) (by decide)), clampN (by omega), clampN (by omega), bst_ok, nI_1]
      obtain ⟨τ', e1, e2, e3, e4⟩ := ih (k + 1) (up τ 13 k (τ 12 (40 * i + p + k))) hlt (by omega)
      refine ⟨τ', e1, fun q j hq => (e2 q j hq).trans (up_o (by omega)), fun x hx => (e3 x (by omega)).trans (up_o (by omega)), fun x a b => ?_⟩
      by_cases hx : x = k
      · subst hx
        rw [e3 _ (by omega), up_e rfl rfl]
      · rw [e4 x (by omega) b]
        exact up_o (by omega)
theorem k_move {σ τ : St} (h : RR σ τ) (a b c d e : Int32) : Agree (f_X10_move a b c d e σ) (f_X11_move a b c d e τ) := by
  simp only [f_X10_move, f_X11_move, mSheet, cMiss, ob_some, ob_eta, if_bI]
  rcases sheetAt_cases a σ with ⟨e1, e2⟩ | ⟨i, hi, rfl, e1, e2⟩
  · rw [e1, e2, ob_some]
    dsimp only [cond]
    rw [if_s0]
    rcases sheetAt_cases c σ with ⟨-, g2⟩ | ⟨i, hi, rfl, -, g2⟩
    · rw [g2, ob_some]
      dsimp only
      rw [if_s0, if_pos rfl]
      exact Agree.err h 1
    · rw [g2, ob_some]
      dsimp only
      rw [if_s5 hi, if_pos rfl]
      exact Agree.err h 1
  · rw [e1, e2, ob_some]
    dsimp only [cond]
    rw [if_s5 hi]
    rcases sheetAt_cases c σ with ⟨g1, g2⟩ | ⟨i2, hi2, rfl, g1, g2⟩
    · rw [g1, g2, ob_some]
      dsimp only
      rw [if_s0, if_neg (by omega), if_pos rfl]
      exact Agree.err h 1
    · obtain ⟨s1, s2, n, s3, s4, s5, s6, s7⟩ := h.2.2.2.2.1 i hi
      obtain ⟨t1, t2, n2, t3, t4, t5, t6, t7⟩ := h.2.2.2.2.1 i2 hi2
      have s5' : σ (100 + 3 * i + 1) 1 = nI n := by rw [show 100 + 3 * i + 1 = 101 + 3 * i by omega]; exact s5
      have t5' : σ (100 + 3 * i2 + 1) 1 = nI n2 := by rw [show 100 + 3 * i2 + 1 = 101 + 3 * i2 by omega]; exact t5
      rw [g1, g2, ob_some]
      dsimp only
      rw [if_s5 hi2, if_neg (by omega), if_neg (by omega), if_pos (in4 rfl hi), clampN (by omega), clampN (by omega)]
      simp only [s1, t1, s4, t4]
      by_cases h0 : τ 10 i = 0
      · rw [if_pos h0, decide_eq_true h0]
        exact Agree.err h 2
      · rw [if_neg h0, decide_eq_false h0, if_pos (in4 rfl hi2)]
        dsimp only
        by_cases h0' : τ 10 i2 = 0
        · rw [if_pos h0', decide_eq_true h0']
          exact Agree.err h 2
        · rw [if_neg h0', decide_eq_false h0', if_pos (in4 rfl hi), if_pos (in4 rfl hi2)]
          dsimp only
          refine Agree.ite (fun hk => ?_) (fun _ => Agree.err h 5)
          have bad : Agree (f_X10_error 1 σ) (f_X11_finding (-1000000001) τ) := Agree.err h 1
          by_cases he : e < 0
          · rw [if_pos he, f_X2_hasRun, if_pos he, ob_some]
            exact bad
          · obtain ⟨m, hm, rfl⟩ := nI_of he
            rw [if_neg he]
            by_cases hb : b < 0
            · rw [if_pos hb, f_X2_hasRun, if_neg he, if_pos hb, ob_some]
              exact bad
            · obtain ⟨p, hp, rfl⟩ := nI_of hb
              rw [if_neg hb, hasRun_ok s5' (by omega) hm hp, ob_some]
              simp only [if_bI]
              by_cases hd : d < 0
              · rw [if_pos hd]
                cases decide (p + m ≤ n)
                · exact bad
                · dsimp only [cond]
                  rw [f_X2_hasRun, if_neg he, if_pos hd, ob_some]
                  exact bad
              · obtain ⟨jj, hj, rfl⟩ := nI_of hd
                have q1 : 0 < lg_cmp ((nI p).toInt64 + (nI m).toInt64) (nI n).toInt64 ↔ n < p + m := by
                  rw [lg_cmp_gt, nI_l hp, nI_l hm, nI_l (by omega), lN_add, pk_lLT (by omega) (by omega)]
                have q2 : lg_cmp ((nI jj).toInt64 + (nI m).toInt64) (nI n2).toInt64 ≤ 0 ↔ jj + m ≤ n2 := by
                  rw [lg_cmp_le, nI_l hj, nI_l hm, nI_l (by omega), lN_add, pk_lLE (by omega) (by omega)]
                rw [if_neg hd, if_pos (in4 rfl hi), if_pos (in4 rfl hi2), hasRun_ok t5' (by omega) hm hj, ob_some]
                simp only [if_bI]
                by_cases c1 : p + m ≤ n
                · rw [if_neg (fun x => by have := q1.mp x; omega), decide_eq_true c1]
                  dsimp only [cond]
                  by_cases c2 : jj + m ≤ n2
                  · rw [if_pos (q2.mpr c2), decide_eq_true c2]
                    dsimp only
                    obtain ⟨s', r1, r2, r3, r4⟩ := copyRow_ok (k := 96) (a := 101 + 3 * i) (n := n) (c := 40) (ca := 40) rfl (shS hi) (by decide) (by decide) s3 s3 (by omega) σ s5
                    obtain ⟨σ', u1, u2, -, u4⟩ := moveC (i := i2) (p := p) (m := m) (jj := jj) hi2 c1 s3 c2 t3 400 0 s' (Nat.zero_le _) (by omega)
                    obtain ⟨t', w1, w2, -, w4⟩ := moveM1 (i := i) (i2 := i2) (p := p) (m := m) (jj := jj) hi (by omega) 400 0 τ (Nat.zero_le _) (by omega)
                    obtain ⟨τ', x1, x2, -, x4⟩ := moveM2 (i := i2) (m := m) (jj := jj) hi2 (by omega) 400 0 t' (Nat.zero_le _) (by omega)
                    rw [show 100 + 3 * i + 1 = 101 + 3 * i by omega, r1, ob_some, show (0 : Int32) = nI 0 from rfl, u1, w1, show (0 : Int32) = nI 0 from rfl, x1]
                    refine Agree.of (h.newS (fun q j e => ?_) (fun q j e => ?_) (fun k hk => ?_))
                    · unfold fpS at e
                      rw [u2 q j (by omega), r2 q j (by omega)]
                    · unfold fmS at e
                      rw [x2 q j (by omega), w2 q j (by omega)]
                    · obtain ⟨a1, a2, n', a3, a4, a5, a6, a7⟩ := h.2.2.2.2.1 k hk
                      unfold rowN at a5
                      unfold rowN
                      rw [u2 (100 + 3 * k) 0 (by omega), r2 (100 + 3 * k) 0 (by omega), u2 (101 + 3 * k) 1 (by omega), r2 (101 + 3 * k) 1 (by omega), x2 10 k (by omega), w2 10 k (by omega), x2 11 k (by omega), w2 11 k (by omega)]
                      refine ⟨a1, a2, n', a3, a4, a5, a6, fun j' hj' => ?_⟩
                      by_cases hkj : k = i2 ∧ jj ≤ j' ∧ j' < jj + m
                      · obtain ⟨rfl, hj1, hj2⟩ := hkj
                        have y1 := u4 (j' - jj) (Nat.zero_le _) (by omega)
                        have y2 := x4 (j' - jj) (Nat.zero_le _) (by omega)
                        rw [show jj + (j' - jj) = j' by omega] at y1
                        rw [show 40 * k + jj + (j' - jj) = 40 * k + j' by omega] at y2
                        rw [y1, y2, w4 _ (Nat.zero_le _) (by omega), r4 (p + (j' - jj)) (by omega), show 101 + 3 * i + 1 = 102 + 3 * i by omega, s7 _ (by omega), show 40 * i + (p + (j' - jj)) = 40 * i + p + (j' - jj) by omega]
                      · rw [u2 _ _ (by omega), r2 _ _ (by omega), x2 _ _ (by omega), w2 _ _ (by omega)]
                        exact a7 j' hj'
                  · rw [if_neg (fun x => c2 (q2.mp x)), decide_eq_false c2]
                    exact bad
                · rw [if_pos (q1.mpr (by omega)), decide_eq_false c1]
                  exact bad
