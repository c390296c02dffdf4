/-! bytes come to the tape -/
theorem byte_bits (v : Int64) {i : Nat} (hi : i < 8) : (Int64.toInt32 (lush v (8 * nI i))) &&& 255 = Int64.toInt32 ((v >>> (Int32.toInt64 (8 * nI i) &&& 63)) &&& 255) := by
  have e1 : (lush v (8 * nI i)).toBitVec = v.toBitVec >>> (8 * i) := by
    have : i = 0 ∨ i = 1 ∨ i = 2 ∨ i = 3 ∨ i = 4 ∨ i = 5 ∨ i = 6 ∨ i = 7 := by omega
    rcases this with rfl | rfl | rfl | rfl | rfl | rfl | rfl | rfl <;> rfl
  have e2 : (v >>> (Int32.toInt64 (8 * nI i) &&& 63)).toBitVec = v.toBitVec.sshiftRight (8 * i) := by
    have : i = 0 ∨ i = 1 ∨ i = 2 ∨ i = 3 ∨ i = 4 ∨ i = 5 ∨ i = 6 ∨ i = 7 := by omega
    rcases this with rfl | rfl | rfl | rfl | rfl | rfl | rfl | rfl <;> rfl
  have c1 : ∀ j, j < 32 → (255 : Int32).toBitVec.getLsbD j = decide (j < 8) := by decide
  have c2 : ∀ j, j < 32 → (255 : Int64).toBitVec.getLsbD j = decide (j < 8) := by decide
  apply Int32.toBitVec_inj.1
  rw [Int32.toBitVec_and, Int64.toBitVec_toInt32, Int64.toBitVec_toInt32, Int64.toBitVec_and, e1, e2]
  apply BitVec.eq_of_getLsbD_eq
  intro j hj
  rw [BitVec.getLsbD_and, BitVec.getLsbD_signExtend, BitVec.getLsbD_signExtend, BitVec.getLsbD_and, BitVec.getLsbD_ushiftRight, BitVec.getLsbD_sshiftRight, c1 j hj, c2 j hj, if_pos (by omega), if_pos (by omega)]
  by_cases h : j < 8
  · rw [if_pos (by omega)]
    simp [h, hj]
    omega
  · simp [h]
theorem feedC {v : Int64} {B : Nat → Nat} {t m : Nat} (hB : ∀ i, i < 8 → (Int64.toInt32 (lush v (8 * nI i))) &&& 255 = nI (B i)) (hm : m ≤ 8) (ht : t + m ≤ 50) :
    ∀ n i (σ : St), i ≤ m → m - i < n → σ 27 1 = nI (t + i) → ∃ σ', f_X10_feed_L42 n v (nI m) (nI i) σ = some (nI (t + m), σ') ∧ (∀ q j, ¬ (27 ≤ q ∧ q ≤ 28) → σ' q j = σ q j) ∧ σ' 27 1 = nI (t + m) ∧ (∀ j, j < t + i → σ' 28 j = σ 28 j) ∧ ∀ k, i ≤ k → k < m → σ' 28 (t + k) = nI (B k) := by
  intro n
  induction n with
  | zero => intro i _ _ h; omega
  | succ n ih =>
    intro i σ hi hn hs
    rw [f_X10_feed_L42]
    by_cases e : i = m
    · subst e
      rw [if_pos Int32.le_rfl, size_ok, ob_some, hs]
      exact ⟨σ, rfl, fun _ _ _ => rfl, hs, fun _ _ => rfl, fun k a b => by omega⟩
    · have hlt : i < m := by omega
      rw [if_neg (fun x => e (by have := (nI_leI (by omega) (by omega)).mp x; omega)), add27 _ σ hs (by omega), ob_some, hB i (by omega), nI_1]
      obtain ⟨σ', e1, e2, e3, e4, e5⟩ := ih (i + 1) (up (up σ 28 (t + i) (nI (B i))) 27 1 (nI (t + i + 1))) hlt (by omega) (up_e rfl rfl)
      refine ⟨σ', e1, fun q j hq => ?_, e3, fun j hj => ?_, fun k a b => ?_⟩
      · rw [e2 q j hq]
        simp (disch := omega) only [up_o]
      · rw [e4 j (by omega)]
        simp (disch := omega) only [up_o]
      · by_cases hk : k = i
        · subst hk
          rw [e4 _ (by omega)]
          simp (disch := omega) only [up_o, up_e]
        · exact e5 k (by omega) b
theorem feedM {v : Int64} {B : Nat → Nat} {t m : Nat} (hB : ∀ i, i < 8 → Int64.toInt32 ((v >>> (Int32.toInt64 (8 * nI i) &&& 63)) &&& 255) = nI (B i)) (hm : m ≤ 8) (ht : t + m ≤ 50) :
    ∀ n i (τ : St), i ≤ m → m - i < n → τ 1 7 = nI (t + i) → ∃ τ', f_X11_feed_L41 n v (nI m) (nI i) τ = some (nI (t + m), τ') ∧ (∀ q j, ¬ (q = 1 ∧ (j = 7 ∨ 99 ≤ j ∧ j < 149)) → τ' q j = τ q j) ∧ τ' 1 7 = nI (t + m) ∧ (∀ j, j < t + i → τ' 1 (99 + j) = τ 1 (99 + j)) ∧ ∀ k, i ≤ k → k < m → τ' 1 (99 + (t + k)) = nI (B k) := by
  intro n
  induction n with
  | zero => intro i _ _ h; omega
  | succ n ih =>
    intro i τ hi hn hs
    rw [f_X11_feed_L41, hs]
    by_cases e : i = m
    · subst e
      rw [if_pos Int32.le_rfl]
      exact ⟨τ, rfl, fun _ _ _ => rfl, hs, fun _ _ => rfl, fun k a b => by omega⟩
    · have hlt : i < m := by omega
      have ex : (99 : Int32) + nI (t + i) = nI (99 + (t + i)) := nI_add 99 (t + i)
      rw [if_neg (fun x => e (by have := (nI_leI (by omega) (by omega)).mp x; omega)), ex, if_in (by omega), hB i (by omega), clampN (by omega), bst_ok, bst_ok, up_o (by omega), hs, nI_1, nI_1]
      obtain ⟨τ', e1, e2, e3, e4, e5⟩ := ih (i + 1) (up (up τ 1 (99 + (t + i)) (nI (B i))) 1 7 (nI (t + i + 1))) hlt (by omega) (up_e rfl rfl)
      refine ⟨τ', e1, fun q j hq => ?_, e3, fun j hj => ?_, fun k a b => ?_⟩
      · rw [e2 q j hq]
        simp (disch := omega) only [up_o]
      · rw [e4 j (by omega)]
        simp (disch := omega) only [up_o]
      · by_cases hk : k = i
        · subst hk
          rw [e4 _ (by omega)]
          simp (disch := omega) only [up_o, up_e]
        · exact e5 k (by omega) b
theorem k_feed {σ τ : St} (h : RR σ τ) (v : Int64) (a : Int32) : Agree (f_X10_feed v a σ) (f_X11_feed v a τ) := by
  have hV := h.1
  obtain ⟨-, -, -, ⟨nt, T1, T2, T3, T4⟩, -⟩ := h.1
  have R27 : σ 27 1 = nI nt := T3
  simp only [f_X10_feed, f_X11_feed, within_ok, mwithin_ok, size_ok, R27, T2, ob_some, ob_eta, if_bI]
  refine Agree.cond (fun hb => ?_) (fun _ => Agree.err h 1)
  obtain ⟨m, hm1, hm2, rfl⟩ := btw_nI 1 8 hb
  rw [nI_add]
  by_cases h50 : nt + m ≤ 50
  · have he : nI (nt + m) ≤ 50 := (nI_leI (b := 50) (by omega) (by decide)).mpr h50
    have hB : ∀ i, ∃ b, i < 8 → b < 256 ∧ (Int64.toInt32 (lush v (8 * nI i))) &&& 255 = nI b := by
      intro i
      obtain ⟨b, h1, h2⟩ := pk_andE (Int64.toInt32 (lush v (8 * nI i))) (m := 255) 8 (by decide)
      exact ⟨b, fun _ => ⟨h1, h2⟩⟩
    obtain ⟨B, hB⟩ := Classical.axiomOfChoice hB
    obtain ⟨σ', c1, c2, c3, c4, c5⟩ := feedC (v := v) (B := B) (t := nt) (m := m) (fun i hi => (hB i hi).2) hm2 h50 400 0 σ (Nat.zero_le _) (by omega) R27
    obtain ⟨τ', m1, m2, m3, m4, m5⟩ := feedM (v := v) (B := B) (t := nt) (m := m) (fun i hi => by rw [← byte_bits v hi]; exact (hB i hi).2) hm2 h50 400 0 τ (Nat.zero_le _) (by omega) T2
    rw [if_pos he, if_pos he, show (0 : Int32) = nI 0 from rfl, c1, m1]
    refine Agree.of (h.now (fun q j e => ?_) (fun q j e => ?_) (hV.newT (fun q j e => ?_) (fun i e => ?_) ⟨nt + m, h50, m3, c3, fun i hi => ?_⟩))
    · unfold nowC at e
      exact c2 q j (by omega)
    · unfold nowM at e
      exact m2 q j (by omega)
    · unfold fpT at e
      exact c2 q j (by omega)
    · unfold nfT at e
      exact m2 1 i (by omega)
    · by_cases hin : i < nt
      · rw [c4 i (by omega), m4 i (by omega)]
        exact T4 i hin
      · have e1 := c5 (i - nt) (Nat.zero_le _) (by omega)
        have e2 := m5 (i - nt) (Nat.zero_le _) (by omega)
        rw [show nt + (i - nt) = i by omega] at e1 e2
        rw [e1, e2]
        exact ⟨rfl, _, (hB (i - nt) (by omega)).1, rfl⟩
  · have he : ¬ nI (nt + m) ≤ 50 := fun x => h50 ((nI_leI (b := 50) (by omega) (by decide)).mp x)
    rw [if_neg he, if_neg he]
    exact Agree.err h 4
/-! rows come into other rows -/
theorem copyRow {k a n c ca : Nat} (hk : shC (k + 1) - 100 = c) (ha : shC (a + 1) - 100 = ca) (hc : c ≤ 300) (hca : ca ≤ 300) (hn : n ≤ c) (hna : n ≤ ca) (hne : a ≠ k ∧ a ≠ k + 1 ∧ a + 1 ≠ k) :
    ∀ f i (σ : St), i ≤ n → n - i < f → σ a 1 = nI n → σ k 1 = nI i → ∃ σ', f_X2_copyFrom_L6 k f a (nI i) σ = some σ' ∧ (∀ q j, ¬ ((q = k ∧ j = 1) ∨ q = k + 1) → σ' q j = σ q j) ∧ σ' k 1 = nI n ∧ (∀ j, j < i → σ' (k + 1) j = σ (k + 1) j) ∧ ∀ j, i ≤ j → j < n → σ' (k + 1) j = σ (a + 1) j := by
  intro f
  induction f with
  | zero => intro i _ _ h; omega
  | succ f ih =>
    intro i σ hi hf h1 h2
    rw [f_X2_copyFrom_L6, h1]
    by_cases e : i = n
    · subst e
      rw [if_pos Int32.le_rfl]
      exact ⟨σ, rfl, fun _ _ _ => rfl, h2, fun _ _ => rfl, fun k a b => by omega⟩
    · have hlt : i < n := by omega
      rw [if_neg (fun x => e (by have := (nI_leI (by omega) (by omega)).mp x; omega)), get_ok ha (by omega) σ (by omega), ob_some]
      dsimp only
      rw [add_ok hk (by omega) σ _ h2 (by omega), ob_some, nI_1]
      obtain ⟨σ', e1, e2, e3, e4, e5⟩ := ih (i + 1) (up (up σ (k + 1) i (σ (a + 1) i)) k 1 (nI (i + 1))) hlt (by omega) (by simp (disch := omega) only [up_o]; exact h1) (up_e rfl rfl)
      refine ⟨σ', e1, fun q j hq => ?_, e3, fun j hj => ?_, fun j a b => ?_⟩
      · rw [e2 q j hq]
        simp (disch := omega) only [up_o]
      · rw [e4 j (by omega)]
        simp (disch := omega) only [up_o]
      · by_cases hj : j = i
        · subst hj
          rw [e4 _ (by omega)]
          simp (disch := omega) only [up_o, up_e]
        · rw [e5 j (by omega) b]
          simp (disch := omega) only [up_o]
theorem copyRow_ok {k a n c ca : Nat} (hk : shC (k + 1) - 100 = c) (ha : shC (a + 1) - 100 = ca) (hc : c ≤ 300) (hca : ca ≤ 300) (hn : n ≤ c) (hna : n ≤ ca) (hne : a ≠ k ∧ a ≠ k + 1 ∧ a + 1 ≠ k) (σ : St) (h : σ a 1 = nI n) :
    ∃ σ', f_X2_copyFrom k a σ = some σ' ∧ (∀ q j, ¬ ((q = k ∧ j = 1) ∨ q = k + 1) → σ' q j = σ q j) ∧ σ' k 1 = nI n ∧ ∀ j, j < n → σ' (k + 1) j = σ (a + 1) j := by
  obtain ⟨σ', e1, e2, e3, -, e5⟩ := copyRow hk ha hc hca hn hna hne 400 0 (up σ k 1 0) (Nat.zero_le _) (by omega) (by rw [up_o (by omega)]; exact h) (up_e rfl rfl)
  refine ⟨σ', ?_, fun q j hq => ?_, e3, fun j hj => ?_⟩
  · rw [f_X2_copyFrom, clear_ok, ob_some]
    exact e1
  · rw [e2 q j hq]
    exact up_o (by omega)
  · rw [e5 j (Nat.zero_le _) hj]
    exact up_o (by omega)
def DoneL (k a : Nat) (D : List Nat) (s0 s : St) : Prop := (∀ q j, (∀ x, x ∈ D → ¬ ((q = k + x ∧ j = 1) ∨ q = k + x + 1)) → s q j = s0 q j) ∧ ∀ x, x ∈ D → s (k + x) 1 = s0 (a + x) 1 ∧ ∀ j n, s0 (a + x) 1 = nI n → j < n → n < 100 → s (k + x + 1) j = s0 (a + x + 1) j
theorem copy_step {k a r c n : Nat} {D : List Nat} {s0 s : St} (hka : (k = 1 ∧ a = 44) ∨ (k = 44 ∧ a = 1)) (h : DoneL k a D s0 s) (hn : s0 (a + r) 1 = nI n) (hnc : n ≤ c) (hr : r ≤ 37) (hD : ∀ x, x ∈ D → x ≤ 37 ∧ x ≠ r ∧ x + 1 ≠ r ∧ x ≠ r + 1) (hc : shC (k + r + 1) - 100 = c) (hc' : shC (a + r + 1) - 100 = c) (h50 : c ≤ 50) :
    ∃ s', f_X2_copyFrom (k + r) (a + r) s = some s' ∧ DoneL k a (r :: D) s0 s' := by
  obtain ⟨h1, h2⟩ := h
  have e0 : ∀ j, s (a + r) j = s0 (a + r) j := fun j => h1 _ _ (fun x hx => by have := hD x hx; omega)
  have e0' : ∀ j, s (a + r + 1) j = s0 (a + r + 1) j := fun j => h1 _ _ (fun x hx => by have := hD x hx; omega)
  obtain ⟨s', q1, q2, q3, q4⟩ := copyRow_ok (k := k + r) (a := a + r) (n := n) hc hc' (by omega) (by omega) hnc hnc (by omega) s (by rw [e0, hn])
  refine ⟨s', q1, fun q j hq => ?_, fun x hx => ?_⟩
  · have hr' := hq r List.mem_cons_self
    rw [q2 q j (by omega)]
    exact h1 q j (fun x hx => hq x (List.mem_cons_of_mem _ hx))
  · rcases List.mem_cons.mp hx with rfl | hx
    · refine ⟨by rw [q3, hn], fun j m hm hj hm1 => ?_⟩
      have : m = n := (nI_eq (by omega) (by omega)).mp (hm.symm.trans hn)
      subst this
      rw [q4 j hj, e0']
    · have hd := hD x hx
      obtain ⟨g1, g2⟩ := h2 x hx
      exact ⟨by rw [q2 _ _ (by omega), g1], fun j m hm hj hm1 => by rw [q2 _ _ (by omega)]; exact g2 j m hm hj hm1⟩
theorem sh_k {k a : Nat} (hka : (k = 1 ∧ a = 44) ∨ (k = 44 ∧ a = 1)) {r c : Nat} (h1 : shC (1 + r + 1) - 100 = c) (h2 : shC (44 + r + 1) - 100 = c) : shC (k + r + 1) - 100 = c ∧ shC (a + r + 1) - 100 = c := by
  rcases hka with ⟨rfl, rfl⟩ | ⟨rfl, rfl⟩
  · exact ⟨h1, h2⟩
  · exact ⟨h2, h1⟩
def cpA (σ : St) (k a : Nat) : St := up (up (up (up σ k 0 (σ a 0)) k 1 (σ a 1)) k 2 (σ a 2)) k 3 (σ a 3)
def cpB (σ : St) (k a : Nat) : St := up (cpA σ k a) (k + 1) 3 (σ (a + 1) 3)
def cpD : List Nat := [36, 31, 28, 26, 24, 22, 19, 17, 15, 13, 11, 9, 6, 4, 2]
theorem cpA_o {σ : St} {k a q j : Nat} (h : q ≠ k) : cpA σ k a q j = σ q j := by
  unfold cpA
  rw [up_o (Or.inl h), up_o (Or.inl h), up_o (Or.inl h), up_o (Or.inl h)]
theorem cpB_o {σ : St} {k a q j : Nat} (h : q ≠ k) (h1 : q ≠ k + 1 ∨ j ≠ 3) : cpB σ k a q j = σ q j := by
  unfold cpB
  rw [up_o h1, cpA_o h]
theorem copyA {s4 : St} {k a nw : Nat} (hka : (k = 1 ∧ a = 44) ∨ (k = 44 ∧ a = 1)) (h1 : nw ≤ 8) (W4 : s4 (a + 2) 1 = nI nw) (W5 : s4 (a + 4) 1 = nI nw) (W6 : s4 (a + 6) 1 = nI nw) :
    ∃ s, f_X9_copyFrom (k + 1) (a + 1) s4 = some s ∧ DoneL k a [6, 4, 2] (up s4 (k + 1) 3 (s4 (a + 1) 3)) s := by
  have d0 : DoneL k a [] s4 s4 := ⟨fun _ _ _ => rfl, fun x hx => by cases hx⟩
  obtain ⟨s5, p5, d5⟩ := copy_step (r := 2) (c := 8) hka d0 W4 h1 (by decide) (by decide) (sh_k hka (r := 2) (c := 8) rfl rfl).1 (sh_k hka (r := 2) (c := 8) rfl rfl).2 (by decide)
  obtain ⟨s6, p6, d6⟩ := copy_step (r := 4) (c := 8) hka d5 W5 h1 (by decide) (by decide) (sh_k hka (r := 4) (c := 8) rfl rfl).1 (sh_k hka (r := 4) (c := 8) rfl rfl).2 (by decide)
  obtain ⟨s7, p7, d7⟩ := copy_step (r := 6) (c := 8) hka d6 W6 h1 (by decide) (by decide) (sh_k hka (r := 6) (c := 8) rfl rfl).1 (sh_k hka (r := 6) (c := 8) rfl rfl).2 (by decide)
  have w3 : s7 (a + 1) 3 = s4 (a + 1) 3 := d7.1 _ _ (fun x hx => by
    have : ∀ x, x ∈ [6, 4, 2] → 2 ≤ x ∧ x ≤ 6 := by decide
    have := this x hx
    omega)
  refine ⟨up s7 (k + 1) 3 (s4 (a + 1) 3), ?_, fun q j hq => ?_, fun x hx => ?_⟩
  · rw [f_X9_copyFrom]
    have p5' : f_X2_copyFrom (k + 1 + 1) (a + 1 + 1) s4 = some s5 := p5
    have p6' : f_X2_copyFrom (k + 1 + 3) (a + 1 + 3) s5 = some s6 := by rw [show k + 1 + 3 = k + 4 by omega, show a + 1 + 3 = a + 4 by omega]; exact p6
    have p7' : f_X2_copyFrom (k + 1 + 5) (a + 1 + 5) s6 = some s7 := by rw [show k + 1 + 5 = k + 6 by omega, show a + 1 + 5 = a + 6 by omega]; exact p7
    rw [p5', ob_some, p6', ob_some, p7', ob_some, bst_ok, w3]
  · rw [up_ap, up_ap]
    split
    · rfl
    · exact d7.1 q j hq
  · have hx' : 2 ≤ x ∧ x ≤ 6 := by
      have : ∀ x, x ∈ [6, 4, 2] → 2 ≤ x ∧ x ≤ 6 := by decide
      exact this x hx
    obtain ⟨g1, g2⟩ := d7.2 x hx
    refine ⟨?_, fun j n hn hj h100 => ?_⟩
    · rw [up_o (by omega), up_o (by omega)]
      exact g1
    · rw [up_o (by omega)] at hn ⊢
      rw [up_o (by omega)]
      exact g2 j n hn hj h100
theorem copyB {t0 s : St} {k a ns : Nat} (hka : (k = 1 ∧ a = 44) ∨ (k = 44 ∧ a = 1)) (h1 : ns ≤ 8) (d8 : DoneL k a [6, 4, 2] t0 s) (Y : ∀ r, r ∈ [9, 11, 13, 15, 17, 19] → t0 (a + r) 1 = nI ns) :
    ∃ s', f_X4_copyFrom (k + 8) (a + 8) s = some s' ∧ DoneL k a [19, 17, 15, 13, 11, 9, 6, 4, 2] t0 s' := by
  obtain ⟨s9, p9, d9⟩ := copy_step (r := 9) (c := 8) hka d8 (Y 9 (by decide)) h1 (by decide) (by decide) (sh_k hka (r := 9) (c := 8) rfl rfl).1 (sh_k hka (r := 9) (c := 8) rfl rfl).2 (by decide)
  obtain ⟨s10, p10, d10⟩ := copy_step (r := 11) (c := 8) hka d9 (Y 11 (by decide)) h1 (by decide) (by decide) (sh_k hka (r := 11) (c := 8) rfl rfl).1 (sh_k hka (r := 11) (c := 8) rfl rfl).2 (by decide)
  obtain ⟨s11, p11, d11⟩ := copy_step (r := 13) (c := 8) hka d10 (Y 13 (by decide)) h1 (by decide) (by decide) (sh_k hka (r := 13) (c := 8) rfl rfl).1 (sh_k hka (r := 13) (c := 8) rfl rfl).2 (by decide)
  obtain ⟨s12, p12, d12⟩ := copy_step (r := 15) (c := 8) hka d11 (Y 15 (by decide)) h1 (by decide) (by decide) (sh_k hka (r := 15) (c := 8) rfl rfl).1 (sh_k hka (r := 15) (c := 8) rfl rfl).2 (by decide)
  obtain ⟨s13, p13, d13⟩ := copy_step (r := 17) (c := 8) hka d12 (Y 17 (by decide)) h1 (by decide) (by decide) (sh_k hka (r := 17) (c := 8) rfl rfl).1 (sh_k hka (r := 17) (c := 8) rfl rfl).2 (by decide)
  obtain ⟨s14, p14, d14⟩ := copy_step (r := 19) (c := 8) hka d13 (Y 19 (by decide)) h1 (by decide) (by decide) (sh_k hka (r := 19) (c := 8) rfl rfl).1 (sh_k hka (r := 19) (c := 8) rfl rfl).2 (by decide)
  refine ⟨s14, ?_, d14⟩
  rw [f_X4_copyFrom]
  rw [show k + 8 + 1 = k + 9 by omega, show a + 8 + 1 = a + 9 by omega, p9, ob_some]
  rw [show k + 8 + 3 = k + 11 by omega, show a + 8 + 3 = a + 11 by omega, p10, ob_some]
  rw [show k + 8 + 5 = k + 13 by omega, show a + 8 + 5 = a + 13 by omega, p11, ob_some]
  rw [show k + 8 + 7 = k + 15 by omega, show a + 8 + 7 = a + 15 by omega, p12, ob_some]
  rw [show k + 8 + 9 = k + 17 by omega, show a + 8 + 9 = a + 17 by omega, p13, ob_some]
  rw [show k + 8 + 11 = k + 19 by omega, show a + 8 + 11 = a + 19 by omega, p14, ob_some]
theorem copyC {t0 s : St} {k a nf nt nx l0 l1 : Nat} (hka : (k = 1 ∧ a = 44) ∨ (k = 44 ∧ a = 1)) (h1 : nf ≤ 6) (h2 : nt ≤ 50) (h3 : nx ≤ 20) (h4 : l0 ≤ 50) (h5 : l1 ≤ 50) (d14 : DoneL k a [19, 17, 15, 13, 11, 9, 6, 4, 2] t0 s)
    (F3 : t0 (a + 22) 1 = nI nf) (F4 : t0 (a + 24) 1 = nI nf) (T : t0 (a + 26) 1 = nI nt) (X : t0 (a + 28) 1 = nI nx) (C : t0 (a + 31) 1 = nI l0) (D : t0 (a + 36) 1 = nI l1) :
    ∃ s', (Option.bind (f_X0_copyFrom (k + 21) (a + 21) s) fun r7 => (Option.bind (f_X2_copyFrom (k + 26) (a + 26) r7) fun r8 => (Option.bind (f_X2_copyFrom (k + 28) (a + 28) r8) fun r9 => (Option.bind (f_X2_copyFrom ((k + 30) + 1) ((a + 30) + 1) r9) fun r10 => (Option.bind (f_X2_copyFrom ((k + 35) + 1) ((a + 35) + 1) r10) fun r11 => (some r11)))))) = some s' ∧ DoneL k a cpD t0 s' := by
  obtain ⟨s15, p15, d15⟩ := copy_step (r := 22) (c := 6) hka d14 F3 h1 (by decide) (by decide) (sh_k hka (r := 22) (c := 6) rfl rfl).1 (sh_k hka (r := 22) (c := 6) rfl rfl).2 (by decide)
  obtain ⟨s16, p16, d16⟩ := copy_step (r := 24) (c := 6) hka d15 F4 h1 (by decide) (by decide) (sh_k hka (r := 24) (c := 6) rfl rfl).1 (sh_k hka (r := 24) (c := 6) rfl rfl).2 (by decide)
  obtain ⟨s17, p17, d17⟩ := copy_step (r := 26) (c := 50) hka d16 T h2 (by decide) (by decide) (sh_k hka (r := 26) (c := 50) rfl rfl).1 (sh_k hka (r := 26) (c := 50) rfl rfl).2 (by decide)
  obtain ⟨s18, p18, d18⟩ := copy_step (r := 28) (c := 20) hka d17 X h3 (by decide) (by decide) (sh_k hka (r := 28) (c := 20) rfl rfl).1 (sh_k hka (r := 28) (c := 20) rfl rfl).2 (by decide)
  obtain ⟨s19, p19, d19⟩ := copy_step (r := 31) (c := 50) hka d18 C h4 (by decide) (by decide) (sh_k hka (r := 31) (c := 50) rfl rfl).1 (sh_k hka (r := 31) (c := 50) rfl rfl).2 (by decide)
  obtain ⟨s20, p20, d20⟩ := copy_step (r := 36) (c := 50) hka d19 D h5 (by decide) (by decide) (sh_k hka (r := 36) (c := 50) rfl rfl).1 (sh_k hka (r := 36) (c := 50) rfl rfl).2 (by decide)
  refine ⟨s20, ?_, d20⟩
  rw [f_X0_copyFrom]
  rw [show k + 21 + 1 = k + 22 by omega, show a + 21 + 1 = a + 22 by omega, p15, ob_some]
  rw [show k + 21 + 3 = k + 24 by omega, show a + 21 + 3 = a + 24 by omega, p16, ob_some, ob_some, p17, ob_some, p18, ob_some]
  rw [show k + 30 + 1 = k + 31 by omega, show a + 30 + 1 = a + 31 by omega, p19, ob_some]
  rw [show k + 35 + 1 = k + 36 by omega, show a + 35 + 1 = a + 36 by omega, p20, ob_some]
theorem cpD_in : ∀ x, x ∈ cpD → 2 ≤ x ∧ (x ≤ 28 ∨ x = 31 ∨ x = 36) := by decide
theorem copyD {σ : St} {k a nw ns nf nt nx l0 l1 : Nat} (hka : (k = 1 ∧ a = 44) ∨ (k = 44 ∧ a = 1)) (hw : nw ≤ 8) (hy : ns ≤ 8) (h1 : nf ≤ 6) (h2 : nt ≤ 50) (h3 : nx ≤ 20) (h4 : l0 ≤ 50) (h5 : l1 ≤ 50)
    (W : ∀ r, r ∈ [2, 4, 6] → rowN σ (a + r) nw) (Y : ∀ r, r ∈ [9, 11, 13, 15, 17, 19] → rowN σ (a + r) ns) (F3 : rowN σ (a + 22) nf) (F4 : rowN σ (a + 24) nf) (T : rowN σ (a + 26) nt) (X : rowN σ (a + 28) nx) (C : rowN σ (a + 31) l0) (D : rowN σ (a + 36) l1) :
    ∃ s, f_X7_copyFrom k a σ = some s ∧ DoneL k a cpD (cpB σ k a) s := by
  have hA : ∀ {r n : Nat}, rowN σ (a + r) n → r ≤ 37 → cpA σ k a (a + r) 1 = nI n := fun {r n} hr h => (cpA_o (by omega)).trans hr
  have hB : ∀ {r n : Nat}, rowN σ (a + r) n → r ≤ 37 → cpB σ k a (a + r) 1 = nI n := fun {r n} hr h => (cpB_o (by omega) (by omega)).trans hr
  obtain ⟨s7, p7, d7⟩ := copyA hka hw (hA (W 2 (by decide)) (by decide)) (hA (W 4 (by decide)) (by decide)) (hA (W 6 (by decide)) (by decide))
  have e7 : up (cpA σ k a) (k + 1) 3 (cpA σ k a (a + 1) 3) = cpB σ k a := by rw [cpA_o (show a + 1 ≠ k by omega)]; rfl
  rw [e7] at d7
  obtain ⟨s14, p14, d14⟩ := copyB hka hy d7 (fun r hr => hB (Y r hr) (by
    have : ∀ r, r ∈ [9, 11, 13, 15, 17, 19] → r ≤ 37 := by decide
    exact this r hr))
  obtain ⟨s20, p20, d20⟩ := copyC hka h1 h2 h3 h4 h5 d14 (hB F3 (by decide)) (hB F4 (by decide)) (hB T (by decide)) (hB X (by decide)) (hB C (by decide)) (hB D (by decide))
  refine ⟨s20, ?_, d20⟩
  have e4 : up (up (up (up σ k 0 (σ a 0)) k 1 ((up σ k 0 (σ a 0)) a 1)) k 2 ((up (up σ k 0 (σ a 0)) k 1 ((up σ k 0 (σ a 0)) a 1)) a 2)) k 3 ((up (up (up σ k 0 (σ a 0)) k 1 ((up σ k 0 (σ a 0)) a 1)) k 2 ((up (up σ k 0 (σ a 0)) k 1 ((up σ k 0 (σ a 0)) a 1)) a 2)) a 3) = cpA σ k a := by
    have hne : a ≠ k := by omega
    unfold cpA
    simp only [up_o (Or.inl hne)]
  rw [f_X7_copyFrom]
  simp only [bst_ok]
  rw [e4, p7, ob_some, p14, ob_some]
  exact p20
theorem copyV {σ : St} {k a : Nat} {N : Nat → Int32} (hka : (k = 1 ∧ a = 44) ∨ (k = 44 ∧ a = 1)) (h : RV σ a N) : ∃ σ', f_X7_copyFrom k a σ = some σ' ∧ RV σ' k N ∧ ∀ q j, ¬ vil k q j → σ' q j = σ q j := by
  obtain ⟨⟨w, hh, A⟩, ⟨nw, sp, W1, W2, W3, W4, W5, W6, W7, W8⟩, ⟨ns, nf, kn, kf, ⟨Y1, Y2, Y3, Y4, Y5, Y6, Y7, Y8, Y9⟩, ⟨F1, F2, F3, F4, F5⟩, K1, K2, K3⟩, ⟨nt, T1, T2, T3, T4⟩, ⟨nx, X1, X2, X3, X4⟩, ⟨l0, C1, C2, C3, C4, C5⟩, ⟨l1, D1, D2, D3, D4, D5⟩⟩ := h
  obtain ⟨s20, run, d1, d2⟩ := copyD (σ := σ) hka W1 Y1 F1 T1 X1 C1 D1
    (fun r hr => by
      have : r = 2 ∨ r = 4 ∨ r = 6 := by simpa using hr
      rcases this with rfl | rfl | rfl
      · exact W4
      · exact W5
      · exact W6)
    (fun r hr => by
      have : r = 9 ∨ r = 11 ∨ r = 13 ∨ r = 15 ∨ r = 17 ∨ r = 19 := by simpa using hr
      rcases this with rfl | rfl | rfl | rfl | rfl | rfl
      · exact Y3
      · exact Y4
      · exact Y5
      · exact Y6
      · exact Y7
      · exact Y8)
    F3 F4 T3 X3 C3 D3
  have hak : ∀ x, x ≤ 38 → a + x ≠ k := fun x hx => by omega
  have hak1 : ∀ x, x ≤ 38 → a + x ≠ k + 1 := fun x hx => by omega
  have R : ∀ x n, x ∈ cpD → rowN σ (a + x) n → n < 100 → rowN s20 (k + x) n ∧ ∀ j, j < n → s20 (k + x + 1) j = σ (a + x + 1) j := by
    intro x n hx hr hn
    have hx' := cpD_in x hx
    obtain ⟨g1, g2⟩ := d2 x hx
    have e1 : cpB σ k a (a + x) 1 = nI n := (cpB_o (hak x (by omega)) (Or.inl (hak1 x (by omega)))).trans hr
    exact ⟨g1.trans e1, fun j hj => (g2 j n e1 hj hn).trans (cpB_o (hak (x + 1) (by omega)) (Or.inl (hak1 (x + 1) (by omega))))⟩
  have hk0 : ∀ j, j < 4 → s20 k j = σ a j := by
    intro j hj
    rw [d1 k j (fun x hx => by have := cpD_in x hx; omega)]
    unfold cpB
    rw [up_o (by omega)]
    unfold cpA
    have : j = 0 ∨ j = 1 ∨ j = 2 ∨ j = 3 := by omega
    rcases this with rfl | rfl | rfl | rfl <;> simp (disch := omega) only [up_o, up_e]
  have hk1 : s20 (k + 1) 3 = σ (a + 1) 3 := by
    rw [d1 (k + 1) 3 (fun x hx => by have := cpD_in x hx; omega)]
    exact up_e rfl rfl
  have r2 := R 2 nw (by decide) W4 (by omega)
  have r4 := R 4 nw (by decide) W5 (by omega)
  have r6 := R 6 nw (by decide) W6 (by omega)
  have r9 := R 9 ns (by decide) Y3 (by omega)
  have r11 := R 11 ns (by decide) Y4 (by omega)
  have r13 := R 13 ns (by decide) Y5 (by omega)
  have r15 := R 15 ns (by decide) Y6 (by omega)
  have r17 := R 17 ns (by decide) Y7 (by omega)
  have r19 := R 19 ns (by decide) Y8 (by omega)
  have r22 := R 22 nf (by decide) F3 (by omega)
  have r24 := R 24 nf (by decide) F4 (by omega)
  have r26 := R 26 nt (by decide) T3 (by omega)
  have r28 := R 28 nx (by decide) X3 (by omega)
  have r31 := R 31 l0 (by decide) C3 (by omega)
  have r36 := R 36 l1 (by decide) D3 (by omega)
  refine ⟨s20, run, ⟨⟨w, hh, ?_⟩, ⟨nw, sp, W1, W2, W3, r2.1, r4.1, r6.1, hk1.trans W7, fun i hi => ?_⟩,
    ⟨ns, nf, kn, kf, ⟨Y1, Y2, r9.1, r11.1, r13.1, r15.1, r17.1, r19.1, fun i hi => ?_⟩, ⟨F1, F2, r22.1, r24.1, fun i hi => ?_⟩, fun s hs => ⟨(K1 s hs).1, (r19.2 s hs).trans (K1 s hs).2⟩, K2, K3⟩,
    ⟨nt, T1, T2, r26.1, fun i hi => ⟨(r26.2 i hi).trans (T4 i hi).1, (T4 i hi).2⟩⟩, ⟨nx, X1, X2, r28.1, fun i hi => (r28.2 i hi).trans (X4 i hi)⟩,
    ⟨l0, RVc.congr ⟨C1, C2, C3, C4, C5⟩ ⟨r31.1.trans C3.symm, r31.2⟩ (fun i _ _ => rfl)⟩, ⟨l1, RVc.congr ⟨D1, D2, D3, D4, D5⟩ ⟨r36.1.trans D3.symm, r36.2⟩ (fun i _ _ => rfl)⟩⟩, fun q j hq => ?_⟩
  · unfold RVa at A ⊢
    rw [hk0 0 (by decide), hk0 1 (by decide), hk0 2 (by decide), hk0 3 (by decide)]
    exact A
  · obtain ⟨g1, g2, g3, g4⟩ := W8 i hi
    exact ⟨(r2.2 i hi).trans g1, (r4.2 i hi).trans g2, (r6.2 i hi).trans g3, g4⟩
  · obtain ⟨g1, g2, g3, g4, g5, g6⟩ := Y9 i hi
    exact ⟨(r9.2 i hi).trans g1, (r11.2 i hi).trans g2, (r13.2 i hi).trans g3, (r15.2 i hi).trans g4, (r17.2 i hi).trans g5, g6⟩
  · exact ⟨(r22.2 i hi).trans (F5 i hi).1, (r24.2 i hi).trans (F5 i hi).2⟩
  · unfold vil at hq
    rw [d1 q j (fun x hx => by have := cpD_in x hx; omega)]
    unfold cpB
    rw [up_o (by omega)]
    unfold cpA
    simp (disch := omega) only [up_o]
/-! the reference's rows -/
theorem mcopyL {a b : Nat} (ha : shM a - 100 = 273) (hb : shM b - 100 = 273) (hab : a ≠ b) : ∀ n i (τ : St), i ≤ 273 → 273 - i < n → ∃ τ', f_X11_copy_L2 n a b (nI i) τ = some τ' ∧ (∀ q j, q ≠ b → τ' q j = τ q j) ∧ (∀ j, j < i → τ' b j = τ b j) ∧ ∀ j, i ≤ j → j < 273 → τ' b j = τ a j := by
  intro n
  induction n with
  | zero => intro i _ _ h; omega
  | succ n ih =>
    intro i τ hi hn
    rw [f_X11_copy_L2]
    by_cases e : i = 273
    · subst e
      rw [if_pos (by decide)]
      exact ⟨τ, rfl, fun _ _ _ => rfl, fun _ _ => rfl, fun k a b => by omega⟩
    · have hlt : i < 273 := by omega
      rw [if_neg (show ¬ (273 : Int32) ≤ nI i from fun x => e (by have := (nI_leI (a := 273) (by decide) (by omega)).mp x; omega)), ha, hb, if_pos (nI_inb hlt (by decide)), if_pos (nI_inb hlt (by decide)), bst_ok, clampN (by omega), nI_1]
      obtain ⟨τ', e1, e2, e3, e4⟩ := ih (i + 1) (up τ b i (τ a i)) hlt (by omega)
      refine ⟨τ', e1, fun q j hq => (e2 q j hq).trans (up_o (by omega)), fun j hj => (e3 j (by omega)).trans (up_o (by omega)), fun j h1 h2 => ?_⟩
      by_cases hj : j = i
      · subst hj
        rw [e3 _ (by omega), up_e rfl rfl]
      · rw [e4 j (by omega) h2]
        exact up_o (by omega)
theorem mcopy {a b : Nat} (ha : shM a - 100 = 273) (hb : shM b - 100 = 273) (hab : a ≠ b) (τ : St) : ∃ τ', f_X11_copy a b τ = some τ' ∧ (∀ q j, q ≠ b → τ' q j = τ q j) ∧ ∀ j, j < 273 → τ' b j = τ a j := by
  obtain ⟨τ', e1, e2, -, e4⟩ := mcopyL ha hb hab 400 0 τ (Nat.zero_le _) (by omega)
  exact ⟨τ', e1, e2, fun j hj => e4 j (Nat.zero_le _) hj⟩
theorem k_image {σ τ : St} (h : RR σ τ) : Agree (f_X10_image σ) (f_X11_image τ) := by
  obtain ⟨h1, h2, h3, h4, h5, h6, h7, h8⟩ := h
  obtain ⟨σ', e1, e2, e3⟩ := copyV (k := 44) (a := 1) (Or.inr ⟨rfl, rfl⟩) h1
  obtain ⟨τ', m1, m2, m3⟩ := mcopy (a := 1) (b := 2) rfl rfl (by decide) τ
  unfold vil at e3
  rw [f_X10_image, f_X11_image, e1, m1, ob_some, ob_some, bst_ok, bst_ok, e3 0 7 (by omega), m2 0 3 (by omega), h3]
  refine Agree.of' (by rw [up_e rfl rfl, up_e rfl rfl]) ⟨h1.congr (fun q j hq => ?_) (fun i hi => ?_), Or.inr (e2.congr (fun q j hq => ?_) (fun i hi => ?_)), by rw [up_e rfl rfl, up_e rfl rfl], fun i a b => ?_, fun i hi => ?_, ?_, ?_, ?_⟩
  · unfold vil at hq
    rw [up_o (by omega)]
    exact e3 q j (by omega)
  · rw [up_o (by omega)]
    exact m2 1 i (by omega)
  · unfold vil at hq
    exact up_o (by omega)
  · rw [up_o (by omega)]
    exact m3 i hi
  · rw [up_o (by omega), up_o (by omega), e3 _ _ (by omega), m2 _ _ (by omega)]
    exact h4 i a b
  · have e := h5 i hi
    unfold rowN at e ⊢
    rw [up_o (by omega), up_o (by omega), up_o (by omega), up_o (by omega), e3 _ _ (by omega), e3 _ _ (by omega), m2 _ _ (by omega), m2 _ _ (by omega)]
    obtain ⟨a, b, n, c1, c2, c3, c4, c5⟩ := e
    exact ⟨a, b, n, c1, c2, c3, c4, fun j hj => by rw [up_o (by omega), up_o (by omega), e3 _ _ (by omega), m2 _ _ (by omega)]; exact c5 j hj⟩
  · obtain ⟨n, c1, c2, c3, c4⟩ := h6
    unfold rowN at c3
    refine ⟨n, c1, by rw [up_o (by omega), m2 _ _ (by omega)]; exact c2, ?_, fun j hj => by rw [up_o (by omega), up_o (by omega), e3 _ _ (by omega), m2 _ _ (by omega)]; exact c4 j hj⟩
    unfold rowN
    rw [up_o (by omega), e3 _ _ (by omega)]
    exact c3
  · rw [up_o (by omega), e3 _ _ (by omega)]
    exact h7
  · rw [up_o (by omega), e3 _ _ (by omega)]
    exact h8
theorem k_restore {σ τ : St} (h : RR σ τ) : Agree (f_X10_restore σ) (f_X11_restore τ) := by
  obtain ⟨-, h2, h3, -⟩ := id h
  rw [f_X10_restore, f_X11_restore, h3]
  simp only [ob_eta]
  refine Agree.ite (fun _ => Agree.err h 2) (fun h0 => ?_)
  have hV := h2.resolve_left h0
  obtain ⟨σ', e1, e2, e3⟩ := copyV (k := 1) (a := 44) (Or.inl ⟨rfl, rfl⟩) hV
  obtain ⟨τ', m1, m2, m3⟩ := mcopy (a := 2) (b := 1) rfl rfl (by decide) τ
  unfold vil at e3
  rw [e1, m1, ob_some, ob_some]
  have hv : RV σ' 1 (τ' 1) := e2.congr (fun q j hq => rfl) (fun i hi => m3 i hi)
  obtain ⟨⟨w, hh, A1, A2, A3, A4, A5, A6, A7, A8, A9⟩, -⟩ := id hv
  refine Agree.of' (by rw [A6, A7]) (h.now (fun q j e => ?_) (fun q j e => ?_) hv)
  · unfold nowC at e
    exact e3 q j (by omega)
  · unfold nowM at e
    exact m2 q j (by omega)
