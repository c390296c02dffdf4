/-! counts, sums; the tape, the numbers that wait -/
def cnt : Nat → (Nat → Bool) → Nat
  | 0, _ => 0
  | n + 1, p => cnt n p + (p n).toNat
def pcN (s : Nat) : Nat := cnt 8 (fun i => s.testBit i)
theorem cnt_congr {n : Nat} {p q : Nat → Bool} (h : ∀ i, i < n → p i = q i) : cnt n p = cnt n q := by
  induction n with
  | zero => rfl
  | succ n ih => rw [cnt, cnt, ih (fun i hi => h i (by omega)), h n (by omega)]
theorem cnt_more {n : Nat} {p : Nat → Bool} (h : ∀ i, n ≤ i → p i = false) : ∀ m, cnt (n + m) p = cnt n p
  | 0 => rfl
  | m + 1 => by
    rw [← Nat.add_assoc, cnt, cnt_more h m, h (n + m) (by omega)]
    rfl
theorem cnt_le (p : Nat → Bool) : ∀ n, cnt n p ≤ n
  | 0 => Nat.le_refl 0
  | n + 1 => by
    have := cnt_le p n
    rw [cnt]
    cases p n
    · show cnt n p + 0 ≤ n + 1
      omega
    · show cnt n p + 1 ≤ n + 1
      omega
theorem pcN_bset {n : Nat} (hn : n ≤ 8) (p : Nat → Bool) : pcN (bset n p) = cnt n p := by
  have h1 : pcN (bset n p) = cnt n (fun i => (bset n p).testBit i) := by
    have := cnt_more (n := n) (p := fun i => (bset n p).testBit i) (fun i hi => tb_ge (bset_lt n p) hi) (8 - n)
    rw [show n + (8 - n) = 8 by omega] at this
    exact this
  rw [h1]
  exact cnt_congr (fun i hi => by rw [bset_bit, decide_eq_true hi]; rfl)
theorem pcN_of {s n : Nat} (hn : n ≤ 8) (hs : s < 2 ^ n) : pcN s = cnt n (fun i => s.testBit i) := by
  have := cnt_more (n := n) (p := fun i => s.testBit i) (fun i hi => tb_ge hs hi) (8 - n)
  rw [show n + (8 - n) = 8 by omega] at this
  exact this
theorem bitc_ok : ∀ s, s < 256 → bitc (nI s) = nI (pcN s) := by decide +kernel
theorem pc_step : ∀ s, s < 256 → s ≠ 0 → (nI s &&& (nI s - 1)) = nI (s &&& (s - 1)) ∧ pcN s = pcN (s &&& (s - 1)) + 1 ∧ s &&& (s - 1) < 256 := by decide +kernel
theorem pc0 : pcN 0 = 0 := by decide
theorem pcN_le (s : Nat) : pcN s ≤ 8 := cnt_le _ 8
theorem bits_L (σ : St) : ∀ n c s, s < 256 → pcN s < n → f_X11_bits_L4 n (nI c) (nI s) σ = some (nI (c + pcN s), σ) := by
  intro n
  induction n with
  | zero => intro c s _ h; omega
  | succ n ih =>
    intro c s hs hn
    rw [f_X11_bits_L4]
    by_cases h0 : s = 0
    · subst h0
      rw [if_pos (show nI 0 = 0 from rfl), pc0]
      rfl
    · rw [if_neg (fun x => h0 ((nI_z (by omega)).mp x))]
      obtain ⟨h1, h2, h3⟩ := pc_step s hs h0
      rw [h1, nI_1, ih (c + 1) _ h3 (by omega), h2, show c + 1 + pcN (s &&& (s - 1)) = c + (pcN (s &&& (s - 1)) + 1) by omega]
theorem bits_ok {s : Nat} (hs : s < 256) (σ : St) : f_X11_bits (nI s) σ = some (nI (pcN s), σ) := by
  have := bits_L σ 400 0 s hs (by have := pcN_le s; omega)
  rw [Nat.zero_add] at this
  exact this
/-- all sets together -/
def orN (kn : Nat → Nat) : Nat → Nat
  | 0 => 0
  | n + 1 => orN kn n ||| kn n
theorem orN_bit (kn : Nat → Nat) (f : Nat) : ∀ n, (orN kn n).testBit f = true ↔ ∃ s, s < n ∧ (kn s).testBit f = true
  | 0 => by
    rw [orN, Nat.zero_testBit]
    exact ⟨fun h => (by cases h), fun ⟨s, hs, _⟩ => by omega⟩
  | n + 1 => by
    rw [orN, Nat.testBit_or, Bool.or_eq_true, orN_bit kn f n]
    constructor
    · rintro (⟨s, hs, h⟩ | h)
      · exact ⟨s, by omega, h⟩
      · exact ⟨n, by omega, h⟩
    · rintro ⟨s, hs, h⟩
      by_cases e : s = n
      · subst e; exact Or.inr h
      · exact Or.inl ⟨s, by omega, h⟩
theorem orN_lt {kn : Nat → Nat} {n m : Nat} (h : ∀ s, s < n → kn s < 2 ^ m) : orN kn n < 2 ^ m := by
  apply Nat.lt_pow_two_of_testBit
  intro i hi
  cases e : (orN kn n).testBit i
  · rfl
  · obtain ⟨s, hs, hb⟩ := (orN_bit kn i n).mp e
    rw [tb_ge (h s hs) hi] at hb
    cases hb
theorem allKnowers_L {σ : St} {ns : Nat} {kn : Nat → Nat} (hs : σ 10 1 = nI ns) (h8 : ns ≤ 8) (hk : ∀ s, s < ns → σ 21 s = nI (kn s)) :
    ∀ n i, i ≤ ns → ns - i < n → f_X4_allKnowers_L4 n (nI (orN kn i)) (nI i) σ = some (nI (orN kn ns), σ) := by
  intro n
  induction n with
  | zero => intro i _ h; omega
  | succ n ih =>
    intro i hi hn
    rw [f_X4_allKnowers_L4, cSizY hs, ob_some]
    by_cases e : i = ns
    · subst e
      rw [if_pos Int32.le_rfl]
    · have hlt : i < ns := by omega
      rw [if_neg (fun x => e (by have := (nI_leI (by omega) (by omega)).mp x; omega)), get20 σ (by omega), ob_some]
      dsimp only
      rw [hk i hlt, z_or, nI_1]
      exact ih (i + 1) hlt (by omega)
theorem allKnowers_ok {σ : St} {ns : Nat} {kn : Nat → Nat} (hs : σ 10 1 = nI ns) (h8 : ns ≤ 8) (hk : ∀ s, s < ns → σ 21 s = nI (kn s)) : f_X4_allKnowers σ = some (nI (orN kn ns), σ) :=
  allKnowers_L hs h8 hk 400 0 (Nat.zero_le _) (by omega)
theorem knowing_L {τ : St} {nf : Nat} {kf : Nat → Nat} (hs : τ 1 4 = nI nf) (h8 : nf ≤ 6) (hk : ∀ f, f < nf → τ 1 (83 + 3 * f) = nI (kf f) ∧ kf f < 256) :
    ∀ n i, i ≤ nf → nf - i < n → f_X11_knowing_L4 n (nI (cnt i (fun f => kf f != 0))) (nI i) τ = some (nI (cnt nf (fun f => kf f != 0)), τ) := by
  intro n
  induction n with
  | zero => intro i _ h; omega
  | succ n ih =>
    intro i hi hn
    rw [f_X11_knowing_L4, hs]
    by_cases e : i = nf
    · subst e
      rw [if_pos Int32.le_rfl]
    · have hlt : i < nf := by omega
      rw [if_neg (fun x => e (by have := (nI_leI (by omega) (by omega)).mp x; omega)), folkIs2 τ (by omega), ob_some]
      dsimp only
      obtain ⟨h1, h2⟩ := hk i hlt
      rw [h1]
      have ec : cnt (i + 1) (fun f => kf f != 0) = cnt i (fun f => kf f != 0) + (kf i != 0).toNat := rfl
      have := ih (i + 1) hlt (by omega)
      rw [ec] at this
      by_cases h0 : kf i = 0
      · rw [if_pos (by rw [h0]; rfl), nI_1, show (0 : Int32) = nI 0 from rfl, nI_add]
        rw [h0] at this
        exact this
      · rw [if_neg (fun x => h0 ((nI_z (by omega)).mp x)), nI_1, nI_1]
        rw [show (kf i != 0) = true from bne_iff_ne.mpr h0] at this
        exact this
theorem knowing_ok {τ : St} {nf : Nat} {kf : Nat → Nat} (hs : τ 1 4 = nI nf) (h8 : nf ≤ 6) (hk : ∀ f, f < nf → τ 1 (83 + 3 * f) = nI (kf f) ∧ kf f < 256) : f_X11_knowing τ = some (nI (cnt nf (fun f => kf f != 0)), τ) :=
  knowing_L hs h8 hk 400 0 (Nat.zero_le _) (by omega)
/-- how many of folk know something, by both -/
theorem know_eq {ns nf : Nat} {kn kf : Nat → Nat} (hf : nf ≤ 6) (k1 : ∀ s, s < ns → kn s < 2 ^ nf) (k2 : ∀ f, f < nf → kf f < 2 ^ ns) (k3 : ∀ s f, s < ns → f < nf → (kn s).testBit f = (kf f).testBit s) : bitc (nI (orN kn ns)) = nI (cnt nf (fun f => kf f != 0)) := by
  have h1 : orN kn ns < 2 ^ nf := orN_lt k1
  rw [bitc_ok _ (lt_256 h1 (by omega)), pcN_of (by omega) h1]
  congr 1
  refine cnt_congr (fun f hf => ?_)
  by_cases h0 : kf f = 0
  · rw [show (kf f != 0) = false by rw [h0]; rfl]
    cases e : (orN kn ns).testBit f
    · rfl
    · obtain ⟨s, hs, hb⟩ := (orN_bit kn f ns).mp e
      rw [k3 s f hs hf, h0, Nat.zero_testBit] at hb
      cases hb
  · rw [show (kf f != 0) = true from bne_iff_ne.mpr h0]
    apply (orN_bit kn f ns).mpr
    obtain ⟨i, hi⟩ := Nat.exists_testBit_of_ne_zero h0
    have hin : i < ns := by
      by_cases q : i < ns
      · exact q
      · rw [tb_ge (k2 f hf) (by omega)] at hi
        cases hi
    exact ⟨i, hin, by rw [k3 i f hin hf]; exact hi⟩
/-- numbers of a row together -/
def sumN (g : Nat → Int32) : Nat → Int32
  | 0 => 0
  | n + 1 => sumN g n + g n
theorem sumN_congr {g g' : Nat → Int32} : ∀ {n : Nat}, (∀ i, i < n → g i = g' i) → sumN g n = sumN g' n
  | 0, _ => rfl
  | n + 1, h => by rw [sumN, sumN, sumN_congr (fun i hi => h i (by omega)), h n (by omega)]
theorem allStrength_L {σ : St} {ns : Nat} {g : Nat → Int32} (hs : σ 10 1 = nI ns) (h8 : ns ≤ 8) (hk : ∀ s, s < ns → σ 17 s = g s) :
    ∀ n i, i ≤ ns → ns - i < n → f_X4_allStrength_L4 n (sumN g i) (nI i) σ = some (sumN g ns, σ) := by
  intro n
  induction n with
  | zero => intro i _ h; omega
  | succ n ih =>
    intro i hi hn
    rw [f_X4_allStrength_L4, cSizY hs, ob_some]
    by_cases e : i = ns
    · subst e
      rw [if_pos Int32.le_rfl]
    · have hlt : i < ns := by omega
      rw [if_neg (fun x => e (by have := (nI_leI (by omega) (by omega)).mp x; omega)), get16 σ (by omega), ob_some]
      dsimp only
      rw [hk i hlt, nI_1]
      exact ih (i + 1) hlt (by omega)
theorem allStrength_ok {σ : St} {ns : Nat} {g : Nat → Int32} (hs : σ 10 1 = nI ns) (h8 : ns ≤ 8) (hk : ∀ s, s < ns → σ 17 s = g s) : f_X4_allStrength σ = some (sumN g ns, σ) :=
  allStrength_L hs h8 hk 400 0 (Nat.zero_le _) (by omega)
theorem strengths_L {τ : St} {ns : Nat} {g : Nat → Int32} (hs : τ 1 3 = nI ns) (h8 : ns ≤ 8) (hk : ∀ s, s < ns → τ 1 (44 + 5 * s) = g s) :
    ∀ n i, i ≤ ns → ns - i < n → f_X11_strengths_L4 n (sumN g i) (nI i) τ = some (sumN g ns, τ) := by
  intro n
  induction n with
  | zero => intro i _ h; omega
  | succ n ih =>
    intro i hi hn
    rw [f_X11_strengths_L4, hs]
    by_cases e : i = ns
    · subst e
      rw [if_pos Int32.le_rfl]
    · have hlt : i < ns := by omega
      rw [if_neg (fun x => e (by have := (nI_leI (by omega) (by omega)).mp x; omega)), sayIs3 τ (by omega), ob_some]
      dsimp only
      rw [hk i hlt, nI_1]
      exact ih (i + 1) hlt (by omega)
theorem strengths_ok {τ : St} {ns : Nat} {g : Nat → Int32} (hs : τ 1 3 = nI ns) (h8 : ns ≤ 8) (hk : ∀ s, s < ns → τ 1 (44 + 5 * s) = g s) : f_X11_strengths τ = some (sumN g ns, τ) :=
  strengths_L hs h8 hk 400 0 (Nat.zero_le _) (by omega)
theorem z_shl : ∀ b, b < 2 → ∀ j, j < 8 → ((nI b) <<< (nI j &&& 31)) = nI (b * 2 ^ j) := by decide +kernel
theorem stopped_L {τ : St} {nw : Nat} {p : Nat → Bool} (hs : τ 1 2 = nI nw) (h8 : nw ≤ 8) (hk : ∀ i, i < nw → τ 1 (12 + 4 * i) = nI (p i).toNat) :
    ∀ n i, i ≤ nw → nw - i < n → f_X11_stopped_L4 n (nI (bset i p)) (nI i) τ = some (nI (bset nw p), τ) := by
  intro n
  induction n with
  | zero => intro i _ h; omega
  | succ n ih =>
    intro i hi hn
    rw [f_X11_stopped_L4, hs]
    by_cases e : i = nw
    · subst e
      rw [if_pos Int32.le_rfl]
    · have hlt : i < nw := by omega
      rw [if_neg (fun x => e (by have := (nI_leI (by omega) (by omega)).mp x; omega)), wayIs3 τ (by omega), ob_some]
      dsimp only
      rw [hk i hlt, z_shl _ (by cases p i <;> decide) i (by omega), z_or, nI_1]
      have := ih (i + 1) hlt (by omega)
      rw [bset] at this
      rw [show (p i).toNat * 2 ^ i = (if p i then 2 ^ i else 0) by cases p i <;> simp]
      exact this
theorem stopped_ok {τ : St} {nw sp : Nat} (hs : τ 1 2 = nI nw) (h8 : nw ≤ 8) (hsp : sp < 2 ^ nw) (hk : ∀ i, i < nw → τ 1 (12 + 4 * i) = nI (sp.testBit i).toNat) : f_X11_stopped τ = some (nI sp, τ) := by
  have := stopped_L (p := fun i => sp.testBit i) hs h8 hk 400 0 (Nat.zero_le _) (by omega)
  rw [bset_eta hsp] at this
  exact this
theorem k_count {σ τ : St} (h : RR σ τ) (a : Int32) : Agree (f_X10_count a σ) (f_X11_count a τ) := by
  obtain ⟨⟨w, hh, A1, A2, A3, A4, A5, A6, A7, A8, A9⟩, ⟨nw, sp, W1, W2, W3, W4, W5, W6, W7, W8⟩, ⟨ns, nf, kn, kf, ⟨Y1, Y2, Y3, Y4, Y5, Y6, Y7, Y8, Y9⟩, ⟨F1, F2, F3, F4, F5⟩, K1, K2, K3⟩, ⟨nt, T1, T2, T3, T4⟩, ⟨nx, X1, X2, X3, X4⟩, -⟩ := h.1
  obtain ⟨n, n4, N1, N2, N3⟩ := h.2.2.2.2.2.1
  have R3 : σ 3 1 = nI nw := W4
  have R10 : σ 10 1 = nI ns := Y3
  have R23 : σ 23 1 = nI nf := F3
  have R27 : σ 27 1 = nI nt := T3
  have R29 : σ 29 1 = nI nx := X3
  have R93 : σ 93 1 = nI n := N2
  have R2 : σ 2 3 = nI sp := W7
  simp only [f_X10_count, f_X11_count, cSizW R3, cSizY R10, cSizF R23, size_ok, R27, R29, R93, ob_some, ob_eta, allStrength_ok (g := fun s => τ 1 (44 + 5 * s)) R10 Y1 (fun s hs => (Y9 s hs).2.2.2.1), strengths_ok (g := fun s => τ 1 (44 + 5 * s)) Y2 Y1 (fun s hs => rfl), allKnowers_ok (kn := kn) R10 Y1 (fun s hs => (K1 s hs).2), knowing_ok (kf := kf) F2 F1 (fun f hf => ⟨(K2 f hf).2, lt_256 (K2 f hf).1 Y1⟩), stopped_ok W3 W1 W2 (fun i hi => (W8 i hi).2.2.2), know_eq (ns := ns) (kn := kn) (kf := kf) F1 (fun s hs => (K1 s hs).1) (fun f hf => (K2 f hf).1) K3, A4, A5, A6, A7, A8, A9, W3, Y2, F2, T2, X2, N1, R2]
  refine Agree.ite (fun _ => Agree.of h) (fun _ => ?_)
  refine Agree.ite (fun _ => Agree.of h) (fun _ => ?_)
  refine Agree.ite (fun _ => Agree.of h) (fun _ => ?_)
  refine Agree.ite (fun _ => Agree.of h) (fun _ => ?_)
  refine Agree.ite (fun _ => Agree.of h) (fun _ => ?_)
  refine Agree.ite (fun _ => Agree.of h) (fun _ => ?_)
  refine Agree.ite (fun _ => Agree.of h) (fun _ => ?_)
  refine Agree.ite (fun _ => Agree.of h) (fun _ => ?_)
  refine Agree.ite (fun _ => Agree.of h) (fun _ => ?_)
  refine Agree.ite (fun _ => Agree.of h) (fun _ => ?_)
  refine Agree.ite (fun _ => Agree.of h) (fun _ => ?_)
  refine Agree.ite (fun _ => Agree.of h) (fun _ => ?_)
  refine Agree.ite (fun _ => Agree.of h) (fun _ => ?_)
  exact Agree.err h 1
theorem k_tell {σ τ : St} (h : RR σ τ) (a : Int32) : Agree (f_X10_tell a σ) (f_X11_tell a τ) := by
  have hV := h.1
  obtain ⟨-, -, -, -, ⟨nx, X1, X2, X3, X4⟩, -⟩ := h.1
  have R29 : σ 29 1 = nI nx := X3
  have ex : (149 : Int32) + nI nx = nI (149 + nx) := nI_add 149 nx
  simp only [f_X10_tell, f_X11_tell, size_ok, R29, ob_some, ob_eta, X2, bst_ok, ex]
  by_cases h20 : nx = 20
  · subst h20
    rw [if_neg (by decide), if_pos (by decide)]
    exact Agree.err h 4
  · have hn : nx < 20 := by omega
    rw [if_pos (show nI nx < 20 from nI_lt hn (by decide)), if_neg (show ¬ nI nx = 20 from fun x => h20 ((nI_eq (b := 20) (by omega) (by decide)).mp x)), add29 a σ R29 hn, ob_some, if_in (by omega), clampN (by omega)]
    refine Agree.of' ?_ (h.now (fun q j e => ?_) (fun q j e => ?_) (hV.newX (fun q j e => ?_) (fun i e => ?_) ⟨nx + 1, hn, ?_, ?_, fun i hi => ?_⟩))
    · simp (disch := omega) only [up_o, up_e, X2, nI_1]
    · unfold nowC at e
      simp (disch := omega) only [up_o]
    · unfold nowM at e
      simp (disch := omega) only [up_o]
    · unfold fpX at e
      simp (disch := omega) only [up_o]
    · unfold nfX at e
      simp (disch := omega) only [up_o]
    · simp (disch := omega) only [up_o, up_e, X2, nI_1]
    · unfold rowN
      simp (disch := omega) only [up_o, up_e]
    · by_cases hin : i < nx
      · simp (disch := omega) only [up_o]
        exact X4 i hin
      · have : i = nx := by omega
        subst this
        simp (disch := omega) only [up_o, up_e]
