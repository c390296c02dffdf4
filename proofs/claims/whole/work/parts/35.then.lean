/-! calls about what all would know -/
theorem thinkBoth {σ τ : St} (h : RR σ τ) {n : Nat} (hn : n < 400) : ∃ ns nf kf' σ' t0 t, RVy σ 1 (τ 1) ns ∧ RVf σ 1 (τ 1) nf ∧ f_X7_thinkAll (nI n) σ = some σ' ∧ same fpTh σ σ' ∧ σ' 42 1 = nI ns ∧ (∀ s, s < ns → σ' 43 s = nI (kst nf kf' s)) ∧ σ' 1 13 = sumN (fun s => t 1 (44 + 5 * s)) ns ∧
    f_X11_copy 1 3 τ = some t0 ∧ f_X11_hoursGo (nI n) t0 = some t ∧ Aside τ t ∧ (t 1 3 = nI ns ∧ t 1 4 = nI nf) ∧ ∀ f, f < nf → kf' f < 2 ^ ns ∧ t 1 (83 + 3 * f) = nI (kf' f) := by
  obtain ⟨nw, sp, ns, nf, kn, kf, l0, l1, W, Y, F, K, C, M, hk⟩ := cs_of h.1 h.2.2.2.2.2.2.1 h.2.2.2.2.2.2.2
  obtain ⟨⟨w, hh, A1, A2, A3, A4, A5, A6, A7, A8, A9⟩, -⟩ := h.1
  obtain ⟨t0, s1, s2, s3, -⟩ := mSave τ
  obtain ⟨t, kf', g1, g2, g3⟩ := mHoursGo (τ := t0) (by rw [s3]; exact M) hn
  rw [s3] at g3
  obtain ⟨σ', e1, e2, e3, e4, e5⟩ := cThinkAll (σ := σ) A8 (A6.trans A7.symm) W.2.2.2.2.2.2.1 Y K C hk g3 hn
  have M' := HRn.ms M g3
  exact ⟨ns, nf, kf', σ', t0, t, Y, F, e1, e2, e3, e4, e5, s1, g1, s2.tr g2, ⟨M'.1.2.2.2.2.1, M'.1.2.2.2.2.2⟩, M'.2.2.2⟩
theorem kst_set {ns nf j : Nat} {kf : Nat → Nat} (hj : j < nf) (h : kf j < 2 ^ ns) : bset ns (fun s => (kst nf kf s).testBit j) = kf j :=
  bset_of h (fun s hs => (kst_bit hj).symm)
theorem k_then {σ τ : St} (h : RR σ τ) (a b : Int32) : Agree (f_X10_then a b σ) (f_X11_then a b τ) := by
  obtain ⟨-, -, ⟨ns0, nf0, kn0, kf0, Y0, F0, K0⟩, -⟩ := h.1
  have f6 := F0.1
  simp only [f_X10_then, f_X11_then, within_ok, mBehind, cHasF b F0.2.2.1, mOne b F0.2.1 (by omega), ob_some, ob_eta, if_bI]
  refine Agree.cond (fun ha => ?_) (fun _ => Agree.err h 1)
  refine Agree.cond (fun hb => ?_) (fun _ => Agree.err h 1)
  obtain ⟨n, -, hn, rfl⟩ := btw_nI 0 99 ha
  obtain ⟨j, hj, rfl⟩ := isIx_nI hb (by omega)
  obtain ⟨ns, nf, kf', σ', t0, t, Y, F, e1, e2, e3, e4, e5, m1, m2, m3, ⟨m4, m4'⟩, m5⟩ := thinkBoth h (n := n) (by omega)
  have en : nf0 = nf := (nI_eq (by omega) (by have := F.1; omega)).mp (F0.2.1.symm.trans F.2.1)
  subst en
  have y8 := Y.1
  have R10 : σ' 10 1 = nI ns := (e2 10 1 (by unfold fpTh; omega)).trans Y.2.2.1
  obtain ⟨t', p1, -, p3, -, -⟩ := mBack m3 (t 1 (83 + 3 * j))
  rw [e1, ob_some, knownBy_ok (kn := kst nf0 kf') R10 y8 rfl (fun s hs => ⟨e4 s hs, bset_256 (by omega) _⟩) (by omega), m1, ob_some, m2, ob_some, folkIs2 t (by omega), ob_some]
  dsimp only
  rw [p1, kst_set hj (m5 j hj).1, (m5 j hj).2]
  exact Agree.of (h.scr (e2.mono fpTh_scr) p3)
def sumF (f : Nat → Nat) : Nat → Nat → Nat
  | _, 0 => 0
  | a, m + 1 => f a + sumF f (a + 1) m
theorem tri (E : Nat → Nat → Nat) (hE : ∀ i j, E i j = E j i) : ∀ n, n ≤ 6 → sumF (fun i => sumF (E i) (i + 1) (n - (i + 1))) 0 n = sumF (fun i => sumF (E i) 0 i) 0 n := by
  intro n hn
  have : n = 0 ∨ n = 1 ∨ n = 2 ∨ n = 3 ∨ n = 4 ∨ n = 5 ∨ n = 6 := by omega
  have h01 := hE 0 1
  have h02 := hE 0 2
  have h03 := hE 0 3
  have h04 := hE 0 4
  have h05 := hE 0 5
  have h12 := hE 1 2
  have h13 := hE 1 3
  have h14 := hE 1 4
  have h15 := hE 1 5
  have h23 := hE 2 3
  have h24 := hE 2 4
  have h25 := hE 2 5
  have h34 := hE 3 4
  have h35 := hE 3 5
  have h45 := hE 4 5
  rcases this with rfl | rfl | rfl | rfl | rfl | rfl | rfl <;> simp [sumF] <;> omega
def eqN (kf : Nat → Nat) (i j : Nat) : Nat := if kf i = kf j then 1 else 0
theorem alikeC {σ : St} {ns nf : Nat} {kf : Nat → Nat} (hs : σ 10 1 = nI ns) (hf : σ 23 1 = nI nf) (h8 : ns ≤ 8) (h6 : nf ≤ 6) (hk : ∀ s, s < ns → σ 43 s = nI (kst nf kf s)) (hkf : ∀ f, f < nf → kf f < 2 ^ ns) :
    ∀ n i p, i ≤ nf → nf - i < n → f_X10_alike_L28 n (nI p) (nI i) σ = some (nI (p + sumF (fun i => sumF (eqN kf i) (i + 1) (nf - (i + 1))) i (nf - i)), σ) := by
  have kb : ∀ j, j < nf → f_X4_knownBy (nI j) 42 σ = some (nI (kf j), σ) := fun j hj => by
    rw [knownBy_ok (kn := kst nf kf) hs h8 rfl (fun s hs => ⟨hk s hs, bset_256 (by omega) _⟩) (by omega), kst_set hj (hkf j hj)]
  have inner : ∀ (rf : Int32 → Int32 → St → Option (Int32 × St)) i, i < nf → ∀ n j p, j ≤ nf → nf - j < n → f_X10_alike_L47 rf n (nI p) (nI i) (nI j) σ = rf (nI (p + sumF (eqN kf i) j (nf - j))) (nI (i + 1)) σ := by
    intro rf i hi n
    induction n with
    | zero => intro j p _ h; omega
    | succ n ih =>
      intro j p hj hn
      rw [f_X10_alike_L47, cSizF hf, ob_some]
      by_cases e : j = nf
      · subst e
        rw [if_pos Int32.le_rfl, nI_1, Nat.sub_self]
        rfl
      · have hlt : j < nf := by omega
        rw [if_neg (fun x => e (by have := (nI_leI (by omega) (by omega)).mp x; omega)), kb i hi, ob_some]
        dsimp only
        rw [kb j hlt, ob_some, nI_1, show nf - j = nf - (j + 1) + 1 by omega, sumF, eqN]
        dsimp only
        have b1 := lt_256 (hkf i hi) h8
        have b2 := lt_256 (hkf j hlt) h8
        by_cases q : kf i = kf j
        · rw [if_pos (by rw [q]), if_pos q, nI_1, ih (j + 1) (p + 1) hlt (by omega), show p + 1 + sumF (eqN kf i) (j + 1) (nf - (j + 1)) = p + (1 + sumF (eqN kf i) (j + 1) (nf - (j + 1))) by omega]
        · rw [if_neg (fun x => q ((nI_eq (by omega) (by omega)).mp x)), if_neg q, nI_1, ih (j + 1) p hlt (by omega), Nat.zero_add]
  intro n
  induction n with
  | zero => intro i p _ h; omega
  | succ n ih =>
    intro i p hi hn
    rw [f_X10_alike_L28, cSizF hf, ob_some]
    by_cases e : i = nf
    · subst e
      rw [if_pos Int32.le_rfl, Nat.sub_self]
      rfl
    · have hlt : i < nf := by omega
      rw [if_neg (fun x => e (by have := (nI_leI (by omega) (by omega)).mp x; omega)), nI_1, inner _ i hlt 400 (i + 1) p hlt (by omega)]
      rw [ih (i + 1) _ hlt (by omega), show nf - i = nf - (i + 1) + 1 by omega, sumF, Nat.add_assoc]
theorem alikeM {τ : St} {nf : Nat} {kf : Nat → Nat} (hf : τ 1 4 = nI nf) (h6 : nf ≤ 6) (hk : ∀ f, f < nf → kf f < 256 ∧ τ 1 (83 + 3 * f) = nI (kf f)) :
    ∀ n i p, i ≤ nf → nf - i < n → f_X11_alikeNow_L4 n (nI p) (nI i) τ = some (nI (p + sumF (fun i => sumF (eqN kf i) 0 i) i (nf - i)), τ) := by
  have inner : ∀ (rf : Int32 → Int32 → St → Option (Int32 × St)) i, i < nf → ∀ n j p, j ≤ i → i - j < n → f_X11_alikeNow_L16 rf n (nI p) (nI i) (nI j) τ = rf (nI (p + sumF (eqN kf i) j (i - j))) (nI (i + 1)) τ := by
    intro rf i hi n
    induction n with
    | zero => intro j p _ h; omega
    | succ n ih =>
      intro j p hj hn
      rw [f_X11_alikeNow_L16]
      by_cases e : j = i
      · subst e
        rw [if_pos Int32.le_rfl, nI_1, Nat.sub_self]
        rfl
      · have hlt : j < i := by omega
        have b1 := hk i hi
        have b2 := hk j (by omega)
        rw [if_neg (fun x => e (by have := (nI_leI (by omega) (by omega)).mp x; omega)), folkIs2 τ (by omega), ob_some]
        dsimp only
        rw [folkIs2 τ (by omega), ob_some, nI_1, nI_1, show i - j = i - (j + 1) + 1 by omega, sumF, eqN, b1.2, b2.2]
        dsimp only
        by_cases q : kf i = kf j
        · rw [if_pos (by rw [q]), if_pos q, ih (j + 1) (p + 1) hlt (by omega), show p + 1 + sumF (eqN kf i) (j + 1) (i - (j + 1)) = p + (1 + sumF (eqN kf i) (j + 1) (i - (j + 1))) by omega]
        · rw [if_neg (fun x => q ((nI_eq (by omega) (by omega)).mp x)), if_neg q, Int32.add_zero, ih (j + 1) p hlt (by omega), Nat.zero_add]
  intro n
  induction n with
  | zero => intro i p _ h; omega
  | succ n ih =>
    intro i p hi hn
    rw [f_X11_alikeNow_L4, hf]
    by_cases e : i = nf
    · subst e
      rw [if_pos Int32.le_rfl, Nat.sub_self]
      rfl
    · have hlt : i < nf := by omega
      have := inner (f_X11_alikeNow_L4 n) i hlt 400 0 p (Nat.zero_le _) (by omega)
      rw [if_neg (fun x => e (by have := (nI_leI (by omega) (by omega)).mp x; omega)), show (0 : Int32) = nI 0 from rfl, this, ih (i + 1) _ hlt (by omega), show nf - i = nf - (i + 1) + 1 by omega, sumF, Nat.add_assoc, Nat.sub_zero]
theorem k_alike {σ τ : St} (h : RR σ τ) (a : Int32) : Agree (f_X10_alike a σ) (f_X11_alike a τ) := by
  simp only [f_X10_alike, f_X11_alike, within_ok, mBehind, ob_some, ob_eta, if_bI]
  refine Agree.cond (fun ha => ?_) (fun _ => Agree.err h 1)
  obtain ⟨n, -, hn, rfl⟩ := btw_nI 0 99 ha
  obtain ⟨ns, nf, kf', σ', t0, t, Y, F, e1, e2, e3, e4, e5, m1, m2, m3, ⟨m4, m4'⟩, m5⟩ := thinkBoth h (n := n) (by omega)
  have y8 := Y.1
  have f6 := F.1
  have R10 : σ' 10 1 = nI ns := (e2 10 1 (by unfold fpTh; omega)).trans Y.2.2.1
  have R23 : σ' 23 1 = nI nf := (e2 23 1 (by unfold fpTh; omega)).trans F.2.2.1
  have A := alikeC R10 R23 y8 f6 e4 (fun f hf => (m5 f hf).1) 400 0 0 (Nat.zero_le _) (by omega)
  have B := alikeM m4' f6 (fun f hf => ⟨lt_256 (m5 f hf).1 y8, (m5 f hf).2⟩) 400 0 0 (Nat.zero_le _) (by omega)
  rw [Nat.sub_zero, Nat.zero_add] at A B
  rw [tri (eqN kf') (fun i j => by unfold eqN; by_cases q : kf' i = kf' j; rw [if_pos q, if_pos q.symm]; rw [if_neg q, if_neg (fun x => q x.symm)]) nf f6] at A
  obtain ⟨t', p1, -, p3, -, -⟩ := mBack m3 (nI (sumF (fun i => sumF (eqN kf' i) 0 i) 0 nf))
  rw [e1, ob_some, m1, ob_some, m2, ob_some, f_X11_alikeNow, show (0 : Int32) = nI 0 from rfl, A, B, ob_some]
  dsimp only
  rw [p1]
  exact Agree.of (h.scr (e2.mono fpTh_scr) p3)
/-- the first of n (1 at least) with most -/
def bst (P : Nat → Nat) : Nat → Nat
  | 0 => 0
  | n + 1 => if n = 0 then 0 else if P (bst P n) < P n then n else bst P n
theorem bst_lt (P : Nat → Nat) : ∀ n, 0 < n → bst P n < n
  | 0, h => by omega
  | n + 1, _ => by
    rw [bst]
    by_cases h0 : n = 0
    · rw [if_pos h0]; omega
    · rw [if_neg h0]
      have := bst_lt P n (by omega)
      split <;> omega
theorem furC {σ : St} {ns : Nat} {K : Nat → Nat} {u : Nat} (hu : u ≤ 1) (h8 : ns ≤ 8) (h0 : 0 < ns) (hr : σ 42 1 = nI ns) (hk : ∀ s, s < ns → σ 43 s = nI (K s) ∧ K s < 256) :
    f_X10_furthest_L60 400 (nI u) 0 (-1) 0 σ = some ((if u = 0 then nI (bst (fun s => pcN (K s)) ns) else nI (pcN (K (bst (fun s => pcN (K s)) ns)))), σ) := by
  have L : ∀ n i, 1 ≤ i → i ≤ ns → ns - i < n → f_X10_furthest_L60 n (nI u) (nI (bst (fun s => pcN (K s)) i)) (nI (pcN (K (bst (fun s => pcN (K s)) i)))) (nI i) σ = some ((if u = 0 then nI (bst (fun s => pcN (K s)) ns) else nI (pcN (K (bst (fun s => pcN (K s)) ns)))), σ) := by
    intro n
    induction n with
    | zero => intro i _ _ h; omega
    | succ n ih =>
      intro i h1 hi hn
      rw [f_X10_furthest_L60, size_ok, ob_some, hr]
      dsimp only
      by_cases e : i = ns
      · subst e
        rw [if_pos Int32.le_rfl]
        by_cases hu0 : u = 0
        · rw [if_pos ((nI_z (by omega)).mpr hu0), if_pos hu0]
        · rw [if_neg (fun x => hu0 ((nI_z (by omega)).mp x)), if_neg hu0]
      · have hlt : i < ns := by omega
        have p1 := pcN_le (K i)
        have p2 := pcN_le (K (bst (fun s => pcN (K s)) i))
        have nb : bst (fun s => pcN (K s)) (i + 1) = if pcN (K (bst (fun s => pcN (K s)) i)) < pcN (K i) then i else bst (fun s => pcN (K s)) i := by
          rw [bst, if_neg (by omega)]
        have nxt := ih (i + 1) (by omega) hlt (by omega)
        rw [nb] at nxt
        rw [if_neg (fun x => e (by have := (nI_leI (by omega) (by omega)).mp x; omega)), get42 σ (by omega), ob_some]
        dsimp only
        rw [(hk i hlt).1, bitc_ok _ (hk i hlt).2, nI_1]
        by_cases q : pcN (K (bst (fun s => pcN (K s)) i)) < pcN (K i)
        · rw [if_neg (fun x => by have := (nI_leI (by omega) (by omega)).mp x; omega)]
          rw [if_pos q] at nxt
          exact nxt
        · rw [if_pos ((nI_leI (by omega) (by omega)).mpr (by omega))]
          rw [if_neg q] at nxt
          exact nxt
  have := L 399 1 (by decide) (by omega) (by omega)
  rw [show bst (fun s => pcN (K s)) 1 = 0 by rfl] at this
  rw [f_X10_furthest_L60, size_ok, ob_some, hr]
  dsimp only
  have p1 := pcN_le (K 0)
  rw [if_neg (show ¬ nI ns ≤ 0 from fun x => by have := (nI_le0 (by omega)).mp x; omega), show (0 : Int32) = nI 0 from rfl, get42 σ (by omega), ob_some]
  dsimp only
  rw [(hk 0 h0).1, bitc_ok _ (hk 0 h0).2, if_neg (fun x => absurd (Int32.le_trans (nI_pos' (by omega)) x) (by decide))]
  exact this
theorem furM {τ t : St} {ns nf : Nat} {kf : Nat → Nat} {u : Nat} (hA : Aside τ t) (hu : u ≤ 1) (h8 : ns ≤ 8) (h0 : 0 < ns) (h6 : nf ≤ 6) (h3 : t 1 3 = nI ns) (h4 : t 1 4 = nI nf) (hk : ∀ f, f < nf → kf f < 256 ∧ t 1 (83 + 3 * f) = nI (kf f)) :
    ∃ τ', f_X11_furthest_L61 400 (nI u) 0 1 t = some ((if u = 0 then nI (bst (fun s => pcN (kst nf kf s)) ns) else nI (pcN (kst nf kf (bst (fun s => pcN (kst nf kf s)) ns)))), τ') ∧ same scrM τ τ' := by
  have kb : ∀ s, s < ns → kst nf kf s < 256 := fun s _ => bset_256 (by omega) _
  have L : ∀ n i, 1 ≤ i → i ≤ ns → ns - i < n → ∃ τ', f_X11_furthest_L61 n (nI u) (nI (bst (fun s => pcN (kst nf kf s)) i)) (nI i) t = some ((if u = 0 then nI (bst (fun s => pcN (kst nf kf s)) ns) else nI (pcN (kst nf kf (bst (fun s => pcN (kst nf kf s)) ns)))), τ') ∧ same scrM τ τ' := by
    intro n
    induction n with
    | zero => intro i _ _ h; omega
    | succ n ih =>
      intro i h1 hi hn
      have bl := bst_lt (fun s => pcN (kst nf kf s)) i (by omega)
      rw [f_X11_furthest_L61, h3]
      by_cases e : i = ns
      · subst e
        rw [if_pos Int32.le_rfl, mKnowers h6 h4 hk (by omega), ob_some]
        dsimp only
        rw [bits_ok (kb _ bl), ob_some]
        dsimp only
        by_cases hu0 : u = 0
        · obtain ⟨t', p1, -, p3, -, -⟩ := mBack hA (nI (bst (fun s => pcN (kst nf kf s)) i))
          rw [if_pos ((nI_z (by omega)).mpr hu0), if_pos hu0, p1, ob_some]
          exact ⟨t', rfl, p3⟩
        · obtain ⟨t', p1, -, p3, -, -⟩ := mBack hA (nI (pcN (kst nf kf (bst (fun s => pcN (kst nf kf s)) i))))
          rw [if_neg (fun x => hu0 ((nI_z (by omega)).mp x)), if_neg hu0, p1, ob_some]
          exact ⟨t', rfl, p3⟩
      · have hlt : i < ns := by omega
        have p1 := pcN_le (kst nf kf i)
        have p2 := pcN_le (kst nf kf (bst (fun s => pcN (kst nf kf s)) i))
        have nb : bst (fun s => pcN (kst nf kf s)) (i + 1) = if pcN (kst nf kf (bst (fun s => pcN (kst nf kf s)) i)) < pcN (kst nf kf i) then i else bst (fun s => pcN (kst nf kf s)) i := by
          rw [bst, if_neg (by omega)]
        have nxt := ih (i + 1) (by omega) hlt (by omega)
        rw [nb] at nxt
        rw [if_neg (fun x => e (by have := (nI_leI (by omega) (by omega)).mp x; omega)), mKnowers h6 h4 hk (by omega), ob_some]
        dsimp only
        rw [bits_ok (kb i hlt), ob_some]
        dsimp only
        rw [mKnowers h6 h4 hk (by omega), ob_some]
        dsimp only
        rw [bits_ok (kb _ (by omega)), ob_some, nI_1]
        dsimp only
        by_cases q : pcN (kst nf kf (bst (fun s => pcN (kst nf kf s)) i)) < pcN (kst nf kf i)
        · rw [if_neg (fun x => by have := (nI_leI (by omega) (by omega)).mp x; omega)]
          rw [if_pos q] at nxt
          exact nxt
        · rw [if_pos ((nI_leI (by omega) (by omega)).mpr (by omega))]
          rw [if_neg q] at nxt
          exact nxt
  exact L 400 1 (by decide) (by omega) (by omega)
theorem k_furthest {σ τ : St} (h : RR σ τ) (a b : Int32) : Agree (f_X10_furthest a b σ) (f_X11_furthest a b τ) := by
  obtain ⟨-, -, ⟨ns0, nf0, kn0, kf0, Y0, F0, K0⟩, -⟩ := h.1
  have y80 := Y0.1
  simp only [f_X10_furthest, f_X11_furthest, within_ok, mwithin_ok, mBehind, cSizY Y0.2.2.1, Y0.2.1, ob_some, ob_eta, if_bI]
  refine Agree.cond (fun ha => ?_) (fun _ => Agree.err h 1)
  refine Agree.cond (fun hb => ?_) (fun _ => Agree.err h 1)
  refine Agree.ite (fun _ => Agree.err h 2) (fun hz => ?_)
  obtain ⟨n, -, hn, rfl⟩ := btw_nI 0 99 ha
  obtain ⟨u, -, hu, rfl⟩ := btw_nI 0 1 hb
  obtain ⟨ns, nf, kf', σ', t0, t, Y, F, e1, e2, e3, e4, e5, m1, m2, m3, ⟨m4, m4'⟩, m5⟩ := thinkBoth h (n := n) (by omega)
  have y8 := Y.1
  have f6 := F.1
  have en : ns0 = ns := (nI_eq (by omega) (by omega)).mp (Y0.2.1.symm.trans Y.2.1)
  subst en
  have h0 : 0 < ns0 := by
    by_cases q : ns0 = 0
    · exact absurd ((nI_z (by omega)).mpr q) hz
    · omega
  obtain ⟨τ', q1, q2⟩ := furM m3 hu y8 h0 f6 m4 m4' (fun f hf => ⟨lt_256 (m5 f hf).1 y8, (m5 f hf).2⟩)
  rw [e1, ob_some, furC hu y8 h0 e3 (fun s hs => ⟨e4 s hs, bset_256 (by omega) _⟩), m1, ob_some, m2, ob_some, q1]
  exact Agree.of (h.scr (e2.mono fpTh_scr) q2)
theorem k_who {σ τ : St} (h : RR σ τ) (a b : Int32) : Agree (f_X10_who a b σ) (f_X11_who a b τ) := by
  obtain ⟨-, -, ⟨ns0, nf0, kn0, kf0, Y0, F0, K0⟩, -⟩ := h.1
  have f60 := F0.1
  simp only [f_X10_who, f_X11_who, mSheet, within_ok, mBehind, cSizF F0.2.2.1, ob_some, ob_eta, if_bI]
  rcases sheetAt_cases a σ with ⟨e1, e2⟩ | ⟨i, hi, rfl, e1, e2⟩
  · rw [e1, e2, ob_some]
    dsimp only [cond]
    rw [if_s0, if_pos rfl]
    exact Agree.err h 1
  · rw [e1, e2, ob_some]
    dsimp only [cond]
    rw [if_s5 hi, if_neg (by omega)]
    refine Agree.cond (fun hb => ?_) (fun _ => Agree.err h 1)
    obtain ⟨n, -, hn, rfl⟩ := btw_nI 0 99 hb
    obtain ⟨tt, q1, q2, q3⟩ := tells_ok h hi f60 F0.2.1
    rw [cSizF F0.2.2.1, ob_some]
    dsimp only
    rw [q1, q2, ob_some, ob_some]
    dsimp only
    rw [if_bI, if_bI]
    cases tt
    · exact Agree.err h 2
    · dsimp only [cond, Bool.not_true]
      obtain ⟨r1, r2⟩ := q3 rfl
      obtain ⟨ns, nf, kf', σ', t0, t, Y, F, c1, c2, c3, c4, c5, m1, m2, m3, ⟨m4, m4'⟩, m5⟩ := thinkBoth h (n := n) (by omega)
      have y8 := Y.1
      have en : nf0 = nf := (nI_eq (by omega) (by have := F.1; omega)).mp (F0.2.1.symm.trans F.2.1)
      subst en
      let g : Nat → Int32 := fun j => τ 12 (40 * i + j)
      have LC : ∀ f k, k ≤ ns → ns - k < f → f_X10_who_L63 f (100 + 3 * i) (nI (bset k (fun s => fitB (fun j => τ 12 (40 * i + j)) (kst nf0 kf' s) nf0))) (nI k) σ' = some (nI (bset ns (fun s => fitB (fun j => τ 12 (40 * i + j)) (kst nf0 kf' s) nf0)), σ') := by
        intro f
        induction f with
        | zero => intro k _ h; omega
        | succ f ih =>
          intro k hk hf
          rw [f_X10_who_L63, size_ok, ob_some, c3]
          dsimp only
          by_cases e : k = ns
          · subst e
            rw [if_pos Int32.le_rfl]
          · have hlt : k < ns := by omega
            rw [if_neg (fun x => e (by have := (nI_leI (by omega) (by omega)).mp x; omega)), if_neg (by omega), get42 σ' (by omega), ob_some]
            dsimp only
            rw [c4 k hlt, fits_ok (n := nf0) (s := kst nf0 kf' k) (g := fun j => τ 12 (40 * i + j)) hi (bset_256 (by omega) _) (by omega) ((c2 _ _ (by unfold fpTh; omega)).trans r1) (fun j hj => (c2 _ _ (by unfold fpTh; omega)).trans (r2 j hj)), ob_some]
            dsimp only
            rw [with_bset (p := fun s => fitB (fun j => τ 12 (40 * i + j)) (kst nf0 kf' s) nf0) (by omega) bI_0, ob_some, nI_1]
            exact ih (k + 1) hlt (by omega)
      have LM : ∀ f k, k ≤ ns → ns - k < f → ∃ τ', f_X11_who_L58 f (nI i) (nI (bset k (fun s => fitB (fun j => τ 12 (40 * i + j)) (kst nf0 kf' s) nf0))) (nI k) t = some (nI (bset ns (fun s => fitB (fun j => τ 12 (40 * i + j)) (kst nf0 kf' s) nf0)), τ') ∧ same scrM τ τ' := by
        intro f
        induction f with
        | zero => intro k _ h; omega
        | succ f ih =>
          intro k hk hf
          rw [f_X11_who_L58, m4]
          by_cases e : k = ns
          · subst e
            obtain ⟨t', p1, -, p3, -, -⟩ := mBack m3 (nI (bset k (fun s => fitB (fun j => τ 12 (40 * i + j)) (kst nf0 kf' s) nf0)))
            rw [if_pos Int32.le_rfl, p1, ob_some]
            exact ⟨t', rfl, p3⟩
          · have hlt : k < ns := by omega
            rw [if_neg (fun x => e (by have := (nI_leI (by omega) (by omega)).mp x; omega)), mKnowers f60 m4' (fun f hf => ⟨lt_256 (m5 f hf).1 y8, (m5 f hf).2⟩) (by omega), ob_some]
            dsimp only
            rw [isTold_ok (s := kst nf0 kf' k) (g := fun j => τ 12 (40 * i + j)) hi (bset_256 (by omega) _) (by omega) m4' (fun j hj => m3.1 12 _ (by unfold scrM; omega)), ob_some, nI_1]
            dsimp only
            rw [if_bI]
            have nxt := ih (k + 1) hlt (by omega)
            cases hb : fitB (fun j => τ 12 (40 * i + j)) (kst nf0 kf' k) nf0
            · dsimp only [cond]
              rw [or_bset0 (p := fun s => fitB (fun j => τ 12 (40 * i + j)) (kst nf0 kf' s) nf0) hb]
              exact nxt
            · dsimp only [cond]
              rw [or_bset1 (p := fun s => fitB (fun j => τ 12 (40 * i + j)) (kst nf0 kf' s) nf0) (by omega) hb]
              exact nxt
      obtain ⟨τ', z1, z2⟩ := LM 400 0 (Nat.zero_le _) (by omega)
      have z0 := LC 400 0 (Nat.zero_le _) (by omega)
      rw [c1, ob_some, m1, ob_some, m2, ob_some]
      refine ⟨_, σ', τ', z0, z1, h.scr (c2.mono fpTh_scr) z2⟩
