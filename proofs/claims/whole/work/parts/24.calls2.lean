/-! calls about sayings and folk -/
theorem knownBy_L {σ : St} {ns one r : Nat} {kn : Nat → Nat} (hs : σ 10 1 = nI ns) (h8 : ns ≤ 8) (hr : shC (r + 1) - 100 = 8) (hk : ∀ s, s < ns → σ (r + 1) s = nI (kn s) ∧ kn s < 256) (ho : one < 8) :
    ∀ n i, i ≤ ns → ns - i < n → f_X4_knownBy_L5 n (nI one) r (nI (bset i (fun s => (kn s).testBit one))) (nI i) σ = some (nI (bset ns (fun s => (kn s).testBit one)), σ) := by
  intro n
  induction n with
  | zero => intro i _ h; omega
  | succ n ih =>
    intro i hi hn
    rw [f_X4_knownBy_L5, cSizY hs, ob_some]
    by_cases e : i = ns
    · subst e
      rw [if_pos Int32.le_rfl]
    · have hlt : i < ns := by omega
      rw [if_neg (fun x => e (by have := (nI_leI (by omega) (by omega)).mp x; omega)), get_ok hr (by decide) σ (show i < 8 by omega), ob_some]
      dsimp only
      rw [(hk i hlt).1, inSet_ok (hk i hlt).2 ho, ob_some]
      dsimp only
      cases hb : (kn i).testBit one
      · rw [if_neg (by decide), with_bset (p := fun s => (kn s).testBit one) (v := 0) (by omega) (by simp [hb]), ob_some]
        dsimp only
        rw [nI_1]
        exact ih (i + 1) hlt (by omega)
      · rw [if_pos (by decide), with_bset (p := fun s => (kn s).testBit one) (v := 1) (by omega) (by simp [hb]), ob_some]
        dsimp only
        rw [nI_1]
        exact ih (i + 1) hlt (by omega)
theorem knownBy_ok {σ : St} {ns one r : Nat} {kn : Nat → Nat} (hs : σ 10 1 = nI ns) (h8 : ns ≤ 8) (hr : shC (r + 1) - 100 = 8) (hk : ∀ s, s < ns → σ (r + 1) s = nI (kn s) ∧ kn s < 256) (ho : one < 8) :
    f_X4_knownBy (nI one) r σ = some (nI (bset ns (fun s => (kn s).testBit one)), σ) :=
  knownBy_L hs h8 hr hk ho 400 0 (Nat.zero_le _) (by omega)
theorem learnt_L {ns one set : Nat} {kn : Nat → Nat} (h8 : ns ≤ 8) (ho : one < 8) (hset : set < 256) (hkn : ∀ s, s < ns → kn s < 256) :
    ∀ n i (σ : St), i ≤ ns → ns - i < n → σ 10 1 = nI ns → (∀ s, i ≤ s → s < ns → σ 21 s = nI (kn s)) →
      ∃ σ', f_X4_learnt_L2 n (nI one) (nI set) (nI i) σ = some σ' ∧ (∀ q j, q ≠ 21 → σ' q j = σ q j) ∧ (∀ s, s < i → σ' 21 s = σ 21 s) ∧ ∀ s, i ≤ s → s < ns → σ' 21 s = nI (wm (kn s) one (set.testBit s)) := by
  intro n
  induction n with
  | zero => intro i _ _ h; omega
  | succ n ih =>
    intro i σ hi hn hs hk
    rw [f_X4_learnt_L2, cSizY hs, ob_some]
    by_cases e : i = ns
    · subst e
      rw [if_pos Int32.le_rfl]
      exact ⟨σ, rfl, fun _ _ _ => rfl, fun _ _ => rfl, fun s a b => by omega⟩
    · have hlt : i < ns := by omega
      have hi8 : i < 8 := by omega
      rw [if_neg (fun x => e (by have := (nI_leI (by omega) (by omega)).mp x; omega)), get20 σ hi8, ob_some]
      dsimp only
      rw [hk i (Nat.le_refl _) hlt, inSet_ok hset hi8, ob_some]
      dsimp only
      have main : ∃ σ', f_X4_learnt_L2 n (nI one) (nI set) (nI (i + 1)) (up σ 21 i (nI (wm (kn i) one (set.testBit i)))) = some σ' ∧ (∀ q j, q ≠ 21 → σ' q j = σ q j) ∧ (∀ s, s < i → σ' 21 s = σ 21 s) ∧ ∀ s, i ≤ s → s < ns → σ' 21 s = nI (wm (kn s) one (set.testBit s)) := by
        obtain ⟨σ', e1, e2, e3, e4⟩ := ih (i + 1) (up σ 21 i (nI (wm (kn i) one (set.testBit i)))) hlt (by omega) ((up_o (by omega)).trans hs) (fun s a b => (up_o (by omega)).trans (hk s (by omega) b))
        refine ⟨σ', e1, fun q j hq => (e2 q j hq).trans (up_o (by omega)), fun s hs => (e3 s (by omega)).trans (up_o (by omega)), fun s a b => ?_⟩
        by_cases hsi : s = i
        · subst hsi
          rw [e3 s (by omega), up_e rfl rfl]
        · exact e4 s (by omega) b
      cases hb : set.testBit i
      · rw [if_neg (by decide), with_ok (b := false) (v := 0) (hkn i hlt) ho (by decide), ob_some]
        dsimp only
        rw [set20 _ σ hi8, ob_some, nI_1]
        rw [hb] at main
        exact main
      · rw [if_pos (by decide), with_ok (b := true) (v := 1) (hkn i hlt) ho (by decide), ob_some]
        dsimp only
        rw [set20 _ σ hi8, ob_some, nI_1]
        rw [hb] at main
        exact main
theorem isSet_ok {n : Nat} (hn : n ≤ 8) (v : Int32) (σ : St) : f_X10_isSetOf (nI n) v σ = some (bI (isIx v (2 ^ n)), σ) := by
  rw [f_X10_isSetOf, z_one n (by omega)]
  by_cases h1 : v < 0
  · rw [if_pos h1, show isIx v (2 ^ n) = false from decide_eq_false (fun h => Int32.not_lt.mpr h.1 h1)]; rfl
  · rw [if_neg h1]
    by_cases h2 : nI (2 ^ n) ≤ v
    · rw [if_pos h2, show isIx v (2 ^ n) = false from decide_eq_false (fun h => Int32.not_lt.mpr h2 h.2)]; rfl
    · rw [if_neg h2, show isIx v (2 ^ n) = true from decide_eq_true ⟨Int32.not_lt.mp h1, Int32.not_le.mp h2⟩]; rfl
theorem pw_lt {n : Nat} (hn : n ≤ 8) : 2 ^ n < 2 ^ 30 := Nat.pow_lt_pow_right (by decide) (by omega)
theorem bnot {b : Bool} (h : ¬ b = true) : b = false := by cases b <;> simp_all
theorem k_folk {σ τ : St} (h : RR σ τ) (a b : Int32) : Agree (f_X10_folk a b σ) (f_X11_folk a b τ) := by
  have hV := h.1
  obtain ⟨⟨w, hh, A1, A2, A3, A4, A5, A6, A7, A8, A9⟩, -, ⟨ns, nf, kn, kf, Y, ⟨F1, F2, F3, F4, F5⟩, K1, K2, K3⟩, -⟩ := h.1
  have R23 : σ 23 1 = nI nf := F3
  have R25 : σ 25 1 = nI nf := F4
  simp only [f_X10_folk, f_X11_folk, cWell _ A4 (by omega), mWell _ A5 (by omega), within_ok, mStrong, ob_some, ob_eta, if_bI, cSizF R23, F2]
  refine Agree.cond (fun _ => ?_) (fun _ => Agree.err h 1)
  refine Agree.cond (fun _ => ?_) (fun _ => Agree.err h 1)
  by_cases h6 : nf = 6
  · subst h6
    rw [if_neg (by decide), if_pos (by decide)]
    exact Agree.err h 4
  · have hn : nf < 6 := by omega
    have ns8 : ns ≤ 8 := Y.1
    have ec : f_X0_add a b σ = some (up (up (up (up σ 24 nf a) 23 1 (nI (nf + 1))) 26 nf b) 25 1 (nI (nf + 1))) := by
      rw [f_X0_add, add23 a σ R23 hn, ob_some, add25 b _ (by simp (disch := omega) only [up_o]; exact R25) hn, ob_some]
    have em : f_X11_folkComes a b τ = some (nI nf, up (up (up (up τ 1 (81 + 3 * nf) a) 1 (82 + 3 * nf) b) 1 (83 + 3 * nf) 0) 1 4 (nI (nf + 1))) := by
      simp (disch := omega) only [f_X11_folkComes, F2, folkAt0, folkAt1, folkAt2, ob_some, bst_ok, if_in, clampN, up_o, nI_1]
    rw [if_pos (show nI nf < 6 from nI_lt hn (by decide)), if_neg (show ¬ nI nf = 6 from fun x => h6 ((nI_eq (b := 6) (by omega) (by decide)).mp x)), ec, em, ob_some, f_X0_size, size_ok, ob_some, ob_some]
    refine Agree.of' ?_ (h.now (fun q j e => ?_) (fun q j e => ?_) (hV.newY (fun q j e => ?_) (fun i e => ?_) ⟨ns, nf + 1, kn, fun f => if f = nf then 0 else kf f, Y.congr (fun q j a b => ?_) (fun i a => ?_), ⟨hn, ?_, ?_, ?_, fun i hi => ?_⟩, ?_, fun f hf => ?_, fun s f a b => ?_⟩))
    · simp (disch := omega) only [up_o, up_e]
      exact nI_pred nf
    · unfold nowC at e
      simp (disch := omega) only [up_o]
    · unfold nowM at e
      simp (disch := omega) only [up_o]
    · unfold fpY at e
      simp (disch := omega) only [up_o]
    · unfold nfY at e
      simp (disch := omega) only [up_o]
    · simp (disch := omega) only [up_o]
    · simp (disch := omega) only [up_o]
    · simp (disch := omega) only [up_o, up_e]
    · unfold rowN
      simp (disch := omega) only [up_o, up_e]
    · unfold rowN
      simp (disch := omega) only [up_o, up_e]
    · by_cases hin : i < nf
      · simp (disch := omega) only [up_o]
        exact F5 i hin
      · have : i = nf := by omega
        subst this
        simp (disch := omega) only [up_o, up_e]
        exact ⟨trivial, trivial⟩
    · intro s hs
      simp (disch := omega) only [up_o]
      exact ⟨Nat.lt_of_lt_of_le (K1 s hs).1 (Nat.pow_le_pow_right (by decide) (by omega)), (K1 s hs).2⟩
    · dsimp only
      by_cases hin : f < nf
      · rw [if_neg (by omega)]
        simp (disch := omega) only [up_o]
        exact K2 f hin
      · have : f = nf := by omega
        subst this
        rw [if_pos rfl]
        simp (disch := omega) only [up_o, up_e]
        exact ⟨Nat.two_pow_pos ns, rfl⟩
    · dsimp only
      by_cases hin : f < nf
      · rw [if_neg (by omega)]
        exact K3 s f a hin
      · have : f = nf := by omega
        subst this
        rw [if_pos rfl, tb_ge (K1 s a).1 (Nat.le_refl _), Nat.zero_testBit]
theorem kf_eta {ns nf f : Nat} {kn kf : Nat → Nat} (K2 : kf f < 2 ^ ns) (K3 : ∀ s f, s < ns → f < nf → (kn s).testBit f = (kf f).testBit s) (hf : f < nf) : bset ns (fun s => (kn s).testBit f) = kf f :=
  bset_of K2 (fun s hs => (K3 s f hs hf).symm)
theorem ofOne_ok {σ : St} {N : Nat → Int32} {ns nf j b : Nat} {kn kf : Nat → Nat} (Y : RVy σ 1 N ns) (F : RVf σ 1 N nf) (K : RVk σ 1 N ns nf kn kf) (hj : j < nf) (hb : b < 3) : f_X7_ofOne (nI j) (nI b) σ = some (N (81 + 3 * j + b), σ) := by
  obtain ⟨F1, F2, F3, F4, F5⟩ := F
  obtain ⟨K1, K2, K3⟩ := K
  have hy : σ 10 1 = nI ns := Y.2.2.1
  have y8 : ns ≤ 8 := Y.1
  rw [f_X7_ofOne]
  have : b = 0 ∨ b = 1 ∨ b = 2 := by omega
  rcases this with rfl | rfl | rfl
  · rw [n0, if_pos rfl, ob_eta, get23 σ (by omega)]
    exact congrArg (fun x => some (x, σ)) (F5 j hj).1
  · rw [n1, if_neg (by decide), if_pos rfl, ob_eta, get25 σ (by omega)]
    exact congrArg (fun x => some (x, σ)) ((F5 j hj).2.trans (by congr 1; omega))
  · rw [n2, if_neg (by decide), if_neg (by decide), ob_eta, knownBy_ok (kn := kn) hy y8 rfl (fun s hs => ⟨(K1 s hs).2, lt_256 (K1 s hs).1 (by omega)⟩) (by omega), kf_eta (K2 j hj).1 K3 hj, ← (K2 j hj).2, show 83 + 3 * j = 81 + 3 * j + 2 by omega]
theorem k_ofFolk {σ τ : St} (h : RR σ τ) (a b : Int32) : Agree (f_X10_ofFolk a b σ) (f_X11_ofFolk a b τ) := by
  obtain ⟨-, -, ⟨ns, nf, kn, kf, Y, F, K⟩, -⟩ := h.1
  have R23 : σ 23 1 = nI nf := F.2.2.1
  have f6 : nf ≤ 6 := F.1
  simp only [f_X10_ofFolk, f_X11_ofFolk, cHasF _ R23, mOne _ F.2.1 (by omega), within_ok, mwithin_ok, ob_some, ob_eta, if_bI]
  refine Agree.cond (fun hb => ?_) (fun _ => Agree.err h 1)
  refine Agree.cond (fun hc => ?_) (fun _ => Agree.err h 1)
  obtain ⟨j, hj, rfl⟩ := isIx_nI hb (by omega)
  obtain ⟨v, hv1, hv2, rfl⟩ := btw_nI 0 2 hc
  rw [ofOne_ok Y F K hj (by omega), folkIsN τ (by omega) (by omega)]
  exact Agree.of h
theorem k_drink {σ τ : St} (h : RR σ τ) (a b c : Int32) : Agree (f_X10_drink a b c σ) (f_X11_drink a b c τ) := by
  have hV := h.1
  obtain ⟨⟨w, hh, A1, A2, A3, A4, A5, A6, A7, A8, A9⟩, -, ⟨ns, nf, kn, kf, Y, F, K⟩, -⟩ := h.1
  have Y0 := Y
  have F0 := F
  have K0 := K
  obtain ⟨F1, F2, F3, F4, F5⟩ := F
  obtain ⟨K1, K2, K3⟩ := K
  have R23 : σ 23 1 = nI nf := F3
  have R10 : σ 10 1 = nI ns := Y.2.2.1
  have y8 : ns ≤ 8 := Y.1
  have Y3 : τ 1 3 = nI ns := Y.2.1
  simp only [f_X10_drink, f_X11_drink, f_X11_drink_L52, f_X10_mayBeOfOne, cHasF _ R23, mOne _ F2 (by omega), cWell _ A4 (by omega), mWell _ A5 (by omega), mStrong, within_ok, mwithin_ok, ob_some, ob_eta, if_bI, if_bI01, cSizY R10, isSet_ok y8, Y3, z_one ns (by omega), btw_ix _ (pw_lt y8)]
  cases hb : isIx a nf
  · dsimp only [cond]
    have e := Agree.err h 1 (k := -1000000001)
    by_cases b0 : b = 0
    · rw [if_pos b0]; exact e
    · rw [if_neg b0]
      by_cases b1 : b = 1
      · rw [if_pos b1]; exact e
      · rw [if_neg b1]
        by_cases b2 : b = 2
        · rw [if_pos b2]
          cases isIx c (2 ^ ns) <;> exact e
        · rw [if_neg b2]; exact e
  · dsimp only [cond]
    obtain ⟨j, hj, rfl⟩ := isIx_nI hb (by omega)
    cases hc : btw b 0 2
    · dsimp only
      have e := Agree.err h 1 (k := -1000000001)
      rw [if_neg (show ¬ b = 0 by rintro rfl; exact absurd hc (by decide)), if_neg (show ¬ b = 1 by rintro rfl; exact absurd hc (by decide)), if_neg (show ¬ b = 2 by rintro rfl; exact absurd hc (by decide)), if_pos trivial]
      exact e
    · dsimp only
      obtain ⟨v, hv1, hv2, rfl⟩ := btw_nI 0 2 hc
      have hv : v = 0 ∨ v = 1 ∨ v = 2 := by omega
      have et : f_X11_folkAt (nI j) (nI v) τ = some (nI (81 + 3 * j + v), τ) := folkAtN j v τ
      have eo := ofOne_ok Y0 F0 K0 hj (b := v) (by omega)
      rcases hv with rfl | rfl | rfl
      · rw [n0] at et eo ⊢
        rw [if_pos rfl, if_pos rfl]
        simp only [ob_some, if_bI]
        cases hd : isIx c w
        · exact Agree.err h 1
        dsimp only [cond]
        rw [eo, ob_some, et, ob_some, if_pos trivial]
        dsimp only
        rw [set23 c σ (by omega), ob_some, turn_ok c τ (by omega)]
        refine Agree.of (h.now (fun q j e => ?_) (fun q j e => ?_) (hV.newY (fun q j e => ?_) (fun i e => ?_) ⟨ns, nf, kn, kf, Y.congr (fun q j a b => ?_) (fun i a => ?_), ⟨F1, ?_, F3, F4, fun i hi => ?_⟩, K1, fun f hf => ?_, K3⟩))
        · unfold nowC at e
          simp (disch := omega) only [up_o]
        · unfold nowM at e
          simp (disch := omega) only [up_o]
        · unfold fpY at e
          simp (disch := omega) only [up_o]
        · unfold nfY at e
          simp (disch := omega) only [up_o]
        · simp (disch := omega) only [up_o]
        · simp (disch := omega) only [up_o]
        · exact (up_o (by omega)).trans F2
        · by_cases hij : i = j
          · subst hij
            simp (disch := omega) only [up_o, up_e]
            exact ⟨trivial, (F5 i hi).2⟩
          · simp (disch := omega) only [up_o]
            exact F5 i hi
        · simp (disch := omega) only [up_o]
          exact K2 f hf
      · rw [n1] at et eo ⊢
        rw [if_neg (by decide), if_pos rfl, if_neg (by decide), if_pos rfl]
        simp only [ob_some, if_bI]
        cases hd : btw c 0 99
        · exact Agree.err h 1
        dsimp only [cond]
        rw [eo, ob_some, et, ob_some, if_neg (by decide), if_pos trivial]
        dsimp only
        rw [set25 c σ (by omega), ob_some, turn_ok c τ (by omega)]
        refine Agree.of (h.now (fun q j e => ?_) (fun q j e => ?_) (hV.newY (fun q j e => ?_) (fun i e => ?_) ⟨ns, nf, kn, kf, Y.congr (fun q j a b => ?_) (fun i a => ?_), ⟨F1, ?_, F3, F4, fun i hi => ?_⟩, K1, fun f hf => ?_, K3⟩))
        · unfold nowC at e
          simp (disch := omega) only [up_o]
        · unfold nowM at e
          simp (disch := omega) only [up_o]
        · unfold fpY at e
          simp (disch := omega) only [up_o]
        · unfold nfY at e
          simp (disch := omega) only [up_o]
        · simp (disch := omega) only [up_o]
        · simp (disch := omega) only [up_o]
        · exact (up_o (by omega)).trans F2
        · by_cases hij : i = j
          · subst hij
            simp (disch := omega) only [up_o, up_e]
            exact ⟨(F5 i hi).1, trivial⟩
          · simp (disch := omega) only [up_o]
            exact F5 i hi
        · simp (disch := omega) only [up_o]
          exact K2 f hf
      · rw [n2] at et eo ⊢
        rw [if_neg (by decide), if_neg (by decide), if_neg (by decide), if_neg (by decide), if_pos rfl]
        simp only [ob_some, if_bI]
        cases hd : isIx c (2 ^ ns)
        · dsimp only [cond]
          rw [if_pos trivial]
          exact Agree.err h 1
        · dsimp only [cond]
          obtain ⟨g, hg, rfl⟩ := isIx_nI hd (by have := pw_lt y8; omega)
          have g8 : g < 256 := lt_256 hg y8
          obtain ⟨σ', e1, e2, -, e4⟩ := learnt_L (ns := ns) (one := j) (set := g) (kn := kn) y8 (by omega) g8 (fun s hs => lt_256 (K1 s hs).1 (by omega)) 400 0 σ (Nat.zero_le _) (by omega) R10 (fun s _ hs => (K1 s hs).2)
          rw [eo, ob_some, et, ob_some, if_neg (by decide), if_neg (by decide), f_X4_learnt, show (0 : Int32) = nI 0 from rfl]
          dsimp only
          rw [e1, ob_some, turn_ok _ τ (by omega), if_neg (by decide)]
          refine Agree.of (h.now (fun q j e => ?_) (fun q j e => ?_) (hV.newY (fun q j e => ?_) (fun i e => ?_) ⟨ns, nf, fun s => wm (kn s) j (g.testBit s), fun f => if f = j then g else kf f, Y.congr (fun q j a b => ?_) (fun i a => ?_), ⟨F1, ?_, ?_, ?_, fun i hi => ?_⟩, fun s hs => ⟨wm_pw (K1 s hs).1 (by omega) hj, e4 s (Nat.zero_le _) hs⟩, fun f hf => ?_, fun s f a b => ?_⟩))
          · unfold nowC at e
            exact e2 q j (by omega)
          · unfold nowM at e
            simp (disch := omega) only [up_o]
          · unfold fpY at e
            exact e2 q j (by omega)
          · unfold nfY at e
            simp (disch := omega) only [up_o]
          · exact e2 q j (by omega)
          · simp (disch := omega) only [up_o]
          · exact (up_o (by omega)).trans F2
          · exact (e2 _ _ (by omega)).trans F3
          · exact (e2 _ _ (by omega)).trans F4
          · rw [e2 _ _ (by omega), e2 _ _ (by omega), up_o (by omega), up_o (by omega)]
            exact F5 i hi
          · dsimp only
            by_cases hij : f = j
            · subst hij
              rw [if_pos rfl, up_e rfl (by omega)]
              exact ⟨hg, rfl⟩
            · rw [if_neg hij, up_o (by omega)]
              exact K2 f hf
          · dsimp only
            rw [wm_bit (lt_256 (K1 s a).1 (by omega)) (by omega) (by omega)]
            by_cases hij : f = j
            · rw [if_pos hij, if_pos hij]
            · rw [if_neg hij, if_neg hij]
              exact K3 s f a b
