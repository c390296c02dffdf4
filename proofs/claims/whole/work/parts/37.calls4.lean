/-! calls, how loud, odds -/
theorem z_all : ∀ k, k < 64 → ∀ a, a < 64 → ((nI k &&& nI a = nI a) ↔ (nI a &&& (nI k ^^^ (-1)) = 0)) := by decide +kernel
theorem isSetM {τ : St} {nf : Nat} (h4 : τ 1 4 = nI nf) (h6 : nf ≤ 6) (v : Int32) : f_X11_isSet v τ = some (bI (isIx v (2 ^ nf)), τ) := by
  rw [f_X11_isSet, h4, z_one nf (by omega), mwithin_ok, ob_some, btw_ix v (pw_lt (by omega)), if_bI01]
theorem lt_64 {s n : Nat} (h : s < 2 ^ n) (hn : n ≤ 6) : s < 64 := Nat.lt_of_lt_of_le h (Nat.pow_le_pow_right (n := 2) (by decide) hn)
theorem k_calls {σ τ : St} (h : RR σ τ) (a b c d : Int32) : Agree (f_X10_calls a b c d σ) (f_X11_calls a b c d τ) := by
  obtain ⟨w, nw, sp, ns, nf, l0, l1, kn, kf, T, M, hw⟩ := tk_of h.1 h.2.2.2.2.2.2.1 h.2.2.2.2.2.2.2
  obtain ⟨⟨a0, a0', a1, a2, a3, a4⟩, Y, F, K, C, ek⟩ := id T
  have y8 := M.1.2.1
  have f6 := M.1.2.2.1
  simp only [f_X10_calls, f_X11_calls, cHasY a Y.2.2.1, mSay a Y.2.1 (by omega), within_ok, mBehind, cSizF F.2.2.1, isSet_ok (show nf ≤ 8 by omega), isSetM F.2.1 f6, ob_some, ob_eta, if_bI]
  refine Agree.cond (fun ha => ?_) (fun _ => Agree.err h 1)
  refine Agree.cond (fun hb => ?_) (fun _ => Agree.err h 1)
  refine Agree.cond (fun hc => ?_) (fun _ => Agree.err h 1)
  refine Agree.cond (fun hd => ?_) (fun _ => Agree.err h 1)
  refine Agree.ite (fun _ => ?_) (fun _ => Agree.err h 1)
  obtain ⟨s, hs, rfl⟩ := isIx_nI ha (by omega)
  obtain ⟨n, -, hn, rfl⟩ := btw_nI 0 99 hb
  have pl := pw_lt (n := nf) (by omega)
  obtain ⟨x, hx, rfl⟩ := isIx_nI hc (by omega)
  obtain ⟨y, hy, rfl⟩ := isIx_nI hd (by omega)
  have x64 := lt_64 hx f6
  have y64 := lt_64 hy f6
  obtain ⟨t0, s1, s2, s3, -⟩ := mSave τ
  rw [s1, ob_some]
  have L : ∀ m f f' i (v : Nat → Bool) (σ1 t : St), i + m = w → m < f → m < f' → same (fun q j => fpH q j ∨ q = 41) σ σ1 → same scrM τ t → Aside τ t →
      Agree (f_X10_calls_L84 f (nI s) (nI n) (nI x) (nI y) (nI (bset i v)) (nI i) σ1) (f_X11_calls_L63 f' (nI s) (nI n) (nI x) (nI y) (nI (bset i v)) (nI i) t) := by
    intro m
    induction m with
    | zero =>
      intro f f' i v σ1 t hi hf hf' S S' A
      obtain ⟨f, rfl⟩ : ∃ x, f = x + 1 := ⟨f - 1, by omega⟩
      obtain ⟨f', rfl⟩ : ∃ x, f' = x + 1 := ⟨f' - 1, by omega⟩
      have : i = w := by omega
      subst this
      rw [f_X10_calls_L84, f_X11_calls_L63, S 1 0 (by unfold fpH; omega), a0, A.2 1 (by decide), hw, if_pos Int32.le_rfl, if_pos Int32.le_rfl]
      exact Agree.of (h.scr (fun q j hq => S q j (fun x => x.elim (fun y => hq (fpH_scr q j y)) (fun y => hq (by unfold scrC; omega)))) S')
    | succ m ih =>
      intro f f' i v σ1 t hi hf hf' S S' A
      obtain ⟨f, rfl⟩ : ∃ x, f = x + 1 := ⟨f - 1, by omega⟩
      obtain ⟨f', rfl⟩ : ∃ x, f' = x + 1 := ⟨f' - 1, by omega⟩
      have T1 := T.moved (σ' := σ1) (fun q j z => S q j (by unfold fpK at z; unfold fpH; omega))
      obtain ⟨⟨b0, b0', b1, b2, b3, b4⟩, Y1, F1, K1, C1, -⟩ := T1
      obtain ⟨σ2, e1, e2, mv⟩ := cThought Y1 K1 hs
      rw [ek s hs] at mv
      have tv : ∀ j, j < 273 → t 1 j = τ 1 j := fun j hj => S' 1 j (by unfold scrM; omega)
      have st : ∀ j, j < 273 → j ≠ 43 + 5 * s → j ≠ 45 + 5 * s → (up (up t 1 (43 + 5 * s) (nI i)) 1 (45 + 5 * s) 0) 1 j = τ 1 j := fun j h1 h2 h3 => by
        rw [up_o (by omega), up_o (by omega)]
        exact tv j h1
      have C2 : CS (up (up σ2 41 2 (nI i)) 41 4 0) ((up (up t 1 (43 + 5 * s) (nI i)) 1 (45 + 5 * s) 0) 1) nw nf l0 l1 sp (σ 33) (σ 38) :=
        (C1.moved (fun q j z => by rw [up_o (by omega), up_o (by omega)]; exact e2 q j (by omega))).rowG (fun j hj => st j (by omega) (by omega) (by omega))
      have M2 : MS ((up (up t 1 (43 + 5 * s) (nI i)) 1 (45 + 5 * s) 0) 1) nw ns nf l0 l1 (σ 33) (σ 38) kf := M.rowG (fun j hj => st j (by omega) (by omega) (by omega))
      have mv2 : MV (up (up σ2 41 2 (nI i)) 41 4 0) ((up (up t 1 (43 + 5 * s) (nI i)) 1 (45 + 5 * s) 0) 1) (kst nf kf s) s := by
        obtain ⟨m0, m1, m2, m3, m4, m5⟩ := mv
        refine ⟨?_, ?_, ?_, ?_, ?_, ?_⟩
        · rw [st _ (by omega) (by omega) (by omega), up_o (by omega), up_o (by omega)]; exact m0
        · rw [st _ (by omega) (by omega) (by omega), up_o (by omega), up_o (by omega)]; exact m1
        · rw [up_o (by omega), up_e rfl rfl, up_o (by omega), up_e rfl rfl]
        · rw [st _ (by omega) (by omega) (by omega), up_o (by omega), up_o (by omega)]; exact m3
        · rw [up_e rfl rfl, up_e rfl rfl]
        · rw [up_o (by omega), up_o (by omega)]; exact m5
      obtain ⟨g, hg, eg⟩ := (Y.2.2.2.2.2.2.2.2 s hs).2.2.2.2.2.2.2
      have A2 : Aside τ (up (up t 1 (43 + 5 * s) (nI i)) 1 (45 + 5 * s) 0) := A.tr ((same_up (Or.inl rfl)).tr (same_up (Or.inl rfl)))
      obtain ⟨KK, σ3, t3, k1, k2, k3, k4, k5, k6, k7, -⟩ := one C2 M2 mv2 hs (by omega) ((st _ (by omega) (by omega) (by omega)).trans eg) (by rw [up_o (by omega), up_o (by omega), e2 1 2 (by omega), b2, st 0 (by omega) (by omega) (by omega)]) A2 (show n < 400 by omega)
      have hneg : ¬ nI w ≤ nI i := fun z => by have := (nI_leI (by omega) (by omega)).mp z; omega
      have k64 := lt_64 k1 f6
      have S3 : same (fun q j => fpH q j ∨ q = 41) σ σ3 := ((S.tr (e2.mono (fun q j z => Or.inr z))).tr ((same_up (Or.inr rfl)).tr (same_up (Or.inr rfl)))).tr (k3.mono (fun q j z => Or.inl z))
      rw [f_X10_calls_L84, f_X11_calls_L63, S 1 0 (by unfold fpH; omega), a0, A.2 1 (by decide), hw, if_neg hneg, if_neg hneg, e1, ob_some, sayAt2, ob_some]
      dsimp only
      rw [if_pos (by decide), bst_ok, bst_ok, if_in (by omega), bst_ok, clampN (by omega), sayAt4, ob_some]
      dsimp only
      rw [if_in (by omega), bst_ok, clampN (by omega), k5, ob_some]
      have r1 : (up (up σ2 41 2 (nI i)) 41 4 0) 1 1 = (up (up t 1 (43 + 5 * s) (nI i)) 1 (45 + 5 * s) 0) 1 5 := by
        rw [up_o (by omega), up_o (by omega), e2 1 1 (by omega), b1, st 5 (by omega) (by omega) (by omega)]
      have r2 : (up (up σ2 41 2 (nI i)) 41 4 0) 2 3 = nI sp := by
        rw [up_o (by omega), up_o (by omega), e2 2 3 (by omega), b3]
      rw [r1, r2, k2, ob_some, nI_1]
      simp only [k4]
      have nxt : ∀ t : Bool, Agree (f_X10_calls_L84 f (nI s) (nI n) (nI x) (nI y) (nI (bset (i + 1) (fun z => if z = i then t else v z))) (nI (i + 1)) σ3) (f_X11_calls_L63 f' (nI s) (nI n) (nI x) (nI y) (nI (bset (i + 1) (fun z => if z = i then t else v z))) (nI (i + 1)) t3) :=
        fun t => ih f f' (i + 1) _ σ3 t3 (by omega) (by omega) (by omega) S3 k6 k7
      have bs : ∀ t : Bool, bset i v = bset i (fun z => if z = i then t else v z) := fun t => bset_congr (fun z hz => by rw [if_neg (by omega)])
      have eq1 := z_all KK k64 x x64
      by_cases q1 : nI KK &&& nI x = nI x
      · rw [if_pos q1, if_pos (eq1.mp q1)]
        by_cases q2 : nI KK &&& nI y = 0
        · rw [if_pos q2, if_pos (by rw [Int32.and_comm]; exact q2), bs true, with_bset (p := fun z => if z = i then true else v z) (v := 1) (by omega) (by simp), ob_some, or_bset1 (p := fun z => if z = i then true else v z) (by omega) (by simp)]
          exact nxt true
        · rw [if_neg q2, if_neg (by rw [Int32.and_comm]; exact q2), bs false, with_bset (p := fun z => if z = i then false else v z) (v := 0) (by omega) (by simp), ob_some, or_bset0 (p := fun z => if z = i then false else v z) (by simp)]
          exact nxt false
      · rw [if_neg q1, if_neg (fun z => q1 (eq1.mpr z)), bs false, with_bset (p := fun z => if z = i then false else v z) (v := 0) (by omega) (by simp), ob_some, or_bset0 (p := fun z => if z = i then false else v z) (by simp)]
        exact nxt false
  exact L w 400 400 0 (fun _ => false) σ t0 (by omega) (by omega) (by omega) same.rf (fun q j hq => by
    by_cases h1 : q = 1
    · subst h1; rw [s3]
    · exact s2.1 q j (fun z => z.elim h1 hq)) s2
theorem k_loud {σ τ : St} (h : RR σ τ) (a b c d : Int32) : Agree (f_X10_loud a b c d σ) (f_X11_loud a b c d τ) := by
  obtain ⟨w, nw, sp, ns, nf, l0, l1, kn, kf, T, M, hw⟩ := tk_of h.1 h.2.2.2.2.2.2.1 h.2.2.2.2.2.2.2
  obtain ⟨⟨a0, a0', a1, a2, a3, a4⟩, Y, F, K, C, ek⟩ := id T
  have y8 := M.1.2.1
  have f6 := M.1.2.2.1
  simp only [f_X10_loud, f_X11_loud, mSheet, mSay b Y.2.1 (by omega), within_ok, mwithin_ok, ob_some, ob_eta, if_bI]
  rcases sheetAt_cases a σ with ⟨e1, e2⟩ | ⟨i, hi, rfl, e1, e2⟩
  · rw [e1, e2, ob_some]
    dsimp only [cond]
    rw [if_s0, if_pos rfl]
    exact Agree.err h 1
  · rw [e1, e2, ob_some]
    dsimp only [cond]
    rw [if_s5 hi, if_neg (by omega), cHasY b Y.2.2.1, ob_some]
    dsimp only
    rw [if_bI]
    refine Agree.cond (fun hb => ?_) (fun _ => Agree.err h 1)
    refine Agree.cond (fun hc => ?_) (fun _ => Agree.err h 1)
    refine Agree.cond (fun hd => ?_) (fun _ => Agree.err h 1)
    obtain ⟨tt, q1, q2, q3⟩ := tells_ok h hi f6 F.2.1
    rw [cSizF F.2.2.1, ob_some]
    dsimp only
    rw [q1, q2, ob_some, ob_some]
    dsimp only
    rw [if_bI, if_bI]
    cases tt
    · exact Agree.err h 2
    · dsimp only [cond, Bool.not_true]
      obtain ⟨r1, r2⟩ := q3 rfl
      obtain ⟨s, hs, rfl⟩ := isIx_nI hb (by omega)
      obtain ⟨n, -, hn, rfl⟩ := btw_nI 0 20 hc
      obtain ⟨t0, s1, s2, s3, -⟩ := mSave τ
      rw [s1, ob_some]
      have L : ∀ m f f' (v u : Int32) (σ1 t : St), m ≤ 100 → m < f → m < f' → same (fun q j => fpH q j ∨ q = 41) σ σ1 → same scrM τ t → Aside τ t →
          Agree (f_X10_loud_L86 f (nI s) (nI n) d (100 + 3 * i) v u (nI m - 1) σ1) (f_X11_loud_L79 f' (nI i) (nI s) (nI n) d v u (nI m - 1) t) := by
        intro m
        induction m with
        | zero =>
          intro f f' v u σ1 t hm hf hf' S S' A
          obtain ⟨f, rfl⟩ : ∃ x, f = x + 1 := ⟨f - 1, by omega⟩
          obtain ⟨f', rfl⟩ : ∃ x, f' = x + 1 := ⟨f' - 1, by omega⟩
          have R1 : RR σ1 t := h.scr (fun q j hq => S q j (fun x => x.elim (fun y => hq (fpH_scr q j y)) (fun y => hq (by unfold scrC; omega)))) S'
          rw [f_X10_loud_L86, f_X11_loud_L79, if_pos (show nI 0 - 1 < 0 by decide), if_pos (show nI 0 - 1 < 0 by decide), ob_eta, ob_eta]
          refine Agree.ite (fun _ => Agree.of R1) (fun _ => ?_)
          exact Agree.ite (fun _ => Agree.of R1) (fun _ => Agree.err R1 2)
        | succ m ih =>
          intro f f' v u σ1 t hm hf hf' S S' A
          obtain ⟨f, rfl⟩ : ∃ x, f = x + 1 := ⟨f - 1, by omega⟩
          obtain ⟨f', rfl⟩ : ∃ x, f' = x + 1 := ⟨f' - 1, by omega⟩
          have T1 := T.moved (σ' := σ1) (fun q j z => S q j (by unfold fpK at z; unfold fpH; omega))
          obtain ⟨⟨b0, b0', b1, b2, b3, b4⟩, Y1, F1, K1, C1, -⟩ := T1
          obtain ⟨σ2, e1, e2, mv⟩ := cThought Y1 K1 hs
          rw [ek s hs] at mv
          have tv : ∀ j, j < 273 → t 1 j = τ 1 j := fun j hj => S' 1 j (by unfold scrM; omega)
          have st : ∀ j, j < 273 → j ≠ 44 + 5 * s → (up t 1 (44 + 5 * s) (nI m)) 1 j = τ 1 j := fun j h1 h2 => by
            rw [up_o (by omega)]
            exact tv j h1
          have C2 : CS (up σ2 41 3 (nI m)) ((up t 1 (44 + 5 * s) (nI m)) 1) nw nf l0 l1 sp (σ 33) (σ 38) :=
            (C1.moved (fun q j z => by rw [up_o (by omega)]; exact e2 q j (by omega))).rowG (fun j hj => st j (by omega) (by omega))
          have M2 : MS ((up t 1 (44 + 5 * s) (nI m)) 1) nw ns nf l0 l1 (σ 33) (σ 38) kf := M.rowG (fun j hj => st j (by omega) (by omega))
          have mv2 : MV (up σ2 41 3 (nI m)) ((up t 1 (44 + 5 * s) (nI m)) 1) (kst nf kf s) s := by
            obtain ⟨m0, m1, m2, m3, m4, m5⟩ := mv
            refine ⟨?_, ?_, ?_, ?_, ?_, ?_⟩
            · rw [st _ (by omega) (by omega), up_o (by omega)]; exact m0
            · rw [st _ (by omega) (by omega), up_o (by omega)]; exact m1
            · rw [st _ (by omega) (by omega), up_o (by omega)]; exact m2
            · rw [up_e rfl rfl, up_e rfl rfl]
            · rw [st _ (by omega) (by omega), up_o (by omega)]; exact m4
            · rw [up_o (by omega)]; exact m5
          have A2 : Aside τ (up t 1 (44 + 5 * s) (nI m)) := A.tr (same_up (Or.inl rfl))
          obtain ⟨KK, σ3, t3, k1, k2, k3, k4, k5, k6, k7, -⟩ := one C2 M2 mv2 hs (show m < 2 ^ 30 by omega) (up_e rfl rfl) (by rw [up_o (by omega), e2 1 2 (by omega), b2, st 0 (by omega) (by omega)]) A2 (show n < 400 by omega)
          have S3 : same (fun q j => fpH q j ∨ q = 41) σ σ3 := ((S.tr (e2.mono (fun q j z => Or.inr z))).tr (same_up (Or.inr rfl))).tr (k3.mono (fun q j z => Or.inl z))
          have kk := lt_256 k1 (show nf ≤ 8 by omega)
          have rr1 : (up σ2 41 3 (nI m)) 1 1 = (up t 1 (44 + 5 * s) (nI m)) 1 5 := by
            rw [up_o (by omega), e2 1 1 (by omega), b1, st 5 (by omega) (by omega)]
          have rr2 : (up σ2 41 3 (nI m)) 2 3 = nI sp := by
            rw [up_o (by omega), e2 2 3 (by omega), b3]
          have c1 := fits_ok (σ := σ3) (s := KK) (n := nf) (g := fun j => τ 12 (40 * i + j)) hi kk (by omega) ((S3 _ _ (by unfold fpH; omega)).trans r1) (fun j hj => (S3 _ _ (by unfold fpH; omega)).trans (r2 j hj))
          have c2 := isTold_ok (τ := t3) (s := KK) (n := nf) (g := fun j => τ 12 (40 * i + j)) hi kk (by omega) ((k6 1 4 (by unfold scrM; omega)).trans F.2.1) (fun j hj => k6 12 _ (by unfold scrM; omega))
          rw [f_X10_loud_L86, f_X11_loud_L79, nI_pred, if_neg (nI_pos (by omega)), if_neg (nI_pos (by omega)), e1, ob_some, sayAt3, ob_some]
          dsimp only
          rw [if_pos (by decide), bst_ok, if_in (by omega), bst_ok, clampN (by omega), k5, ob_some, rr1, rr2, k2, ob_some, if_neg (by omega), k4, c1, ob_some, c2, ob_some, Int32.add_neg_eq_sub]
          dsimp only
          have n1 := ih f f' v u σ3 t3 (by omega) (by omega) (by omega) S3 k6 k7
          have n2 := ih f f' (v + 1) (nI m) σ3 t3 (by omega) (by omega) (by omega) S3 k6 k7
          cases fitB (fun j => τ 12 (40 * i + j)) KK nf
          · rw [if_pos (show bI false = 0 from rfl), if_pos (show bI false = 0 from rfl), if_pos (show bI false = 0 from rfl), Int32.add_zero]
            exact n1
          · rw [if_neg (show ¬ bI true = 0 by decide), if_neg (show ¬ bI true = 0 by decide), if_neg (show ¬ bI true = 0 by decide)]
            exact n2
      have := L 100 400 400 0 (-1) σ t0 (by decide) (by omega) (by omega) same.rf (fun q j hq => by
        by_cases h1 : q = 1
        · subst h1; rw [s3]
        · exact s2.1 q j (fun z => z.elim h1 hq)) s2
      exact this
theorem gcdC : ∀ x, x ≤ 10 → ∀ σ : St, f_X10_commonDivisor (nI x) 10 σ = some (nI (if x = 0 then 10 else Nat.gcd x 10), σ) := by
  intro x hx σ
  have : x = 0 ∨ x = 1 ∨ x = 2 ∨ x = 3 ∨ x = 4 ∨ x = 5 ∨ x = 6 ∨ x = 7 ∨ x = 8 ∨ x = 9 ∨ x = 10 := by omega
  rcases this with rfl | rfl | rfl | rfl | rfl | rfl | rfl | rfl | rfl | rfl | rfl <;> rfl
theorem gcdM : ∀ x, x ≤ 10 → ∀ (u : Int32) (τ : St), f_X11_odds_L109 400 u (nI x) 10 (nI x) τ = (if u = 0 then some (nI x / nI (if x = 0 then 10 else Nat.gcd x 10), τ) else some (10 / nI (if x = 0 then 10 else Nat.gcd x 10), τ)) := by
  intro x hx u τ
  have : x = 0 ∨ x = 1 ∨ x = 2 ∨ x = 3 ∨ x = 4 ∨ x = 5 ∨ x = 6 ∨ x = 7 ∨ x = 8 ∨ x = 9 ∨ x = 10 := by omega
  rcases this with rfl | rfl | rfl | rfl | rfl | rfl | rfl | rfl | rfl | rfl | rfl <;> rfl
theorem gcdP : ∀ x, x ≤ 10 → 0 < (if x = 0 then 10 else Nat.gcd x 10) ∧ (if x = 0 then 10 else Nat.gcd x 10) ≤ 10 := by decide
theorem k_odds {σ τ : St} (h : RR σ τ) (a b c d : Int32) : Agree (f_X10_odds a b c d σ) (f_X11_odds a b c d τ) := by
  obtain ⟨w, nw, sp, ns, nf, l0, l1, kn, kf, T, M, hw⟩ := tk_of h.1 h.2.2.2.2.2.2.1 h.2.2.2.2.2.2.2
  obtain ⟨⟨a0, a0', a1, a2, a3, a4⟩, Y, F, K, C, ek⟩ := id T
  have y8 := M.1.2.1
  have f6 := M.1.2.2.1
  simp only [f_X10_odds, f_X11_odds, cHasF a F.2.2.1, mOne a F.2.1 (by omega), cHasY b Y.2.2.1, mSay b Y.2.1 (by omega), within_ok, mwithin_ok, mBehind, ob_some, ob_eta, if_bI]
  refine Agree.cond (fun ha => ?_) (fun _ => Agree.err h 1)
  refine Agree.cond (fun hb => ?_) (fun _ => Agree.err h 1)
  refine Agree.cond (fun hc => ?_) (fun _ => Agree.err h 1)
  refine Agree.cond (fun hd => ?_) (fun _ => Agree.err h 1)
  obtain ⟨j, hj, rfl⟩ := isIx_nI ha (by omega)
  obtain ⟨s, hs, rfl⟩ := isIx_nI hb (by omega)
  obtain ⟨n, -, hn, rfl⟩ := btw_nI 0 99 hc
  obtain ⟨t0, s1, s2, s3, -⟩ := mSave τ
  rw [s1, ob_some]
  have L : ∀ m f f' i x (σ1 t : St), i + m = 10 → x ≤ i → m < f → m < f' → same (fun q j => fpH q j ∨ q = 41) σ σ1 → same scrM τ t → Aside τ t →
      Agree (f_X10_odds_L66 f (nI j) (nI s) (nI n) d (nI x) (nI i) σ1) (f_X11_odds_L57 f' (nI j) (nI s) (nI n) d (nI x) (nI i) t) := by
    intro m
    induction m with
    | zero =>
      intro f f' i x σ1 t hi hx hf hf' S S' A
      obtain ⟨f, rfl⟩ : ∃ x, f = x + 1 := ⟨f - 1, by omega⟩
      obtain ⟨f', rfl⟩ : ∃ x, f' = x + 1 := ⟨f' - 1, by omega⟩
      have : i = 10 := by omega
      subst this
      have R1 : RR σ1 t := h.scr (fun q j hq => S q j (fun x => x.elim (fun y => hq (fpH_scr q j y)) (fun y => hq (by unfold scrC; omega)))) S'
      obtain ⟨p1, p2⟩ := gcdP x hx
      have nz : ¬ nI (if x = 0 then 10 else Nat.gcd x 10) = 0 := fun z => by have := (nI_z (by omega)).mp z; omega
      rw [f_X10_odds_L66, f_X11_odds_L57, if_pos (by decide), if_pos (by decide), gcdC x hx, ob_some, gcdM x hx]
      dsimp only
      rw [if_pos ((nI_lt0 (by omega)).mpr p1), if_neg nz, if_neg nz]
      exact Agree.ite (fun _ => Agree.of R1) (fun _ => Agree.of R1)
    | succ m ih =>
      intro f f' i x σ1 t hi hx hf hf' S S' A
      obtain ⟨f, rfl⟩ : ∃ x, f = x + 1 := ⟨f - 1, by omega⟩
      obtain ⟨f', rfl⟩ : ∃ x, f' = x + 1 := ⟨f' - 1, by omega⟩
      have T1 := T.moved (σ' := σ1) (fun q j z => S q j (by unfold fpK at z; unfold fpH; omega))
      obtain ⟨⟨b0, b0', b1, b2, b3, b4⟩, Y1, F1, K1, C1, -⟩ := T1
      obtain ⟨σ2, e1, e2, mv⟩ := cThought Y1 K1 hs
      rw [ek s hs] at mv
      have tv : ∀ j, j < 273 → t 1 j = τ 1 j := fun j hj => S' 1 j (by unfold scrM; omega)
      have st : ∀ j, j < 273 → j ≠ 5 → (up t 1 5 (nI i)) 1 j = τ 1 j := fun j h1 h2 => by
        rw [up_o (by omega)]
        exact tv j h1
      have C2 : CS σ2 ((up t 1 5 (nI i)) 1) nw nf l0 l1 sp (σ 33) (σ 38) := (C1.moved (fun q j z => e2 q j (by omega))).rowG (fun j hj => st j (by omega) (by omega))
      have M2 : MS ((up t 1 5 (nI i)) 1) nw ns nf l0 l1 (σ 33) (σ 38) kf := M.rowG (fun j hj => st j (by omega) (by omega))
      have mv2 : MV σ2 ((up t 1 5 (nI i)) 1) (kst nf kf s) s := by
        obtain ⟨m0, m1, m2, m3, m4, m5⟩ := mv
        refine ⟨?_, ?_, ?_, ?_, ?_, m5⟩
        · rw [st _ (by omega) (by omega)]; exact m0
        · rw [st _ (by omega) (by omega)]; exact m1
        · rw [st _ (by omega) (by omega)]; exact m2
        · rw [st _ (by omega) (by omega)]; exact m3
        · rw [st _ (by omega) (by omega)]; exact m4
      obtain ⟨g, hg, eg⟩ := (Y.2.2.2.2.2.2.2.2 s hs).2.2.2.2.2.2.2
      obtain ⟨KK, σ3, t3, k1, k2, k3, k4, k5, k6, k7, -⟩ := one C2 M2 mv2 hs (by omega) ((st _ (by omega) (by omega)).trans eg) (by rw [e2 1 2 (by omega), b2, st 0 (by omega) (by omega)]) (A.tr (same_up (Or.inl rfl))) (show n < 400 by omega)
      have S3 : same (fun q j => fpH q j ∨ q = 41) σ σ3 := (S.tr (e2.mono (fun q j z => Or.inr z))).tr (k3.mono (fun q j z => Or.inl z))
      have kk := lt_256 k1 (show nf ≤ 8 by omega)
      rw [up_e rfl rfl] at k2
      rw [f_X10_odds_L66, f_X11_odds_L57, if_neg (show ¬ 9 < nI i from fun z => by have := (nI_ltI (a := 9) (by decide) (by omega)).mp z; omega), if_neg (show ¬ 10 ≤ nI i from fun z => by have := (nI_leI (a := 10) (by decide) (by omega)).mp z; omega), e1, ob_some, bst_ok, k5, ob_some]
      dsimp only
      rw [if_pos (by decide), e2 2 3 (by omega), b3, k2, ob_some, k4, inSet_ok kk (by omega), ob_some, hasBit_ok kk (by omega), ob_some, nI_1]
      dsimp only
      rw [if_bI]
      cases hb : KK.testBit j
      · dsimp only [cond]
        rw [show nI x + nI false.toNat = nI x from Int32.add_zero _, Int32.add_zero]
        exact ih f f' (i + 1) x σ3 t3 (by omega) (by omega) (by omega) (by omega) S3 k6 k7
      · dsimp only [cond]
        rw [show nI x + nI true.toNat = nI (x + 1) from nI_1 x, nI_1]
        exact ih f f' (i + 1) (x + 1) σ3 t3 (by omega) (by omega) (by omega) (by omega) S3 k6 k7
  exact L 10 400 400 0 0 σ t0 (by decide) (by decide) (by omega) (by omega) same.rf (fun q j hq => by
    by_cases h1 : q = 1
    · subst h1; rw [s3]
    · exact s2.1 q j (fun z => z.elim h1 hq)) s2
