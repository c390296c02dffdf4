/-! calls about what one saying would do -/
def fpK (q j : Nat) : Prop := (q = 1 ∧ (j = 0 ∨ j = 1 ∨ j = 2)) ∨ (2 ≤ q ∧ q ≤ 26) ∨ (q = 31 ∧ j = 2) ∨ (q = 36 ∧ j = 2) ∨ q = 32 ∨ q = 33 ∨ q = 37 ∨ q = 38
/-- all that thoughts ask of the village of now -/
def TK (σ : St) (N : Nat → Int32) (w nw sp ns nf l0 l1 : Nat) (g0 g1 : Nat → Int32) (kn kf : Nat → Nat) : Prop :=
  (σ 1 0 = nI w ∧ w ≤ 8 ∧ σ 1 1 = N 5 ∧ σ 1 2 = N 0 ∧ σ 2 3 = nI sp ∧ sp < 2 ^ nw) ∧ RVy σ 1 N ns ∧ RVf σ 1 N nf ∧ RVk σ 1 N ns nf kn kf ∧ CS σ N nw nf l0 l1 sp g0 g1 ∧ ∀ s, s < ns → kn s = kst nf kf s
theorem TK.moved {σ σ' : St} {N : Nat → Int32} {w nw sp ns nf l0 l1 : Nat} {g0 g1 : Nat → Int32} {kn kf : Nat → Nat} (h : TK σ N w nw sp ns nf l0 l1 g0 g1 kn kf) (hs : ∀ q j, fpK q j → σ' q j = σ q j) : TK σ' N w nw sp ns nf l0 l1 g0 g1 kn kf := by
  obtain ⟨⟨a0, a0', a1, a2, a3, a4⟩, b, c, d, e, f⟩ := h
  unfold fpK at hs
  exact ⟨⟨(hs _ _ (by omega)).trans a0, a0', (hs _ _ (by omega)).trans a1, (hs _ _ (by omega)).trans a2, (hs _ _ (by omega)).trans a3, a4⟩, b.congr (fun q j x y => hs q j (by omega)) (fun _ _ => rfl), c.congr (fun q j x y => hs q j (by omega)) ⟨rfl, fun _ _ => ⟨rfl, rfl⟩⟩, d.congr (fun j => hs _ j (by omega)) (fun _ _ => rfl), e.moved (fun q j x => hs q j (by omega)), f⟩
theorem TK.scr {σ σ' : St} {N : Nat → Int32} {w nw sp ns nf l0 l1 : Nat} {g0 g1 : Nat → Int32} {kn kf : Nat → Nat} (h : TK σ N w nw sp ns nf l0 l1 g0 g1 kn kf) (hs : same fpTh σ σ') : TK σ' N w nw sp ns nf l0 l1 g0 g1 kn kf :=
  h.moved (fun q j x => hs q j (by unfold fpK at x; unfold fpTh; omega))
theorem tk_of {σ : St} {N : Nat → Int32} (h : RV σ 1 N) (u0 : σ 31 2 = 0) (u1 : σ 36 2 = 1) : ∃ w nw sp ns nf l0 l1 kn kf, TK σ N w nw sp ns nf l0 l1 (σ 33) (σ 38) kn kf ∧ MS N nw ns nf l0 l1 (σ 33) (σ 38) kf ∧ N 1 = nI w := by
  obtain ⟨nw, sp, ns, nf, kn, kf, l0, l1, W, Y, F, K, C, M, hk⟩ := cs_of h u0 u1
  obtain ⟨⟨w, hh, A1, A2, A3, A4, A5, A6, A7, A8, A9⟩, -⟩ := h
  exact ⟨w, nw, sp, ns, nf, l0, l1, kn, kf, ⟨⟨A4, A2, A8, A6.trans A7.symm, W.2.2.2.2.2.2.1, W.2.1⟩, Y, F, K, C, hk⟩, M, A5⟩
theorem HRn.snoc {nw ns nf l0 l1 : Nat} {g0 g1 : Nat → Int32} : ∀ {n : Nat} {N M N' : Nat → Int32} {kf km kf' : Nat → Nat}, HRn nw ns nf l0 l1 g0 g1 n N M kf km → HR nw ns nf l0 l1 g0 g1 M N' km kf' → HRn nw ns nf l0 l1 g0 g1 (n + 1) N N' kf kf'
  | 0, N, M, N', kf, km, kf', r, q => by
    obtain ⟨r1, r2⟩ := r
    rw [r1, r2] at q
    exact ⟨N', kf', q, rfl, rfl⟩
  | n + 1, _, _, _, _, _, _, r, q => by
    obtain ⟨M2, k2, r1, r2⟩ := r
    exact ⟨M2, k2, r1, HRn.snoc r2 q⟩
theorem CS.rowG {σ : St} {N N' : Nat → Int32} {nw nf l0 l1 sp : Nat} {g0 g1 : Nat → Int32} (h : CS σ N nw nf l0 l1 sp g0 g1) (hs : ∀ j, (9 ≤ j ∧ j < 41) ∨ (81 ≤ j ∧ j < 99 ∧ (j - 81) % 3 ≠ 2) ∨ (169 ≤ j ∧ j < 273) → N' j = N j) : CS σ N' nw nf l0 l1 sp g0 g1 := by
  obtain ⟨⟨a1, a2, a3, a4, a5⟩, b, c, d, e1, e2, e3, e4⟩ := h
  refine ⟨⟨a1, a2, a3, a4, a5⟩, fun i hi => ?_, fun f hf => ?_, d, e1, e2, e3.row (fun i x y => hs i (by omega)), e4.row (fun i x y => hs i (by omega))⟩
  · rw [hs (9 + 4 * i) (by omega), hs (10 + 4 * i) (by omega), hs (11 + 4 * i) (by omega), hs (12 + 4 * i) (by omega)]
    exact b i hi
  · rw [hs (81 + 3 * f) (by omega), hs (82 + 3 * f) (by omega)]
    exact c f hf
theorem MS.rowG {N N' : Nat → Int32} {nw ns nf l0 l1 : Nat} {g0 g1 : Nat → Int32} {kf : Nat → Nat} (h : MS N nw ns nf l0 l1 g0 g1 kf) (hs : ∀ j, (2 ≤ j ∧ j < 5) ∨ (41 ≤ j ∧ j < 81 ∧ (j - 41) % 5 = 0) ∨ (81 ≤ j ∧ j < 99) ∨ (169 ≤ j ∧ j < 273) → N' j = N j) : MS N' nw ns nf l0 l1 g0 g1 kf := by
  obtain ⟨⟨a1, a2, a3, a4, a5, a6⟩, ⟨b1, b2⟩, c, d⟩ := h
  exact ⟨⟨a1, a2, a3, (hs _ (by omega)).trans a4, (hs _ (by omega)).trans a5, (hs _ (by omega)).trans a6⟩, ⟨b1.row (fun i x y => hs i (by omega)), b2.row (fun i x y => hs i (by omega))⟩, fun x hx => by rw [hs _ (by omega)]; exact c x hx, fun f hf => by rw [hs _ (by omega)]; exact d f hf⟩
/-- one saying, n hours on, by both: who knows it -/
theorem one {σ1 τ t1 : St} {nw ns nf l0 l1 sp s n g : Nat} {g0 g1 : Nat → Int32} {kf : Nat → Nat} (C : CS σ1 (t1 1) nw nf l0 l1 sp g0 g1) (M : MS (t1 1) nw ns nf l0 l1 g0 g1 kf) (mv : MV σ1 (t1 1) (kst nf kf s) s) (hs : s < ns) (hg : g < 2 ^ 30) (eg : t1 1 (44 + 5 * s) = nI g) (hh : σ1 1 2 = t1 1 0) (A : Aside τ t1) (hn : n < 400) :
    ∃ K σ2 t2, K < 2 ^ nf ∧ f_X7_passAll 41 (t1 1 5) (nI sp) (nI n) σ1 = some σ2 ∧ same fpH σ1 σ2 ∧ σ2 41 5 = nI K ∧ f_X11_knowersBehind (nI s) (nI n) t1 = some (nI K, t2) ∧ same scrM τ t2 ∧ Aside τ t2 ∧ ∀ j, j < 273 → t2 1 j = τ 1 j := by
  obtain ⟨t, kf', g1', g2', g3'⟩ := mHoursGo M hn
  have y8 := M.1.2.1
  have f6 := M.1.2.2.1
  obtain ⟨σ2, e1, e2, e3, e4⟩ := cPassAll C g3' y8 hs hn mv hg eg hh
  have M' := HRn.ms M g3'
  obtain ⟨t2, p1, -, p3, p4, p5⟩ := mBack (A.tr g2') (nI (kst nf kf' s))
  refine ⟨kst nf kf' s, σ2, t2, bset_lt _ _, e1, e2, e4, ?_, p3, p4, p5⟩
  rw [f_X11_knowersBehind, g1', ob_some, mKnowers f6 M'.1.2.2.2.2.2 (fun f hf => ⟨lt_256 (M'.2.2.2 f hf).1 y8, (M'.2.2.2 f hf).2⟩) (by omega), ob_some]
  dsimp only
  rw [p1, ob_some]
theorem k_check {σ τ : St} (h : RR σ τ) : Agree (f_X10_check σ) (f_X11_check τ) := by
  obtain ⟨-, -, -, -, ⟨nx, X1, X2, X3, X4⟩, -⟩ := h.1
  have R29 : σ 29 1 = nI nx := X3
  have hR : RR (up σ 29 1 0) (up τ 1 8 0) := by
    refine h.now (same_up (by unfold nowC; omega)) (same_up (by unfold nowM; omega)) (h.1.newX (fun q j e => ?_) (fun i e => ?_) ⟨0, by decide, up_e rfl rfl, up_e rfl rfl, fun i hi => by omega⟩)
    · unfold fpX at e
      exact up_o (by omega)
    · unfold nfX at e
      exact up_o (by omega)
  obtain ⟨w, nw, sp, ns, nf, l0, l1, kn, kf, T, M, -⟩ := tk_of hR.1 hR.2.2.2.2.2.2.1 hR.2.2.2.2.2.2.2
  have T0 := T.moved (σ' := σ) (fun q j x => (up_o (by unfold fpK at x; omega)).symm)
  have y8 := M.1.2.1
  obtain ⟨t0, s1, s2, s3, -⟩ := mSave (up τ 1 8 0)
  have fin : ∀ (v : Int32) (σ1 t : St), same fpTh σ σ1 → Aside (up τ 1 8 0) t → Agree (Option.bind (f_X2_clear 29 σ1) fun r => some (v, r)) (f_X11_putBack v t) := by
    intro v σ1 t S A
    obtain ⟨t', p1, -, p3, -, -⟩ := mBack A v
    rw [clear_ok, ob_some, p1]
    refine Agree.of (hR.scr (fun q j hq => ?_) p3)
    rw [up_ap, up_ap]
    by_cases e : q = 29 ∧ j = 1
    · rw [if_pos e, if_pos e]
    · rw [if_neg e, if_neg e]
      exact S q j (fun x => hq (fpTh_scr q j x))
  have L : ∀ m f f' i (σ1 t : St) (km : Nat → Nat), i + m = nx → m < f → m < f' → same fpTh σ σ1 → Aside (up τ 1 8 0) t → HRn nw ns nf l0 l1 ((up σ 29 1 0) 33) ((up σ 29 1 0) 38) i ((up τ 1 8 0) 1) (t 1) kf km →
      Agree (f_X10_check_L4 f 0 (nI i) σ1) (f_X11_check_L31 f' (nI nx) 0 (nI i) t) := by
    intro m
    induction m with
    | zero =>
      intro f f' i σ1 t km hi hf hf' S A r
      obtain ⟨f, rfl⟩ : ∃ x, f = x + 1 := ⟨f - 1, by omega⟩
      obtain ⟨f', rfl⟩ : ∃ x, f' = x + 1 := ⟨f' - 1, by omega⟩
      have : i = nx := by omega
      subst this
      rw [f_X10_check_L4, f_X11_check_L31, size_ok, ob_some, S 29 1 (by unfold fpTh; omega), R29, if_pos Int32.le_rfl, if_pos Int32.le_rfl, ob_eta]
      exact fin 0 σ1 t S A
    | succ m ih =>
      intro f f' i σ1 t km hi hf hf' S A r
      obtain ⟨f, rfl⟩ : ∃ x, f = x + 1 := ⟨f - 1, by omega⟩
      obtain ⟨f', rfl⟩ : ∃ x, f' = x + 1 := ⟨f' - 1, by omega⟩
      have hlt : i < nx := by omega
      have hneg : ¬ nI nx ≤ nI i := fun x => by have := (nI_leI (by omega) (by omega)).mp x; omega
      obtain ⟨t2, k2, g1, g2, g3⟩ := mHour (HRn.ms M r)
      have r2 := HRn.snoc r g3
      have M2 := HRn.ms M r2
      have T1 := T0.scr S
      obtain ⟨⟨a0, a0', a1, a2, a3, a4⟩, b, c, d, e, ek⟩ := T1
      obtain ⟨σ2, e1, e2, e3, e4, e5⟩ := cThinkAll (σ := σ1) a1 a2 a3 b d e ek r2 (by omega)
      have S2 : same fpTh σ σ2 := S.tr e2
      have A2 := A.tr g2
      have v : t2 1 (149 + i) = σ 30 i := by
        have := HRn.sta r2
        unfold HRs dynI at this
        rw [this (149 + i) (by omega), up_o (by omega)]
        exact (X4 i hlt).symm
      have ex : (149 : Int32) + nI i = nI (149 + i) := nI_add 149 i
      rw [f_X10_check_L4, f_X11_check_L31, size_ok, ob_some, S 29 1 (by unfold fpTh; omega), R29, if_neg hneg, if_neg hneg, if_pos rfl, if_pos rfl, g1, ob_some, nI_1]
      dsimp only
      rw [e1, ob_some, get29 σ2 (by omega), ob_some, ex, if_in (by omega), clampN (by omega), strengths_ok (τ := t2) (g := fun s => t2 1 (44 + 5 * s)) M2.1.2.2.2.2.1 y8 (fun s hs => rfl), ob_some, v, S2 30 i (by unfold fpTh; omega)]
      simp only [e5]
      by_cases q : σ 30 i = sumN (fun s => t2 1 (44 + 5 * s)) ns
      · rw [if_pos q, if_pos q]
        exact ih f f' (i + 1) σ2 t2 k2 (by omega) (by omega) (by omega) S2 A2 r2
      · rw [if_neg q, if_neg q]
        have stop : ∀ (f f' : Nat), 0 < f → 0 < f' → Agree (f_X10_check_L4 f (1 + nI i) (nI (i + 1)) σ2) (f_X11_check_L31 f' (nI nx) (1 + nI i) (nI (i + 1)) t2) := by
          intro f f' hf hf'
          obtain ⟨f, rfl⟩ : ∃ x, f = x + 1 := ⟨f - 1, by omega⟩
          obtain ⟨f', rfl⟩ : ∃ x, f' = x + 1 := ⟨f' - 1, by omega⟩
          have n0' : ¬ (1 + nI i) = 0 := fun x => by
            rw [show (1 : Int32) = nI 1 from rfl, nI_add] at x
            have := (nI_z (by omega)).mp x
            omega
          rw [f_X10_check_L4, f_X11_check_L31, size_ok, ob_some, S2 29 1 (by unfold fpTh; omega), R29]
          simp only [ob_eta, if_neg n0']
          refine Agree.ite (fun _ => ?_) (fun _ => ?_)
          · exact fin _ σ2 t2 S2 A2
          · exact fin _ σ2 t2 S2 A2
        exact stop f f' (by omega) (by omega)
  rw [f_X10_check, f_X11_check, bst_ok, s1, ob_some, X2]
  exact L nx 400 400 0 σ t0 kf (by omega) (by omega) (by omega) same.rf s2 ⟨s3, rfl⟩
theorem k_learns {σ τ : St} (h : RR σ τ) (a b : Int32) : Agree (f_X10_learns a b σ) (f_X11_learns a b τ) := by
  obtain ⟨w, nw, sp, ns, nf, l0, l1, kn, kf, T, M, -⟩ := tk_of h.1 h.2.2.2.2.2.2.1 h.2.2.2.2.2.2.2
  obtain ⟨⟨a0, a0', a1, a2, a3, a4⟩, Y, F, K, C, ek⟩ := T
  have y8 := M.1.2.1
  have f6 := M.1.2.2.1
  simp only [f_X10_learns, f_X11_learns, cHasF a F.2.2.1, mOne a F.2.1 (by omega), cHasY b Y.2.2.1, mSay b Y.2.1 (by omega), ob_some, ob_eta, if_bI]
  refine Agree.cond (fun ha => ?_) (fun _ => Agree.err h 1)
  refine Agree.cond (fun hb => ?_) (fun _ => Agree.err h 1)
  obtain ⟨j, hj, rfl⟩ := isIx_nI ha (by omega)
  obtain ⟨s, hs, rfl⟩ := isIx_nI hb (by omega)
  obtain ⟨σ1, e1, e2, mv⟩ := cThought Y K hs
  obtain ⟨t0, s1, s2, s3, -⟩ := mSave τ
  rw [e1, ob_some, s1, ob_some]
  dsimp only
  rw [if_pos (by decide)]
  rw [ek s hs] at mv
  have kn1 : ∀ (t : St) (km : Nat → Nat), MS (t 1) nw ns nf l0 l1 (σ 33) (σ 38) km → f_X11_knows (nI j) (nI s) t = some (bI ((km j).testBit s), t) := by
    intro t km Mt
    obtain ⟨q1, q2⟩ := Mt.2.2.2 j hj
    rw [f_X11_knows, folkIs2 t (by omega), ob_some, q2]
    dsimp only
    rw [hasBit_ok (lt_256 q1 y8) (by omega), ob_some, if_bI01]
  have cin : ∀ (σ2 : St) (km : Nat → Nat), σ2 41 5 = nI (kst nf km s) → f_X10_inSet (σ2 41 5) (nI j) σ2 = some (nI ((km j).testBit s).toNat, σ2) := by
    intro σ2 km q
    rw [q, inSet_ok (s := kst nf km s) (j := j) (bset_256 (by omega) _) (by omega), kst_bit hj]
  have L61 : ∀ (t : St) (km : Nat → Nat) (v : Int32), MS (t 1) nw ns nf l0 l1 (σ 33) (σ 38) km → Aside τ t → ∃ t', f_X11_learns_L61 (nI j) (nI s) v t = (bif (km j).testBit s then some (v, t') else f_X11_finding (-1000000002) t') ∧ same scrM τ t' := by
    intro t km v Mt A
    obtain ⟨t', -, p2, p3, -, -⟩ := mBack A 0
    rw [f_X11_learns_L61, kn1 t km Mt, ob_some]
    dsimp only
    rw [p2, ob_some, if_bI, ob_eta]
    exact ⟨t', rfl, p3⟩
  have L : ∀ m f f' i (σ2 t : St) (km : Nat → Nat), i + m = 99 → m + 1 < f → m < f' → same (fun q j => fpH q j ∨ q = 41) σ σ2 → Aside τ t → CS σ2 (t 1) nw nf l0 l1 sp (σ 33) (σ 38) → MV σ2 (t 1) (kst nf km s) s → MS (t 1) nw ns nf l0 l1 (σ 33) (σ 38) km → t 1 5 = τ 1 5 → σ 1 2 + nI i = t 1 0 →
      Agree (f_X10_learns_L46 f (nI j) 41 (nI i) σ2) (f_X11_learns_L36 f' (nI j) (nI s) (nI i) t) := by
    intro m
    induction m with
    | zero =>
      intro f f' i σ2 t km hi hf hf' S A C2 mv2 M2 h5 h0
      obtain ⟨f, rfl⟩ : ∃ x, f = x + 1 + 1 := ⟨f - 2, by omega⟩
      obtain ⟨f', rfl⟩ : ∃ x, f' = x + 1 := ⟨f' - 1, by omega⟩
      have : i = 99 := by omega
      subst this
      obtain ⟨t', p1, p2⟩ := L61 t km (nI 99) M2 A
      rw [f_X10_learns_L46, f_X11_learns_L36, if_neg (by decide), if_pos (by decide), p1, cin σ2 km mv2.2.2.2.2.2, ob_some]
      dsimp only
      cases hb : (km j).testBit s
      · obtain ⟨t3, k3, g1, g2, g3⟩ := mHour M2
        obtain ⟨σ3, c1, c2, c3, c4⟩ := cStep C2 g3 y8 hs mv2
        rw [h5] at c1
        rw [if_neg (by decide), S 1 1 (by unfold fpH; omega), a1, S 2 3 (by unfold fpH; omega), a3, S 1 2 (by unfold fpH; omega), h0, c1, ob_some, f_X10_learns_L46, if_pos (by decide), ob_eta]
        refine Agree.err (h.scr (fun q j hq => ?_) p2) 2
        rw [c2 q j (fun x => hq (fpH_scr q j x))]
        exact S q j (fun x => x.elim (fun y => hq (fpH_scr q j y)) (fun y => hq (by unfold scrC; omega)))
      · rw [if_pos (by decide)]
        exact Agree.of (h.scr (fun q j hq => S q j (fun x => x.elim (fun y => hq (fpH_scr q j y)) (fun y => hq (by unfold scrC; omega)))) p2)
    | succ m ih =>
      intro f f' i σ2 t km hi hf hf' S A C2 mv2 M2 h5 h0
      obtain ⟨f, rfl⟩ : ∃ x, f = x + 1 := ⟨f - 1, by omega⟩
      obtain ⟨f', rfl⟩ : ∃ x, f' = x + 1 := ⟨f' - 1, by omega⟩
      rw [f_X10_learns_L46, f_X11_learns_L36, if_neg (show ¬ 99 < nI i from fun x => by have := (nI_ltI (a := 99) (by decide) (by omega)).mp x; omega), if_neg (show ¬ 99 ≤ nI i from fun x => by have := (nI_leI (a := 99) (by decide) (by omega)).mp x; omega), cin σ2 km mv2.2.2.2.2.2, ob_some, kn1 t km M2, ob_some]
      dsimp only
      rw [if_bI]
      cases hb : (km j).testBit s
      · obtain ⟨t3, k3, g1, g2, g3⟩ := mHour M2
        obtain ⟨σ3, c1, c2, c3, c4⟩ := cStep C2 g3 y8 hs mv2
        rw [h5] at c1
        rw [if_neg (by decide), S 1 1 (by unfold fpH; omega), a1, S 2 3 (by unfold fpH; omega), a3, S 1 2 (by unfold fpH; omega), h0, c1, ob_some, nI_1]
        dsimp only [cond]
        rw [g1, ob_some]
        refine ih f f' (i + 1) σ3 t3 k3 (by omega) (by omega) (by omega) (S.tr (c2.mono (fun q j x => Or.inl x))) (A.tr g2) c3 c4 (HR.ms M2 g3) ((g3.1 5 (by unfold dynI; omega)).trans h5) ?_
        rw [← nI_1, ← Int32.add_assoc, h0, g3.2.1]
      · obtain ⟨t', p1, p2⟩ := L61 t km (nI i) M2 A
        rw [if_pos (by decide)]
        dsimp only [cond]
        rw [p1, hb]
        exact Agree.of (h.scr (fun q j hq => S q j (fun x => x.elim (fun y => hq (fpH_scr q j y)) (fun y => hq (by unfold scrC; omega)))) p2)
  refine L 99 400 400 0 σ1 t0 kf (by omega) (by omega) (by omega) (e2.mono (fun q j x => Or.inr x)) s2 ?_ ?_ ?_ ?_ ?_
  · rw [s3]
    exact C.moved (fun q j x => e2 q j (by omega))
  · rw [s3]
    exact mv
  · rw [s3]
    exact M
  · rw [s3]
  · rw [s3, ← a2]
    exact Int32.add_zero _
