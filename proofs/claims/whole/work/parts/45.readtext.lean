/-! text -/
section PARTS2
variable {σ σ' : St} {N N' : Nat → Int32}
theorem RV.new0 (h : RV σ 1 N) (hs : ∀ q j, ¬ fp0 q j → σ' q j = σ q j) (hN : ∀ i, ¬ nf0 i → N' i = N i) (k : ∃ l, RVc σ' (1 + 31) N' 169 l) : RV σ' 1 N' := by
  unfold fp0 at hs
  unfold nf0 at hN
  exact ⟨ra_of h (fun q j e => hs q j (by unfold fpA at e; omega)) (fun i e => hN i (by unfold nfA at e; omega)), rw_of h (fun q j e => hs q j (by unfold fpW at e; omega)) (fun i e => hN i (by unfold nfW at e; omega)), rs_of h (fun q j e => hs q j (by unfold fpY at e; omega)) (fun i e => hN i (by unfold nfY at e; omega)), rt_of h (fun q j e => hs q j (by unfold fpT at e; omega)) (fun i e => hN i (by unfold nfT at e; omega)), rx_of h (fun q j e => hs q j (by unfold fpX at e; omega)) (fun i e => hN i (by unfold nfX at e; omega)), k, r1_of h (fun q j e => hs q j (by unfold fp1 at e; omega)) (fun i e => hN i (by unfold nf1 at e; omega))⟩
theorem RV.new1 (h : RV σ 1 N) (hs : ∀ q j, ¬ fp1 q j → σ' q j = σ q j) (hN : ∀ i, ¬ nf1 i → N' i = N i) (k : ∃ l, RVc σ' (1 + 36) N' 221 l) : RV σ' 1 N' := by
  unfold fp1 at hs
  unfold nf1 at hN
  exact ⟨ra_of h (fun q j e => hs q j (by unfold fpA at e; omega)) (fun i e => hN i (by unfold nfA at e; omega)), rw_of h (fun q j e => hs q j (by unfold fpW at e; omega)) (fun i e => hN i (by unfold nfW at e; omega)), rs_of h (fun q j e => hs q j (by unfold fpY at e; omega)) (fun i e => hN i (by unfold nfY at e; omega)), rt_of h (fun q j e => hs q j (by unfold fpT at e; omega)) (fun i e => hN i (by unfold nfT at e; omega)), rx_of h (fun q j e => hs q j (by unfold fpX at e; omega)) (fun i e => hN i (by unfold nfX at e; omega)), r0_of h (fun q j e => hs q j (by unfold fp0 at e; omega)) (fun i e => hN i (by unfold nf0 at e; omega)), k⟩
end PARTS2
theorem copyCodes {u m : Nat} (hu : u ≤ 1) (hm : m ≤ 50) : ∀ f i (τ : St), i ≤ m → m - i < f → τ 0 11 = nI m → τ 0 8 = nI u → ∃ τ', f_X11_text_L120 f (nI i) τ = some (1, τ') ∧ (∀ q j, ¬ (q = 1 ∧ 169 + 52 * u + 1 ≤ j ∧ j < 169 + 52 * u + 1 + m) → τ' q j = τ q j) ∧ (∀ k, k < i → τ' 1 (169 + 52 * u + 1 + k) = τ 1 (169 + 52 * u + 1 + k)) ∧ ∀ k, i ≤ k → k < m → τ' 1 (169 + 52 * u + 1 + k) = τ 6 k := by
  intro f
  induction f with
  | zero => intro i _ _ h; omega
  | succ f ih =>
    intro i τ hi hf h1 h2
    rw [f_X11_text_L120, h1]
    by_cases e : i = m
    · subst e
      rw [if_pos Int32.le_rfl]
      exact ⟨τ, rfl, fun _ _ _ => rfl, fun _ _ => rfl, fun k a b => by omega⟩
    · have hlt : i < m := by omega
      have ix : (169 : Int32) + 52 * nI u + 1 + nI i = nI (169 + 52 * u + 1 + i) := by rw [show (169 : Int32) = nI 169 from rfl, show (52 : Int32) = nI 52 from rfl, pk_mul, nI_add, nI_1, nI_add]
      rw [if_neg (fun x => e (by have := (nI_leI (by omega) (by omega)).mp x; omega)), if_pos (show inb (nI i) (shM 6 - 100) = true from nI_inb (show i < 60 by omega) (by decide)), h2, ix, if_in (by omega), bst_ok, clampN (by omega), clampN (by omega), nI_1]
      obtain ⟨τ', e1, e2, e3, e4⟩ := ih (i + 1) (up τ 1 (169 + 52 * u + 1 + i) (τ 6 i)) hlt (by omega) ((up_o (by omega)).trans h1) ((up_o (by omega)).trans h2)
      refine ⟨τ', e1, fun q j hq => (e2 q j hq).trans (up_o (by omega)), fun k hk => (e3 k (by omega)).trans (up_o (by omega)), fun k a b => ?_⟩
      by_cases hk : k = i
      · subst hk
        rw [e3 _ (by omega), up_e rfl rfl]
      · rw [e4 k (by omega) b]
        exact up_o (by omega)
theorem textBoth {σ τ : St} (h : RR σ τ) {u : Nat} (hu : u ≤ 1) : Agree (f_X10_text_L37 (nI u) (u + 1) σ)
    (Option.bind ((fam_X11 120).2.2.1 (up (up (up (up (up τ 0 8 (nI u)) 0 6 0) 0 7 0) 0 9 0) 0 11 0)) fun r7 => (if (r7 0 9) = 0 then (if (r7 1 7) ≤ (r7 0 6) then (f_X11_text_L72 0 r7) else (f_X11_text_L72 1 r7)) else (f_X11_text_L72 1 r7))) := by
  obtain ⟨-, -, -, ⟨nt, T1, T2, T3, T4⟩, -⟩ := h.1
  have R27 : σ 27 1 = nI nt := T3
  obtain ⟨σ1, c1, c2, c3, c4⟩ := copyRow_ok (k := 90) (a := 27) (n := nt) (c := 50) (ca := 50) rfl rfl (by decide) (by decide) T1 T1 (by decide) σ R27
  have P0 : PS u nt 0 0 0 (up (up (up σ1 87 2 (nI (u + 1))) 87 3 0) 88 1 0) (up (up (up (up (up τ 0 8 (nI u)) 0 6 0) 0 7 0) 0 9 0) 0 11 0) := by
    refine ⟨⟨hu, T1, Nat.zero_le _, Nat.le_refl _⟩, ⟨?_, ?_, ?_, up_e rfl rfl⟩, ⟨?_, ?_, ?_, ?_, ?_, up_e rfl rfl⟩, fun i hi => ?_, fun i hi => by omega⟩
    · simp (disch := omega) only [up_o, up_e]
    · simp (disch := omega) only [up_o, up_e]
      rfl
    · simp (disch := omega) only [up_o]
      exact c3
    · simp (disch := omega) only [up_o]
      exact T2
    · simp (disch := omega) only [up_o, up_e]
      rfl
    · simp (disch := omega) only [up_o, up_e]
      rfl
    · simp (disch := omega) only [up_o, up_e]
    · simp (disch := omega) only [up_o, up_e]
    · simp (disch := omega) only [up_o]
      obtain ⟨t1, b, hb, t2⟩ := T4 i hi
      exact ⟨(c4 i hi).trans t1, b, hb, t2⟩
  obtain ⟨σ2, τ2, e1, e2, e3, e4⟩ := (sims (u := u) (nt := nt) 5 0 (by decide)).2 120 120 (by decide) (by decide) 0 0 _ _ P0
  have e1' : (fam_X11 120).2.2.1 (up (up (up (up (up τ 0 8 (nI u)) 0 6 0) 0 7 0) 0 9 0) 0 11 0) = some τ2 := e1
  rw [if_neg (by decide), n0] at e4
  have S1 : same scrC σ σ2 := fun q j hq => by
    unfold scrC at hq
    rw [e2 q j (by unfold fpR; omega), up_o (by omega), up_o (by omega), up_o (by omega), c2 q j (by omega)]
  have S2 : same scrM τ τ2 := fun q j hq => by
    unfold scrM at hq
    rw [e3 q j (by unfold fmR; omega), up_o (by omega), up_o (by omega), up_o (by omega), up_o (by omega), up_o (by omega)]
  have k90 : σ2 90 1 = nI nt := (e2 90 1 (by unfold fpR; omega)).trans (by rw [up_o (by omega), up_o (by omega), up_o (by omega)]; exact c3)
  have t8 : τ2 0 8 = nI u := (e3 0 8 (by unfold fmR; omega)).trans (by simp (disch := omega) only [up_o, up_e])
  have t17 : τ2 1 7 = nI nt := (S2 1 7 (by unfold scrM; omega)).trans T2
  -- the tape is empty then
  have hT : ∀ w : Int32, RR (up σ2 27 1 0) (up (up τ2 0 9 w) 1 7 0) := fun w => by
    have h1 : RR σ2 (up τ2 0 9 w) := h.scr S1 (S2.tr (same_up (by unfold scrM; omega)))
    refine h1.now (same_up (by unfold nowC; omega)) (same_up (by unfold nowM; omega)) (h1.1.newT (fun q j e => up_o (by unfold fpT at e; omega)) (fun i e => up_o (by unfold nfT at e; omega)) ⟨0, by decide, up_e rfl rfl, up_e rfl rfl, fun i hi => by omega⟩)
  have bad : ∀ p', p' ≤ nt → τ2 0 6 = nI p' → Agree (if nI p' < 0 then Option.bind (f_X7_textOf (nI u) (up σ2 27 1 0)) (fun r5 => if shC r5.1 = 6 then Option.bind (f_X2_copyFrom (r5.1 + 1) 88 r5.2) (fun r7 => some (1, r7)) else none) else some (-10 - nI p', up σ2 27 1 0)) (f_X11_text_L72 1 τ2) := by
    intro p' hp hq
    rw [if_neg (nI_pos (by omega)), f_X11_text_L72, if_pos (Or.inr rfl), bst_ok, bst_ok, up_o (show 0 ≠ 1 ∨ 9 ≠ 7 by omega), up_e rfl rfl, if_neg (by decide), up_o (show 0 ≠ 1 ∨ 6 ≠ 7 by omega), up_o (show 0 ≠ 0 ∨ 6 ≠ 9 by omega), hq]
    exact Agree.of (hT 1)
  have eF : f_X1_faultOf 27 (u + 1) σ = (Option.bind ((fam_X1 120).1 0 0 (up (up (up σ1 87 2 (nI (u + 1))) 87 3 0) 88 1 0)) fun r5 => (if r5.1 = 0 then (some ((r5.2 87 3), r5.2)) else (Option.bind (f_X2_size 90 r5.2) fun r6 => (if (r5.2 87 3) = r6.1 then (some ((-1), r6.2)) else (some ((r6.2 87 3), r6.2)))))) := by
    rw [f_X1_faultOf, c1, ob_some, bst_ok, bst_ok, clear_ok, ob_some]
  rw [f_X10_text_L37, eF, e1', ob_some]
  rcases e4 with ⟨e4, p', m', P', hp', hm', bal, pre, dp⟩ | ⟨e4, p', z1, z2, z3, z4⟩
  · have p3 : σ2 87 3 = nI p' := P'.2.1.2.1
    have t6 : τ2 0 6 = nI p' := P'.2.2.1.2.1
    rw [e4, ob_some]
    dsimp only
    rw [if_neg (by decide), size_ok, ob_some, if_pos P'.2.2.1.2.2.2.2.1]
    simp only [t17, t6, k90, p3]
    by_cases hpn : p' = nt
    · subst hpn
      have m50 : m' ≤ 50 := by have := P'.1.2.2.2; omega
      rw [if_pos rfl, ob_some, clear_ok, ob_some, if_pos Int32.le_rfl, f_X11_text_L72, if_pos (Or.inl rfl), bst_ok, bst_ok, up_o (show 0 ≠ 1 ∨ 9 ≠ 7 by omega), up_e rfl rfl, if_pos rfl]
      dsimp only
      have ix : (169 : Int32) + 52 * nI u = nI (169 + 52 * u) := by rw [show (169 : Int32) = nI 169 from rfl, show (52 : Int32) = nI 52 from rfl, pk_mul, nI_add]
      rw [if_pos (show (-1 : Int32) < 0 by decide), up_o (show 0 ≠ 1 ∨ 8 ≠ 7 by omega), up_o (show 0 ≠ 0 ∨ 8 ≠ 9 by omega), t8, ix, if_in (by omega), bst_ok, clampN (by omega), up_o (show 0 ≠ 1 ∨ 11 ≠ 7 by omega), up_o (show 0 ≠ 0 ∨ 11 ≠ 9 by omega), P'.2.2.1.2.2.2.2.2]
      obtain ⟨τ3, g1, g2, -, g4⟩ := copyCodes (u := u) (m := m') hu m50 400 0 (up (up (up τ2 0 9 0) 1 7 0) 1 (169 + 52 * u) (nI m')) (Nat.zero_le _) (by omega) (by rw [up_o (by omega), up_o (by omega), up_o (by omega)]; exact P'.2.2.1.2.2.2.2.2) (by rw [up_o (by omega), up_o (by omega), up_o (by omega)]; exact t8)
      rw [show (0 : Int32) = nI 0 from rfl] at *
      rw [g1]
      have hR := hT 0
      have k88 : (up σ2 27 1 (nI 0)) 88 1 = nI m' := (up_o (by omega)).trans P'.2.1.2.2.2
      have tt : ∀ q j, ¬ (q = 1 ∧ 169 + 52 * u ≤ j ∧ j < 169 + 52 * u + 52) → τ3 q j = (up (up τ2 0 9 (nI 0)) 1 7 (nI 0)) q j := fun q j hq => (g2 q j (by omega)).trans (up_o (by omega))
      have ttN : τ3 1 (169 + 52 * u) = nI m' := (g2 _ _ (by omega)).trans (up_e rfl rfl)
      have ttC : ∀ i, i < m' → τ3 1 (169 + 52 * u + 1 + i) = cvt (σ2 89 i) ∧ okSign (σ2 89 i) := fun i hi => by
        rw [g4 i (Nat.zero_le _) hi, up_o (by omega), up_o (by omega), up_o (by omega)]
        exact P'.2.2.2.2 i hi
      have dp0 : m' = 0 ∨ depG (σ2 89) m' 0 0 = some 1 := Or.inr (dp 0)
      have uu : u = 0 ∨ u = 1 := by omega
      rcases uu with rfl | rfl
      · obtain ⟨σ3, r1, r2, r3, r4⟩ := copyRow_ok (k := 32) (a := 88) (n := m') (c := 50) (ca := 50) rfl rfl (by decide) (by decide) m50 m50 (by decide) (up σ2 27 1 (nI 0)) k88
        have r4' : ∀ j, j < m' → σ3 33 j = σ2 89 j := fun j hj => (r4 j hj).trans (up_o (by omega))
        rw [f_X7_textOf, if_pos (show nI 0 = 0 from rfl), ob_some]
        dsimp only
        rw [if_pos (by decide), r1, ob_some]
        refine Agree.of (hR.now (fun q j e => r2 q j (by unfold nowC at e; omega)) (fun q j e => tt q j (by unfold nowM at e; omega)) (hR.1.new0 (fun q j e => r2 q j (by unfold fp0 at e; omega)) (fun i e => tt 1 i (by unfold nf0 at e; omega)) ⟨m', m50, ttN, r3, fun i hi => ?_, ?_⟩))
        · rw [show σ3 (1 + 31 + 1) i = σ2 89 i from r4' i hi]
          exact ttC i hi
        · rw [depG_congr (g := σ3 (1 + 31 + 1)) (g' := σ2 89) (fun j _ b => r4' j (by omega))]
          exact dp0
      · obtain ⟨σ3, r1, r2, r3, r4⟩ := copyRow_ok (k := 37) (a := 88) (n := m') (c := 50) (ca := 50) rfl rfl (by decide) (by decide) m50 m50 (by decide) (up σ2 27 1 (nI 0)) k88
        have r4' : ∀ j, j < m' → σ3 38 j = σ2 89 j := fun j hj => (r4 j hj).trans (up_o (by omega))
        rw [f_X7_textOf, if_neg (by decide), ob_some]
        dsimp only
        rw [if_pos (by decide), r1, ob_some]
        refine Agree.of (hR.now (fun q j e => r2 q j (by unfold nowC at e; omega)) (fun q j e => tt q j (by unfold nowM at e; omega)) (hR.1.new1 (fun q j e => r2 q j (by unfold fp1 at e; omega)) (fun i e => tt 1 i (by unfold nf1 at e; omega)) ⟨m', m50, ttN, r3, fun i hi => ?_, ?_⟩))
        · rw [show σ3 (1 + 36 + 1) i = σ2 89 i from r4' i hi]
          exact ttC i hi
        · rw [depG_congr (g := σ3 (1 + 36 + 1)) (g' := σ2 89) (fun j _ b => r4' j (by omega))]
          exact dp0
    · have := P'.1.2.2.1
      rw [if_neg (fun x => hpn ((nI_eq (by omega) (by omega)).mp x)), ob_some, clear_ok, ob_some, if_neg (show ¬ nI nt ≤ nI p' from fun x => by have := (nI_leI (by omega) (by omega)).mp x; omega)]
      exact bad p' this t6
  · rw [e4, ob_some]
    dsimp only
    rw [if_pos rfl, ob_some, clear_ok, ob_some, z2]
    dsimp only
    rw [if_neg (show ¬ τ2 0 9 = 0 by rw [z4]; decide)]
    exact bad p' z1 z3
theorem k_text {σ τ : St} (h : RR σ τ) (a : Int32) : Agree (f_X10_text a σ) (f_X11_text a τ) := by
  simp only [f_X10_text, f_X11_text, within_ok, mwithin_ok, ob_some, ob_eta, if_bI, bst_ok]
  refine Agree.cond (fun hb => ?_) (fun _ => Agree.err h 1)
  obtain ⟨u, -, hu, rfl⟩ := btw_nI 0 1 hb
  have := textBoth h hu
  have uu : u = 0 ∨ u = 1 := by omega
  rcases uu with rfl | rfl
  · rw [if_pos (show nI 0 = 0 from rfl)]
    exact this
  · rw [if_neg (by decide)]
    exact this
