/-! an hour of all sayings (the reference), hours of one saying (the class) -/
def HR (nw ns nf l0 l1 : Nat) (g0 g1 : Nat → Int32) (N N' : Nat → Int32) (kf kf' : Nat → Nat) : Prop :=
  HRs N N' ∧ N' 0 = N 0 + 1 ∧ (∀ s, s < ns → N' (44 + 5 * s) = qSt N l0 g0 s ∧ N' (43 + 5 * s) = qAt N nw nf kf s ∧ N' (45 + 5 * s) = qLf N nw nf kf s) ∧
  ∀ f, f < nf → kf' f < 2 ^ ns ∧ N' (83 + 3 * f) = nI (kf' f) ∧ ∀ s, s < ns → (kf' f).testBit s = ((kf f).testBit s || sTs (tval 1 g1 l1) N (N' (44 + 5 * s)) (N' (43 + 5 * s)) (N' (45 + 5 * s)) f)
section HOUR
variable {nw ns nf l0 l1 : Nat} {g0 g1 : Nat → Int32} {kf : Nat → Nat}
theorem MS.st {N N' : Nat → Int32} {kf' : Nat → Nat} (h : MS N nw ns nf l0 l1 g0 g1 kf) (hs : HRs N N') (hk : ∀ f, f < nf → kf' f < 2 ^ ns ∧ N' (83 + 3 * f) = nI (kf' f)) : MS N' nw ns nf l0 l1 g0 g1 kf' := by
  obtain ⟨⟨a1, a2, a3, a4, a5, a6⟩, ⟨b1, b2⟩, c, d⟩ := h
  unfold HRs dynI at hs
  exact ⟨⟨a1, a2, a3, (hs _ (by omega)).trans a4, (hs _ (by omega)).trans a5, (hs _ (by omega)).trans a6⟩, ⟨b1.row (fun i x y => hs i (by omega)), b2.row (fun i x y => hs i (by omega))⟩, fun x hx => by rw [hs _ (by omega)]; exact c x hx, hk⟩
theorem sTs_congr {G1 : TF} {N N' : Nat → Int32} {st w lf : Int32} {f : Nat} (h1 : N' (81 + 3 * f) = N (81 + 3 * f)) (h2 : N' (82 + 3 * f) = N (82 + 3 * f)) (h0 : N' 0 = N 0) : sTs G1 N' st w lf f = sTs G1 N st w lf f := by
  unfold sTs
  rw [h1, h2, h0]
theorem qNx_congr {N N' : Nat → Int32} (hs : ∀ i, 9 ≤ i → i < 41 → N' i = N i) (hf : ∀ f, f < nf → N' (81 + 3 * f) = N (81 + 3 * f)) (hw : nw ≤ 8) {s : Nat} (h1 : N' (41 + 5 * s) = N (41 + 5 * s)) (h2 : N' (43 + 5 * s) = N (43 + 5 * s)) : qNx N' nw nf kf s = qNx N nw nf kf s := by
  unfold qNx
  rw [h1, h2]
  exact sNx_congr (fun i hi => ⟨hs _ (by omega) (by omega), hs _ (by omega) (by omega)⟩) hf
theorem sAt_congr {N N' : Nat → Int32} {x w lf : Int32} {n : Nat} (hs : ∀ i, 9 ≤ i → i < 41 → N' i = N i) (hw : n ≤ 8) (hx : x = -1 ∨ ∃ j, j < n ∧ x = nI j) : sAt N' x w lf = sAt N x w lf ∧ sLf N' x lf = sLf N x lf := by
  unfold sAt sLf
  rcases hx with h | ⟨j, hj, h⟩
  · rw [if_pos (show x < 0 by rw [h]; decide), if_pos (show x < 0 by rw [h]; decide), if_pos (show x < 0 by rw [h]; decide), if_pos (show x < 0 by rw [h]; decide)]
    exact ⟨rfl, rfl⟩
  · rw [h, nI_clamp (by omega), hs (10 + 4 * j) (by omega) (by omega), hs (11 + 4 * j) (by omega) (by omega)]
    exact ⟨rfl, rfl⟩
/-- all sayings go on -/
theorem mHourA {τ0 : St} (h : MS (τ0 1) nw ns nf l0 l1 g0 g1 kf) : ∀ n i (τ : St), i ≤ ns → ns - i < n → (∀ q j, ¬ (q = 7 ∨ q = 8 ∨ (q = 1 ∧ 41 ≤ j ∧ j < 41 + 5 * i ∧ 2 ≤ (j - 41) % 5)) → τ q j = τ0 q j) → (∀ s, s < i → τ 1 (44 + 5 * s) = qSt (τ0 1) l0 g0 s ∧ τ 1 (43 + 5 * s) = qAt (τ0 1) nw nf kf s ∧ τ 1 (45 + 5 * s) = qLf (τ0 1) nw nf kf s) →
    ∃ τ', f_X11_hour_L2 n (nI i) τ = f_X11_hour_L25 400 0 τ' ∧ (∀ q j, ¬ (q = 7 ∨ q = 8 ∨ (q = 1 ∧ 41 ≤ j ∧ j < 41 + 5 * ns ∧ 2 ≤ (j - 41) % 5)) → τ' q j = τ0 q j) ∧ ∀ s, s < ns → τ' 1 (44 + 5 * s) = qSt (τ0 1) l0 g0 s ∧ τ' 1 (43 + 5 * s) = qAt (τ0 1) nw nf kf s ∧ τ' 1 (45 + 5 * s) = qLf (τ0 1) nw nf kf s := by
  intro n
  induction n with
  | zero => intro i _ _ h; omega
  | succ n ih =>
    intro i τ hi hn hs hv
    have y8 : ns ≤ 8 := h.1.2.1
    have f6 : nf ≤ 6 := h.1.2.2.1
    have w8 : nw ≤ 8 := h.1.1
    rw [f_X11_hour_L2, (hs 1 3 (by omega)).trans h.1.2.2.2.2.1]
    by_cases e : i = ns
    · subst e
      rw [if_pos Int32.le_rfl]
      exact ⟨τ, rfl, hs, hv⟩
    · have hlt : i < ns := by omega
      rw [if_neg (fun x => e (by have := (nI_leI (by omega) (by omega)).mp x; omega))]
      have st : ∀ j, ¬ dynI j → τ 1 j = τ0 1 j := fun j hj => hs 1 j (by unfold dynI at hj; omega)
      have M : MS (τ 1) nw ns nf l0 l1 g0 g1 kf := h.st st (fun f hf => by rw [hs 1 _ (by omega)]; exact h.2.2.2 f hf)
      obtain ⟨t, e1, e2, e3, e4, e5⟩ := mGoes M hlt
      have own : ∀ k, k < 5 → τ 1 (41 + k + 5 * i) = τ0 1 (41 + k + 5 * i) := fun k hk => hs 1 _ (by omega)
      have o1 := own 0 (by omega)
      have o2 := own 1 (by omega)
      have o3 := own 2 (by omega)
      have o4 := own 3 (by omega)
      have o5 := own 4 (by omega)
      have qx : qNx (τ 1) nw nf kf i = qNx (τ0 1) nw nf kf i := qNx_congr (fun j a b => hs 1 j (by omega)) (fun f hf => hs 1 _ (by omega)) w8 o1 o3
      have sl := sAt_congr (N := τ0 1) (N' := τ 1) (x := qNx (τ0 1) nw nf kf i) (w := τ0 1 (43 + 5 * i)) (lf := τ0 1 (45 + 5 * i)) (fun j a b => hs 1 j (by omega)) w8 (sNx_ix _ _ _ _ _ _)
      rw [e1, ob_some, nI_1]
      refine ih (i + 1) t hlt (by omega) (fun q j hq => (e2 q j (by omega)).trans (hs q j (by omega))) (fun s hsi => ?_)
      by_cases q : s = i
      · subst q
        refine ⟨e3.trans ?_, e4.trans ?_, e5.trans ?_⟩
        · unfold qSt sSt
          rw [o1, o2, o4, hs 1 5 (by omega)]
        · unfold qAt
          rw [qx, o3, o5]
          exact sl.1
        · unfold qLf
          rw [qx, o5]
          exact sl.2
      · rw [e2 1 (44 + 5 * s) (by omega), e2 1 (43 + 5 * s) (by omega), e2 1 (45 + 5 * s) (by omega)]
        exact hv s (by omega)
/-- one of folk tastes -/
theorem mHourB {N1 : Nat → Int32} {f : Nat} (hf : f < nf) (rf : Int32 → St → Option St) : ∀ n i (τ : St), i ≤ ns → ns - i < n → MS (τ 1) nw ns nf l0 l1 g0 g1 (fun x => if x = f then bset ns (fun s => (kf f).testBit s || (decide (s < i) && sTs (tval 1 g1 l1) N1 (N1 (44 + 5 * s)) (N1 (43 + 5 * s)) (N1 (45 + 5 * s)) f)) else kf x) → (∀ j, ¬ (81 ≤ j ∧ j < 99 ∧ (j - 81) % 3 = 2) → τ 1 j = N1 j) →
    ∃ τ', f_X11_hour_L37 rf n (nI f) (nI i) τ = rf (nI (f + 1)) τ' ∧ same (fun q j => q = 7 ∨ q = 8 ∨ (q = 1 ∧ j = 83 + 3 * f)) τ τ' ∧ τ' 1 (83 + 3 * f) = nI (bset ns (fun s => (kf f).testBit s || sTs (tval 1 g1 l1) N1 (N1 (44 + 5 * s)) (N1 (43 + 5 * s)) (N1 (45 + 5 * s)) f)) := by
  intro n
  induction n with
  | zero => intro i _ _ h; omega
  | succ n ih =>
    intro i τ hi hn M hN
    have y8 : ns ≤ 8 := M.1.2.1
    have f6 : nf ≤ 6 := M.1.2.2.1
    have mf := (M.2.2.2 f hf).2
    dsimp only at mf
    rw [if_pos rfl] at mf
    rw [f_X11_hour_L37, M.1.2.2.2.2.1]
    by_cases e : i = ns
    · subst e
      rw [if_pos Int32.le_rfl, nI_1]
      refine ⟨τ, rfl, same.rf, mf.trans (congrArg nI (bset_congr (fun s hs => ?_)))⟩
      rw [decide_eq_true hs]
      rfl
    · have hlt : i < ns := by omega
      obtain ⟨t, e1, e2⟩ := mTastes M hlt hf
      rw [hN (44 + 5 * i) (by omega), hN (43 + 5 * i) (by omega), hN (45 + 5 * i) (by omega), sTs_congr (N := N1) (hN _ (by omega)) (hN _ (by omega)) (hN 0 (by omega))] at e1
      rw [if_neg (fun x => e (by have := (nI_leI (by omega) (by omega)).mp x; omega)), folkAt2, ob_some]
      dsimp only
      rw [if_in (by omega), e1, ob_some, clampN (by omega), mf]
      dsimp only
      rw [if_bI, if_in (by omega), if_in (by omega), bst_ok, bst_ok, nI_1]
      have nxt : ∀ v, v = nI (bset ns (fun s => (kf f).testBit s || (decide (s < i + 1) && sTs (tval 1 g1 l1) N1 (N1 (44 + 5 * s)) (N1 (43 + 5 * s)) (N1 (45 + 5 * s)) f))) → ∃ τ', f_X11_hour_L37 rf n (nI f) (nI (i + 1)) (up t 1 (83 + 3 * f) v) = rf (nI (f + 1)) τ' ∧ same (fun q j => q = 7 ∨ q = 8 ∨ (q = 1 ∧ j = 83 + 3 * f)) τ τ' ∧ τ' 1 (83 + 3 * f) = nI (bset ns (fun s => (kf f).testBit s || sTs (tval 1 g1 l1) N1 (N1 (44 + 5 * s)) (N1 (43 + 5 * s)) (N1 (45 + 5 * s)) f)) := by
        intro v hv
        have S : same (fun q j => q = 7 ∨ q = 8 ∨ (q = 1 ∧ j = 83 + 3 * f)) τ (up t 1 (83 + 3 * f) v) := (e2.mono (fun q j x => by omega)).tr (same_up (by omega))
        have hk : ∀ x, x < nf → (if x = f then bset ns (fun s => (kf f).testBit s || (decide (s < i + 1) && sTs (tval 1 g1 l1) N1 (N1 (44 + 5 * s)) (N1 (43 + 5 * s)) (N1 (45 + 5 * s)) f)) else kf x) < 2 ^ ns ∧ (up t 1 (83 + 3 * f) v) 1 (83 + 3 * x) = nI (if x = f then bset ns (fun s => (kf f).testBit s || (decide (s < i + 1) && sTs (tval 1 g1 l1) N1 (N1 (44 + 5 * s)) (N1 (43 + 5 * s)) (N1 (45 + 5 * s)) f)) else kf x) := by
          intro x hx
          by_cases q : x = f
          · subst q
            rw [if_pos rfl, up_e rfl rfl]
            exact ⟨bset_lt _ _, hv⟩
          · have := M.2.2.2 x hx
            dsimp only at this
            rw [if_neg q] at this ⊢
            rw [S 1 _ (by omega)]
            exact this
        obtain ⟨τ', q1, q2, q3⟩ := ih (i + 1) (up t 1 (83 + 3 * f) v) hlt (by omega) (M.st (fun j hj => S 1 j (by unfold dynI at hj; omega)) hk) (fun j hj => (S 1 j (by omega)).trans (hN j hj))
        exact ⟨τ', q1, S.tr q2, q3⟩
      have bb : bset ns (fun s => (kf f).testBit s || (decide (s < i) && sTs (tval 1 g1 l1) N1 (N1 (44 + 5 * s)) (N1 (43 + 5 * s)) (N1 (45 + 5 * s)) f)) < 256 := bset_256 y8 _
      cases hb : sTs (tval 1 g1 l1) N1 (N1 (44 + 5 * i)) (N1 (43 + 5 * i)) (N1 (45 + 5 * i)) f
      · refine nxt _ ?_
        rw [Int32.or_zero]
        refine congrArg nI (bset_congr (fun s hs => ?_))
        by_cases q : s = i
        · subst q
          rw [hb, Bool.and_false, Bool.and_false]
        · rw [show decide (s < i + 1) = decide (s < i) from by rw [decide_eq_decide]; omega]
      · refine nxt _ ?_
        rw [z_on _ bb i (by omega)]
        refine congrArg nI ?_
        have e3 := wm_pw (b := true) (bset_lt ns (fun s => (kf f).testBit s || (decide (s < i) && sTs (tval 1 g1 l1) N1 (N1 (44 + 5 * s)) (N1 (43 + 5 * s)) (N1 (45 + 5 * s)) f))) y8 hlt
        refine bset_ext (n := ns) e3 (bset_lt _ _) (fun j hj => ?_)
        have e4 := wm_bit (s := bset ns (fun s => (kf f).testBit s || (decide (s < i) && sTs (tval 1 g1 l1) N1 (N1 (44 + 5 * s)) (N1 (43 + 5 * s)) (N1 (45 + 5 * s)) f))) (j := i) (i := j) (b := true) bb (by omega) (by omega)
        refine e4.trans ?_
        rw [bset_bit, bset_bit, decide_eq_true hj]
        by_cases q : j = i
        · subst q
          rw [if_pos rfl, hb, decide_eq_true (show j < j + 1 by omega)]
          simp
        · rw [if_neg q, show decide (j < i + 1) = decide (j < i) from by rw [decide_eq_decide]; omega]
def kfn (ns l1 : Nat) (g1 : Nat → Int32) (N1 : Nat → Int32) (kf : Nat → Nat) (f : Nat) : Nat := bset ns (fun s => (kf f).testBit s || sTs (tval 1 g1 l1) N1 (N1 (44 + 5 * s)) (N1 (43 + 5 * s)) (N1 (45 + 5 * s)) f)
theorem mHourC {N1 : Nat → Int32} : ∀ n i (τ : St), i ≤ nf → nf - i < n → MS (τ 1) nw ns nf l0 l1 g0 g1 (fun x => if x < i then kfn ns l1 g1 N1 kf x else kf x) → (∀ j, ¬ (81 ≤ j ∧ j < 99 ∧ (j - 81) % 3 = 2) → τ 1 j = N1 j) →
    ∃ τ', f_X11_hour_L25 n (nI i) τ = some τ' ∧ same (fun q j => q = 7 ∨ q = 8 ∨ (q = 1 ∧ (j = 0 ∨ (81 ≤ j ∧ j < 99 ∧ (j - 81) % 3 = 2)))) τ τ' ∧ τ' 1 0 = N1 0 + 1 ∧ ∀ f, f < nf → τ' 1 (83 + 3 * f) = nI (kfn ns l1 g1 N1 kf f) := by
  intro n
  induction n with
  | zero => intro i _ _ h; omega
  | succ n ih =>
    intro i τ hi hn M hN
    have y8 : ns ≤ 8 := M.1.2.1
    have f6 : nf ≤ 6 := M.1.2.2.1
    rw [f_X11_hour_L25, M.1.2.2.2.2.2]
    by_cases e : i = nf
    · subst e
      rw [if_pos Int32.le_rfl, bst_ok, hN 0 (by omega)]
      refine ⟨_, rfl, same_up (by omega), up_e rfl rfl, fun f hf => ?_⟩
      have := (M.2.2.2 f hf).2
      dsimp only at this
      rw [if_pos hf] at this
      exact (up_o (by omega)).trans this
    · have hlt : i < nf := by omega
      rw [if_neg (fun x => e (by have := (nI_leI (by omega) (by omega)).mp x; omega))]
      obtain ⟨t, e1, e2, e3⟩ := mHourB (N1 := N1) (kf := fun x => if x < i then kfn ns l1 g1 N1 kf x else kf x) hlt (f_X11_hour_L25 n) 400 0 τ (Nat.zero_le _) (by omega) (M.st (fun _ _ => rfl) (fun f hf => by
        have m := M.2.2.2 f hf
        by_cases q : f = i
        · subst q
          dsimp only at m ⊢
          rw [if_pos rfl]
          rw [if_neg (by omega)] at m ⊢
          have : bset ns (fun s => (kf f).testBit s || (decide (s < 0) && sTs (tval 1 g1 l1) N1 (N1 (44 + 5 * s)) (N1 (43 + 5 * s)) (N1 (45 + 5 * s)) f)) = kf f := bset_of m.1 (fun s hs => by simp)
          rw [this]
          exact m
        · rw [if_neg q]
          exact m)) hN
      rw [show (0 : Int32) = nI 0 from rfl, e1]
      have e3' : t 1 (83 + 3 * i) = nI (kfn ns l1 g1 N1 kf i) := by
        rw [e3]
        rw [if_neg (show ¬ i < i by omega)]
        rfl
      obtain ⟨τ', q1, q2, q3, q4⟩ := ih (i + 1) t hlt (by omega) (M.st (fun j hj => e2 1 j (by unfold dynI at hj; omega)) (fun f hf => by
        have m := M.2.2.2 f hf
        dsimp only at m ⊢
        by_cases q : f = i
        · subst q
          rw [if_pos (by omega)]
          exact ⟨bset_lt _ _, e3'⟩
        · rw [show (if f < i + 1 then kfn ns l1 g1 N1 kf f else kf f) = (if f < i then kfn ns l1 g1 N1 kf f else kf f) by
            by_cases z : f < i
            · rw [if_pos z, if_pos (by omega)]
            · rw [if_neg z, if_neg (by omega)], e2 1 _ (by omega)]
          exact m)) (fun j hj => (e2 1 j (by omega)).trans (hN j hj))
      exact ⟨τ', q1, (e2.mono (fun q j x => by omega)).tr q2, q3, q4⟩
theorem mHour {τ : St} (h : MS (τ 1) nw ns nf l0 l1 g0 g1 kf) : ∃ τ' kf', f_X11_hour τ = some τ' ∧ same (fun q _ => q = 1 ∨ q = 7 ∨ q = 8) τ τ' ∧ HR nw ns nf l0 l1 g0 g1 (τ 1) (τ' 1) kf kf' := by
  have y8 : ns ≤ 8 := h.1.2.1
  have f6 : nf ≤ 6 := h.1.2.2.1
  obtain ⟨t, e1, e2, e3⟩ := mHourA h 400 0 τ (Nat.zero_le _) (by omega) (fun _ _ _ => rfl) (fun s hs => by omega)
  have M : MS (t 1) nw ns nf l0 l1 g0 g1 kf := h.st (fun j hj => e2 1 j (by unfold dynI at hj; omega)) (fun f hf => by rw [e2 1 _ (by omega)]; exact h.2.2.2 f hf)
  obtain ⟨τ', q1, q2, q3, q4⟩ := mHourC (N1 := t 1) (kf := kf) 400 0 t (Nat.zero_le _) (by omega) (M.st (fun _ _ => rfl) (fun f hf => by rw [if_neg (by omega)]; exact M.2.2.2 f hf)) (fun _ _ => rfl)
  refine ⟨τ', kfn ns l1 g1 (t 1) kf, by rw [f_X11_hour, show (0 : Int32) = nI 0 from rfl, e1]; exact q1, fun q j hq => (q2 q j (by omega)).trans (e2 q j (by omega)), fun j hj => (q2 1 j (by unfold dynI at hj; omega)).trans (e2 1 j (by unfold dynI at hj; omega)), q3.trans (by rw [e2 1 0 (by omega)]), fun s hs => ?_, fun f hf => ⟨bset_lt _ _, q4 f hf, fun s hs => ?_⟩⟩
  · rw [q2 1 (44 + 5 * s) (by omega), q2 1 (43 + 5 * s) (by omega), q2 1 (45 + 5 * s) (by omega)]
    exact e3 s hs
  · rw [q2 1 (44 + 5 * s) (by omega), q2 1 (43 + 5 * s) (by omega), q2 1 (45 + 5 * s) (by omega), kfn, bset_bit, decide_eq_true hs, sTs_congr (N := τ 1) (e2 1 _ (by omega)) (e2 1 _ (by omega)) (e2 1 _ (by omega))]
    rfl
end HOUR
/-- n hours of all -/
def HRn (nw ns nf l0 l1 : Nat) (g0 g1 : Nat → Int32) : Nat → (Nat → Int32) → (Nat → Int32) → (Nat → Nat) → (Nat → Nat) → Prop
  | 0, N, N', kf, kf' => N' = N ∧ kf' = kf
  | n + 1, N, N', kf, kf' => ∃ M km, HR nw ns nf l0 l1 g0 g1 N M kf km ∧ HRn nw ns nf l0 l1 g0 g1 n M N' km kf'
section HOURS
variable {nw ns nf l0 l1 : Nat} {g0 g1 : Nat → Int32}
theorem HR.ms {N N' : Nat → Int32} {kf kf' : Nat → Nat} (h : MS N nw ns nf l0 l1 g0 g1 kf) (r : HR nw ns nf l0 l1 g0 g1 N N' kf kf') : MS N' nw ns nf l0 l1 g0 g1 kf' := h.st r.1 (fun f hf => ⟨(r.2.2.2 f hf).1, (r.2.2.2 f hf).2.1⟩)
theorem HRn.ms : ∀ {n : Nat} {N N' : Nat → Int32} {kf kf' : Nat → Nat}, MS N nw ns nf l0 l1 g0 g1 kf → HRn nw ns nf l0 l1 g0 g1 n N N' kf kf' → MS N' nw ns nf l0 l1 g0 g1 kf'
  | 0, _, _, _, _, h, r => by
    obtain ⟨r1, r2⟩ := r
    rw [r1, r2]
    exact h
  | n + 1, _, _, _, _, h, r => by
    obtain ⟨M, km, r1, r2⟩ := r
    exact HRn.ms (HR.ms h r1) r2
theorem HRn.sta : ∀ {n : Nat} {N N' : Nat → Int32} {kf kf' : Nat → Nat}, HRn nw ns nf l0 l1 g0 g1 n N N' kf kf' → HRs N N'
  | 0, _, _, _, _, r => by
    obtain ⟨r1, r2⟩ := r
    rw [r1]
    exact fun _ _ => rfl
  | n + 1, _, _, _, _, r => by
    obtain ⟨M, km, r1, r2⟩ := r
    exact fun j hj => (HRn.sta r2 j hj).trans (r1.1 j hj)
theorem mHoursGo {τ : St} {kf : Nat → Nat} (h : MS (τ 1) nw ns nf l0 l1 g0 g1 kf) {n : Nat} (hn : n < 400) : ∃ τ' kf', f_X11_hoursGo (nI n) τ = some τ' ∧ same (fun q _ => q = 1 ∨ q = 7 ∨ q = 8) τ τ' ∧ HRn nw ns nf l0 l1 g0 g1 n (τ 1) (τ' 1) kf kf' := by
  have L : ∀ m f i (τ : St) (kf : Nat → Nat), i + m = n → m < f → MS (τ 1) nw ns nf l0 l1 g0 g1 kf → ∃ τ' kf', f_X11_hoursGo_L2 f (nI n) (nI i) τ = some τ' ∧ same (fun q _ => q = 1 ∨ q = 7 ∨ q = 8) τ τ' ∧ HRn nw ns nf l0 l1 g0 g1 m (τ 1) (τ' 1) kf kf' := by
    intro m
    induction m with
    | zero =>
      intro f i τ kf hi hf M
      obtain ⟨f, rfl⟩ : ∃ f', f = f' + 1 := ⟨f - 1, by omega⟩
      rw [f_X11_hoursGo_L2, if_pos (by rw [show i = n by omega]; exact Int32.le_rfl)]
      exact ⟨τ, kf, rfl, same.rf, rfl, rfl⟩
    | succ m ih =>
      intro f i τ kf hi hf M
      obtain ⟨f, rfl⟩ : ∃ f', f = f' + 1 := ⟨f - 1, by omega⟩
      obtain ⟨t, km, e1, e2, e3⟩ := mHour M
      rw [f_X11_hoursGo_L2, if_neg (fun x => by have := (nI_leI (by omega) (by omega)).mp x; omega), e1, ob_some, nI_1]
      obtain ⟨τ', kf', q1, q2, q3⟩ := ih f (i + 1) t km (by omega) (by omega) (HR.ms M e3)
      exact ⟨τ', kf', q1, e2.tr q2, t 1, km, e3, q3⟩
  exact L n 400 0 τ kf (by omega) hn h
/-! a strength only falls -/
theorem hld_01 (u : Nat) (v : Int32) : 0 ≤ hld u v ∧ hld u v ≤ 99 := by
  have h1 : (0 : Int32) ≤ (if u = 0 then 99 else 1) ∧ (if u = 0 then (99 : Int32) else 1) ≤ 99 := by
    by_cases h : u = 0
    · rw [if_pos h]; decide
    · rw [if_neg h]; decide
  rw [hld, hld_le _ v h1.1]
  by_cases h2 : 0 ≤ v
  · rw [if_pos h2]
    by_cases h3 : v ≤ (if u = 0 then 99 else 1)
    · rw [if_pos h3]
      exact ⟨h2, Int32.le_trans h3 h1.2⟩
    · rw [if_neg h3]
      exact h1
  · rw [if_neg h2]
    decide
theorem tval_01 (u : Nat) (g : Nat → Int32) (l : Nat) (a b c : Int32) : 0 ≤ tval u g l a b c ∧ tval u g l a b c ≤ 99 := by
  unfold tval
  by_cases h : l = 0
  · rw [if_pos h]; exact hld_01 _ _
  · rw [if_neg h]; exact hld_01 _ _
theorem imax_0 (x : Int32) : 0 ≤ imax 0 x := by
  unfold imax
  by_cases h : 0 < x
  · rw [if_pos h]; exact Int32.le_of_lt h
  · rw [if_neg h]; exact Int32.le_rfl
theorem wkK_0 {d m v : Int32} (h1 : 0 ≤ v) (h2 : v ≤ 99) : 0 ≤ wkK d m v := by
  obtain ⟨k, hk, rfl⟩ := nI_of2 (n := 99) (show (99 : Int32).toInt = (99 : Nat) by decide) (Int32.not_lt.mpr h1) h2
  unfold wkK
  by_cases q1 : d = 1
  · rw [if_pos q1]; exact imax_0 _
  · rw [if_neg q1]
    by_cases q2 : d = 2
    · rw [if_pos q2, show (2 : Int32) = nI 2 from rfl, pk_mul]
      exact nI_pos' (by omega)
    · rw [if_neg q2]
      by_cases q3 : d = 3
      · rw [if_pos q3]; exact Int32.le_rfl
      · rw [if_neg q3]
        by_cases q4 : d = 4
        · rw [if_pos q4]; exact imax_0 _
        · rw [if_neg q4]
          by_cases q5 : d = 5
          · rw [if_pos q5, show (2 : Int32) = nI 2 from rfl, pk_mul, nI_1]
            exact nI_pos' (by omega)
          · rw [if_neg q5]
            by_cases q6 : d = 6
            · rw [if_pos q6, show (2 : Int32) = nI 2 from rfl, pk_div (by omega) (by decide) (by decide)]
              exact nI_pos' (by omega)
            · rw [if_neg q6]; exact h1
theorem fall {g : Nat} (hg : g < 2 ^ 30) {w : Int32} (hw : 0 ≤ w) : ∃ g', g' ≤ g ∧ imax 0 (nI g - w) = nI g' := by
  obtain ⟨k, hk, rfl⟩ := nI_of (Int32.not_lt.mpr hw)
  unfold imax
  by_cases h : k ≤ g
  · rw [pk_sub h]
    by_cases h0 : 0 < nI (g - k)
    · rw [if_pos h0]; exact ⟨g - k, by omega, rfl⟩
    · rw [if_neg h0]; exact ⟨0, by omega, rfl⟩
  · rw [if_neg]
    · exact ⟨0, by omega, rfl⟩
    · rw [Int32.lt_iff_toInt_lt, Int32.toInt_sub, nI_toInt (by omega), nI_toInt hk, Int.bmod_eq_of_le (by omega) (by omega), show (0 : Int32).toInt = 0 from by decide]
      omega
theorem qSt_fall {N : Nat → Int32} {l0 s g : Nat} {g0 : Nat → Int32} (hg : g < 2 ^ 30) (h : N (44 + 5 * s) = nI g) : ∃ g', g' ≤ g ∧ qSt N l0 g0 s = nI g' := by
  unfold qSt sSt
  rw [h]
  exact fall hg (wkK_0 (tval_01 _ _ _ _ _ _).1 (tval_01 _ _ _ _ _ _).2)
theorem kst_bit {kf : Nat → Nat} {s f : Nat} (hf : f < nf) : (kst nf kf s).testBit f = (kf f).testBit s := by
  rw [kst, bset_bit, decide_eq_true hf]
  rfl
theorem HR.kst {N N' : Nat → Int32} {kf kf' : Nat → Nat} (r : HR nw ns nf l0 l1 g0 g1 N N' kf kf') {s : Nat} (hs : s < ns) : kst nf kf' s = sKn (tval 1 g1 l1) N nf (N' (44 + 5 * s)) (N' (43 + 5 * s)) (N' (45 + 5 * s)) (kst nf kf s) := by
  unfold sKn
  refine bset_congr (fun f hf => ?_)
  rw [(r.2.2.2 f hf).2.2 s hs, kst_bit hf]
theorem HRn.fall : ∀ {n : Nat} {N N' : Nat → Int32} {kf kf' : Nat → Nat} {s g : Nat}, HRn nw ns nf l0 l1 g0 g1 n N N' kf kf' → s < ns → g < 2 ^ 30 → N (44 + 5 * s) = nI g → ∃ g', g' ≤ g ∧ N' (44 + 5 * s) = nI g'
  | 0, _, _, _, _, _, g, r, _, _, h => ⟨g, Nat.le_refl _, by rw [r.1]; exact h⟩
  | n + 1, _, _, _, _, s, g, r, hs, hg, h => by
    obtain ⟨M, km, r1, r2⟩ := r
    obtain ⟨g', h1, h2⟩ := qSt_fall (l0 := l0) (g0 := g0) hg h
    obtain ⟨g'', h3, h4⟩ := HRn.fall r2 hs (show g' < 2 ^ 30 by omega) ((r1.2.2.1 s hs).1.trans h2)
    exact ⟨g'', by omega, h4⟩
/-- what has no strength left changes nothing more that is asked -/
theorem HRn.zero : ∀ {n : Nat} {N N' : Nat → Int32} {kf kf' : Nat → Nat} {s : Nat}, HRn nw ns nf l0 l1 g0 g1 n N N' kf kf' → s < ns → N (44 + 5 * s) = 0 → N' (44 + 5 * s) = 0 ∧ kst nf kf' s = kst nf kf s
  | 0, _, _, _, _, _, r, _, h => by
    obtain ⟨r1, r2⟩ := r
    rw [r1, r2]
    exact ⟨h, rfl⟩
  | n + 1, N, _, kf, _, s, r, hs, h => by
    obtain ⟨M, km, r1, r2⟩ := r
    obtain ⟨g', h1, h2⟩ := qSt_fall (l0 := l0) (g0 := g0) (g := 0) (by decide) h
    have hM : M (44 + 5 * s) = 0 := by
      rw [(r1.2.2.1 s hs).1, h2, show g' = 0 by omega]
      rfl
    obtain ⟨q1, q2⟩ := HRn.zero r2 hs hM
    refine ⟨q1, q2.trans ?_⟩
    rw [HR.kst r1 hs, hM]
    refine bset_of (bset_lt nf _) (fun f hf => ?_)
    unfold sTs
    simp
end HOURS
