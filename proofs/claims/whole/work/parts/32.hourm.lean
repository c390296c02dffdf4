/-! an hour of one saying: the reference's side -/
def kst (nf : Nat) (kf : Nat → Nat) (s : Nat) : Nat := bset nf (fun f => (kf f).testBit s)
def MS (N : Nat → Int32) (nw ns nf l0 l1 : Nat) (g0 g1 : Nat → Int32) (kf : Nat → Nat) : Prop :=
  (nw ≤ 8 ∧ ns ≤ 8 ∧ nf ≤ 6 ∧ N 2 = nI nw ∧ N 3 = nI ns ∧ N 4 = nI nf) ∧ (txt N 169 g0 l0 ∧ txt N 221 g1 l1) ∧ (∀ s, s < ns → ∃ d, d ≤ 6 ∧ N (41 + 5 * s) = nI d) ∧ ∀ f, f < nf → kf f < 2 ^ ns ∧ N (83 + 3 * f) = nI (kf f)
theorem hasBit_ok {s j : Nat} (hs : s < 256) (hj : j < 8) (τ : St) : f_X11_hasBit (nI s) (nI j) τ = some (bI (s.testBit j), τ) := by
  rw [f_X11_hasBit, z_in s hs j hj]
  cases s.testBit j <;> rfl
theorem txt.row {N N' : Nat → Int32} {t l : Nat} {g : Nat → Int32} (h : txt N t g l) (hN : ∀ i, t ≤ i → i < t + 52 → N' i = N i) : txt N' t g l := by
  obtain ⟨h1, h2, h3, h4⟩ := h
  exact ⟨h1, (hN t (by omega) (by omega)).trans h2, fun i hi => by rw [hN _ (by omega) (by omega)]; exact h3 i hi, h4⟩
section MODEL
variable {τ : St} {nw ns nf l0 l1 : Nat} {g0 g1 : Nat → Int32} {kf : Nat → Nat}
theorem mKnowers (h1 : nf ≤ 6) (h4 : τ 1 4 = nI nf) (hk : ∀ f, f < nf → kf f < 256 ∧ τ 1 (83 + 3 * f) = nI (kf f)) {s : Nat} (hs : s < 8) : f_X11_knowers (nI s) τ = some (nI (kst nf kf s), τ) := by
  have L : ∀ n i, i ≤ nf → nf - i < n → f_X11_knowers_L4 n (nI s) (nI (bset i (fun f => (kf f).testBit s))) (nI i) τ = some (nI (kst nf kf s), τ) := by
    intro n
    induction n with
    | zero => intro i _ h; omega
    | succ n ih =>
      intro i hi hn
      rw [f_X11_knowers_L4, h4]
      by_cases e : i = nf
      · subst e
        rw [if_pos Int32.le_rfl]
        rfl
      · have hlt : i < nf := by omega
        rw [if_neg (fun x => e (by have := (nI_leI (by omega) (by omega)).mp x; omega)), folkIs2 τ (by omega), ob_some, (hk i hlt).2]
        dsimp only
        rw [hasBit_ok (hk i hlt).1 hs, ob_some, nI_1]
        dsimp only
        rw [if_bI]
        cases hb : (kf i).testBit s
        · dsimp only [cond]
          rw [or_bset0 (p := fun f => (kf f).testBit s) hb]
          exact ih (i + 1) hlt (by omega)
        · dsimp only [cond]
          rw [or_bset1 (p := fun f => (kf f).testBit s) (by omega) hb]
          exact ih (i + 1) hlt (by omega)
  exact L 400 0 (Nat.zero_le _) (by omega)
theorem mDrinkers (h1 : nf ≤ 6) (h4 : τ 1 4 = nI nf) (w : Int32) : f_X11_drinkers w τ = some (nI (sDr (τ 1) nf w), τ) := by
  have L : ∀ n i, i ≤ nf → nf - i < n → f_X11_drinkers_L4 n w (nI (bset i (fun f => decide (τ 1 (81 + 3 * f) = w)))) (nI i) τ = some (nI (sDr (τ 1) nf w), τ) := by
    intro n
    induction n with
    | zero => intro i _ h; omega
    | succ n ih =>
      intro i hi hn
      rw [f_X11_drinkers_L4, h4]
      by_cases e : i = nf
      · subst e
        rw [if_pos Int32.le_rfl]
        rfl
      · have hlt : i < nf := by omega
        rw [if_neg (fun x => e (by have := (nI_leI (by omega) (by omega)).mp x; omega)), folkIs0 τ (by omega), ob_some, nI_1]
        dsimp only
        by_cases hw : τ 1 (81 + 3 * i) = w
        · rw [if_pos hw, or_bset1 (p := fun f => decide (τ 1 (81 + 3 * f) = w)) (by omega) (decide_eq_true hw)]
          exact ih (i + 1) hlt (by omega)
        · rw [if_neg hw, or_bset0 (p := fun f => decide (τ 1 (81 + 3 * f) = w)) (decide_eq_false hw)]
          exact ih (i + 1) hlt (by omega)
  exact L 400 0 (Nat.zero_le _) (by omega)
theorem mOpen {i : Nat} (hi : i < 8) (w : Int32) : f_X11_isOpen (nI i) w τ = some (bI (opn (τ 1) w i), τ) := by
  rw [f_X11_isOpen, wayIs0 τ hi, ob_some]
  dsimp only
  rw [wayIs3 τ hi, ob_some]
  unfold opn
  by_cases h1 : τ 1 (9 + 4 * i) = w
  · rw [if_pos h1, decide_eq_true h1]
    by_cases h2 : τ 1 (12 + 4 * i) = 0
    · rw [if_pos h2, decide_eq_true h2]; rfl
    · rw [if_neg h2, decide_eq_false h2]; rfl
  · rw [if_neg h1, decide_eq_false h1]; rfl
theorem mGoesOn (h : MS (τ 1) nw ns nf l0 l1 g0 g1 kf) {s : Nat} (hs : s < ns) : f_X11_goesOn (nI s) τ = some (sNx (τ 1) nw nf (τ 1 (41 + 5 * s)) (τ 1 (43 + 5 * s)) (kst nf kf s), τ) := by
  obtain ⟨⟨a1, a2, a3, a4, a5, a6⟩, -, b, c⟩ := h
  obtain ⟨d, hd, ed⟩ := b s hs
  have hk : ∀ f, f < nf → kf f < 256 ∧ τ 1 (83 + 3 * f) = nI (kf f) := fun f hf => ⟨lt_256 (c f hf).1 a2, (c f hf).2⟩
  have U : f_X11_isUnder (nI d) 2 τ = some (bI (und d 2), τ) := mUnder hd (show 2 ≤ 6 by decide) τ
  have L : ∀ n i, i ≤ nw → nw - i < n → f_X11_goesOn_L23 n (nI s) (τ 1 (43 + 5 * s)) (nI d) (fwN (opn (τ 1) (τ 1 (43 + 5 * s))) i) (lwN (opn (τ 1) (τ 1 (43 + 5 * s))) i) (nI i) τ = some (sNx (τ 1) nw nf (nI d) (τ 1 (43 + 5 * s)) (kst nf kf s), τ) := by
    intro n
    induction n with
    | zero => intro i _ h; omega
    | succ n ih =>
      intro i hi hn
      rw [f_X11_goesOn_L23, a4]
      by_cases e : i = nw
      · subst e
        rw [if_pos Int32.le_rfl, mDrinkers a3 a6, ob_some]
        dsimp only
        rw [mKnowers a3 a6 hk (by omega), ob_some, f_X11_goesOn_L109]
        dsimp only
        rw [U, ob_some, sNx]
        dsimp only
        rw [if_pos (show (0 : Int32) = 0 from rfl), if_neg (show ¬ (1 : Int32) = 0 by decide)]
        rcases le6 hd with rfl | rfl | rfl | rfl | rfl | rfl | rfl
        · rfl
        · rfl
        · rfl
        · rfl
        · rw [if_neg (show ¬ nI 4 = 3 by decide), if_pos (show nI 4 = 4 from rfl), if_neg (show ¬ nI 4 = 3 by decide), if_pos (show nI 4 = 4 from rfl)]
          by_cases q : nI (sDr (τ 1) nf (τ 1 (43 + 5 * s))) &&& (nI (kst nf kf s) ^^^ (-1)) = 0
          · rw [if_pos q, if_pos q]
            rfl
          · rw [if_neg q, if_neg q]
        · rfl
        · rfl
      · have hlt : i < nw := by omega
        rw [if_neg (fun x => e (by have := (nI_leI (by omega) (by omega)).mp x; omega))]
        have nxt := ih (i + 1) hlt (by omega)
        rw [fwN, lwN, ← nI_1] at nxt
        have tail : ∀ v, v = (if 0 ≤ fwN (opn (τ 1) (τ 1 (43 + 5 * s))) i then fwN (opn (τ 1) (τ 1 (43 + 5 * s))) i else if opn (τ 1) (τ 1 (43 + 5 * s)) i = true then nI i else -1) → f_X11_goesOn_L56 (f_X11_goesOn_L23 n) (nI s) (τ 1 (43 + 5 * s)) (nI d) (lwN (opn (τ 1) (τ 1 (43 + 5 * s))) i) (nI i) v τ = some (sNx (τ 1) nw nf (nI d) (τ 1 (43 + 5 * s)) (kst nf kf s), τ) := by
          intro v hv
          rw [f_X11_goesOn_L56, mOpen (by omega), ob_some]
          dsimp only
          rw [if_bI, hv]
          cases ho : opn (τ 1) (τ 1 (43 + 5 * s)) i
          · rw [ho] at nxt
            exact nxt
          · rw [ho] at nxt
            exact nxt
        by_cases q : 0 ≤ fwN (opn (τ 1) (τ 1 (43 + 5 * s))) i
        · rw [if_pos q]
          exact tail _ (by rw [if_pos q])
        · rw [if_neg q, mOpen (by omega), ob_some]
          dsimp only
          rw [if_bI]
          cases ho : opn (τ 1) (τ 1 (43 + 5 * s)) i
          · refine tail _ ?_
            rw [if_neg q, ho, if_neg (by decide)]
            rcases fwN_ix (opn (τ 1) (τ 1 (43 + 5 * s))) i with z | ⟨j, hj, z⟩
            · exact z
            · rw [z] at q
              exact absurd (nI_pos' (by omega)) q
          · exact tail _ (by rw [if_neg q, ho, if_pos rfl])
  have := L 400 0 (Nat.zero_le _) (by omega)
  rw [f_X11_goesOn, sayIs2 τ (by omega), ob_some]
  dsimp only
  rw [sayIs0 τ (by omega), ob_some, ed]
  exact this
theorem mWeak (h : MS (τ 1) nw ns nf l0 l1 g0 g1 kf) {s : Nat} (hs : s < ns) : ∃ τ', f_X11_weakens (nI s) τ = some (wkK (τ 1 (41 + 5 * s)) (τ 1 (42 + 5 * s)) (tval 0 g0 l0 (τ 1 (44 + 5 * s)) (τ 1 (42 + 5 * s)) (τ 1 5)), τ') ∧ same (fun q _ => q = 7 ∨ q = 8) τ τ' := by
  have y8 : ns ≤ 8 := h.1.2.1
  obtain ⟨τ', e1, e2⟩ := mGiven (u := 0) (l := l0) (g := g0) (τ := τ) (by decide) h.2.1.1 (τ 1 (44 + 5 * s)) (τ 1 (42 + 5 * s)) (τ 1 5)
  rw [n0] at e1
  rw [f_X11_weakens, sayIs1 τ (by omega), ob_some]
  dsimp only
  rw [sayIs3 τ (by omega), ob_some]
  dsimp only
  rw [e1, ob_some]
  dsimp only
  rw [sayIs0 τ' (by omega), ob_some, e2 1 _ (by omega)]
  simp only [if_some]
  exact ⟨τ', rfl, e2⟩
end MODEL
theorem sDr_congr {N N' : Nat → Int32} {nf : Nat} {w : Int32} (h : ∀ f, f < nf → N' (81 + 3 * f) = N (81 + 3 * f)) : sDr N' nf w = sDr N nf w := bset_congr (fun f hf => by rw [h f hf])
theorem fwN_congr {p q : Nat → Bool} : ∀ {n : Nat}, (∀ i, i < n → p i = q i) → fwN p n = fwN q n
  | 0, _ => rfl
  | n + 1, h => by rw [fwN, fwN, fwN_congr (fun i hi => h i (by omega)), h n (by omega)]
theorem lwN_congr {p q : Nat → Bool} : ∀ {n : Nat}, (∀ i, i < n → p i = q i) → lwN p n = lwN q n
  | 0, _ => rfl
  | n + 1, h => by rw [lwN, lwN, lwN_congr (fun i hi => h i (by omega)), h n (by omega)]
theorem sNx_congr {N N' : Nat → Int32} {nw nf : Nat} {d w : Int32} {K : Nat} (h1 : ∀ i, i < nw → N' (9 + 4 * i) = N (9 + 4 * i) ∧ N' (12 + 4 * i) = N (12 + 4 * i)) (h2 : ∀ f, f < nf → N' (81 + 3 * f) = N (81 + 3 * f)) : sNx N' nw nf d w K = sNx N nw nf d w K := by
  have e : ∀ i, i < nw → opn N' w i = opn N w i := fun i hi => by unfold opn; rw [(h1 i hi).1, (h1 i hi).2]
  unfold sNx
  rw [sDr_congr h2, fwN_congr e, lwN_congr e]
/-- what of a row an hour may change -/
def dynI (j : Nat) : Prop := j = 0 ∨ (41 ≤ j ∧ j < 81 ∧ 2 ≤ (j - 41) % 5) ∨ (81 ≤ j ∧ j < 99 ∧ (j - 81) % 3 = 2)
def HRs (N N' : Nat → Int32) : Prop := ∀ j, ¬ dynI j → N' j = N j
section STEP
variable {nw ns nf l0 l1 : Nat} {g0 g1 : Nat → Int32} {kf : Nat → Nat}
def qSt (N : Nat → Int32) (l0 : Nat) (g0 : Nat → Int32) (s : Nat) : Int32 := sSt (tval 0 g0 l0) N (N (41 + 5 * s)) (N (42 + 5 * s)) (N (44 + 5 * s))
def qNx (N : Nat → Int32) (nw nf : Nat) (kf : Nat → Nat) (s : Nat) : Int32 := sNx N nw nf (N (41 + 5 * s)) (N (43 + 5 * s)) (kst nf kf s)
def qAt (N : Nat → Int32) (nw nf : Nat) (kf : Nat → Nat) (s : Nat) : Int32 := sAt N (qNx N nw nf kf s) (N (43 + 5 * s)) (N (45 + 5 * s))
def qLf (N : Nat → Int32) (nw nf : Nat) (kf : Nat → Nat) (s : Nat) : Int32 := sLf N (qNx N nw nf kf s) (N (45 + 5 * s))
theorem mGoes {τ : St} (h : MS (τ 1) nw ns nf l0 l1 g0 g1 kf) {s : Nat} (hs : s < ns) :
    ∃ τ', f_X11_goes (nI s) τ = some τ' ∧ same (fun q j => q = 7 ∨ q = 8 ∨ (q = 1 ∧ (j = 43 + 5 * s ∨ j = 44 + 5 * s ∨ j = 45 + 5 * s))) τ τ' ∧ τ' 1 (44 + 5 * s) = qSt (τ 1) l0 g0 s ∧ τ' 1 (43 + 5 * s) = qAt (τ 1) nw nf kf s ∧ τ' 1 (45 + 5 * s) = qLf (τ 1) nw nf kf s := by
  have y8 : ns ≤ 8 := h.1.2.1
  obtain ⟨t1, e1, e2⟩ := mWeak h hs
  have S2 : same (fun q j => q = 7 ∨ q = 8 ∨ (q = 1 ∧ (j = 43 + 5 * s ∨ j = 44 + 5 * s ∨ j = 45 + 5 * s))) τ (up t1 1 (44 + 5 * s) (qSt (τ 1) l0 g0 s)) := (e2.mono (fun q j x => by omega)).tr (same_up (by omega))
  rw [f_X11_goes, sayAt3, ob_some]
  dsimp only
  rw [sayIs3 τ (by omega), ob_some]
  dsimp only
  rw [e1, ob_some, if_in (by omega), bst_ok, clampN (by omega)]
  dsimp only
  rw [show imax 0 (τ 1 (44 + 5 * s) - wkK (τ 1 (41 + 5 * s)) (τ 1 (42 + 5 * s)) (tval 0 g0 l0 (τ 1 (44 + 5 * s)) (τ 1 (42 + 5 * s)) (τ 1 5))) = qSt (τ 1) l0 g0 s from rfl, sayIs4 _ (by omega), ob_some]
  dsimp only
  have v45 : (up t1 1 (44 + 5 * s) (qSt (τ 1) l0 g0 s)) 1 (45 + 5 * s) = τ 1 (45 + 5 * s) := (up_o (by omega)).trans (e2 1 _ (by omega))
  have v43 : (up t1 1 (44 + 5 * s) (qSt (τ 1) l0 g0 s)) 1 (43 + 5 * s) = τ 1 (43 + 5 * s) := (up_o (by omega)).trans (e2 1 _ (by omega))
  have v41 : (up t1 1 (44 + 5 * s) (qSt (τ 1) l0 g0 s)) 1 (41 + 5 * s) = τ 1 (41 + 5 * s) := S2 1 _ (by omega)
  have st : ∀ j, ¬ (j = 43 + 5 * s ∨ j = 44 + 5 * s ∨ j = 45 + 5 * s) → (up t1 1 (44 + 5 * s) (qSt (τ 1) l0 g0 s)) 1 j = τ 1 j := fun j hj => S2 1 j (by omega)
  have M2 : MS ((up t1 1 (44 + 5 * s) (qSt (τ 1) l0 g0 s)) 1) nw ns nf l0 l1 g0 g1 kf := by
    obtain ⟨⟨a1, a2, a3, a4, a5, a6⟩, ⟨b1, b2⟩, c, d⟩ := h
    exact ⟨⟨a1, a2, a3, (st _ (by omega)).trans a4, (st _ (by omega)).trans a5, (st _ (by omega)).trans a6⟩, ⟨b1.row (fun i x y => st i (by omega)), b2.row (fun i x y => st i (by omega))⟩, fun x hx => by rw [st _ (by omega)]; exact c x hx, fun f hf => by rw [st _ (by omega)]; exact d f hf⟩
  have G := mGoesOn M2 hs
  have w8 := h.1.1
  rw [v41, v43, sNx_congr (N := τ 1) (fun i hi => ⟨st _ (by omega), st _ (by omega)⟩) (fun f hf => st _ (by omega))] at G
  rw [v45]
  by_cases hl : τ 1 (45 + 5 * s) ≤ 0
  · rw [if_pos hl, G, ob_some]
    dsimp only
    rcases sNx_ix (τ 1) nw nf (τ 1 (41 + 5 * s)) (τ 1 (43 + 5 * s)) (kst nf kf s) with q | ⟨i, hi, q⟩
    · rw [if_pos (by rw [q]; decide)]
      refine ⟨_, rfl, S2, up_e rfl rfl, ?_, ?_⟩
      · rw [v43, qAt, sAt, if_pos hl, if_pos (by unfold qNx; rw [q]; decide)]
      · rw [v45, qLf, sLf, if_pos hl, if_pos (by unfold qNx; rw [q]; decide)]
    · rw [q, if_neg (nI_pos (by omega)), sayAt2, ob_some]
      dsimp only
      rw [wayIs1 _ (by omega), ob_some, if_in (by omega), bst_ok, clampN (by omega)]
      dsimp only
      rw [sayAt4, ob_some]
      dsimp only
      rw [wayIs2 _ (by omega), ob_some, if_in (by omega), bst_ok, clampN (by omega)]
      dsimp only
      rw [st (10 + 4 * i) (by omega), show (up (up t1 1 (44 + 5 * s) (qSt (τ 1) l0 g0 s)) 1 (43 + 5 * s) (τ 1 (10 + 4 * i))) 1 (11 + 4 * i) = τ 1 (11 + 4 * i) from (up_o (by omega)).trans (st _ (by omega))]
      refine ⟨_, rfl, (S2.tr (same_up (by omega))).tr (same_up (by omega)), ?_, ?_, ?_⟩
      · simp (disch := omega) only [up_o, up_e]
      · simp (disch := omega) only [up_o, up_e]
        rw [qAt, sAt, if_pos hl]
        unfold qNx
        rw [q, if_neg (nI_pos (by omega)), nI_clamp (by omega)]
      · simp (disch := omega) only [up_e]
        rw [qLf, sLf, if_pos hl]
        unfold qNx
        rw [q, if_neg (nI_pos (by omega)), nI_clamp (by omega)]
  · rw [if_neg hl, sayAt4, ob_some, if_in (by omega), if_in (by omega), bst_ok, clampN (by omega)]
    dsimp only
    rw [v45]
    refine ⟨_, rfl, S2.tr (same_up (by omega)), ?_, ?_, ?_⟩
    · simp (disch := omega) only [up_o, up_e]
    · rw [up_o (by omega), v43, qAt, sAt, if_neg hl]
    · rw [up_e rfl rfl, qLf, sLf, if_neg hl]
theorem mTastes {τ : St} (h : MS (τ 1) nw ns nf l0 l1 g0 g1 kf) {s f : Nat} (hs : s < ns) (hf : f < nf) :
    ∃ τ', f_X11_tastes (nI f) (nI s) τ = some (bI (sTs (tval 1 g1 l1) (τ 1) (τ 1 (44 + 5 * s)) (τ 1 (43 + 5 * s)) (τ 1 (45 + 5 * s)) f), τ') ∧ same (fun q _ => q = 7 ∨ q = 8) τ τ' := by
  have y8 : ns ≤ 8 := h.1.2.1
  have f6 : nf ≤ 6 := h.1.2.2.1
  have z0 : ∀ v w, f_X11_tastes_L50 v w 0 τ = some (0, τ) := fun v w => rfl
  rw [f_X11_tastes, sayIs3 τ (by omega), ob_some]
  dsimp only
  rw [sayIs2 τ (by omega), ob_some]
  dsimp only
  rw [folkIs0 τ (by omega), ob_some]
  dsimp only
  rw [sayIs4 τ (by omega), ob_some]
  dsimp only
  rw [folkIs1 τ (by omega), ob_some]
  dsimp only
  unfold sTs
  by_cases h1 : τ 1 (43 + 5 * s) = τ 1 (81 + 3 * f)
  · rw [if_pos h1, decide_eq_true h1]
    by_cases h2 : τ 1 (45 + 5 * s) = 0
    · rw [if_pos h2, decide_eq_true h2]
      by_cases h3 : τ 1 (44 + 5 * s) < τ 1 (82 + 3 * f)
      · rw [if_pos h3, z0, decide_eq_false (Int32.not_le.mpr h3)]
        exact ⟨τ, rfl, same.rf⟩
      · rw [if_neg h3, decide_eq_true (Int32.not_lt.mp h3)]
        by_cases h4 : τ 1 (44 + 5 * s) ≤ 0
        · rw [if_pos h4, z0, decide_eq_false (Int32.not_lt.mpr h4)]
          exact ⟨τ, rfl, same.rf⟩
        · rw [if_neg h4, decide_eq_true (Int32.not_le.mp h4), f_X11_tastes_L50, if_neg (by decide), folkIs1 τ (by omega), ob_some]
          dsimp only
          obtain ⟨τ', e1, e2⟩ := mGiven (u := 1) (l := l1) (g := g1) (τ := τ) (by decide) h.2.1.2 (τ 1 (44 + 5 * s)) (τ 1 (82 + 3 * f)) (τ 1 0)
          rw [n1] at e1
          rw [e1, ob_some]
          dsimp only
          by_cases h5 : tval 1 g1 l1 (τ 1 (44 + 5 * s)) (τ 1 (82 + 3 * f)) (τ 1 0) = 0
          · rw [if_pos h5, decide_eq_false (fun x => x h5)]
            exact ⟨τ', rfl, e2⟩
          · rw [if_neg h5, decide_eq_true (show tval 1 g1 l1 (τ 1 (44 + 5 * s)) (τ 1 (82 + 3 * f)) (τ 1 0) ≠ 0 from h5)]
            exact ⟨τ', rfl, e2⟩
    · rw [if_neg h2, z0, decide_eq_false h2]
      exact ⟨τ, rfl, same.rf⟩
  · rw [if_neg h1, z0, decide_eq_false h1]
    exact ⟨τ, rfl, same.rf⟩
end STEP
