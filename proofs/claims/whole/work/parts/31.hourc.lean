/-! an hour of one saying, as both sides have it; the class's side -/
def wkK (d m v : Int32) : Int32 := if d = 1 then imax 0 (v - 1) else if d = 2 then 2 * v else if d = 3 then 0 else if d = 4 then imax 0 (imax 0 (v - 1) - irm m 3) else if d = 5 then 2 * v + 1 else if d = 6 then v / 2 else v
def fwN (p : Nat → Bool) : Nat → Int32
  | 0 => -1
  | n + 1 => if 0 ≤ fwN p n then fwN p n else if p n = true then nI n else -1
def lwN (p : Nat → Bool) : Nat → Int32
  | 0 => -1
  | n + 1 => if p n = true then nI n else lwN p n
def opn (N : Nat → Int32) (w : Int32) (i : Nat) : Bool := decide (N (9 + 4 * i) = w) && decide (N (12 + 4 * i) = 0)
abbrev TF : Type := Int32 → Int32 → Int32 → Int32
def sSt (G0 : TF) (N : Nat → Int32) (d m st : Int32) : Int32 := imax 0 (st - wkK d m (G0 st m (N 5)))
def sDr (N : Nat → Int32) (nf : Nat) (w : Int32) : Nat := bset nf (fun f => decide (N (81 + 3 * f) = w))
def sNx (N : Nat → Int32) (nw nf : Nat) (d w : Int32) (K : Nat) : Int32 :=
  if d = 3 then -1 else if d = 4 then (if nI (sDr N nf w) &&& (nI K ^^^ (-1)) = 0 then fwN (opn N w) nw else -1) else if d = 2 then lwN (opn N w) nw else if d = 5 then lwN (opn N w) nw else fwN (opn N w) nw
def sAt (N : Nat → Int32) (x w lf : Int32) : Int32 := if lf ≤ 0 then (if x < 0 then w else N (10 + 4 * x.toNatClampNeg)) else w
def sLf (N : Nat → Int32) (x lf : Int32) : Int32 := if lf ≤ 0 then (if x < 0 then lf else N (11 + 4 * x.toNatClampNeg)) else lf - 1
def sTs (G1 : TF) (N : Nat → Int32) (st w lf : Int32) (f : Nat) : Bool := decide (w = N (81 + 3 * f)) && (decide (lf = 0) && (decide (N (82 + 3 * f) ≤ st) && (decide (0 < st) && decide (G1 st (N (82 + 3 * f)) (N 0) ≠ 0))))
def sKn (G1 : TF) (N : Nat → Int32) (nf : Nat) (st w lf : Int32) (K : Nat) : Nat := bset nf (fun f => K.testBit f || sTs G1 N st w lf f)
theorem fwN_none {p : Nat → Bool} : ∀ {n : Nat}, (∀ j, j < n → p j = false) → fwN p n = -1
  | 0, _ => rfl
  | n + 1, h => by
    rw [fwN, fwN_none (fun j hj => h j (by omega)), if_neg (by decide), h n (by omega)]
    rfl
theorem fwN_first {p : Nat → Bool} {i : Nat} (hp : p i = true) (h : ∀ j, j < i → p j = false) (hi : i < 1000) : ∀ {n : Nat}, i < n → fwN p n = nI i
  | 0, hn => by omega
  | n + 1, hn => by
    rw [fwN]
    by_cases e : i = n
    · subst e
      rw [fwN_none h, if_neg (by decide), if_pos hp]
    · rw [fwN_first hp h hi (show i < n by omega), if_pos (nI_pos' (by omega))]
theorem lwN_none {p : Nat → Bool} : ∀ {n : Nat}, (∀ j, j < n → p j = false) → lwN p n = -1
  | 0, _ => rfl
  | n + 1, h => by
    rw [lwN, h n (by omega), if_neg (by decide)]
    exact lwN_none (fun j hj => h j (by omega))
theorem lwN_last {p : Nat → Bool} {i : Nat} (hp : p i = true) : ∀ {n : Nat}, i < n → (∀ j, i < j → j < n → p j = false) → lwN p n = nI i
  | 0, hn, _ => by omega
  | n + 1, hn, h => by
    rw [lwN]
    by_cases e : i = n
    · subst e
      rw [if_pos hp]
    · rw [h n (by omega) (by omega), if_neg (by decide)]
      exact lwN_last hp (by omega) (fun j a b => h j a (by omega))
theorem fwN_ix (p : Nat → Bool) : ∀ n, fwN p n = -1 ∨ ∃ j, j < n ∧ fwN p n = nI j
  | 0 => Or.inl rfl
  | n + 1 => by
    rw [fwN]
    by_cases h : 0 ≤ fwN p n
    · rw [if_pos h]
      rcases fwN_ix p n with e | ⟨j, hj, e⟩
      · exact Or.inl e
      · exact Or.inr ⟨j, by omega, e⟩
    · rw [if_neg h]
      cases p n
      · exact Or.inl rfl
      · exact Or.inr ⟨n, by omega, rfl⟩
theorem lwN_ix (p : Nat → Bool) : ∀ n, lwN p n = -1 ∨ ∃ j, j < n ∧ lwN p n = nI j
  | 0 => Or.inl rfl
  | n + 1 => by
    rw [lwN]
    cases p n
    · rw [if_neg (by decide)]
      rcases lwN_ix p n with e | ⟨j, hj, e⟩
      · exact Or.inl e
      · exact Or.inr ⟨j, by omega, e⟩
    · exact Or.inr ⟨n, by omega, rfl⟩
theorem sNx_ix (N : Nat → Int32) (nw nf : Nat) (d w : Int32) (K : Nat) : sNx N nw nf d w K = -1 ∨ ∃ j, j < nw ∧ sNx N nw nf d w K = nI j := by
  unfold sNx
  by_cases h3 : d = 3
  · rw [if_pos h3]; exact Or.inl rfl
  · rw [if_neg h3]
    by_cases h4 : d = 4
    · rw [if_pos h4]
      by_cases q : nI (sDr N nf w) &&& (nI K ^^^ (-1)) = 0
      · rw [if_pos q]; exact fwN_ix _ _
      · rw [if_neg q]; exact Or.inl rfl
    · rw [if_neg h4]
      by_cases h2 : d = 2
      · rw [if_pos h2]; exact lwN_ix _ _
      · rw [if_neg h2]
        by_cases h5 : d = 5
        · rw [if_pos h5]; exact lwN_ix _ _
        · rw [if_neg h5]; exact fwN_ix _ _
/-! the class's side -/
/-- what of the village of now an hour of one saying asks -/
def CS (σ : St) (N : Nat → Int32) (nw nf l0 l1 sp : Nat) (g0 g1 : Nat → Int32) : Prop :=
  (nw ≤ 8 ∧ nf ≤ 6 ∧ sp < 256 ∧ σ 3 1 = nI nw ∧ σ 23 1 = nI nf) ∧ (∀ i, i < nw → σ 4 i = N (9 + 4 * i) ∧ σ 6 i = N (10 + 4 * i) ∧ σ 8 i = N (11 + 4 * i) ∧ N (12 + 4 * i) = nI (sp.testBit i).toNat) ∧
  (∀ f, f < nf → σ 24 f = N (81 + 3 * f) ∧ σ 26 f = N (82 + 3 * f)) ∧ (σ 31 2 = nI 0 ∧ σ 36 2 = nI 1 ∧ σ 32 1 = nI l0 ∧ σ 37 1 = nI l1) ∧ (σ 33 = g0 ∧ σ 38 = g1 ∧ txt N 169 g0 l0 ∧ txt N 221 g1 l1)
def fpH (q j : Nat) : Prop := q = 34 ∨ q = 35 ∨ q = 39 ∨ q = 40 ∨ (q = 41 ∧ 2 ≤ j ∧ j ≤ 5)
theorem CS.moved {σ σ' : St} {N : Nat → Int32} {nw nf l0 l1 sp : Nat} {g0 g1 : Nat → Int32} (h : CS σ N nw nf l0 l1 sp g0 g1) (hs : ∀ q j, (3 ≤ q ∧ q ≤ 8 ∨ 23 ≤ q ∧ q ≤ 26 ∨ q = 31 ∧ j = 2 ∨ q = 36 ∧ j = 2 ∨ q = 32 ∨ q = 33 ∨ q = 37 ∨ q = 38) → σ' q j = σ q j) : CS σ' N nw nf l0 l1 sp g0 g1 := by
  obtain ⟨⟨a1, a2, a3, a4, a5⟩, b, c, ⟨d1, d2, d3, d4⟩, e1, e2, e3, e4⟩ := h
  refine ⟨⟨a1, a2, a3, (hs _ _ (by omega)).trans a4, (hs _ _ (by omega)).trans a5⟩, fun i hi => ?_, fun f hf => ?_, ⟨(hs _ _ (by omega)).trans d1, (hs _ _ (by omega)).trans d2, (hs _ _ (by omega)).trans d3, (hs _ _ (by omega)).trans d4⟩, (funext (fun j => hs 33 j (by omega))).trans e1, (funext (fun j => hs 38 j (by omega))).trans e2, e3, e4⟩
  · rw [hs 4 i (by omega), hs 6 i (by omega), hs 8 i (by omega)]
    exact b i hi
  · rw [hs 24 f (by omega), hs 26 f (by omega)]
    exact c f hf
theorem CS.fp {σ σ' : St} {N : Nat → Int32} {nw nf l0 l1 sp : Nat} {g0 g1 : Nat → Int32} (h : CS σ N nw nf l0 l1 sp g0 g1) (hs : same fpH σ σ') : CS σ' N nw nf l0 l1 sp g0 g1 :=
  h.moved (fun q j hq => hs q j (by unfold fpH; omega))
section CLASS
variable {σ : St} {N : Nat → Int32} {nw nf l0 l1 sp : Nat} {g0 g1 : Nat → Int32}
theorem cG0 (h : CS σ N nw nf l0 l1 sp g0 g1) (a b c : Int32) : ∃ σ', f_X6_gives 31 a b c σ = some (tval 0 g0 l0 a b c, σ') ∧ same (fun q _ => q = 34 ∨ q = 35) σ σ' := by
  obtain ⟨-, -, -, ⟨d1, d2, d3, d4⟩, e1, e2, e3, e4⟩ := h
  have := cGives (k := 31) (u := 0) (Or.inl rfl) (by decide) d1 d3 (N := N) (t := 169) (by show txt N 169 (σ 33) l0; rw [e1]; exact e3) a b c
  rw [← e1]
  exact this
theorem cG1 (h : CS σ N nw nf l0 l1 sp g0 g1) (a b c : Int32) : ∃ σ', f_X6_gives 36 a b c σ = some (tval 1 g1 l1 a b c, σ') ∧ same (fun q _ => q = 39 ∨ q = 40) σ σ' := by
  obtain ⟨-, -, -, ⟨d1, d2, d3, d4⟩, e1, e2, e3, e4⟩ := h
  have := cGives (k := 36) (u := 1) (Or.inr rfl) (by decide) d2 d4 (N := N) (t := 221) (by show txt N 221 (σ 38) l1; rw [e2]; exact e4) a b c
  rw [← e2]
  exact this
theorem cWeak (h : CS σ N nw nf l0 l1 sp g0 g1) (r : Int32) : ∃ σ', f_X7_weakeningOf 41 r σ = some (wkK (σ 41 0) (σ 41 1) (tval 0 g0 l0 (σ 41 3) (σ 41 1) r), σ') ∧ same (fun q _ => q = 34 ∨ q = 35) σ σ' := by
  obtain ⟨σ', e1, e2⟩ := cG0 h (σ 41 3) (σ 41 1) r
  rw [f_X7_weakeningOf, e1, ob_some]
  dsimp only
  simp only [e2 41 0 (by omega), e2 41 1 (by omega), if_some]
  exact ⟨σ', rfl, e2⟩
theorem opn_eq (h : CS σ N nw nf l0 l1 sp g0 g1) (w : Int32) {i : Nat} (hi : i < nw) : opn N w i = (decide (σ 4 i = w) && !sp.testBit i) := by
  obtain ⟨q1, q2, q3, q4⟩ := h.2.1 i hi
  unfold opn
  rw [q1, q4]
  cases sp.testBit i
  · rfl
  · rfl
theorem cFirst (h : CS σ N nw nf l0 l1 sp g0 g1) (w : Int32) : f_X9_firstFrom w (nI sp) σ = some (fwN (opn N w) nw, σ) := by
  have w8 : nw ≤ 8 := h.1.1
  have hsp := h.1.2.2.1
  have h3 := h.1.2.2.2.1
  have L : ∀ n i, i ≤ nw → nw - i < n → (∀ j, j < i → opn N w j = false) → f_X9_firstFrom_L2 n w (nI sp) (nI i) σ = some (fwN (opn N w) nw, σ) := by
    intro n
    induction n with
    | zero => intro i _ h; omega
    | succ n ih =>
      intro i hi hn hp
      rw [f_X9_firstFrom_L2, size_ok, ob_some, h3]
      by_cases e : i = nw
      · subst e
        rw [if_pos Int32.le_rfl, fwN_none hp]
      · have hlt : i < nw := by omega
        have oe := opn_eq h w hlt
        rw [if_neg (fun x => e (by have := (nI_leI (by omega) (by omega)).mp x; omega)), get3 σ (by omega), ob_some]
        dsimp only
        have nxt : opn N w i = false → f_X9_firstFrom_L2 n w (nI sp) (nI i + 1) σ = some (fwN (opn N w) nw, σ) := fun q => by
          rw [nI_1]
          exact ih (i + 1) hlt (by omega) (fun j hj => by
            by_cases hj2 : j = i
            · rw [hj2]; exact q
            · exact hp j (by omega))
        by_cases hw : σ 4 i = w
        · rw [if_pos hw, inSet_ok hsp (by omega), ob_some]
          dsimp only
          cases hb : sp.testBit i
          · rw [if_pos (by decide), fwN_first (i := i) (by rw [oe, hb, decide_eq_true hw]; rfl) hp (by omega) hlt]
          · rw [if_neg (by decide)]
            exact nxt (by rw [oe, hb, decide_eq_true hw]; rfl)
        · rw [if_neg hw]
          exact nxt (by rw [oe, decide_eq_false hw]; rfl)
  exact L 400 0 (Nat.zero_le _) (by omega) (fun j hj => by omega)
theorem cLast (h : CS σ N nw nf l0 l1 sp g0 g1) (w : Int32) : f_X9_lastFrom w (nI sp) σ = some (lwN (opn N w) nw, σ) := by
  have w8 : nw ≤ 8 := h.1.1
  have hsp := h.1.2.2.1
  have h3 := h.1.2.2.2.1
  have L : ∀ n i, i ≤ nw → i < n → (∀ j, i ≤ j → j < nw → opn N w j = false) → f_X9_lastFrom_L10 n w (nI sp) (nI i - 1) σ = some (lwN (opn N w) nw, σ) := by
    intro n
    induction n with
    | zero => intro i _ h; omega
    | succ n ih =>
      intro i hi hn hp
      rw [f_X9_lastFrom_L10]
      by_cases e : i = 0
      · subst e
        rw [if_pos (by decide), lwN_none (fun j hj => hp j (Nat.zero_le _) hj)]
      · obtain ⟨k, rfl⟩ : ∃ k, i = k + 1 := ⟨i - 1, by omega⟩
        have hlt : k < nw := by omega
        have oe := opn_eq h w hlt
        rw [nI_pred, if_neg (nI_pos (by omega)), get3 σ (by omega), ob_some]
        dsimp only
        have nxt : opn N w k = false → f_X9_lastFrom_L10 n w (nI sp) (nI k + (-1)) σ = some (lwN (opn N w) nw, σ) := fun q => by
          rw [Int32.add_neg_eq_sub]
          exact ih k (by omega) (by omega) (fun j a b => by
            by_cases hj2 : j = k
            · rw [hj2]; exact q
            · exact hp j (by omega) b)
        by_cases hw : σ 4 k = w
        · rw [if_pos hw, inSet_ok hsp (by omega), ob_some]
          dsimp only
          cases hb : sp.testBit k
          · rw [if_pos (by decide), lwN_last (i := k) (by rw [oe, hb, decide_eq_true hw]; rfl) hlt (fun j a b => hp j (by omega) b)]
          · rw [if_neg (by decide)]
            exact nxt (by rw [oe, hb, decide_eq_true hw]; rfl)
        · rw [if_neg hw]
          exact nxt (by rw [oe, decide_eq_false hw]; rfl)
  rw [f_X9_lastFrom, size_ok, ob_some, h3]
  exact L 400 nw (Nat.le_refl _) (by omega) (fun j a b => by omega)
theorem cDrink (h : CS σ N nw nf l0 l1 sp g0 g1) (w : Int32) : f_X0_drinkersAt w σ = some (nI (sDr N nf w), σ) := by
  have f6 : nf ≤ 6 := h.1.2.1
  have h23 := h.1.2.2.2.2
  have L : ∀ n i, i ≤ nf → nf - i < n → f_X0_drinkersAt_L4 n w (nI (bset i (fun f => decide (N (81 + 3 * f) = w)))) (nI i) σ = some (nI (sDr N nf w), σ) := by
    intro n
    induction n with
    | zero => intro i _ h; omega
    | succ n ih =>
      intro i hi hn
      rw [f_X0_drinkersAt_L4, size_ok, ob_some, h23]
      by_cases e : i = nf
      · subst e
        rw [if_pos Int32.le_rfl]
        rfl
      · have hlt : i < nf := by omega
        rw [if_neg (fun x => e (by have := (nI_leI (by omega) (by omega)).mp x; omega)), get23 σ (by omega), ob_some, (h.2.2.1 i hlt).1, nI_1]
        dsimp only
        by_cases hw : N (81 + 3 * i) = w
        · rw [if_pos hw, with_bset (p := fun f => decide (N (81 + 3 * f) = w)) (v := 1) (by omega) (by simp [hw]), ob_some]
          exact ih (i + 1) hlt (by omega)
        · rw [if_neg hw, with_bset (p := fun f => decide (N (81 + 3 * f) = w)) (v := 0) (by omega) (by simp [hw]), ob_some]
          exact ih (i + 1) hlt (by omega)
  exact L 400 0 (Nat.zero_le _) (by omega)
theorem cNext (h : CS σ N nw nf l0 l1 sp g0 g1) {K : Nat} (hK : σ 41 5 = nI K) : f_X7_nextWayOf 41 (nI sp) σ = some (sNx N nw nf (σ 41 0) (σ 41 2) K, σ) := by
  rw [f_X7_nextWayOf, sNx]
  by_cases h2 : σ 41 0 = 2
  · rw [if_pos h2, cLast h, ob_some, if_neg (by rw [h2]; decide), if_neg (by rw [h2]; decide), if_pos h2]
  · rw [if_neg h2]
    by_cases h3 : σ 41 0 = 3
    · rw [if_pos h3, if_pos h3]
    · rw [if_neg h3, if_neg h3]
      by_cases h4 : σ 41 0 = 4
      · rw [if_pos h4, if_pos h4, cDrink h, ob_some]
        simp only [hK]
        by_cases q : nI (sDr N nf (σ 41 2)) &&& (nI K ^^^ (-1)) = 0
        · rw [if_pos q, if_pos q, if_pos trivial, cFirst h, ob_some]
        · rw [if_neg q, if_neg q, if_neg (by decide)]
      · rw [if_neg h4, if_neg h4, if_neg h2]
        by_cases h5 : σ 41 0 = 5
        · rw [if_pos h5, if_pos h5, cLast h, ob_some]
        · rw [if_neg h5, if_neg h5, cFirst h, ob_some]
end CLASS
theorem bset_or {K i : Nat} {t : Nat → Bool} {nf : Nat} (hK : K < 2 ^ nf) : bset nf (fun f => K.testBit f || (decide (f < 0) && t f)) = K := by
  refine bset_of hK (fun i hi => ?_)
  rw [decide_eq_false (Nat.not_lt_zero i)]
  simp
theorem imax1_lt (p st : Int32) : st < imax 1 p ↔ ¬ (p ≤ st ∧ 0 < st) := by
  have e1 : ∀ x : Int32, x < 1 ↔ ¬ 0 < x := by
    intro x
    rw [Int32.lt_iff_toInt_lt, Int32.lt_iff_toInt_lt, show (1 : Int32).toInt = 1 from by decide, show (0 : Int32).toInt = 0 from by decide]
    omega
  unfold imax
  by_cases h : 1 < p
  · rw [if_pos h]
    constructor
    · rintro a ⟨b, _⟩
      exact Int32.not_lt.mpr b a
    · intro a
      by_cases q : p ≤ st
      · exact absurd ⟨q, Int32.lt_of_lt_of_le (Int32.lt_trans (by decide) h) q⟩ a
      · exact Int32.not_le.mp q
  · rw [if_neg h, e1]
    have hp : p ≤ 1 := Int32.not_lt.mp h
    constructor
    · rintro a ⟨_, b⟩
      exact a b
    · intro a b
      refine a ⟨Int32.le_trans hp ?_, b⟩
      by_cases q : st < 1
      · exact absurd b ((e1 st).mp q)
      · exact Int32.not_lt.mp q
/-- the taste of those who drink, the first i of them through -/
theorem cTaste_L {N : Nat → Int32} {nw nf l0 l1 sp : Nat} {g0 g1 : Nat → Int32} {K : Nat} {st w : Int32} (hK : K < 2 ^ nf) : ∀ n i (σ : St), i ≤ nf → nf - i < n → CS σ N nw nf l0 l1 sp g0 g1 → σ 41 2 = w → σ 41 3 = st → σ 41 5 = nI (bset nf (fun f => K.testBit f || (decide (f < i) && sTs (tval 1 g1 l1) N st w 0 f))) →
    ∃ σ', f_X7_beTasted_L2 n 41 (N 0) (nI i) σ = some σ' ∧ same (fun q j => q = 39 ∨ q = 40 ∨ (q = 41 ∧ j = 5)) σ σ' ∧ σ' 41 5 = nI (sKn (tval 1 g1 l1) N nf st w 0 K) := by
  intro n
  induction n with
  | zero => intro i _ _ h; omega
  | succ n ih =>
    intro i σ hi hn h hw hst hk
    have f6 : nf ≤ 6 := h.1.2.1
    have h23 := h.1.2.2.2.2
    rw [f_X7_beTasted_L2, cSizF h23, ob_some]
    by_cases e : i = nf
    · subst e
      rw [if_pos Int32.le_rfl]
      refine ⟨σ, rfl, same.rf, hk.trans (congrArg nI (bset_congr (fun f hf => ?_)))⟩
      rw [decide_eq_true hf]
      rfl
    · have hlt : i < nf := by omega
      rw [if_neg (fun x => e (by have := (nI_leI (by omega) (by omega)).mp x; omega)), get25 σ (by omega), ob_some]
      dsimp only
      simp only [(h.2.2.1 i hlt).2, hst]
      -- nobody new
      have no : ∀ s : St, same (fun q _ => q = 39 ∨ q = 40) σ s → sTs (tval 1 g1 l1) N st w 0 i = false → ∃ σ', f_X7_beTasted_L2 n 41 (N 0) (nI i + 1) s = some σ' ∧ same (fun q j => q = 39 ∨ q = 40 ∨ (q = 41 ∧ j = 5)) σ σ' ∧ σ' 41 5 = nI (sKn (tval 1 g1 l1) N nf st w 0 K) := by
        intro s hs hf
        rw [nI_1]
        obtain ⟨σ', q1, q2, q3⟩ := ih (i + 1) s hlt (by omega) (h.fp (hs.mono (fun q j x => by unfold fpH; omega))) ((hs _ _ (by omega)).trans hw) ((hs _ _ (by omega)).trans hst) ((hs _ _ (by omega)).trans (hk.trans (congrArg nI (bset_congr (fun f hf' => by
          by_cases q : f = i
          · subst q
            rw [hf, Bool.and_false, Bool.and_false]
          · rw [show decide (f < i + 1) = decide (f < i) from by rw [decide_eq_decide]; omega])))))
        exact ⟨σ', q1, (hs.mono (fun q j x => by omega)).tr q2, q3⟩
      by_cases strong : N (82 + 3 * i) ≤ st ∧ 0 < st
      · rw [if_neg (fun x => (imax1_lt _ _).mp x strong), f_X7_beTasted_L44, if_neg (by decide), get23 σ (by omega), ob_some]
        dsimp only
        simp only [(h.2.2.1 i hlt).1, hw]
        by_cases hat : N (81 + 3 * i) = w
        · obtain ⟨s, g1', g2'⟩ := cG1 h st (N (82 + 3 * i)) (N 0)
          rw [if_pos hat, hst, g1', ob_some]
          dsimp only
          by_cases hg : tval 1 g1 l1 st (N (82 + 3 * i)) (N 0) = 0
          · rw [if_pos hg]
            exact no s g2' (by unfold sTs; rw [decide_eq_false (show ¬ tval 1 g1 l1 st (N (82 + 3 * i)) (N 0) ≠ 0 from fun x => x hg)]; simp)
          · have ts : sTs (tval 1 g1 l1) N st w 0 i = true := by
              unfold sTs
              rw [decide_eq_true hat.symm, decide_eq_true (show tval 1 g1 l1 st (N (82 + 3 * i)) (N 0) ≠ 0 from hg), decide_eq_true strong.1, decide_eq_true strong.2]
              rfl
            have k5 : s 41 5 = nI (bset nf (fun f => K.testBit f || (decide (f < i) && sTs (tval 1 g1 l1) N st w 0 f))) := (g2' _ _ (by omega)).trans hk
            have b256 : bset nf (fun f => K.testBit f || (decide (f < i) && sTs (tval 1 g1 l1) N st w 0 f)) < 256 := bset_256 (by omega) _
            rw [if_neg hg, k5, with_ok (b := true) (v := 1) b256 (by omega) (by decide), ob_some, bst_ok, nI_1]
            dsimp only
            have eqs : wm (bset nf (fun f => K.testBit f || (decide (f < i) && sTs (tval 1 g1 l1) N st w 0 f))) i true = bset nf (fun f => K.testBit f || (decide (f < i + 1) && sTs (tval 1 g1 l1) N st w 0 f)) := by
              refine bset_ext (wm_pw (bset_lt _ _) (by omega) hlt) (bset_lt _ _) (fun j hj => ?_)
              rw [wm_bit b256 (by omega) (by omega), bset_bit, bset_bit, decide_eq_true hj]
              by_cases q : j = i
              · subst q
                rw [if_pos rfl, ts, decide_eq_true (show j < j + 1 by omega)]
                simp
              · rw [if_neg q, show decide (j < i + 1) = decide (j < i) from by rw [decide_eq_decide]; omega]
            rw [eqs]
            obtain ⟨σ', q1, q2, q3⟩ := ih (i + 1) (up s 41 5 (nI (bset nf (fun f => K.testBit f || (decide (f < i + 1) && sTs (tval 1 g1 l1) N st w 0 f))))) hlt (by omega) ((h.fp (g2'.mono (fun q j x => by unfold fpH; omega))).fp (same_up (by unfold fpH; omega))) ((up_o (by omega)).trans ((g2' _ _ (by omega)).trans hw)) ((up_o (by omega)).trans ((g2' _ _ (by omega)).trans hst)) (up_e rfl rfl)
            exact ⟨σ', q1, ((g2'.mono (fun q j x => by omega)).tr (same_up (by omega))).tr q2, q3⟩
        · rw [if_neg hat]
          exact no σ same.rf (by unfold sTs; rw [decide_eq_false (fun x => hat x.symm)]; rfl)
      · rw [if_pos ((imax1_lt _ _).mpr strong), f_X7_beTasted_L44, if_pos rfl]
        refine no σ same.rf ?_
        unfold sTs
        by_cases q1 : N (82 + 3 * i) ≤ st
        · rw [decide_eq_false (show ¬ 0 < st from fun x => strong ⟨q1, x⟩)]
          simp
        · rw [decide_eq_false q1]
          simp
theorem sKn_far {G1 : TF} {N : Nat → Int32} {nf K : Nat} {st w lf : Int32} (hK : K < 2 ^ nf) (h : ¬ lf = 0) : sKn G1 N nf st w lf K = K := by
  refine bset_of hK (fun i hi => ?_)
  unfold sTs
  rw [decide_eq_false h]
  simp
theorem cPass {σ : St} {N : Nat → Int32} {nw nf l0 l1 sp K : Nat} {g0 g1 : Nat → Int32} (h : CS σ N nw nf l0 l1 sp g0 g1) (hk : σ 41 5 = nI K) (hK : K < 2 ^ nf) {st' x w' lf' : Int32}
    (e1 : st' = sSt (tval 0 g0 l0) N (σ 41 0) (σ 41 1) (σ 41 3)) (e2 : x = sNx N nw nf (σ 41 0) (σ 41 2) K) (e3 : w' = sAt N x (σ 41 2) (σ 41 4)) (e4 : lf' = sLf N x (σ 41 4)) :
    ∃ σ', f_X7_pass 41 (N 5) (nI sp) (N 0) σ = some σ' ∧ same fpH σ σ' ∧ σ' 41 2 = w' ∧ σ' 41 3 = st' ∧ σ' 41 4 = lf' ∧ σ' 41 5 = nI (sKn (tval 1 g1 l1) N nf st' w' lf' K) := by
  obtain ⟨s1, w1, w2⟩ := cWeak h (N 5)
  have est : imax 0 (σ 41 3 - wkK (σ 41 0) (σ 41 1) (tval 0 g0 l0 (σ 41 3) (σ 41 1) (N 5))) = st' := e1.symm
  rw [f_X7_pass, w1, ob_some, bst_ok]
  dsimp only
  rw [est]
  have S2 : same fpH σ (up s1 41 3 st') := (w2.mono (fun q j x => by unfold fpH; omega)).tr (same_up (by unfold fpH; omega))
  have C2 := h.fp S2
  have a0 : ∀ j, j ≠ 3 → (up s1 41 3 st') 41 j = σ 41 j := fun j hj => (up_o (Or.inr hj)).trans (w2 41 j (by omega))
  -- the end: those who drink there taste it, if it has come
  have fin : ∀ s : St, CS s N nw nf l0 l1 sp g0 g1 → same fpH σ s → s 41 2 = w' → s 41 3 = st' → s 41 4 = lf' → s 41 5 = nI K → ∃ σ', (if s 41 4 = 0 then (Option.bind (f_X7_beTasted 41 (N 0) s) fun r => some r) else some s) = some σ' ∧ same fpH σ σ' ∧ σ' 41 2 = w' ∧ σ' 41 3 = st' ∧ σ' 41 4 = lf' ∧ σ' 41 5 = nI (sKn (tval 1 g1 l1) N nf st' w' lf' K) := by
    intro s C S b2 b3 b4 b5
    by_cases z : lf' = 0
    · obtain ⟨σ', q1, q2, q3⟩ := cTaste_L (K := K) (st := st') (w := w') hK 400 0 s (Nat.zero_le _) (by have := h.1.2.1; omega) C b2 b3 (by rw [bset_or (i := 0) hK]; exact b5)
      rw [if_pos (b4.trans z), ob_eta1, f_X7_beTasted, show (0 : Int32) = nI 0 from rfl, q1, z]
      exact ⟨σ', rfl, S.tr (q2.mono (fun q j x => by unfold fpH; omega)), (q2 _ _ (by omega)).trans b2, (q2 _ _ (by omega)).trans b3, (q2 _ _ (by omega)).trans (b4.trans z), q3⟩
    · rw [if_neg (fun x => z (b4.symm.trans x)), sKn_far hK z]
      exact ⟨s, rfl, S, b2, b3, b4, b5⟩
  rw [a0 4 (by decide)]
  by_cases hl : σ 41 4 ≤ 0
  · have n1 := cNext C2 (K := K) ((a0 5 (by decide)).trans hk)
    rw [a0 0 (by decide), a0 2 (by decide), ← e2] at n1
    rw [if_pos hl, n1, ob_some]
    dsimp only
    rw [cHasW x C2.1.2.2.2.1, ob_some]
    dsimp only
    rw [if_bI]
    rcases sNx_ix N nw nf (σ 41 0) (σ 41 2) K with q | ⟨j, hj, q⟩
    · rw [← e2] at q
      rw [show isIx x nw = false from decide_eq_false (fun y => absurd (q ▸ y.1) (by decide))]
      refine fin _ C2 S2 ?_ (up_e rfl rfl) ?_ ((a0 5 (by decide)).trans hk)
      · rw [a0 2 (by decide), e3, sAt, if_pos hl, if_pos (by rw [q]; decide)]
      · rw [a0 4 (by decide), e4, sLf, if_pos hl, if_pos (by rw [q]; decide)]
    · rw [← e2] at q
      have w8 := h.1.1
      obtain ⟨p1, p2, p3, p4⟩ := C2.2.1 j hj
      rw [q, isIx_of hj (by omega)]
      dsimp only [cond]
      rw [get5 _ (by omega), ob_some, bst_ok]
      dsimp only
      rw [get7 _ (by omega), ob_some, bst_ok]
      dsimp only
      rw [p2, show (up (up s1 41 3 st') 41 2 (N (10 + 4 * j))) 8 j = N (11 + 4 * j) from (up_o (by omega)).trans p3]
      have S3 : same fpH σ (up (up (up s1 41 3 st') 41 2 (N (10 + 4 * j))) 41 4 (N (11 + 4 * j))) := (S2.tr (same_up (by unfold fpH; omega))).tr (same_up (by unfold fpH; omega))
      refine fin _ (h.fp S3) S3 ?_ ?_ ?_ ?_
      · rw [up_o (by omega), up_e rfl rfl, e3, sAt, if_pos hl, q, if_neg (nI_pos (by omega)), nI_clamp (by omega)]
      · rw [up_o (by omega), up_o (by omega), up_e rfl rfl]
      · rw [up_e rfl rfl, e4, sLf, if_pos hl, q, if_neg (nI_pos (by omega)), nI_clamp (by omega)]
      · rw [up_o (by omega), up_o (by omega), a0 5 (by decide), hk]
  · rw [if_neg hl, bst_ok]
    have S3 : same fpH σ (up (up s1 41 3 st') 41 4 (σ 41 4 - 1)) := S2.tr (same_up (by unfold fpH; omega))
    refine fin _ (h.fp S3) S3 ?_ ?_ ?_ ?_
    · rw [up_o (by omega), a0 2 (by decide), e3, sAt, if_neg hl]
    · rw [up_o (by omega), up_e rfl rfl]
    · rw [up_e rfl rfl, e4, sLf, if_neg hl]
    · rw [up_o (by omega), a0 5 (by decide), hk]
