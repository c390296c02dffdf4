/-! texts are read: what both readers hold -/
def PS (u nt op p m : Nat) (σ τ : St) : Prop :=
  (u ≤ 1 ∧ nt ≤ 50 ∧ p ≤ nt ∧ m ≤ p) ∧ (σ 87 2 = nI (u + 1) ∧ σ 87 3 = nI p ∧ σ 90 1 = nI nt ∧ σ 88 1 = nI m) ∧ (τ 1 7 = nI nt ∧ τ 0 6 = nI p ∧ τ 0 7 = nI op ∧ τ 0 8 = nI u ∧ τ 0 9 = 0 ∧ τ 0 11 = nI m) ∧
  (∀ i, i < nt → σ 91 i = τ 1 (99 + i) ∧ ∃ b, b < 256 ∧ τ 1 (99 + i) = nI b) ∧ ∀ i, i < m → τ 6 i = cvt (σ 89 i) ∧ okSign (σ 89 i)
def fpR (q j : Nat) : Prop := (q = 87 ∧ j = 3) ∨ q = 88 ∨ q = 89
def fmR (q j : Nat) : Prop := q = 6 ∨ (q = 0 ∧ (j = 6 ∨ j = 7 ∨ j = 9 ∨ j = 11))
/-- how a reading ends: both go on, or both stand still at one place -/
def Out (u nt op p m : Nat) (σ τ : St) (x : Option (Int32 × St)) (y : Option St) : Prop := ∃ σ' τ', y = some τ' ∧ same fpR σ σ' ∧ same fmR τ τ' ∧
  ((x = some (1, σ') ∧ ∃ p' m', PS u nt op p' m' σ' τ' ∧ p < p' ∧ m < m' ∧ m' + p ≤ p' + m ∧ (∀ i, i < m → σ' 89 i = σ 89 i) ∧ ∀ n, depG (σ' 89) (m' - m) m n = some (n + 1)) ∨
   (x = some (0, σ') ∧ ∃ p', p' ≤ nt ∧ σ' 87 3 = nI p' ∧ τ' 0 6 = nI p' ∧ τ' 0 9 = 1))
theorem up_id (σ : St) (k j : Nat) : up σ k j (σ k j) = σ := by
  funext q i
  rw [up_ap]
  by_cases h : q = k ∧ i = j
  · rw [if_pos h, h.1, h.2]
  · rw [if_neg h]
theorem up_up (σ : St) (k j : Nat) (a b : Int32) : up (up σ k j a) k j b = up σ k j b := by
  funext q i
  rw [up_ap, up_ap, up_ap]
  by_cases h : q = k ∧ i = j
  · rw [if_pos h, if_pos h]
  · rw [if_neg h, if_neg h, if_neg h]
section READ
variable {u nt op p m : Nat} {σ τ : St}
/-- the next byte, by both -/
theorem nextB (h : PS u nt op p m σ τ) : ∃ c, f_X1_next σ = some (c, σ) ∧ f_X11_here τ = some (c, τ) ∧ ((c = -1 ∧ p = nt) ∨ ∃ b, b < 256 ∧ c = nI b ∧ p < nt) := by
  obtain ⟨⟨a1, a2, a3, a4⟩, ⟨b1, b2, b3, b4⟩, ⟨c1, c2, c3, c4, c5, c6⟩, d, e⟩ := h
  rw [f_X1_next, b2, has_ok 90 _ σ b3, ob_some, f_X11_here, if_pos c5, c1, c2]
  dsimp only
  by_cases q : p < nt
  · obtain ⟨d1, b, hb, d2⟩ := d p q
    rw [isIx_of q (by omega), if_neg (show ¬ bI true = 0 by decide), if_neg (fun x => by have := (nI_leI (by omega) (by omega)).mp x; omega), b2, get90 σ (by omega), ob_some, show (99 : Int32) + nI p = nI (99 + p) from nI_add 99 p, if_in (by omega), clampN (by omega)]
    exact ⟨τ 1 (99 + p), by rw [← d1], rfl, Or.inr ⟨b, hb, d2, q⟩⟩
  · have : p = nt := by omega
    subst this
    rw [show isIx (nI p) p = false from decide_eq_false (fun x => absurd x.2 Int32.lt_irrefl), if_pos (show bI false = 0 from rfl), if_pos Int32.le_rfl]
    exact ⟨-1, rfl, rfl, Or.inl ⟨rfl, rfl⟩⟩
theorem takesF {c : Int32} (K : Int32) (hh : f_X11_here τ = some (c, τ)) (hK : ¬ c = K) : f_X11_takes K τ = some (0, τ) := by
  rw [f_X11_takes, hh, ob_some]
  dsimp only
  rw [if_neg hK, f_X11_takes_L13, if_pos rfl, bst_ok, Int32.add_zero, up_id, if_pos (Or.inl rfl)]
theorem takesT {c : Int32} (K : Int32) (hh : f_X11_here τ = some (c, τ)) (hK : c = K) (hp : τ 0 6 = nI p) : f_X11_takes K τ = some (1, up τ 0 6 (nI (p + 1))) := by
  rw [f_X11_takes, hh, ob_some]
  dsimp only
  rw [if_pos hK, f_X11_takes_L13, if_neg (by decide), bst_ok, hp, nI_1, if_pos (Or.inr rfl)]
theorem hereW (h : τ 0 9 = 1) : f_X11_here τ = some (-1, τ) := by
  rw [f_X11_here, h, if_neg (by decide)]
theorem codesW (h : τ 0 9 = 1) (v : Int32) : f_X11_codes v τ = some τ := by
  rw [f_X11_codes, h, if_neg (by decide)]
/-- a byte is taken by both -/
theorem PS.on (h : PS u nt op p m σ τ) (hp : p < nt) : PS u nt op (p + 1) m (up σ 87 3 (nI (p + 1))) (up τ 0 6 (nI (p + 1))) := by
  obtain ⟨⟨a1, a2, a3, a4⟩, ⟨b1, b2, b3, b4⟩, ⟨c1, c2, c3, c4, c5, c6⟩, d, e⟩ := h
  refine ⟨⟨a1, a2, hp, by omega⟩, ⟨(up_o (by omega)).trans b1, up_e rfl rfl, (up_o (by omega)).trans b3, (up_o (by omega)).trans b4⟩, ⟨(up_o (by omega)).trans c1, up_e rfl rfl, (up_o (by omega)).trans c3, (up_o (by omega)).trans c4, (up_o (by omega)).trans c5, (up_o (by omega)).trans c6⟩, fun i hi => ?_, fun i hi => ?_⟩
  · rw [up_o (by omega), up_o (by omega)]
    exact d i hi
  · rw [up_o (by omega), up_o (by omega)]
    exact e i hi
/-- a code is put down by both -/
theorem PS.put (h : PS u nt op p m σ τ) (hm : m < p) {x y : Int32} (hx : okSign x) (hy : y = cvt x) : ∃ σ' τ', f_X2_add 88 x σ = some σ' ∧ f_X11_codes y τ = some τ' ∧ PS u nt op p (m + 1) σ' τ' ∧ same fpR σ σ' ∧ same fmR τ τ' ∧ (∀ i, i < m → σ' 89 i = σ 89 i) ∧ σ' 89 m = x := by
  obtain ⟨⟨a1, a2, a3, a4⟩, ⟨b1, b2, b3, b4⟩, ⟨c1, c2, c3, c4, c5, c6⟩, d, e⟩ := h
  have hc : f_X11_codes y τ = some (up (up τ 6 m y) 0 11 (nI (m + 1))) := by
    rw [f_X11_codes, if_pos c5, c6, if_pos (show inb (nI m) (shM 6 - 100) = true from nI_inb (show m < 60 by omega) (by decide)), clampN (by omega), bst_ok, bst_ok, up_o (by omega), c6, nI_1]
  refine ⟨_, _, add88 x σ b4 (by omega), hc, ⟨⟨a1, a2, a3, hm⟩, ⟨?_, ?_, ?_, up_e rfl rfl⟩, ⟨?_, ?_, ?_, ?_, ?_, up_e rfl rfl⟩, fun i hi => ?_, fun i hi => ?_⟩, (same_up (Or.inr (Or.inr rfl))).tr (same_up (Or.inr (Or.inl rfl))), (same_up (Or.inl rfl)).tr (same_up (Or.inr ⟨rfl, by omega⟩)), fun i hi => ?_, ?_⟩
  · rw [up_o (by omega), up_o (by omega)]; exact b1
  · rw [up_o (by omega), up_o (by omega)]; exact b2
  · rw [up_o (by omega), up_o (by omega)]; exact b3
  · rw [up_o (by omega), up_o (by omega)]; exact c1
  · rw [up_o (by omega), up_o (by omega)]; exact c2
  · rw [up_o (by omega), up_o (by omega)]; exact c3
  · rw [up_o (by omega), up_o (by omega)]; exact c4
  · rw [up_o (by omega), up_o (by omega)]; exact c5
  · rw [up_o (by omega), up_o (by omega), up_o (by omega), up_o (by omega)]
    exact d i hi
  · by_cases q : i = m
    · subst q
      simp (disch := omega) only [up_o, up_e]
      exact ⟨hy, hx⟩
    · simp (disch := omega) only [up_o]
      exact e i (by omega)
  · simp (disch := omega) only [up_o]
  · simp (disch := omega) only [up_o, up_e]
/-- the count of brackets is another one -/
theorem PS.depth (h : PS u nt op p m σ τ) (o : Nat) : PS u nt o p m σ (up τ 0 7 (nI o)) := by
  obtain ⟨⟨a1, a2, a3, a4⟩, b, ⟨c1, c2, c3, c4, c5, c6⟩, d, e⟩ := h
  refine ⟨⟨a1, a2, a3, a4⟩, b, ⟨(up_o (by omega)).trans c1, (up_o (by omega)).trans c2, up_e rfl rfl, (up_o (by omega)).trans c4, (up_o (by omega)).trans c5, (up_o (by omega)).trans c6⟩, fun i hi => ?_, fun i hi => ?_⟩
  · rw [up_o (by omega)]
    exact d i hi
  · rw [up_o (by omega)]
    exact e i hi
end READ
theorem depG_add (g : Nat → Int32) : ∀ {a b i n k : Nat}, depG g a i n = some k → depG g (a + b) i n = depG g b (i + a) k
  | 0, b, i, n, k, h => by
    rw [depG] at h
    cases h
    rw [Nat.zero_add, Nat.add_zero]
  | a + 1, b, i, n, k, h => by
    rw [depG] at h
    rw [show a + 1 + b = a + b + 1 by omega, depG]
    cases hd : dep (g i) n with
    | none => rw [hd] at h; cases h
    | some x =>
      rw [hd] at h
      have := depG_add g (b := b) (show depG g a (i + 1) x = some k from h)
      rw [show i + (a + 1) = i + 1 + a by omega]
      exact this
/-! tables of bytes -/
def chs : Nat → List Nat
  | 1 => [115, 109, 114]
  | 2 => [115, 112, 104]
  | 3 => [48, 49, 50, 51, 52, 53, 54, 55, 56, 57]
  | 4 => [124]
  | 5 => [38]
  | 6 => [60, 61, 62]
  | 7 => [43, 45]
  | _ => [42, 47, 37]
theorem isIn_tab : ∀ e, e < 9 → 0 < e → ∀ b, b < 256 → decide (sidx e (toC (nI b)) < 0) = !((chs e).contains b) := by decide +kernel
theorem isIn_b {e b : Nat} (he : e < 9) (h0 : 0 < e) (hb : b < 256) (σ : St) : f_X1_isIn e (nI b) σ = some (bI ((chs e).contains b), σ) := by
  have := isIn_tab e he h0 b hb
  rw [f_X1_isIn, if_neg (nI_pos (by omega))]
  cases q : (chs e).contains b
  · rw [q] at this
    rw [if_pos (of_decide_eq_true this)]
    rfl
  · rw [q] at this
    rw [if_neg (of_decide_eq_false this)]
    rfl
theorem isIn_n {e : Nat} (σ : St) : f_X1_isIn e (-1) σ = some (bI false, σ) := by
  rw [f_X1_isIn, if_pos (by decide)]
  rfl
def sgs : List Nat := [124, 38, 60, 61, 62, 43, 45, 42, 47, 37]
/-- the reference's number for a sign -/
def rcS (b : Nat) : Int32 := if b = 124 then 20000 else if b = 38 then 20001 else if b = 60 then 20002 else if b = 61 then 20003 else if b = 62 then 20004 else if b = 43 then 20005 else if b = 45 then 20006 else if b = 42 then 20007 else if b = 47 then 20008 else 20009
theorem sg_tab : ∀ b, b ∈ sgs → rcS b = cvt (-(nI b)) ∧ (-(nI b)) ∈ signL ∧ ¬ (-3 : Int32) ≤ -(nI b) ∧ ¬ -(nI b) = -33 := by decide
theorem sg_dep {b n : Nat} (h : b ∈ sgs) : dep (-(nI b)) (n + 2) = some (n + 1) := by
  obtain ⟨-, -, h1, h2⟩ := sg_tab b h
  unfold dep
  rw [if_neg h1, if_neg h2, if_pos (by omega)]
  rfl
theorem sg_ok {b : Nat} (h : b ∈ sgs) : okSign (-(nI b)) := Or.inr (sg_tab b h).2.1
/-- names -/
def nmv (u b : Nat) : Int32 := if u = 0 then (if b = 114 then 2 else if b = 109 then 1 else if b = 115 then 0 else -1) else (if b = 104 then 2 else if b = 112 then 1 else if b = 115 then 0 else -1)
theorem nm_tab : ∀ u, u < 2 → ∀ b, b < 256 → ((chs (u + 1)).contains b = decide (0 ≤ nmv u b)) ∧ ((chs (u + 1)).contains b = true → sidx (u + 1) (toC (nI b)) = nmv u b ∧ (-1 - nmv u b) ∈ signL ∧ 10000 + nmv u b = cvt (-1 - nmv u b) ∧ -3 ≤ -1 - nmv u b) := by decide +kernel
theorem dg_tab : ∀ b, b < 256 → btw (nI b) 48 57 = (chs 3).contains b := by decide +kernel
theorem dg_in : ∀ b, b < 256 → (chs 3).contains b = true → 48 ≤ b ∧ b ≤ 57 := by decide +kernel
theorem up9 (τ : St) (h : τ 0 9 = 0) : up τ 0 9 0 = τ := by
  rw [← h]
  exact up_id τ 0 9
section READ2
variable {u nt op m : Nat}
/-- a number is read by both -/
theorem numL (q : FamT_X11) : ∀ k f f' i v p (σ τ : St), i + k = 4 → k < f → k < f' → v < 10 ^ i → PS u nt op p m σ τ → (0 < i ∨ ∃ b, b < 256 ∧ (chs 3).contains b = true ∧ f_X1_next σ = some (nI b, σ)) → (0 < i → m < p) →
    ∃ σ' τ' p' w, f_X1_readNumber_L4 f (nI v) (nI i) σ = some σ' ∧ f_X11_one_L131 q f' (nI v) (nI i) τ = some τ' ∧ PS u nt op p' (m + 1) σ' τ' ∧ (p < p' ∨ (0 < i ∧ p ≤ p')) ∧ same fpR σ σ' ∧ same fmR τ τ' ∧ (∀ j, j < m → σ' 89 j = σ 89 j) ∧ w ≤ 9999 ∧ σ' 89 m = nI w := by
  intro k
  have fin : ∀ i v p (σ τ : St), i ≤ 4 → v < 10 ^ i → PS u nt op p m σ τ → m < p → 0 < i → ∃ σ' τ' p' w, f_X2_add 88 (nI v) σ = some σ' ∧ f_X11_codes (nI v) τ = some τ' ∧ PS u nt op p' (m + 1) σ' τ' ∧ (p < p' ∨ (0 < i ∧ p ≤ p')) ∧ same fpR σ σ' ∧ same fmR τ τ' ∧ (∀ j, j < m → σ' 89 j = σ 89 j) ∧ w ≤ 9999 ∧ σ' 89 m = nI w := by
    intro i v p σ τ hi hv h hm h0
    have hv' : v < 10 ^ 4 := Nat.lt_of_lt_of_le hv (Nat.pow_le_pow_right (by decide) hi)
    obtain ⟨σ', τ', e1, e2, e3, e4, e5, e6, e7⟩ := h.put hm (x := nI v) (y := nI v) (Or.inl ⟨nI_pos' (by omega), (nI_leI (b := 9999) (by omega) (by decide)).mpr (by omega)⟩) (by rw [cvt, if_pos (nI_pos' (by omega))])
    exact ⟨σ', τ', p, v, e1, e2, e3, Or.inr ⟨h0, Nat.le_refl _⟩, e4, e5, e6, by omega, e7⟩
  induction k with
  | zero =>
    intro f f' i v p σ τ hi hf hf' hv h hd hm
    obtain ⟨f, rfl⟩ : ∃ x, f = x + 1 := ⟨f - 1, by omega⟩
    obtain ⟨f', rfl⟩ : ∃ x, f' = x + 1 := ⟨f' - 1, by omega⟩
    have : i = 4 := by omega
    subst this
    rw [f_X1_readNumber_L4, f_X11_one_L131, if_pos (by decide), if_pos (by decide), ob_eta1, ob_eta1]
    exact fin 4 v p σ τ (by decide) hv h (hm (by decide)) (by decide)
  | succ k ih =>
    intro f f' i v p σ τ hi hf hf' hv h hd hm
    obtain ⟨f, rfl⟩ : ∃ x, f = x + 1 := ⟨f - 1, by omega⟩
    obtain ⟨f', rfl⟩ : ∃ x, f' = x + 1 := ⟨f' - 1, by omega⟩
    have hneg : ¬ (4 : Int32) ≤ nI i := fun x => by have := (nI_leI (a := 4) (by decide) (by omega)).mp x; omega
    obtain ⟨c, c1, c2, c3⟩ := nextB h
    rw [f_X1_readNumber_L4, f_X11_one_L131, if_neg hneg, if_neg hneg, c1, c2, ob_some, ob_some]
    dsimp only
    rw [mwithin_ok, ob_some]
    have stop : ∀ (σx τx : St), σx = σ → τx = τ → 0 < i → ∃ σ' τ' p' w, (Option.bind (f_X2_add 88 (nI v) σx) fun r4 => some r4) = some σ' ∧ (Option.bind (f_X11_codes (nI v) τx) fun r24 => some r24) = some τ' ∧ PS u nt op p' (m + 1) σ' τ' ∧ (p < p' ∨ (0 < i ∧ p ≤ p')) ∧ same fpR σ σ' ∧ same fmR τ τ' ∧ (∀ j, j < m → σ' 89 j = σ 89 j) ∧ w ≤ 9999 ∧ σ' 89 m = nI w := by
      intro σx τx e1 e2 h0
      subst e1
      subst e2
      rw [ob_eta1, ob_eta1]
      exact fin i v p σx τx (by omega) hv h (hm h0) h0
    rcases c3 with ⟨rfl, hp⟩ | ⟨b, hb, rfl, hp⟩
    · rw [isIn_n, ob_some, if_pos (show bI false = 0 from rfl)]
      dsimp only
      rw [if_pos (show bI (btw (-1) 48 57) = 0 by decide)]
      refine stop σ τ rfl rfl ?_
      rcases hd with hd | ⟨b, hb, -, hd⟩
      · exact hd
      · rw [c1] at hd
        have := congrArg (fun o => o.map Prod.fst) hd
        have x : (-1 : Int32) = nI b := Option.some.inj this
        have y := nI_pos' (n := b) (by omega)
        rw [← x] at y
        exact absurd y (by decide)
    · rw [isIn_b (e := 3) (by decide) (by decide) hb, ob_some, dg_tab b hb]
      dsimp only
      rw [if_bI, if_bI]
      cases q1 : (chs 3).contains b
      · refine stop σ τ rfl rfl ?_
        rcases hd with hd | ⟨b', hb', hc', hd⟩
        · exact hd
        · rw [c1] at hd
          have e := congrArg (fun o => o.map Prod.fst) hd
          have e2 : b = b' := (nI_eq (by omega) (by omega)).mp (Option.some.inj e)
          rw [← e2, q1] at hc'
          cases hc'
      · dsimp only [cond]
        obtain ⟨d1, d2⟩ := dg_in b hb q1
        have pe : τ 0 6 = nI p := h.2.2.1.2.1
        have pc : σ 87 3 = nI p := h.2.1.2.1
        have val : 10 * nI v + nI b - 48 = nI (10 * v + b - 48) := by
          rw [show (10 : Int32) = nI 10 from rfl, show (48 : Int32) = nI 48 from rfl, pk_mul, nI_add, pk_sub (by omega)]
        rw [c1, c2, ob_some, ob_some, bst_ok, bst_ok]
        dsimp only
        rw [pc, pe, nI_1, nI_1, val]
        have hv2 : 10 * v + b - 48 < 10 ^ (i + 1) := by
          rw [Nat.pow_succ]
          omega
        obtain ⟨σ', τ', p', w, e1, e2, e3, e4, e5, e6, e7, e8, e9⟩ := ih f f' (i + 1) (10 * v + b - 48) (p + 1) _ _ (by omega) (by omega) (by omega) hv2 (h.on hp) (Or.inl (by omega)) (fun _ => by have := h.1.2.2.2; omega)
        refine ⟨σ', τ', p', w, e1, e2, e3, Or.inl (by omega), (same_up (Or.inl ⟨rfl, rfl⟩)).tr e5, (same_up (Or.inr ⟨rfl, by omega⟩)).tr e6, fun j hj => (e7 j hj).trans (up_o (by omega)), e8, e9⟩
end READ2
