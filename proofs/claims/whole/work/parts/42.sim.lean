/-! both readers, level by level -/
def RLv : Nat → Nat → St → Option St
  | 0, G => (fam_X11 G).2.2.1
  | 1, G => (fam_X11 G).1
  | 2, G => (fam_X11 G).2.1
  | 3, G => (fam_X11 G).2.2.2.2.2
  | 4, G => (fam_X11 G).2.2.2.2.1
  | _, G => (fam_X11 G).2.2.2.1
/-- level l (0 to 4; 5: one) with o brackets: both end alike, from F and G levels of calls on -/
def SimL (u nt l o KF KG : Nat) : Prop := ∀ F G, KF ≤ F → KG ≤ G → ∀ p m σ τ, PS u nt o p m σ τ →
  Out u nt o p m σ τ (if l = 5 then (fam_X1 F).2.2.2.1 (nI o) σ else (fam_X1 F).1 (nI l) (nI o) σ) (RLv l G τ)
/-- a part of level l is what the next level reads -/
theorem part_ok {u nt l o KF KG : Nat} (hl : l ≤ 4) (h : SimL u nt (l + 1) o KF KG) : ∀ F G, KF + 1 ≤ F → KG ≤ G → ∀ p m σ τ, PS u nt o p m σ τ → Out u nt o p m σ τ ((fam_X1 F).2.2.2.2 (nI l) (nI o) σ) (RLv (l + 1) G τ) := by
  intro F G hF hG p m σ τ P
  obtain ⟨F, rfl⟩ : ∃ x, F = x + 1 := ⟨F - 1, by omega⟩
  have := h F G (by omega) hG p m σ τ P
  show Out u nt o p m σ τ (f_X1_readsPart (fam_X1 F) (nI l) (nI o) σ) _
  rw [f_X1_readsPart]
  by_cases h4 : l = 4
  · subst h4
    rw [if_pos rfl] at this
    rw [if_pos (by decide)]
    obtain ⟨σ', τ', e1, e2, e3, e4⟩ := this
    refine ⟨σ', τ', e1, e2, e3, ?_⟩
    rcases e4 with ⟨e4, e5⟩ | ⟨e4, e5⟩
    · exact Or.inl ⟨by rw [e4, ob_some, if_pos (Or.inr rfl)], e5⟩
    · exact Or.inr ⟨by rw [e4, ob_some, if_pos (Or.inl rfl)], e5⟩
  · rw [if_neg (by omega)] at this
    rw [if_neg (show ¬ (4 : Int32) ≤ nI l from fun x => by have := (nI_leI (a := 4) (by decide) (by omega)).mp x; omega), nI_1]
    obtain ⟨σ', τ', e1, e2, e3, e4⟩ := this
    refine ⟨σ', τ', e1, e2, e3, ?_⟩
    rcases e4 with ⟨e4, e5⟩ | ⟨e4, e5⟩
    · exact Or.inl ⟨by rw [e4, ob_some, if_pos (Or.inr rfl)], e5⟩
    · exact Or.inr ⟨by rw [e4, ob_some, if_pos (Or.inl rfl)], e5⟩
theorem chs_sgs : ∀ e, 4 ≤ e → e < 9 → ∀ b, (chs e).contains b = true → b ∈ sgs := by
  intro e h1 h2 b hb
  have hb := List.contains_iff_mem.mp hb
  have : e = 4 ∨ e = 5 ∨ e = 6 ∨ e = 7 ∨ e = 8 := by omega
  rcases this with rfl | rfl | rfl | rfl | rfl
  · have : b = 124 := by simpa [chs] using hb
    subst this; decide
  · have : b = 38 := by simpa [chs] using hb
    subst this; decide
  · have : b = 60 ∨ b = 61 ∨ b = 62 := by simpa [chs] using hb
    rcases this with rfl | rfl | rfl <;> decide
  · have : b = 43 ∨ b = 45 := by simpa [chs] using hb
    rcases this with rfl | rfl <;> decide
  · have : b = 42 ∨ b = 47 ∨ b = 37 := by simpa [chs] using hb
    rcases this with rfl | rfl | rfl <;> decide
section LOOP
variable {u nt l o : Nat} {q : FamT_X1} {pr : St → Option St}
/-- a sign and the part behind it -/
theorem iter (hl : l ≤ 4) (PP : ∀ p m σ τ, PS u nt o p m σ τ → Out u nt o p m σ τ (q.2.2.2.2 (nI l) (nI o) σ) (pr τ)) (K : St → Option St) {p m b i : Nat} {σ τ : St} (h : PS u nt o p m σ τ) (hm : 0 < m) (hb : b < 256) (hc : (chs (4 + l)).contains b = true) (hn : f_X1_next σ = some (nI b, σ)) (hp : p < nt) (hi : i < 50) (f : Nat) :
    ∃ σ' τ', same fpR σ σ' ∧ same fmR τ τ' ∧ (Option.bind (pr (up τ 0 6 (nI (p + 1)))) fun r => Option.bind (f_X11_codes (rcS b) r) K) = K τ' ∧
      ((f_X1_reads_L19 q (f + 1) (nI l) (nI o) (4 + l) (nI i) σ = (if nI l = 2 then some (1, σ') else f_X1_reads_L19 q f (nI l) (nI o) (4 + l) (nI (i + 1)) σ') ∧ ∃ p' m', PS u nt o p' m' σ' τ' ∧ p + 2 ≤ p' ∧ m < m' ∧ m' + p ≤ p' + m ∧ (∀ j, j < m → σ' 89 j = σ 89 j) ∧ ∀ n, depG (σ' 89) (m' - m) m (n + 1) = some (n + 1)) ∨
       (f_X1_reads_L19 q (f + 1) (nI l) (nI o) (4 + l) (nI i) σ = some (0, σ') ∧ ∃ p', p' ≤ nt ∧ σ' 87 3 = nI p' ∧ τ' 0 6 = nI p' ∧ τ' 0 9 = 1)) := by
  have hs := chs_sgs (4 + l) (by omega) (by omega) b hc
  obtain ⟨s1, s2, s3, s4⟩ := sg_tab b hs
  obtain ⟨σ1, τ1, e1, e2, e3, e4⟩ := PP (p + 1) m _ _ (h.on hp)
  have S1 : same fpR σ σ1 := (same_up (Or.inl ⟨rfl, rfl⟩)).tr e2
  have S2 : same fmR τ τ1 := (same_up (Or.inr ⟨rfl, Or.inl rfl⟩)).tr e3
  rw [f_X1_reads_L19, if_neg (show ¬ (50 : Int32) ≤ nI i from fun x => by have := (nI_leI (a := 50) (by decide) (by omega)).mp x; omega), hn, ob_some]
  dsimp only
  rw [isIn_b (by omega) (by omega) hb, hc, ob_some]
  dsimp only
  rw [if_neg (show ¬ bI true = 0 by decide), hn, ob_some, bst_ok]
  dsimp only
  rw [h.2.1.2.1, nI_1]
  rcases e4 with ⟨e4, p1, m1, P1, hp1, hm1, hbal, hpre, hdep⟩ | ⟨e4, p1, h1, h2, h3, h4⟩
  · have hmp : m1 < p1 := by
      have := h.1.2.2.2
      omega
    obtain ⟨σ2, τ2, g1, g2, P2, g3, g4, g5, g6⟩ := P1.put hmp (sg_ok hs) s1
    refine ⟨σ2, τ2, S1.tr g3, S2.tr g4, by rw [e1, ob_some, g2, ob_some], Or.inl ⟨?_, p1, m1 + 1, P2, by omega, by omega, by omega, fun j hj => ?_, fun n => ?_⟩⟩
    · rw [e4, ob_some, nI_1]
      dsimp only
      rw [if_neg (by decide), g1, ob_some]
    · rw [g5 j (by omega), hpre j hj]
      exact up_o (by omega)
    · have d1 : depG (σ2 89) (m1 - m) m (n + 1) = some (n + 2) := by
        rw [← hdep (n + 1)]
        exact depG_congr (fun j a b => g5 j (by omega))
      rw [show m1 + 1 - m = m1 - m + 1 by omega, depG_add (σ2 89) d1, show m + (m1 - m) = m1 by omega, depG, g6, sg_dep hs]
      rfl
  · refine ⟨σ1, τ1, S1, S2, by rw [e1, ob_some, codesW h4, ob_some], Or.inr ⟨?_, p1, h1, h2, h3, h4⟩⟩
    rw [e4, ob_some]
    dsimp only
    rw [if_pos rfl]
/-- the loop of a level other than 2 -/
theorem loopL (hl : l ≤ 4) (h2 : l ≠ 2) (PP : ∀ p m σ τ, PS u nt o p m σ τ → Out u nt o p m σ τ (q.2.2.2.2 (nI l) (nI o) σ) (pr τ)) (CT : Nat → St → Option St)
    (hA : ∀ n τ c, f_X11_here τ = some (c, τ) → (c = -1 ∨ ∃ b, b < 256 ∧ c = nI b ∧ (chs (4 + l)).contains b = false) → CT n τ = some τ)
    (hB : ∀ n τ b p, f_X11_here τ = some (nI b, τ) → (chs (4 + l)).contains b = true → τ 0 6 = nI p → CT (n + 1) τ = Option.bind (pr (up τ 0 6 (nI (p + 1)))) fun r => Option.bind (f_X11_codes (rcS b) r) (CT n))
    {m0 p0 : Nat} {σ0 τ0 : St} : ∀ k f n i p m (σ τ : St), i + k = 50 → k < f → k ≤ n → i + 1 ≤ p → p0 < p → PS u nt o p m σ τ → m0 < m → m + p0 ≤ p + m0 → same fpR σ0 σ → same fmR τ0 τ → (∀ j, j < m0 → σ 89 j = σ0 89 j) → (∀ x, depG (σ 89) (m - m0) m0 x = some (x + 1)) →
      Out u nt o p0 m0 σ0 τ0 (f_X1_reads_L19 q f (nI l) (nI o) (4 + l) (nI i) σ) (CT n τ) := by
  intro k
  have fin : ∀ n p m (σ τ : St) (x : Option (Int32 × St)), x = some (1, σ) → CT n τ = some τ → p0 < p → PS u nt o p m σ τ → m0 < m → m + p0 ≤ p + m0 → same fpR σ0 σ → same fmR τ0 τ → (∀ j, j < m0 → σ 89 j = σ0 89 j) → (∀ x, depG (σ 89) (m - m0) m0 x = some (x + 1)) → Out u nt o p0 m0 σ0 τ0 x (CT n τ) :=
    fun n p m σ τ x hx hc hp P hm bal S1 S2 pre dp => ⟨σ, τ, hc, S1, S2, Or.inl ⟨hx, p, m, P, hp, hm, bal, pre, dp⟩⟩
  induction k with
  | zero =>
    intro f n i p m σ τ hi hf hn hip hp P
    have := P.1.2.1
    have := P.1.2.2.1
    omega
  | succ k ih =>
    intro f n i p m σ τ hi hf hn hip hp P hm bal S1 S2 pre dp
    obtain ⟨f, rfl⟩ : ∃ x, f = x + 1 := ⟨f - 1, by omega⟩
    obtain ⟨n, rfl⟩ : ∃ x, n = x + 1 := ⟨n - 1, by omega⟩
    obtain ⟨c, c1, c2, c3⟩ := nextB P
    have stop : ∀ d : Bool, d = false → f_X1_isIn (4 + l) c σ = some (bI d, σ) → f_X1_reads_L19 q (f + 1) (nI l) (nI o) (4 + l) (nI i) σ = some (1, σ) := by
      intro d hd e
      rw [f_X1_reads_L19, if_neg (show ¬ (50 : Int32) ≤ nI i from fun x => by have := (nI_leI (a := 50) (by decide) (by omega)).mp x; omega), c1, ob_some]
      dsimp only
      rw [e, hd, ob_some]
      dsimp only
      rw [if_pos (show bI false = 0 from rfl)]
    rcases c3 with ⟨rfl, hpn⟩ | ⟨b, hb, rfl, hpn⟩
    · exact fin (n + 1) p m σ τ _ (stop false rfl (isIn_n σ)) (hA (n + 1) τ (-1) c2 (Or.inl rfl)) hp P hm bal S1 S2 pre dp
    · cases hc : (chs (4 + l)).contains b
      · exact fin (n + 1) p m σ τ _ (stop false rfl (by rw [isIn_b (by omega) (by omega) hb, hc])) (hA (n + 1) τ (nI b) c2 (Or.inr ⟨b, hb, rfl, hc⟩)) hp P hm bal S1 S2 pre dp
      · obtain ⟨σ', τ', T1, T2, r1, r2⟩ := iter hl PP (CT n) P (by omega) hb hc c1 hpn (show i < 50 by omega) f
        rw [hB n τ b p c2 hc P.2.2.1.2.1, r1]
        rcases r2 with ⟨r2, p', m', P', hp', hm', hbal', pre', dp'⟩ | ⟨r2, p', z1, z2, z3, z4⟩
        · rw [r2, if_neg (show ¬ nI l = 2 from d_ne (show l ≤ 6 by omega) (show 2 ≤ 6 by decide) h2)]
          refine ih f n (i + 1) p' m' σ' τ' (by omega) (by omega) (by omega) (by omega) (by omega) P' (by omega) (by omega) (S1.tr T1) (S2.tr T2) (fun j hj => (pre' j (by omega)).trans (pre j hj)) (fun x => ?_)
          have d1 : depG (σ' 89) (m - m0) m0 x = some (x + 1) := by
            rw [← dp x]
            exact depG_congr (fun j a b => pre' j (by omega))
          rw [show m' - m0 = m - m0 + (m' - m) by omega, depG_add (σ' 89) d1, show m0 + (m - m0) = m by omega]
          exact dp' x
        · rw [r2, hA n τ' (-1) (hereW z4) (Or.inl rfl)]
          exact ⟨σ', τ', rfl, S1.tr T1, S2.tr T2, Or.inr ⟨rfl, p', z1, z2, z3, z4⟩⟩
end LOOP
