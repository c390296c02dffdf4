/-! voices -/
def kkT : List Nat := [0, 0, 0, 0, 1, 0, 0, 0, 0, 2, 0, 0, 0, 0, 3, 0, 1, 0, 0, 4, 0, 5, 0, 0, 0, 0, 6, 6]
theorem le3 {d : Nat} (h : d ≤ 3) : d = 0 ∨ d = 1 ∨ d = 2 ∨ d = 3 := by omega
theorem says_k (q : FamT_X8) {fr a : Nat} (hf : fr ≤ 6) (ha : a ≤ 3) (x D : Int32) (σ : St) : f_X8_says q (nI fr) (nI a) x D σ = f_X8_says_L42 q (nI a) x D (nI (kkT.getD (fr * 4 + a) 0)) σ := by
  rcases le6 hf with rfl | rfl | rfl | rfl | rfl | rfl | rfl <;> rcases le3 ha with rfl | rfl | rfl | rfl <;> rfl
theorem sayStep (m : Nat) {fr a : Nat} (hf : fr ≤ 6) (ha : a ≤ 3) {k : Nat} (hk : kkT.getD (fr * 4 + a) 0 = k) (B U : Int32) (hB : ∀ s : St, f_X8_bodyOf (nI k) (nI a) s = some (B, s)) (hU : ∀ s : St, f_X8_above (nI k) s = some (U, s)) (h6 : k < 100) {D : Nat} (hD : D ≤ 40) (x : Int32) {σ σ' : St} (he : f_X2_add 93 B σ = some σ') :
    (fam_X8 (m + 2)).1 (nI fr) (nI a) x (nI D) σ = f_X8_saysBody (fam_X8 m) B U x (nI (D + 1)) σ' := by
  show f_X8_says (fam_X8 (m + 1)) (nI fr) (nI a) x (nI D) σ = _
  rw [says_k _ hf ha, hk, f_X8_says_L42, if_neg (nI_pos (by omega)), if_pos (show nI D ≤ 40 from (nI_leI (b := 40) (by omega) (by decide)).mpr hD), hB, ob_some]
  dsimp only
  rw [he, ob_some, hB, ob_some]
  dsimp only
  rw [hU, ob_some, ob_eta, nI_1]
  rfl
/-- both speak of saying s of kind d with number g; what they ran is the same -/
def VV (d s : Nat) (g : Int32) (σ0 τ0 σ τ : St) : Prop := (σ 92 1 = nI s ∧ σ 92 2 = nI d ∧ σ 92 3 = g ∧ τ 0 16 = nI d ∧ τ 0 17 = nI s ∧ τ 0 18 = g) ∧ RT σ τ ∧ same (fun q _ => q = 93 ∨ q = 94) σ0 σ ∧ same (fun q j => q = 9 ∨ (q = 0 ∧ j = 15)) τ0 τ
section VOICE
variable {d s : Nat} {g : Int32} {σ0 τ0 σ τ : St}
theorem tick (h : VV d s g σ0 τ0 σ τ) (b : Int32) : ∃ σ' τ', f_X2_add 93 b σ = some σ' ∧ f_X11_ran b τ = some τ' ∧ VV d s g σ0 τ0 σ' τ' := by
  obtain ⟨⟨a1, a2, a3, a4, a5, a6⟩, ⟨n, n1, n2, n3, n4⟩, S1, S2⟩ := h
  have n3' : σ 93 1 = nI n := n3
  by_cases e : n = 40
  · subst e
    refine ⟨σ, τ, ?_, ?_, ⟨a1, a2, a3, a4, a5, a6⟩, ⟨40, n1, n2, n3, n4⟩, S1, S2⟩
    · rw [f_X2_add, n3', if_neg (by decide), if_pos (by decide)]
    · rw [f_X11_ran, n2, if_pos (by decide)]
  · have hn : n < 40 := by omega
    refine ⟨_, up (up τ 9 n b) 0 15 (nI (n + 1)), add93 b σ n3' hn, ?_, ⟨?_, ?_, ?_, ?_, ?_, ?_⟩, ⟨n + 1, hn, up_e rfl rfl, up_e rfl rfl, fun j hj => ?_⟩, (S1.tr (same_up (Or.inr rfl))).tr (same_up (Or.inl rfl)), (S2.tr (same_up (Or.inl rfl))).tr (same_up (Or.inr ⟨rfl, rfl⟩))⟩
    · rw [f_X11_ran, n2, if_neg (show ¬ (40 : Int32) ≤ nI n from fun x => by have := (nI_leI (a := 40) (by decide) (by omega)).mp x; omega), if_pos (show inb (nI n) (shM 9 - 100) = true from nI_inb hn (by decide)), clampN (by omega), bst_ok, bst_ok, up_o (by omega), n2, nI_1]
    · rw [up_o (by omega), up_o (by omega)]; exact a1
    · rw [up_o (by omega), up_o (by omega)]; exact a2
    · rw [up_o (by omega), up_o (by omega)]; exact a3
    · rw [up_o (by omega), up_o (by omega)]; exact a4
    · rw [up_o (by omega), up_o (by omega)]; exact a5
    · rw [up_o (by omega), up_o (by omega)]; exact a6
    · by_cases q : j = n
      · subst q
        simp (disch := omega) only [up_o, up_e]
      · simp (disch := omega) only [up_o]
        exact n4 j (by omega)
theorem kk_calls : ∀ d, d ≤ 6 → (kkT.getD (d * 4 + 0) 0 = 0 ∧ und d 1 = false) ∨ (kkT.getD (d * 4 + 0) 0 = 1 ∧ und d 1 = true) := by decide
theorem kk_clears : ∀ d, d ≤ 6 → (kkT.getD (d * 4 + 2) 0 = 0 ∧ und d 3 = false ∧ d ≠ 6) ∨ d = 3 ∨ d = 6 := by decide
theorem kk_echoes : ∀ d, d ≤ 6 → (kkT.getD (d * 4 + 1) 0 = 0 ∧ und d 2 = false ∧ d ≠ 5) ∨ d = 2 ∨ d = 5 := by decide
theorem kk_tastes : ∀ d, d ≤ 6 → (kkT.getD (d * 4 + 3) 0 = 0 ∧ d ≠ 6 ∧ d ≠ 4) ∨ d = 4 ∨ d = 6 := by decide
theorem d_ne {d k : Nat} (hd : d ≤ 6) (hk : k ≤ 6) (h : d ≠ k) : ¬ nI d = nI k := fun x => h ((nI_eq (by omega) (by omega)).mp x)
theorem vCalls (hd : d ≤ 6) (m : Nat) {D : Nat} (hD : D ≤ 30) (x : Int32) (h : VV d s g σ0 τ0 σ τ) : ∃ r σ' τ', (fam_X8 (m + 4)).1 (nI d) 0 x (nI D) σ = some (r, σ') ∧ f_X11_callsOf x τ = some (r, τ') ∧ VV d s g σ0 τ0 σ' τ' := by
  have U : ∀ t : St, f_X11_isUnder (nI d) 1 t = some (bI (und d 1), t) := fun t => mUnder hd (show 1 ≤ 6 by decide) t
  rw [f_X11_callsOf, h.1.2.2.2.1, U, ob_some]
  dsimp only
  rcases kk_calls d hd with ⟨k, u⟩ | ⟨k, u⟩
  · rw [u, if_pos (show bI false = 0 from rfl), f_X11_callsOf_L19]
    obtain ⟨σ1, τ1, e1, e2, V1⟩ := tick h 10
    rw [show (0 : Int32) = nI 0 from rfl, sayStep (m + 2) hd (a := 0) (by decide) k 10 (-1) (fun _ => rfl) (fun _ => rfl) (by decide) (by omega) x e1, e2, ob_some]
    rw [f_X8_saysBody, if_pos rfl]
    rw [if_pos (show bI false = nI 0 from rfl), V1.1.1, V1.1.2.2.2.2.1]
    exact ⟨_, σ1, τ1, rfl, rfl, V1⟩
  · rw [u, if_neg (show ¬ bI true = 0 by decide)]
    obtain ⟨σ1, τ1, e1, e2, V1⟩ := tick h 20
    obtain ⟨σ2, τ2, e3, e4, V2⟩ := tick V1 10
    have inner : ∀ D, D ≤ 40 → (fam_X8 (m + 2)).1 0 0 x (nI D) σ1 = some (x + nI s, σ2) := by
      intro D hD
      have := sayStep m (fr := 0) (a := 0) (by decide) (by decide) (k := 0) rfl 10 (-1) (fun _ => rfl) (fun _ => rfl) (by decide) hD x e3
      rw [n0] at this
      rw [this]
      rw [f_X8_saysBody, if_pos rfl]
      rw [V2.1.1]
    have stp := sayStep (m + 2) hd (a := 0) (by decide) k 20 0 (fun _ => rfl) (fun _ => rfl) (by decide) (show D ≤ 40 by omega) x e1
    rw [n0] at stp
    rw [stp, e2, ob_some, f_X11_callsOf_L19, e4, ob_some]
    rw [f_X8_saysBody, if_neg (by decide), if_neg (by decide), if_neg (by decide), if_neg (by decide), if_pos rfl]
    rw [inner (D + 1) (by omega), ob_some, if_neg (show ¬ bI true = 0 by decide), V2.1.2.2.2.2.1]
    exact ⟨_, σ2, τ2, rfl, rfl, V2⟩
theorem vClears (hd : d ≤ 6) (m : Nat) {D : Nat} (hD : D ≤ 30) (x : Int32) (h : VV d s g σ0 τ0 σ τ) : ∃ r σ' τ', (fam_X8 (m + 6)).1 (nI d) 2 x (nI D) σ = some (r, σ') ∧ f_X11_clearsOf x τ = some (r, τ') ∧ VV d s g σ0 τ0 σ' τ' := by
  have U : ∀ t : St, f_X11_isUnder (nI d) 3 t = some (bI (und d 3), t) := fun t => mUnder hd (show 3 ≤ 6 by decide) t
  -- 12, from saying on
  have b12 : ∀ (m D : Nat) (σ σ' : St), D ≤ 40 → f_X2_add 93 12 σ = some σ' → σ' 92 3 = g → (fam_X8 (m + 2)).1 0 2 x (nI D) σ = some (x - g, σ') := by
    intro m D σ σ' hD e q
    have := sayStep m (fr := 0) (a := 2) (by decide) (by decide) (k := 0) rfl 12 (-1) (fun _ => rfl) (fun _ => rfl) (by decide) hD x e
    rw [n0, n2] at this
    rw [this]
    rw [f_X8_saysBody, if_neg (by decide), if_neg (by decide), if_pos rfl]
    rw [q]
  -- 40, from name on
  have b40 : ∀ (m D : Nat) (σ σ' σ'' : St), D ≤ 39 → f_X2_add 93 40 σ = some σ' → f_X2_add 93 12 σ' = some σ'' → σ'' 92 3 = g → (fam_X8 (m + 4)).1 3 2 x (nI D) σ = some (-(x - g), σ'') := by
    intro m D σ σ' σ'' hD e e' q
    have := sayStep (m + 2) (fr := 3) (a := 2) (by decide) (by decide) (k := 3) rfl 40 0 (fun _ => rfl) (fun _ => rfl) (by decide) (show D ≤ 40 by omega) x e
    rw [n3, n2] at this
    rw [this]
    rw [f_X8_saysBody, if_neg (by decide), if_neg (by decide), if_neg (by decide), if_neg (by decide), if_neg (by decide), if_neg (by decide), if_pos rfl]
    rw [b12 m (D + 1) σ' σ'' (by omega) e' q, ob_some]
  rw [f_X11_clearsOf, h.1.2.2.2.1]
  rcases kk_clears d hd with ⟨k, u, d6⟩ | e | e
  · obtain ⟨σ1, τ1, e1, e2, V1⟩ := tick h 12
    have stp := sayStep (m + 4) hd (a := 2) (by decide) k 12 (-1) (fun _ => rfl) (fun _ => rfl) (by decide) (show D ≤ 40 by omega) x e1
    rw [n2] at stp
    rw [if_neg (show ¬ nI d = 6 from d_ne hd (by decide) d6), U, ob_some]
    dsimp only
    rw [u, if_pos (show bI false = 0 from rfl), f_X11_clearsOf_L34, e2, ob_some, if_pos (show bI false = 0 from rfl), V1.1.2.2.2.1, if_neg (show ¬ nI d = 6 from d_ne hd (by decide) d6), stp]
    rw [f_X8_saysBody, if_neg (by decide), if_neg (by decide), if_pos rfl]
    rw [V1.1.2.2.1, V1.1.2.2.2.2.2]
    exact ⟨_, σ1, τ1, rfl, rfl, V1⟩
  · subst e
    obtain ⟨σ1, τ1, e1, e2, V1⟩ := tick h 40
    obtain ⟨σ2, τ2, e3, e4, V2⟩ := tick V1 12
    have bb := b40 (m + 2) D σ σ1 σ2 (by omega) e1 e3 V2.1.2.2.1
    rw [if_neg (by decide), U, ob_some]
    dsimp only
    rw [if_neg (by decide), e2, ob_some, f_X11_clearsOf_L34, e4, ob_some, if_neg (by decide), V2.1.2.2.2.1, if_neg (by decide), V2.1.2.2.2.2.2]
    exact ⟨_, σ2, τ2, bb, rfl, V2⟩
  · subst e
    obtain ⟨σ1, τ1, e1, e2, V1⟩ := tick h 70
    obtain ⟨σ2, τ2, e3, e4, V2⟩ := tick V1 40
    obtain ⟨σ3, τ3, e5, e6, V3⟩ := tick V2 12
    have bb := b40 m (D + 1) σ1 σ2 σ3 (by omega) e3 e5 V3.1.2.2.1
    have stp := sayStep (m + 4) (fr := 6) (a := 2) (by decide) (by decide) (k := 6) rfl 70 3 (fun _ => rfl) (fun _ => rfl) (by decide) (show D ≤ 40 by omega) x e1
    rw [n2] at stp
    rw [if_pos (show nI 6 = 6 from rfl), e2, ob_some, V1.1.2.2.2.1, U, ob_some]
    dsimp only
    rw [if_neg (by decide), e4, ob_some, f_X11_clearsOf_L34, e6, ob_some, if_neg (by decide), V3.1.2.2.2.1, if_pos (show nI 6 = 6 from rfl), V3.1.2.2.2.2.2, V3.1.2.2.2.2.1, stp]
    rw [f_X8_saysBody, if_neg (by decide), if_neg (by decide), if_neg (by decide), if_neg (by decide), if_neg (by decide), if_neg (by decide), if_neg (by decide), if_neg (by decide), if_neg (by decide), if_pos rfl]
    rw [bb, ob_some]
    dsimp only
    rw [V3.1.1]
    exact ⟨_, σ3, τ3, rfl, rfl, V3⟩
theorem vEchoes (hd : d ≤ 6) (m : Nat) {D : Nat} (hD : D ≤ 20) (x : Int32) (h : VV d s g σ0 τ0 σ τ) : ∃ r σ' τ', (fam_X8 (m + 12)).1 (nI d) 1 x (nI D) σ = some (r, σ') ∧ f_X11_echoesOf x τ = some (r, τ') ∧ VV d s g σ0 τ0 σ' τ' := by
  have U : ∀ t : St, f_X11_isUnder (nI d) 2 t = some (bI (und d 2), t) := fun t => mUnder hd (show 2 ≤ 6 by decide) t
  -- 11, from a kind without an own one on; the reference as far
  have b11 : ∀ (fr m D : Nat) (x : Int32) (σ τ : St), fr ≤ 6 → kkT.getD (fr * 4 + 1) 0 = 0 → D ≤ 29 → VV d s g σ0 τ0 σ τ → ∃ r σ' τ1 τ', (fam_X8 (m + 6)).1 (nI fr) 1 x (nI D) σ = some (r * 2, σ') ∧ f_X11_ran 11 τ = some τ1 ∧ f_X11_callsOf x τ1 = some (r, τ') ∧ VV d s g σ0 τ0 σ' τ' := by
    intro fr m D x σ τ hf k hD V
    obtain ⟨σ1, τ1, e1, e2, V1⟩ := tick V 11
    obtain ⟨r, σ2, τ2, c1, c2, V2⟩ := vCalls hd m (D := D + 1) (by omega) x V1
    have stp := sayStep (m + 4) hf (a := 1) (by decide) k 11 (-1) (fun _ => rfl) (fun _ => rfl) (by decide) (show D ≤ 40 by omega) x e1
    rw [n1] at stp
    refine ⟨r, σ2, τ1, τ2, ?_, e2, c2, V2⟩
    rw [stp]
    rw [f_X8_saysBody, if_neg (by decide), if_pos rfl]
    rw [V1.1.2.1, c1, ob_some]
  -- 30, from lie on
  have b30 : ∀ (m D : Nat) (x : Int32) (σ τ : St), D ≤ 28 → VV d s g σ0 τ0 σ τ → ∃ r σ' τ1 τ', (fam_X8 (m + 8)).1 2 1 x (nI D) σ = some (r, σ') ∧ f_X11_ran 30 τ = some τ1 ∧ (∀ v : Int32, ¬ v = 0 → f_X11_echoesOf_L38 x v τ1 = some (r, τ')) ∧ VV d s g σ0 τ0 σ' τ' := by
    intro m D x σ τ hD V
    obtain ⟨σ1, τ1, e1, e2, V1⟩ := tick V 30
    obtain ⟨r, σ2, τ2, τ3, c1, c2, c3, V2⟩ := b11 0 m (D + 1) x σ1 τ1 (by decide) rfl (by omega) V1
    obtain ⟨r', σ3, τ4, k1, k2, V3⟩ := vClears hd m (D := D + 1) (by omega) 1 V2
    have stp := sayStep (m + 6) (fr := 2) (a := 1) (by decide) (by decide) (k := 2) rfl 30 0 (fun _ => rfl) (fun _ => rfl) (by decide) (show D ≤ 40 by omega) x e1
    rw [n2, n1] at stp
    rw [n0] at c1
    refine ⟨r * 2 - r', σ3, τ1, τ4, ?_, e2, fun v hv => ?_, V3⟩
    · rw [stp]
      rw [f_X8_saysBody, if_neg (by decide), if_neg (by decide), if_neg (by decide), if_neg (by decide), if_neg (by decide), if_pos rfl]
      rw [c1, ob_some]
      dsimp only
      rw [V2.1.2.1, k1, ob_some]
    · rw [f_X11_echoesOf_L38, c2, ob_some, c3, ob_some, if_neg hv]
      dsimp only
      rw [k2, ob_some]
  rw [f_X11_echoesOf, h.1.2.2.2.1]
  rcases kk_echoes d hd with ⟨k, u, d5⟩ | e | e
  · obtain ⟨r, σ', τ1, τ', c1, c2, c3, V⟩ := b11 d (m + 6) D x σ τ hd k (by omega) h
    rw [if_neg (show ¬ nI d = 5 from d_ne hd (by decide) d5), U, ob_some]
    dsimp only
    rw [u, if_pos (show bI false = 0 from rfl), f_X11_echoesOf_L38, c2, ob_some, c3, ob_some, if_pos (show bI false = 0 from rfl)]
    exact ⟨_, σ', τ', c1, rfl, V⟩
  · subst e
    obtain ⟨r, σ', τ1, τ', c1, c2, c3, V⟩ := b30 (m + 4) D x σ τ (by omega) h
    rw [if_neg (by decide), U, ob_some]
    dsimp only
    rw [if_neg (by decide), c2, ob_some, c3 _ (by decide)]
    exact ⟨_, σ', τ', c1, rfl, V⟩
  · subst e
    obtain ⟨σ1, τ1, e1, e2, V1⟩ := tick h 60
    obtain ⟨r, σ', τ2, τ', c1, c2, c3, V⟩ := b30 (m + 2) (D + 1) (x + 1) σ1 τ1 (by omega) V1
    have stp := sayStep (m + 10) (fr := 5) (a := 1) (by decide) (by decide) (k := 5) rfl 60 2 (fun _ => rfl) (fun _ => rfl) (by decide) (show D ≤ 40 by omega) x e1
    rw [n1] at stp
    rw [if_pos (show nI 5 = 5 from rfl), e2, ob_some, V1.1.2.2.2.1, U, ob_some]
    dsimp only
    rw [if_neg (by decide), c2, ob_some, c3 _ (by decide), stp]
    rw [f_X8_saysBody, if_neg (by decide), if_neg (by decide), if_neg (by decide), if_neg (by decide), if_neg (by decide), if_neg (by decide), if_neg (by decide), if_neg (by decide), if_pos rfl]
    rw [c1, ob_some]
    exact ⟨_, σ', τ', rfl, rfl, V⟩
theorem vTastes (hd : d ≤ 6) (m : Nat) {D : Nat} (hD : D ≤ 10) (x : Int32) (h : VV d s g σ0 τ0 σ τ) : ∃ r σ' τ', (fam_X8 (m + 20)).1 (nI d) 3 x (nI D) σ = some (r, σ') ∧ f_X11_tastesOf x τ = some (r, τ') ∧ VV d s g σ0 τ0 σ' τ' := by
  have b13 : ∀ (fr m D : Nat) (σ τ : St), fr ≤ 6 → kkT.getD (fr * 4 + 3) 0 = 0 → D ≤ 18 → VV d s g σ0 τ0 σ τ → ∃ r σ' τ', (fam_X8 (m + 14)).1 (nI fr) 3 x (nI D) σ = some (r, σ') ∧ f_X11_plainTastes x τ = some (r, τ') ∧ VV d s g σ0 τ0 σ' τ' := by
    intro fr m D σ τ hf k hD V
    obtain ⟨σ1, τ1, e1, e2, V1⟩ := tick V 13
    obtain ⟨r, σ2, τ2, c1, c2, V2⟩ := vEchoes hd m (D := D + 1) (by omega) x V1
    obtain ⟨r', σ3, τ3, k1, k2, V3⟩ := vClears hd (m + 6) (D := D + 1) (by omega) x V2
    have stp := sayStep (m + 12) hf (a := 3) (by decide) k 13 (-1) (fun _ => rfl) (fun _ => rfl) (by decide) (show D ≤ 40 by omega) x e1
    rw [n3] at stp
    refine ⟨r ^^^ r', σ3, τ3, ?_, ?_, V3⟩
    · rw [stp]
      rw [f_X8_saysBody, if_neg (by decide), if_neg (by decide), if_neg (by decide), if_pos rfl]
      rw [V1.1.2.1, c1, ob_some]
      dsimp only
      rw [V2.1.2.1, k1, ob_some]
    · rw [f_X11_plainTastes, e2, ob_some, c2, ob_some]
      dsimp only
      rw [k2, ob_some]
  rw [f_X11_tastesOf, h.1.2.2.2.1]
  rcases kk_tastes d hd with ⟨k, d6, d4⟩ | e | e
  · obtain ⟨r, σ', τ', c1, c2, V⟩ := b13 d (m + 6) D σ τ hd k (by omega) h
    rw [if_neg (show ¬ nI d = 6 from d_ne hd (by decide) d6), if_neg (show ¬ nI d = 4 from d_ne hd (by decide) d4), c2, ob_some]
    exact ⟨_, σ', τ', c1, rfl, V⟩
  · subst e
    obtain ⟨σ1, τ1, e1, e2, V1⟩ := tick h 50
    obtain ⟨r, σ2, τ2, c1, c2, V2⟩ := b13 1 (m + 4) (D + 1) σ1 τ1 (by decide) rfl (by omega) V1
    obtain ⟨r', σ3, τ3, k1, k2, V3⟩ := vCalls hd (m + 14) (D := D + 1) (by omega) 2 V2
    have stp := sayStep (m + 18) (fr := 4) (a := 3) (by decide) (by decide) (k := 4) rfl 50 1 (fun _ => rfl) (fun _ => rfl) (by decide) (show D ≤ 40 by omega) x e1
    rw [n1] at c1
    rw [n3] at stp
    rw [if_neg (by decide), if_pos (show nI 4 = 4 from rfl), e2, ob_some, c2, ob_some]
    dsimp only
    rw [k2, ob_some, stp]
    rw [f_X8_saysBody, if_neg (by decide), if_neg (by decide), if_neg (by decide), if_neg (by decide), if_neg (by decide), if_neg (by decide), if_neg (by decide), if_pos rfl]
    rw [c1, ob_some]
    dsimp only
    rw [V2.1.2.1, k1, ob_some]
    exact ⟨_, σ3, τ3, rfl, rfl, V3⟩
  · subst e
    obtain ⟨σ1, τ1, e1, e2, V1⟩ := tick h 71
    obtain ⟨r, σ2, τ2, c1, c2, V2⟩ := vEchoes hd (m + 6) (D := D + 1) (by omega) x V1
    obtain ⟨r', σ3, τ3, k1, k2, V3⟩ := b13 3 (m + 4) (D + 1) σ2 τ2 (by decide) rfl (by omega) V2
    have stp := sayStep (m + 18) (fr := 6) (a := 3) (by decide) (by decide) (k := 6) rfl 71 3 (fun _ => rfl) (fun _ => rfl) (by decide) (show D ≤ 40 by omega) x e1
    rw [n3] at k1 stp
    rw [if_pos (show nI 6 = 6 from rfl), e2, ob_some, c2, ob_some]
    dsimp only
    rw [k2, ob_some, stp]
    rw [f_X8_saysBody, if_neg (by decide), if_neg (by decide), if_neg (by decide), if_neg (by decide), if_neg (by decide), if_neg (by decide), if_neg (by decide), if_neg (by decide), if_neg (by decide), if_neg (by decide), if_pos rfl]
    rw [V1.1.2.1, c1, ob_some]
    dsimp only
    rw [k1, ob_some]
    exact ⟨_, σ3, τ3, rfl, rfl, V3⟩
end VOICE
theorem k_voice {σ τ : St} (h : RR σ τ) (a b c : Int32) : Agree (f_X10_voice a b c σ) (f_X11_voice a b c τ) := by
  obtain ⟨-, -, ⟨ns, nf, kn, kf, Y, F, K⟩, -⟩ := h.1
  have y8 := Y.1
  simp only [f_X10_voice, f_X11_voice, cHasY a Y.2.2.1, mSay a Y.2.1 (by omega), within_ok, mwithin_ok, ob_some, ob_eta, if_bI, bst_ok]
  refine Agree.cond (fun ha => ?_) (fun _ => Agree.err h 1)
  refine Agree.cond (fun hb => ?_) (fun _ => Agree.err h 1)
  obtain ⟨s, hs, rfl⟩ := isIx_nI ha (by omega)
  obtain ⟨v, -, hv, rfl⟩ := btw_nI 0 3 hb
  obtain ⟨d, hd, ed⟩ := (Y.2.2.2.2.2.2.2.2 s hs).2.2.2.2.2.1
  obtain ⟨σ1, e1, e2, m0, m1, -⟩ := cThought Y K hs
  rw [e1, ob_some]
  dsimp only
  rw [if_pos (by decide), f_X8_begin, bst_ok, bst_ok, bst_ok, clear_ok, ob_some, sayIs0 _ (by omega), ob_some]
  dsimp only
  rw [sayIs1 _ (by omega), ob_some]
  dsimp only
  have t1 : (up τ 0 15 0) 1 (41 + 5 * s) = nI d := (up_o (by omega)).trans ed
  have t2 : (up (up (up τ 0 15 0) 0 16 (nI d)) 0 17 (nI s)) 1 (42 + 5 * s) = τ 1 (42 + 5 * s) := by rw [up_o (by omega), up_o (by omega), up_o (by omega)]
  have c1 : (up σ1 92 1 (nI s)) 41 0 = nI d := (up_o (by omega)).trans (m0.trans ed)
  have c2 : (up (up σ1 92 1 (nI s)) 92 2 (nI d)) 41 1 = τ 1 (42 + 5 * s) := by rw [up_o (by omega), up_o (by omega)]; exact m1
  rw [t1, t2, c1, c2]
  have V0 : VV d s (τ 1 (42 + 5 * s)) (up (up (up (up σ1 92 1 (nI s)) 92 2 (nI d)) 92 3 (τ 1 (42 + 5 * s))) 93 1 0) (up (up (up (up τ 0 15 0) 0 16 (nI d)) 0 17 (nI s)) 0 18 (τ 1 (42 + 5 * s))) (up (up (up (up σ1 92 1 (nI s)) 92 2 (nI d)) 92 3 (τ 1 (42 + 5 * s))) 93 1 0) (up (up (up (up τ 0 15 0) 0 16 (nI d)) 0 17 (nI s)) 0 18 (τ 1 (42 + 5 * s))) := by
    refine ⟨⟨?_, ?_, ?_, ?_, ?_, ?_⟩, ⟨0, by decide, ?_, ?_, fun j hj => by omega⟩, same.rf, same.rf⟩
    · simp (disch := omega) only [up_o, up_e]
    · simp (disch := omega) only [up_o, up_e]
    · simp (disch := omega) only [up_o, up_e]
    · simp (disch := omega) only [up_o, up_e]
    · simp (disch := omega) only [up_o, up_e]
    · simp (disch := omega) only [up_e]
    · simp (disch := omega) only [up_o, up_e]
      rfl
    · exact up_e rfl rfl
  have fin : ∀ (σ' τ' : St), VV d s (τ 1 (42 + 5 * s)) (up (up (up (up σ1 92 1 (nI s)) 92 2 (nI d)) 92 3 (τ 1 (42 + 5 * s))) 93 1 0) (up (up (up (up τ 0 15 0) 0 16 (nI d)) 0 17 (nI s)) 0 18 (τ 1 (42 + 5 * s))) σ' τ' → RR σ' τ' := by
    intro σ' τ' V
    obtain ⟨-, R, S1, S2⟩ := V
    have Sc : ∀ q j, ¬ (scrC q j ∨ q = 93 ∨ q = 94) → σ' q j = σ q j := fun q j hq => by
      rw [S1 q j (by omega), up_o (by unfold scrC at hq; omega), up_o (by unfold scrC at hq; omega), up_o (by unfold scrC at hq; omega), up_o (by unfold scrC at hq; omega)]
      exact e2 q j (by unfold scrC at hq; omega)
    have Sm : ∀ q j, ¬ (scrM q j ∨ q = 9 ∨ (q = 0 ∧ j = 15)) → τ' q j = τ q j := fun q j hq => by
      rw [S2 q j (by omega), up_o (by unfold scrM at hq; omega), up_o (by unfold scrM at hq; omega), up_o (by unfold scrM at hq; omega), up_o (by unfold scrM at hq; omega)]
    obtain ⟨h1, h2, h3, h4, h5, h6, h7, h8⟩ := h
    refine ⟨h1.congr (fun q j hq => Sc q j (by unfold vil at hq; unfold scrC; omega)) (fun i hi => Sm 1 i (by unfold scrM; omega)), ?_, by rw [Sc 0 7 (by unfold scrC; omega), Sm 0 3 (by unfold scrM; omega), h3], fun i a b => by rw [Sc 99 i (by unfold scrC; omega), Sm 4 i (by unfold scrM; omega)]; exact h4 i a b, fun i hi => ?_, R, by rw [Sc 31 2 (by unfold scrC; omega)]; exact h7, by rw [Sc 36 2 (by unfold scrC; omega)]; exact h8⟩
    · rw [Sm 0 3 (by unfold scrM; omega)]
      exact h2.imp id (fun h => h.congr (fun q j hq => Sc q j (by unfold vil at hq; unfold scrC; omega)) (fun i hi => Sm 2 i (by unfold scrM; omega)))
    · have e := h5 i hi
      unfold rowN at e ⊢
      rw [Sc (100 + 3 * i) 0 (by unfold scrC; omega), Sc (101 + 3 * i) 1 (by unfold scrC; omega), Sm 10 i (by unfold scrM; omega), Sm 11 i (by unfold scrM; omega)]
      obtain ⟨a, b, n, c1, c2, c3, c4, c5⟩ := e
      exact ⟨a, b, n, c1, c2, c3, c4, fun j hj => by rw [Sc _ j (by unfold scrC; omega), Sm 12 _ (by unfold scrM; omega)]; exact c5 j hj⟩
  have k92 : (up (up (up (up σ1 92 1 (nI s)) 92 2 (nI d)) 92 3 (τ 1 (42 + 5 * s))) 93 1 0) 92 2 = nI d := V0.1.2.1
  rw [k92, ob_eta]
  have vv : v = 0 ∨ v = 1 ∨ v = 2 ∨ v = 3 := by omega
  rw [show (0 : Int32) = nI 0 from rfl]
  rcases vv with rfl | rfl | rfl | rfl
  · obtain ⟨r, σ', τ', q1, q2, V⟩ := vCalls hd 116 (D := 0) (by decide) c V0
    rw [if_pos rfl, ← n0] at *
    exact ⟨r, σ', τ', q1, q2, fin σ' τ' V⟩
  · obtain ⟨r, σ', τ', q1, q2, V⟩ := vEchoes hd 108 (D := 0) (by decide) c V0
    rw [if_neg (by decide), if_pos (show nI 1 = 1 from rfl)]
    exact ⟨r, σ', τ', q1, q2, fin σ' τ' V⟩
  · obtain ⟨r, σ', τ', q1, q2, V⟩ := vClears hd 114 (D := 0) (by decide) c V0
    rw [if_neg (by decide), if_neg (by decide), if_pos (show nI 2 = 2 from rfl)]
    exact ⟨r, σ', τ', q1, q2, fin σ' τ' V⟩
  · obtain ⟨r, σ', τ', q1, q2, V⟩ := vTastes hd 100 (D := 0) (by decide) c V0
    rw [if_neg (by decide), if_neg (by decide), if_neg (by decide)]
    exact ⟨r, σ', τ', q1, q2, fin σ' τ' V⟩
