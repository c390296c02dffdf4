/-! the pure side: what the methods of Row do to a row of n numbers -/
/-- cell k is a row of n numbers now -/
def rowN (σ : St) (k n : Nat) : Prop := σ k 1 = nI n
theorem up_at (σ : St) (k j : Nat) (v : Int32) : up σ k j v k j = v := by simp [up]
theorem up_ne1 {σ : St} {k j k' j' : Nat} {v : Int32} (h : k' ≠ k) : up σ k j v k' j' = σ k' j' := by simp [up, h]
theorem up_ne2 {σ : St} {k j j' : Nat} {v : Int32} (h : j' ≠ j) : up σ k j v k j' = σ k j' := by simp [up, h]
theorem size_ok (k : Nat) (σ : St) : f_X2_size k σ = some (σ k 1, σ) := rfl
theorem get_ok {k c j : Nat} (hc : shC (k + 1) - 100 = c) (h7 : c ≤ 1000) (σ : St) (hj : j < c) : f_X2_get k (nI j) σ = some (σ (k + 1) j, σ) := by
  rw [f_X2_get, hc, if_neg (nI_pos (by omega)), if_neg (nI_ge hj (by omega)), if_pos (nI_inb hj (by omega)), nI_clamp (by omega)]
theorem set_ok {k c j : Nat} (hc : shC (k + 1) - 100 = c) (h7 : c ≤ 1000) (σ : St) (v : Int32) (hj : j < c) : f_X2_set k (nI j) v σ = some (up σ (k + 1) j v) := by
  rw [f_X2_set, hc, if_neg (nI_pos (by omega)), if_neg (nI_ge hj (by omega)), if_pos (nI_inb hj (by omega)), nI_clamp (by omega)]
  rfl
theorem add_ok {k c n : Nat} (hc : shC (k + 1) - 100 = c) (h7 : c ≤ 1000) (σ : St) (v : Int32) (hr : rowN σ k n) (hn : n < c) : f_X2_add k v σ = some (up (up σ (k + 1) n v) k 1 (nI (n + 1))) := by
  unfold rowN at hr
  rw [f_X2_add, hc, hr, if_neg (nI_pos (by omega)), if_neg (nI_ge hn (by omega)), if_pos (nI_inb hn (by omega)), nI_clamp (by omega)]
  show some (up (up σ (k + 1) n v) k 1 (up σ (k + 1) n v k 1 + 1)) = _
  rw [up_ne1 (by omega), hr, nI_1]
theorem clear_ok (k : Nat) (σ : St) : f_X2_clear k σ = some (up σ k 1 0) := rfl
theorem zerosL_ok {k c n : Nat} (hc : shC (k + 1) - 100 = c) (h7 : c ≤ 1000) (hn : n ≤ c) : ∀ (f i : Nat) (σ : St), i ≤ n → n - i < f → rowN σ k i → (∀ j, j < i → σ (k + 1) j = 0) →
    ∃ s, f_X2_zeros_L6 k f (nI n) (nI i) σ = some s ∧ rowN s k n ∧ (∀ q, q ≠ k → q ≠ k + 1 → s q = σ q) ∧ (∀ j, j ≠ 1 → s k j = σ k j) ∧ ∀ j, j < n → s (k + 1) j = 0 := by
  intro f
  induction f with
  | zero => intro i σ _ h; omega
  | succ f ih =>
    intro i σ hi hf hr hz
    rw [f_X2_zeros_L6, hc]
    by_cases h : i = n
    · subst h
      rw [if_pos (nI_le (Nat.le_refl _) (by omega))]
      exact ⟨σ, rfl, hr, fun _ _ _ => rfl, fun _ _ => rfl, hz⟩
    · rw [if_neg (nI_ge (by omega) (by omega)), if_neg (nI_ge (by omega) (by omega)), add_ok hc h7 σ 0 hr (by omega)]
      show ∃ s, f_X2_zeros_L6 k f (nI n) (nI i + 1) (up (up σ (k + 1) i 0) k 1 (nI (i + 1))) = some s ∧ _
      rw [nI_1]
      obtain ⟨s, e, e1, e2, e3, e4⟩ := ih (i + 1) (up (up σ (k + 1) i 0) k 1 (nI (i + 1))) (by omega) (by omega) (up_at _ _ _ _) (fun j hj => by
        rw [up_ne1 (by omega)]
        by_cases hji : j = i
        · subst hji; exact up_at _ _ _ _
        · rw [up_ne2 hji]; exact hz j (by omega))
      refine ⟨s, e, e1, fun q h1 h2 => ?_, fun j hj => ?_, e4⟩
      · rw [e2 q h1 h2, up_ne h1, up_ne h2]
      · rw [e3 j hj, up_ne2 hj, up_ne1 (by omega)]
theorem zeros_ok {k c n : Nat} (hc : shC (k + 1) - 100 = c) (h7 : c ≤ 300) (hn : n ≤ c) (σ : St) : ∃ s, f_X2_zeros k (nI n) σ = some s ∧ rowN s k n ∧ (∀ q, q ≠ k → q ≠ k + 1 → s q = σ q) ∧ (∀ j, j ≠ 1 → s k j = σ k j) ∧ ∀ j, j < n → s (k + 1) j = 0 := by
  rw [f_X2_zeros, clear_ok]
  obtain ⟨s, e, e1, e2, e3, e4⟩ := zerosL_ok hc (by omega) hn 400 0 (up σ k 1 0) (Nat.zero_le _) (by omega) (up_at _ _ _ _) (fun j hj => absurd hj (Nat.not_lt_zero _))
  refine ⟨s, e, e1, fun q h1 h2 => by rw [e2 q h1 h2, up_ne h1], fun j hj => by rw [e3 j hj, up_ne2 hj], e4⟩
