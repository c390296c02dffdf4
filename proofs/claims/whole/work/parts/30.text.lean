/-! what a text gives -/
def dn (x a b : Int32) : Int32 := if x = 20000 then (if a = 0 then (if b = 0 then 0 else 1) else 1) else if x = 20001 then (if a = 0 then 0 else if b = 0 then 0 else 1) else if x = 20002 then (if b ≤ a then 0 else 1) else if x = 20003 then (if a = b then 1 else 0) else if x = 20004 then (if a ≤ b then 0 else 1) else if x = 20005 then a + b else if x = 20006 then a - b else if x = 20007 then a * b else if x = 20008 then (if b = 0 then 0 else a / b) else (if b = 0 then 0 else irm a b)
theorem if_some {α : Type} {c : Prop} [Decidable c] {x y : Int32} {s : α} : (if c then some (x, s) else some (y, s)) = some ((if c then x else y), s) := by
  by_cases h : c
  · rw [if_pos h, if_pos h]
  · rw [if_neg h, if_neg h]
theorem if_div {α : Type} {b : Int32} {y : Int32} {s : α} : (if b = 0 then some (0, s) else (if b = 0 then none else some (y, s))) = some ((if b = 0 then 0 else y), s) := by
  by_cases h : b = 0
  · rw [if_pos h, if_pos h]
  · rw [if_neg h, if_neg h, if_neg h]
theorem done_ok (x a b : Int32) (τ : St) : f_X11_done x a b τ = some (dn x a b, τ) := by
  simp only [f_X11_done, if_div, if_some]
  rfl
def stN (a b c x : Int32) (n : Nat) : Nat := if -3 ≤ x then n + 1 else if x = -33 then n else n - 1
def stS (a b c x : Int32) (n : Nat) (S : Nat → Int32) : Nat → Int32 :=
  if -3 ≤ x then upd S n (if 0 ≤ x then x else if x = -1 then a else if x = -2 then b else c)
  else if x = -33 then upd S (n - 1) (if S (n - 1) = 0 then 1 else 0)
  else upd S (n - 2) (dn (cvt x) (S (n - 2)) (S (n - 1)))
def evG (a b c : Int32) (g : Nat → Int32) : Nat → Nat → Nat → (Nat → Int32) → Int32
  | 0, _, _, S => S 0
  | m + 1, i, n, S => evG a b c g m (i + 1) (stN a b c (g i) n) (stS a b c (g i) n S)
theorem up_row (σ : St) (k j : Nat) (v : Int32) : (up σ k j v) k = upd (σ k) j v := by
  funext i
  rw [up_ap]
  by_cases h : i = j
  · rw [if_pos ⟨rfl, h⟩, h, pk_us]
  · rw [if_neg (fun x => h x.2), pk_un h]
theorem dep_some {x : Int32} {n k : Nat} (h : dep x n = some k) (a b c : Int32) : k = stN a b c x n ∧ (¬ -3 ≤ x → x = -33 → 1 ≤ n) ∧ (¬ -3 ≤ x → ¬ x = -33 → 2 ≤ n) := by
  unfold dep at h
  unfold stN
  by_cases h1 : -3 ≤ x
  · rw [if_pos h1] at h ⊢
    cases h
    exact ⟨rfl, fun x => absurd h1 x, fun x => absurd h1 x⟩
  · rw [if_neg h1] at h ⊢
    by_cases h2 : x = -33
    · rw [if_pos h2] at h ⊢
      by_cases h3 : 1 ≤ n
      · rw [if_pos h3] at h
        cases h
        exact ⟨rfl, fun _ _ => h3, fun _ q => absurd h2 q⟩
      · rw [if_neg h3] at h
        cases h
    · rw [if_neg h2] at h ⊢
      by_cases h3 : 2 ≤ n
      · rw [if_pos h3] at h
        cases h
        exact ⟨rfl, fun _ q => absurd q h2, fun _ _ => h3⟩
      · rw [if_neg h3] at h
        cases h
theorem evG_congr {a b c : Int32} {g g' : Nat → Int32} : ∀ {m i n : Nat} {S S' : Nat → Int32} {e : Nat}, depG g m i n = some e → 1 ≤ e → (∀ j, i ≤ j → j < i + m → g j = g' j) → (∀ j, j < n → S j = S' j) → evG a b c g m i n S = evG a b c g' m i n S' := by
  intro m
  induction m with
  | zero =>
    intro i n S S' e h he hg hS
    rw [depG] at h
    cases h
    exact hS 0 he
  | succ m ih =>
    intro i n S S' e h he hg hS
    rw [depG] at h
    cases hd : dep (g i) n with
    | none => rw [hd] at h; cases h
    | some k =>
      rw [hd] at h
      obtain ⟨hk, h1, h2⟩ := dep_some hd a b c
      subst hk
      rw [evG, evG, ← hg i (Nat.le_refl _) (by omega)]
      refine ih h he (fun j q1 q2 => hg j (by omega) (by omega)) (fun j hj => ?_)
      unfold stN at hj
      unfold stS
      by_cases c1 : -3 ≤ g i
      · rw [if_pos c1] at hj ⊢
        rw [if_pos c1]
        by_cases q : j = n
        · rw [q, pk_us, pk_us]
        · rw [pk_un q, pk_un q]
          exact hS j (by omega)
      · rw [if_neg c1] at hj ⊢
        rw [if_neg c1]
        by_cases c2 : g i = -33
        · have := h1 c1 c2
          rw [if_pos c2] at hj ⊢
          rw [if_pos c2, hS (n - 1) (by omega)]
          by_cases q : j = n - 1
          · rw [q, pk_us, pk_us]
          · rw [pk_un q, pk_un q]
            exact hS j (by omega)
        · have := h2 c1 c2
          rw [if_neg c2] at hj ⊢
          rw [if_neg c2, hS (n - 1) (by omega), hS (n - 2) (by omega)]
          by_cases q : j = n - 2
          · rw [q, pk_us, pk_us]
          · rw [pk_un q, pk_un q]
            exact hS j (by omega)
theorem removeLast_ok {k c n : Nat} (hc : shC (k + 1) - 100 = c) (h7 : c ≤ 1000) (σ : St) (hr : σ k 1 = nI n) (h0 : 0 < n) (hn : n ≤ c) : f_X2_removeLast k σ = some (σ (k + 1) (n - 1), up σ k 1 (nI (n - 1))) := by
  rw [f_X2_removeLast, hc, hr, if_neg (fun x => by have := (nI_le0 (by omega)).mp x; omega), if_pos ((nI_leI (by omega) (by omega)).mpr hn), bst_ok]
  have e : nI n - 1 = nI (n - 1) := by
    rw [show n = n - 1 + 1 by omega]
    exact nI_pred _
  rw [e, up_e rfl rfl, if_pos (nI_inb (show n - 1 < c by omega) (by omega)), nI_clamp (by omega), up_o (by omega)]
/-- an op of the class's text -/
theorem sign_ops {x : Int32} (h : okSign x) (h1 : ¬ -3 ≤ x) (h2 : ¬ x = -33) : x = -124 ∨ x = -38 ∨ x = -60 ∨ x = -61 ∨ x = -62 ∨ x = -43 ∨ x = -45 ∨ x = -42 ∨ x = -47 ∨ x = -37 := by
  rcases h with ⟨a, b⟩ | h
  · exact absurd (Int32.le_trans (by decide) a) h1
  · simp only [signL, List.mem_cons, List.not_mem_nil, or_false] at h
    rcases h with h | h | h | h | h | h | h | h | h | h | h | h | h | h
    · subst h; exact absurd (by decide) h1
    · subst h; exact absurd (by decide) h1
    · subst h; exact absurd (by decide) h1
    · exact absurd h h2
    · exact Or.inl h
    · exact Or.inr (Or.inl h)
    · exact Or.inr (Or.inr (Or.inl h))
    · exact Or.inr (Or.inr (Or.inr (Or.inl h)))
    · exact Or.inr (Or.inr (Or.inr (Or.inr (Or.inl h))))
    · exact Or.inr (Or.inr (Or.inr (Or.inr (Or.inr (Or.inl h)))))
    · exact Or.inr (Or.inr (Or.inr (Or.inr (Or.inr (Or.inr (Or.inl h))))))
    · exact Or.inr (Or.inr (Or.inr (Or.inr (Or.inr (Or.inr (Or.inr (Or.inl h)))))))
    · exact Or.inr (Or.inr (Or.inr (Or.inr (Or.inr (Or.inr (Or.inr (Or.inr (Or.inl h))))))))
    · exact Or.inr (Or.inr (Or.inr (Or.inr (Or.inr (Or.inr (Or.inr (Or.inr (Or.inr h))))))))
theorem sign_push {x : Int32} (h : okSign x) (h1 : -3 ≤ x) : (0 ≤ x ∧ x ≤ 9999) ∨ x = -1 ∨ x = -2 ∨ x = -3 := by
  rcases h with h | h
  · exact Or.inl h
  · simp only [signL, List.mem_cons, List.not_mem_nil, or_false] at h
    rcases h with h | h | h | h | h | h | h | h | h | h | h | h | h | h
    · exact Or.inr (Or.inl h)
    · exact Or.inr (Or.inr (Or.inl h))
    · exact Or.inr (Or.inr (Or.inr h))
    all_goals (subst h; exact absurd h1 (by decide))
theorem joined_ok {x : Int32} (h : okSign x) (h1 : ¬ -3 ≤ x) (h2 : ¬ x = -33) (a b : Int32) (σ : St) : f_X6_joined a (-x) b σ = some (dn (cvt x) a b, σ) := by
  rcases sign_ops h h1 h2 with rfl | rfl | rfl | rfl | rfl | rfl | rfl | rfl | rfl | rfl
  · rw [f_X6_joined, show cvt (-124) = 20000 by decide, show -(-124 : Int32) = 124 by decide]
    simp only [if_div, if_some]
    rfl
  · rw [f_X6_joined, show cvt (-38) = 20001 by decide, show -(-38 : Int32) = 38 by decide]
    simp only [if_div, if_some]
    rfl
  · rw [f_X6_joined, show cvt (-60) = 20002 by decide, show -(-60 : Int32) = 60 by decide]
    simp only [if_div, if_some]
    rfl
  · rw [f_X6_joined, show cvt (-61) = 20003 by decide, show -(-61 : Int32) = 61 by decide]
    simp only [if_div, if_some]
    rfl
  · rw [f_X6_joined, show cvt (-62) = 20004 by decide, show -(-62 : Int32) = 62 by decide]
    simp only [if_div, if_some]
    rfl
  · rw [f_X6_joined, show cvt (-43) = 20005 by decide, show -(-43 : Int32) = 43 by decide]
    simp only [if_div, if_some]
    rfl
  · rw [f_X6_joined, show cvt (-45) = 20006 by decide, show -(-45 : Int32) = 45 by decide]
    simp only [if_div, if_some]
    rfl
  · rw [f_X6_joined, show cvt (-42) = 20007 by decide, show -(-42 : Int32) = 42 by decide]
    simp only [if_div, if_some]
    rfl
  · rw [f_X6_joined, show cvt (-47) = 20008 by decide, show -(-47 : Int32) = 47 by decide]
    simp only [if_div, if_some]
    rfl
  · rw [f_X6_joined, show cvt (-37) = 20009 by decide, show -(-37 : Int32) = 37 by decide]
    simp only [if_div, if_some]
    rfl
/-- held within what a use allows -/
def hld (u : Nat) (v : Int32) : Int32 := imax 0 (imin (if u = 0 then 99 else 1) v)
theorem hld_le (M v : Int32) (hM : 0 ≤ M) : imax 0 (imin M v) = (if 0 ≤ v then (if v ≤ M then v else M) else 0) := by
  unfold imax imin
  by_cases h0 : 0 ≤ v
  · rw [if_pos h0]
    by_cases h1 : v ≤ M
    · rw [if_pos h1]
      by_cases h2 : v < M
      · rw [if_pos h2]
        by_cases h3 : 0 < v
        · rw [if_pos h3]
        · rw [if_neg h3]
          exact Int32.le_antisymm h0 (Int32.not_lt.mp h3)
      · rw [if_neg h2]
        have : v = M := Int32.le_antisymm h1 (Int32.not_lt.mp h2)
        subst this
        by_cases h3 : 0 < v
        · rw [if_pos h3]
        · rw [if_neg h3]
          exact Int32.le_antisymm h0 (Int32.not_lt.mp h3)
    · rw [if_neg h1, if_neg (fun x => h1 (Int32.le_of_lt x))]
      by_cases h3 : 0 < M
      · rw [if_pos h3]
      · rw [if_neg h3]
        exact Int32.le_antisymm hM (Int32.not_lt.mp h3)
  · have hv : v < 0 := Int32.not_le.mp h0
    rw [if_neg h0, if_pos (Int32.lt_of_lt_of_le hv hM), if_neg (Int32.lt_asymm hv)]
theorem cHeld {k u : Nat} {σ : St} (hu : σ k 2 = nI u) (h1 : u ≤ 1) (v : Int32) : f_X6_held k v σ = some (hld u v, σ) := by
  rw [f_X6_held, hu, hld]
  by_cases h : u = 0
  · subst h
    rw [if_pos (show nI 0 = 0 from rfl), if_pos rfl, hld_le 99 v (by decide), if_some, if_some]
  · have : u = 1 := by omega
    subst this
    rw [if_neg (show ¬ nI 1 = 0 by decide), if_neg (show ¬ (1 : Nat) = 0 by decide), hld_le 1 v (by decide), if_some, if_some]
theorem shK {k : Nat} (hk : k = 31 ∨ k = 36) : shC (k + 1 + 1) - 100 = 50 ∧ shC (k + 3 + 1) - 100 = 50 := by
  rcases hk with rfl | rfl <;> exact ⟨rfl, rfl⟩
theorem gives_L {k u l : Nat} (hk : k = 31 ∨ k = 36) (h1 : u ≤ 1) (hl : l ≤ 50) (a b c : Int32) : ∀ m f i n (σ : St) (e : Nat), i + m = l → m < f → n ≤ i → σ k 2 = nI u → σ (k + 1) 1 = nI l → σ (k + 3) 1 = nI n → (∀ j, j < l → okSign (σ (k + 2) j)) → depG (σ (k + 2)) m i n = some 1 →
    ∃ σ', f_X6_gives_L41 k f a b c (nI i) σ = some (hld u (evG a b c (σ (k + 2)) m i n (σ (k + 4))), σ') ∧ same (fun q _ => q = k + 3 ∨ q = k + 4) σ σ' := by
  intro m
  obtain ⟨hs1, hs2⟩ := shK hk
  induction m with
  | zero =>
    intro f i n σ _ hi hf hn hu hr1 hr3 hok hd
    obtain ⟨f, rfl⟩ : ∃ f', f = f' + 1 := ⟨f - 1, by omega⟩
    rw [depG] at hd
    cases hd
    rw [f_X6_gives_L41, size_ok, ob_some, hr1, if_pos (by rw [show i = l by omega]; exact Int32.le_rfl), removeLast_ok hs2 (by decide) σ hr3 (by decide) (by decide), ob_some]
    dsimp only
    rw [cHeld ((up_o (by omega)).trans hu) h1, ob_some]
    exact ⟨_, rfl, same_up (Or.inl rfl)⟩
  | succ m ih =>
    intro f i n σ _ hi hf hn hu hr1 hr3 hok hd
    obtain ⟨f, rfl⟩ : ∃ f', f = f' + 1 := ⟨f - 1, by omega⟩
    rw [depG] at hd
    cases hdd : dep (σ (k + 2) i) n with
    | none => rw [hdd] at hd; cases hd
    | some kk =>
    rw [hdd] at hd
    obtain ⟨hkk, g1, g2⟩ := dep_some hdd a b c
    subst hkk
    have ok := hok i (by omega)
    rw [f_X6_gives_L41, size_ok, ob_some, hr1, if_neg (fun x => by have := (nI_leI (by omega) (by omega)).mp x; omega), get_ok hs1 (by decide) σ (by omega), ob_some, evG]
    dsimp only
    rw [show k + 1 + 1 = k + 2 by omega]
    -- the way on, once the stack is as the step says
    have go : ∀ s : St, s (k + 3) 1 = nI (stN a b c (σ (k + 2) i) n) → s (k + 4) = stS a b c (σ (k + 2) i) n (σ (k + 4)) → same (fun q _ => q = k + 3 ∨ q = k + 4) σ s → stN a b c (σ (k + 2) i) n ≤ i + 1 →
        ∃ σ', f_X6_gives_L41 k f a b c (nI i + 1) s = some (hld u (evG a b c (σ (k + 2)) m (i + 1) (stN a b c (σ (k + 2) i) n) (stS a b c (σ (k + 2) i) n (σ (k + 4)))), σ') ∧ same (fun q _ => q = k + 3 ∨ q = k + 4) σ σ' := by
      intro s e1 e2 e3 e4
      have hrow : s (k + 2) = σ (k + 2) := funext (fun j => e3 (k + 2) j (by omega))
      obtain ⟨σ', q1, q2⟩ := ih f (i + 1) (stN a b c (σ (k + 2) i) n) s 0 (by omega) (by omega) e4 ((e3 k 2 (by omega)).trans hu) ((e3 (k + 1) 1 (by omega)).trans hr1) e1 (fun j hj => by rw [hrow]; exact hok j hj) (by rw [hrow]; exact hd)
      rw [hrow, e2] at q1
      rw [nI_1]
      exact ⟨σ', q1, e3.tr q2⟩
    by_cases c1 : -3 ≤ σ (k + 2) i
    · -- a number or a name
      have push : ∀ v, stS a b c (σ (k + 2) i) n (σ (k + 4)) = upd (σ (k + 4)) n v → ∃ σ', (Option.bind (f_X2_add (k + 3) v σ) fun r => f_X6_gives_L41 k f a b c (nI i + 1) r) = some (hld u (evG a b c (σ (k + 2)) m (i + 1) (stN a b c (σ (k + 2) i) n) (stS a b c (σ (k + 2) i) n (σ (k + 4)))), σ') ∧ same (fun q _ => q = k + 3 ∨ q = k + 4) σ σ' := by
        intro v hv
        have en : stN a b c (σ (k + 2) i) n = n + 1 := if_pos c1
        rw [add_ok hs2 (by decide) σ v hr3 (by omega), ob_some, show k + 3 + 1 = k + 4 by omega]
        refine go _ ?_ ?_ ((same_up (Or.inr rfl)).tr (same_up (Or.inl rfl))) (by omega)
        · rw [up_e rfl rfl, en]
        · rw [hv]
          funext j
          rw [up_o (by omega), up_row]
      have pushS : stS a b c (σ (k + 2) i) n (σ (k + 4)) = upd (σ (k + 4)) n (if 0 ≤ σ (k + 2) i then σ (k + 2) i else if σ (k + 2) i = -1 then a else if σ (k + 2) i = -2 then b else c) := if_pos c1
      rcases sign_push ok c1 with ⟨p1, p2⟩ | p | p | p
      · rw [if_neg (Int32.not_lt.mpr p1)]
        exact push _ (by rw [pushS, if_pos p1])
      · rw [p] at pushS ⊢
        rw [if_pos (by decide), if_neg (by decide), if_pos rfl]
        rw [← p]
        exact push a (by rw [p, pushS, if_neg (by decide), if_pos rfl])
      · rw [p] at pushS ⊢
        rw [if_pos (by decide), if_neg (by decide), if_neg (by decide), if_pos rfl]
        rw [← p]
        exact push b (by rw [p, pushS, if_neg (by decide), if_neg (by decide), if_pos rfl])
      · rw [p] at pushS ⊢
        rw [if_pos (by decide), if_neg (by decide), if_neg (by decide), if_neg (by decide)]
        rw [← p]
        exact push c (by rw [p, pushS, if_neg (by decide), if_neg (by decide), if_neg (by decide)])
    · have c0 : σ (k + 2) i < -3 := Int32.not_le.mp c1
      rw [if_pos (Int32.lt_trans c0 (by decide)), if_pos c0]
      by_cases c2 : σ (k + 2) i = -33
      · have n1 := g1 c1 c2
        have en : stN a b c (σ (k + 2) i) n = n := by unfold stN; rw [if_neg c1, if_pos c2]
        have es : stS a b c (σ (k + 2) i) n (σ (k + 4)) = upd (σ (k + 4)) (n - 1) (if σ (k + 4) (n - 1) = 0 then 1 else 0) := by unfold stS; rw [if_neg c1, if_pos c2]
        rw [if_pos c2, removeLast_ok hs2 (by decide) σ hr3 (by omega) (by omega), ob_some, show k + 3 + 1 = k + 4 by omega]
        dsimp only
        have fin : ∀ v, stS a b c (σ (k + 2) i) n (σ (k + 4)) = upd (σ (k + 4)) (n - 1) v → ∃ σ', (Option.bind (f_X2_add (k + 3) v (up σ (k + 3) 1 (nI (n - 1)))) fun r => f_X6_gives_L41 k f a b c (nI i + 1) r) = some (hld u (evG a b c (σ (k + 2)) m (i + 1) (stN a b c (σ (k + 2) i) n) (stS a b c (σ (k + 2) i) n (σ (k + 4)))), σ') ∧ same (fun q _ => q = k + 3 ∨ q = k + 4) σ σ' := by
          intro v hv
          rw [add_ok (n := n - 1) hs2 (by decide) _ v (up_e rfl rfl) (by omega), ob_some, show k + 3 + 1 = k + 4 by omega, show n - 1 + 1 = n by omega]
          refine go _ ?_ ?_ (((same_up (Or.inl rfl)).tr (same_up (Or.inr rfl))).tr (same_up (Or.inl rfl))) (by omega)
          · rw [up_e rfl rfl, en]
          · rw [hv]
            funext j
            rw [up_o (by omega), up_row]
            by_cases hj : j = n - 1
            · rw [hj, pk_us, pk_us]
            · rw [pk_un hj, pk_un hj, up_o (by omega)]
        by_cases z : σ (k + 4) (n - 1) = 0
        · rw [if_pos z]
          exact fin 1 (by rw [es, if_pos z])
        · rw [if_neg z]
          exact fin 0 (by rw [es, if_neg z])
      · have n2 := g2 c1 c2
        have en : stN a b c (σ (k + 2) i) n = n - 1 := by unfold stN; rw [if_neg c1, if_neg c2]
        have es : stS a b c (σ (k + 2) i) n (σ (k + 4)) = upd (σ (k + 4)) (n - 2) (dn (cvt (σ (k + 2) i)) (σ (k + 4) (n - 2)) (σ (k + 4) (n - 1))) := by unfold stS; rw [if_neg c1, if_neg c2]
        rw [if_neg c2, removeLast_ok hs2 (by decide) σ hr3 (by omega) (by omega), ob_some]
        dsimp only
        rw [removeLast_ok (n := n - 1) hs2 (by decide) _ (up_e rfl rfl) (by omega) (by omega), ob_some, show k + 3 + 1 = k + 4 by omega, show n - 1 - 1 = n - 2 by omega, up_o (by omega)]
        dsimp only
        rw [joined_ok ok c1 c2, ob_some]
        dsimp only
        rw [add_ok (n := n - 2) hs2 (by decide) _ _ (up_e rfl rfl) (by omega), ob_some, show k + 3 + 1 = k + 4 by omega, show n - 2 + 1 = n - 1 by omega]
        refine go _ ?_ ?_ ((((same_up (Or.inl rfl)).tr (same_up (Or.inl rfl))).tr (same_up (Or.inr rfl))).tr (same_up (Or.inl rfl))) (by omega)
        · rw [up_e rfl rfl, en]
        · rw [es]
          funext j
          rw [up_o (by omega), up_row]
          by_cases hj : j = n - 2
          · rw [hj, pk_us, pk_us]
          · rw [pk_un hj, pk_un hj, up_o (by omega), up_o (by omega)]
/-- what a text gives: g its signs (l of them) -/
def tval (u : Nat) (g : Nat → Int32) (l : Nat) (a b c : Int32) : Int32 := if l = 0 then hld u (if u = 0 then 1 + c / 2 else 1) else hld u (evG a b c g l 0 0 (fun _ => 0))
def txt (N : Nat → Int32) (a : Nat) (g : Nat → Int32) (l : Nat) : Prop := l ≤ 50 ∧ N a = nI l ∧ (∀ i, i < l → N (a + 1 + i) = cvt (g i) ∧ okSign (g i)) ∧ (l = 0 ∨ depG g l 0 0 = some 1)
theorem RVc.txt {σ : St} {r a l : Nat} {N : Nat → Int32} (h : RVc σ r N a l) : txt N a (σ (r + 1)) l := ⟨h.1, h.2.1, h.2.2.2.1, h.2.2.2.2⟩
theorem cGives {k u l : Nat} (hk : k = 31 ∨ k = 36) (h1 : u ≤ 1) {N : Nat → Int32} {t : Nat} {σ : St} (hu : σ k 2 = nI u) (hr : σ (k + 1) 1 = nI l) (ht : txt N t (σ (k + 2)) l) (a b c : Int32) :
    ∃ σ', f_X6_gives k a b c σ = some (tval u (σ (k + 2)) l a b c, σ') ∧ same (fun q _ => q = k + 3 ∨ q = k + 4) σ σ' := by
  obtain ⟨hl, -, hok, hd⟩ := ht
  rw [f_X6_gives, size_ok, ob_some, hr, tval]
  dsimp only
  by_cases h0 : l = 0
  · subst h0
    rw [if_pos (show nI 0 = 0 from rfl), if_pos rfl]
    simp only [hu, ob_eta]
    by_cases hu0 : u = 0
    · subst hu0
      rw [if_pos (show nI 0 = 0 from rfl), if_pos rfl, cHeld hu h1]
      exact ⟨σ, rfl, same.rf⟩
    · rw [if_neg (fun x => hu0 ((nI_z (by omega)).mp x)), if_neg hu0, cHeld hu h1]
      exact ⟨σ, rfl, same.rf⟩
  · rw [if_neg (fun x => h0 ((nI_z (by omega)).mp x)), if_neg h0, clear_ok, ob_some]
    have hd' := hd.resolve_left h0
    have row : (up σ (k + 3) 1 0) (k + 2) = σ (k + 2) := funext (fun j => up_o (by omega))
    obtain ⟨σ', q1, q2⟩ := gives_L hk h1 hl a b c l 400 0 0 (up σ (k + 3) 1 0) 0 (by omega) (by omega) (Nat.le_refl _) ((up_o (by omega)).trans hu) ((up_o (by omega)).trans hr) (up_e rfl rfl) (fun j hj => by rw [row]; exact (hok j hj).2) (by rw [row]; exact hd')
    rw [row] at q1
    refine ⟨σ', ?_, (same_up (Or.inl rfl)).tr q2⟩
    rw [show (0 : Int32) = nI 0 from rfl]
    refine q1.trans ?_
    rw [evG_congr hd' (Nat.le_refl _) (fun j _ _ => rfl) (fun j hj => by omega)]
/-! the reference's texts -/
theorem worked_L {t l : Nat} (ht : t + 52 ≤ 273) (ht0 : 1 ≤ t) (hl : l ≤ 50) (g : Nat → Int32) (a b c : Int32) : ∀ m f i n (τ : St), i + m = l → m < f → n ≤ i → τ 1 t = nI l → τ 7 0 = a → τ 7 1 = b → τ 7 2 = c → (∀ j, j < l → τ 1 (t + 1 + j) = cvt (g j) ∧ okSign (g j)) → depG g m i n = some 1 →
    ∃ τ', f_X11_worked_L4 f (nI (t + 1)) (nI n) (nI (t + 1 + i)) τ = some (evG a b c g m i n (τ 8), τ') ∧ same (fun q _ => q = 8) τ τ' := by
  intro m
  induction m with
  | zero =>
    intro f i n τ hi hf hn hN na nb nc hg hd
    obtain ⟨f, rfl⟩ : ∃ f', f = f' + 1 := ⟨f - 1, by omega⟩
    rw [f_X11_worked_L4, nI_pred, if_in (by omega), clampN (by omega), hN, nI_add, if_pos (by rw [show t + 1 + i = t + 1 + l by omega]; exact Int32.le_rfl)]
    exact ⟨τ, rfl, same.rf⟩
  | succ m ih =>
    intro f i n τ hi hf hn hN na nb nc hg hd
    obtain ⟨f, rfl⟩ : ∃ f', f = f' + 1 := ⟨f - 1, by omega⟩
    rw [depG] at hd
    cases hdd : dep (g i) n with
    | none => rw [hdd] at hd; cases hd
    | some kk =>
    rw [hdd] at hd
    obtain ⟨hkk, g1, g2⟩ := dep_some hdd a b c
    subst hkk
    obtain ⟨hgi, ok⟩ := hg i (by omega)
    rw [f_X11_worked_L4, nI_pred, if_in (by omega), clampN (by omega), hN, nI_add, if_neg (fun x => by have := (nI_leI (by omega) (by omega)).mp x; omega), if_in (by omega), clampN (by omega), hgi, nI_1, evG]
    have go : ∀ s : St, s 8 = stS a b c (g i) n (τ 8) → same (fun q _ => q = 8) τ s → stN a b c (g i) n ≤ i + 1 →
        ∃ τ', f_X11_worked_L4 f (nI (t + 1)) (nI (stN a b c (g i) n)) (nI (t + 1 + i + 1)) s = some (evG a b c g m (i + 1) (stN a b c (g i) n) (stS a b c (g i) n (τ 8)), τ') ∧ same (fun q _ => q = 8) τ τ' := by
      intro s e2 e3 e4
      obtain ⟨τ', q1, q2⟩ := ih f (i + 1) (stN a b c (g i) n) s (by omega) (by omega) e4 ((e3 1 t (by omega)).trans hN) ((e3 7 0 (by omega)).trans na) ((e3 7 1 (by omega)).trans nb) ((e3 7 2 (by omega)).trans nc) (fun j hj => by rw [e3 1 _ (by omega)]; exact hg j hj) hd
      rw [e2] at q1
      exact ⟨τ', q1, e3.tr q2⟩
    have i8 : ∀ j, j < 60 → inb (nI j) (shM 8 - 100) = true := fun j hj => nI_inb hj (by decide)
    by_cases c1 : -3 ≤ g i
    · have en : stN a b c (g i) n = n + 1 := if_pos c1
      have pushS : stS a b c (g i) n (τ 8) = upd (τ 8) n (if 0 ≤ g i then g i else if g i = -1 then a else if g i = -2 then b else c) := if_pos c1
      have push : ∀ v, stS a b c (g i) n (τ 8) = upd (τ 8) n v → ∃ τ', f_X11_worked_L4 f (nI (t + 1)) (nI (n + 1)) (nI (t + 1 + i + 1)) (up τ 8 n v) = some (evG a b c g m (i + 1) (stN a b c (g i) n) (stS a b c (g i) n (τ 8)), τ') ∧ same (fun q _ => q = 8) τ τ' := by
        intro v hv
        have := go (up τ 8 n v) (by rw [hv, up_row]) (same_up rfl) (by omega)
        rw [en] at this ⊢
        exact this
      rcases sign_push ok c1 with ⟨p1, p2⟩ | p | p | p
      · have ec : cvt (g i) = g i := if_pos p1
        rw [ec, if_neg (fun x => absurd (Int32.le_trans x p2) (by decide)), if_neg (fun x => absurd (Int32.le_trans x p2) (by decide)), if_pos (i8 n (by omega)), clampN (by omega), bst_ok, nI_1]
        exact push _ (by rw [pushS, if_pos p1])
      · rw [p, show cvt (-1) = 10000 by decide, if_neg (by decide), if_pos (by decide), if_pos (by decide), if_pos (i8 n (by omega)), clampN (by omega), bst_ok, nI_1, show ((10000 : Int32) - 10000).toNatClampNeg = 0 by decide, na]
        rw [← p]
        exact push a (by rw [pushS, p, if_neg (by decide), if_pos rfl])
      · rw [p, show cvt (-2) = 10001 by decide, if_neg (by decide), if_pos (by decide), if_pos (by decide), if_pos (i8 n (by omega)), clampN (by omega), bst_ok, nI_1, show ((10001 : Int32) - 10000).toNatClampNeg = 1 by decide, nb]
        rw [← p]
        exact push b (by rw [pushS, p, if_neg (by decide), if_neg (by decide), if_pos rfl])
      · rw [p, show cvt (-3) = 10002 by decide, if_neg (by decide), if_pos (by decide), if_pos (by decide), if_pos (i8 n (by omega)), clampN (by omega), bst_ok, nI_1, show ((10002 : Int32) - 10000).toNatClampNeg = 2 by decide, nc]
        rw [← p]
        exact push c (by rw [pushS, p, if_neg (by decide), if_neg (by decide), if_neg (by decide)])
    · by_cases c2 : g i = -33
      · have n1 := g1 c1 c2
        have en : stN a b c (g i) n = n := by unfold stN; rw [if_neg c1, if_pos c2]
        have es : stS a b c (g i) n (τ 8) = upd (τ 8) (n - 1) (if τ 8 (n - 1) = 0 then 1 else 0) := by unfold stS; rw [if_neg c1, if_pos c2]
        have e1 : nI n - 1 = nI (n - 1) := by
          rw [show n = n - 1 + 1 by omega]
          exact nI_pred _
        have fin : ∀ v, stS a b c (g i) n (τ 8) = upd (τ 8) (n - 1) v → ∃ τ', f_X11_worked_L4 f (nI (t + 1)) (nI n) (nI (t + 1 + i + 1)) (up τ 8 (n - 1) v) = some (evG a b c g m (i + 1) (stN a b c (g i) n) (stS a b c (g i) n (τ 8)), τ') ∧ same (fun q _ => q = 8) τ τ' := by
          intro v hv
          have := go (up τ 8 (n - 1) v) (by rw [hv, up_row]) (same_up rfl) (by omega)
          rw [en] at this ⊢
          exact this
        have ec : cvt (g i) = 20010 := by rw [c2]; decide
        rw [ec, if_pos (by decide), if_pos rfl, e1, if_pos (i8 (n - 1) (by omega)), clampN (by omega)]
        by_cases z : τ 8 (n - 1) = 0
        · rw [if_pos z, if_pos (i8 (n - 1) (by omega)), bst_ok]
          exact fin 1 (by rw [es, if_pos z])
        · rw [if_neg z, if_pos (i8 (n - 1) (by omega)), bst_ok]
          exact fin 0 (by rw [es, if_neg z])
      · have n2 := g2 c1 c2
        have en : stN a b c (g i) n = n - 1 := by unfold stN; rw [if_neg c1, if_neg c2]
        have es : stS a b c (g i) n (τ 8) = upd (τ 8) (n - 2) (dn (cvt (g i)) (τ 8 (n - 2)) (τ 8 (n - 1))) := by unfold stS; rw [if_neg c1, if_neg c2]
        have e1 : nI n + (-1) = nI (n - 1) := by
          rw [show n = n - 1 + 1 by omega]
          exact pk_m1 _
        have e2 : nI (n - 1) - 1 = nI (n - 2) := by
          rw [show n - 1 = n - 2 + 1 by omega]
          exact nI_pred _
        have big : 20000 ≤ cvt (g i) ∧ ¬ cvt (g i) = 20010 := by
          rcases sign_ops ok c1 c2 with p | p | p | p | p | p | p | p | p | p <;> rw [p] <;> decide
        rw [if_pos big.1, if_neg big.2, e1, e2, if_pos (i8 (n - 2) (by omega)), if_pos (i8 (n - 1) (by omega)), clampN (by omega), clampN (by omega), done_ok, ob_some]
        dsimp only
        rw [if_pos (i8 (n - 2) (by omega)), bst_ok]
        have := go (up τ 8 (n - 2) (dn (cvt (g i)) (τ 8 (n - 2)) (τ 8 (n - 1)))) (by rw [es, up_row]) (same_up rfl) (by omega)
        rw [en] at this ⊢
        exact this
theorem mHeld (w a b : Int32) (τ : St) : f_X11_held w a b τ = some (imax a (imin b w), τ) := rfl
theorem mGiven {u l : Nat} (h1 : u ≤ 1) {g : Nat → Int32} {τ : St} (ht : txt (τ 1) (169 + 52 * u) g l) (a b c : Int32) :
    ∃ τ', f_X11_given (nI u) a b c τ = some (tval u g l a b c, τ') ∧ same (fun q _ => q = 7 ∨ q = 8) τ τ' := by
  obtain ⟨hl, hN, hg, hd⟩ := ht
  have s3 : same (fun q _ => q = 7 ∨ q = 8) τ (up (up (up τ 7 0 a) 7 1 b) 7 2 c) := ((same_up (Or.inl rfl)).tr (same_up (Or.inl rfl))).tr (same_up (Or.inl rfl))
  have ix : (169 : Int32) + 52 * nI u = nI (169 + 52 * u) := by rw [show (169 : Int32) = nI 169 from rfl, show (52 : Int32) = nI 52 from rfl, pk_mul, nI_add]
  have main : ∀ w, w = (if u = 0 then 1 + c / 2 else 1) → ∃ τ', f_X11_given_L36 (nI u) w (up (up (up τ 7 0 a) 7 1 b) 7 2 c) = some (tval u g l a b c, τ') ∧ same (fun q _ => q = 7 ∨ q = 8) τ τ' := by
    intro w hw
    have hN' : (up (up (up τ 7 0 a) 7 1 b) 7 2 c) 1 (169 + 52 * u) = nI l := (s3 1 _ (by omega)).trans hN
    rw [f_X11_given_L36, f_X11_hasText, ix, if_in (by omega), clampN (by omega), hN', tval]
    have lz : nI u = 0 ↔ u = 0 := nI_z (by omega)
    by_cases h0 : l = 0
    · subst h0
      rw [if_pos (show nI 0 ≤ 0 by decide), ob_some, if_pos rfl]
      dsimp only
      rw [if_pos rfl, ob_eta, ob_eta, mHeld, mHeld, hw, hld]
      by_cases hu0 : u = 0
      · rw [if_pos (lz.mpr hu0), if_pos hu0, if_pos hu0]
        exact ⟨_, rfl, s3⟩
      · rw [if_neg (fun x => hu0 (lz.mp x)), if_neg hu0, if_neg hu0]
        exact ⟨_, rfl, s3⟩
    · have hd' := hd.resolve_left h0
      rw [if_neg (fun x => h0 ((nI_le0 (by omega)).mp x)), ob_some, if_neg h0]
      dsimp only
      rw [if_neg (by decide), nI_1]
      obtain ⟨τ', q1, q2⟩ := worked_L (t := 169 + 52 * u) (l := l) (by omega) (by omega) hl g a b c l 400 0 0 (up (up (up τ 7 0 a) 7 1 b) 7 2 c) (by omega) (by omega) (Nat.le_refl _) hN' (by simp (disch := omega) only [up_o, up_e]) (by simp (disch := omega) only [up_o, up_e]) (by simp (disch := omega) only [up_e]) (fun j hj => by rw [s3 1 _ (by omega)]; exact hg j hj) hd'
      have q0 : f_X11_worked (nI (169 + 52 * u + 1)) (up (up (up τ 7 0 a) 7 1 b) 7 2 c) = some (evG a b c g l 0 0 (fun _ => 0), τ') := by
        rw [f_X11_worked]
        refine q1.trans ?_
        rw [evG_congr hd' (Nat.le_refl _) (fun j _ _ => rfl) (fun j hj => by omega)]
      rw [q0, ob_some]
      dsimp only
      rw [ob_eta, ob_eta, mHeld, mHeld, hld]
      have s4 := s3.tr (q2.mono (fun q j h => Or.inr h))
      by_cases hu0 : u = 0
      · rw [if_pos (lz.mpr hu0), if_pos hu0]
        exact ⟨_, rfl, s4⟩
      · rw [if_neg (fun x => hu0 (lz.mp x)), if_neg hu0]
        exact ⟨_, rfl, s4⟩
  rw [f_X11_given, bst_ok, bst_ok, bst_ok]
  by_cases hu0 : u = 0
  · rw [if_pos ((nI_z (by omega)).mpr hu0)]
    exact main _ (by rw [if_pos hu0])
  · rw [if_neg (fun x => hu0 ((nI_z (by omega)).mp x))]
    exact main _ (by rw [if_neg hu0])
theorem k_law {σ τ : St} (h : RR σ τ) (a b c d : Int32) : Agree (f_X10_law a b c d σ) (f_X11_law a b c d τ) := by
  obtain ⟨-, -, -, -, -, ⟨l0, C0⟩, ⟨l1, C1⟩⟩ := h.1
  have hu0 : σ 31 2 = nI 0 := h.2.2.2.2.2.2.1
  have hu1 : σ 36 2 = nI 1 := h.2.2.2.2.2.2.2
  simp only [f_X10_law, f_X11_law, within_ok, mwithin_ok, ob_some, ob_eta, if_bI]
  refine Agree.cond (fun hb => ?_) (fun _ => Agree.err h 1)
  obtain ⟨v, -, hv, rfl⟩ := btw_nI 0 1 hb
  have : v = 0 ∨ v = 1 := by omega
  rcases this with rfl | rfl
  · obtain ⟨σ', e1, e2⟩ := cGives (k := 31) (u := 0) (Or.inl rfl) (by decide) hu0 C0.2.2.1 C0.txt b c d
    obtain ⟨τ', m1, m2⟩ := mGiven (u := 0) (by decide) C0.txt b c d
    rw [n0, f_X7_textOf, if_pos rfl, ob_some]
    dsimp only
    rw [if_pos (by decide), e1]
    rw [n0] at m1
    rw [m1]
    exact Agree.of (h.scr (e2.mono (fun q j hq => by unfold scrC; omega)) (m2.mono (fun q j hq => by unfold scrM; omega)))
  · obtain ⟨σ', e1, e2⟩ := cGives (k := 36) (u := 1) (Or.inr rfl) (by decide) hu1 C1.2.2.1 C1.txt b c d
    obtain ⟨τ', m1, m2⟩ := mGiven (u := 1) (by decide) C1.txt b c d
    rw [n1, f_X7_textOf, if_neg (by decide), ob_some]
    dsimp only
    rw [if_pos (by decide), e1]
    rw [n1] at m1
    rw [m1]
    exact Agree.of (h.scr (e2.mono (fun q j hq => by unfold scrC; omega)) (m2.mono (fun q j hq => by unfold scrM; omega)))
