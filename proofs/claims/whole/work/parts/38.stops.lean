/-! stops -/
theorem z_and0 : ∀ a, a < 256 → ∀ b, b < 256 → ((nI a &&& nI b = 0) ↔ a &&& b = 0) := by
  intro a ha b hb
  rw [z_and]
  exact nI_z (Nat.lt_of_le_of_lt Nat.and_le_left (by omega))
theorem bit_or1 (p q : Bool) : nI p.toNat ||| nI q.toNat = nI (p || q).toNat := by cases p <;> cases q <;> rfl
def fpZ (q j : Nat) : Prop := fpH q j ∨ q = 41
theorem fpZ_scr (q j : Nat) (h : fpZ q j) : scrC q j := h.elim (fpH_scr q j) (fun y => by unfold scrC; omega)
section STOPS
variable {σ τ : St} {w nw sp ns nf l0 l1 j s n m : Nat} {g0 g1 : Nat → Int32} {kn kf : Nat → Nat}
theorem moreM (h2 : τ 1 2 = nI nw) (w8 : nw ≤ 8) (hm : m < 2 ^ nw) (hsp : sp < 2 ^ nw) (hf : ∀ i, i < nw → τ 1 (12 + 4 * i) = nI (sp.testBit i).toNat) : f_X11_isMoreStopped (nI m) τ = some (bI (decide (m &&& sp = 0)), τ) := by
  have m8 : m < 256 := lt_256 hm w8
  have L : ∀ f i (b : Bool), i ≤ nw → nw - i < f → (b = true ↔ ∀ k, k < i → (m.testBit k && sp.testBit k) = false) → f_X11_isMoreStopped_L4 f (nI m) (bI b) (nI i) τ = some (bI (decide (m &&& sp = 0)), τ) := by
    intro f
    induction f with
    | zero => intro i _ _ h; omega
    | succ f ih =>
      intro i b hi hf' hb
      rw [f_X11_isMoreStopped_L4, h2]
      by_cases e : i = nw
      · subst e
        rw [if_pos Int32.le_rfl, if_bI01]
        have : b = decide (m &&& sp = 0) := by
          rw [Bool.eq_iff_iff, hb, decide_eq_true_iff]
          constructor
          · intro q
            apply Nat.eq_of_testBit_eq
            intro k
            rw [Nat.testBit_and, Nat.zero_testBit]
            by_cases hk : k < i
            · exact q k hk
            · rw [tb_ge hm (by omega)]
              rfl
          · intro q k hk
            rw [← Nat.testBit_and, q, Nat.zero_testBit]
        rw [this]
      · have hlt : i < nw := by omega
        rw [if_neg (fun x => e (by have := (nI_leI (by omega) (by omega)).mp x; omega)), nI_1]
        have nxt : ∀ b' : Bool, (b' = true ↔ b = true ∧ (m.testBit i && sp.testBit i) = false) → f_X11_isMoreStopped_L4 f (nI m) (bI b') (nI (i + 1)) τ = some (bI (decide (m &&& sp = 0)), τ) := fun b' q => ih (i + 1) b' hlt (by omega) (by
          rw [q, hb]
          constructor
          · rintro ⟨x, y⟩ k hk
            by_cases h : k = i
            · subst h; exact y
            · exact x k (by omega)
          · intro x
            exact ⟨fun k hk => x k (by omega), x i (by omega)⟩)
        cases b
        · rw [if_pos (show bI false = 0 from rfl)]
          exact nxt false (by simp)
        · rw [if_neg (show ¬ bI true = 0 by decide), hasBit_ok m8 (by omega), ob_some]
          dsimp only
          rw [if_bI]
          cases hb2 : m.testBit i
          · exact nxt true (by simp [hb2])
          · dsimp only [cond]
            rw [wayIs3 τ (by omega), ob_some, hf i hlt]
            dsimp only
            cases hb3 : sp.testBit i
            · rw [if_pos (show nI false.toNat = 0 from rfl)]
              exact nxt true (by simp [hb3])
            · rw [if_neg (show ¬ nI true.toNat = 0 by decide)]
              exact nxt false (by simp [hb2, hb3])
  exact L 400 0 true (Nat.zero_le _) (by omega) ⟨fun _ k hk => by omega, fun _ => rfl⟩
theorem flagM (w8 : nw ≤ 8) (hm : m < 2 ^ nw) (h2 : τ 1 2 = nI nw) (hf : ∀ i, i < nw → τ 1 (12 + 4 * i) = nI (sp.testBit i).toNat) {t : St} (A : Aside τ t) (ht : ∀ x, x < 273 → t 1 x = τ 1 x) : ∃ t1, f_X11_knowsIfStopped_L14 400 (nI j) (nI s) (nI n) (nI m) 0 t = (Option.bind (f_X11_knowersBehind (nI s) (nI n) t1) fun r3 => (Option.bind (f_X11_hasBit r3.1 (nI j) r3.2) fun r4 => (if r4.1 = 0 ∨ r4.1 = 1 then (some (r4.1, r4.2)) else none))) ∧ Aside τ t1 ∧ (∀ x, x < 273 → ¬ (12 ≤ x ∧ x < 12 + 4 * nw ∧ x % 4 = 0) → t1 1 x = τ 1 x) ∧ ∀ i, i < nw → t1 1 (12 + 4 * i) = nI ((sp ||| m).testBit i).toNat := by
  have m8 : m < 256 := lt_256 hm w8
  have L : ∀ f i (t : St), i ≤ nw → nw - i < f → Aside τ t → (∀ x, x < 273 → ¬ (12 ≤ x ∧ x < 12 + 4 * i ∧ x % 4 = 0) → t 1 x = τ 1 x) → (∀ k, k < i → t 1 (12 + 4 * k) = nI ((sp ||| m).testBit k).toNat) →
      ∃ t1, f_X11_knowsIfStopped_L14 f (nI j) (nI s) (nI n) (nI m) (nI i) t = (Option.bind (f_X11_knowersBehind (nI s) (nI n) t1) fun r3 => (Option.bind (f_X11_hasBit r3.1 (nI j) r3.2) fun r4 => (if r4.1 = 0 ∨ r4.1 = 1 then (some (r4.1, r4.2)) else none))) ∧ Aside τ t1 ∧ (∀ x, x < 273 → ¬ (12 ≤ x ∧ x < 12 + 4 * nw ∧ x % 4 = 0) → t1 1 x = τ 1 x) ∧ ∀ i, i < nw → t1 1 (12 + 4 * i) = nI ((sp ||| m).testBit i).toNat := by
    intro f
    induction f with
    | zero => intro i _ _ h; omega
    | succ f ih =>
      intro i t hi hf' A h1 h3
      rw [f_X11_knowsIfStopped_L14, A.2 2 (by decide), h2]
      by_cases e : i = nw
      · subst e
        rw [if_pos Int32.le_rfl]
        exact ⟨t, rfl, A, h1, h3⟩
      · have hlt : i < nw := by omega
        rw [if_neg (fun x => e (by have := (nI_leI (by omega) (by omega)).mp x; omega)), wayAt3, ob_some, if_in (by omega), if_in (by omega), bst_ok, clampN (by omega), z_in m m8 i (by omega), nI_1]
        dsimp only
        rw [h1 (12 + 4 * i) (by omega) (by omega), hf i hlt, bit_or1]
        refine ih (i + 1) _ hlt (by omega) (A.tr (same_up (Or.inl rfl))) (fun x hx hq => ?_) (fun k hk => ?_)
        · rw [up_o (by omega)]
          exact h1 x hx (by omega)
        · by_cases q : k = i
          · subst q
            rw [up_e rfl rfl, Nat.testBit_or]
          · rw [up_o (by omega)]
            exact h3 k (by omega)
  exact L 400 0 t (Nat.zero_le _) (by omega) A (fun x hx _ => ht x hx) (fun k hk => by omega)
theorem stopOne (T : TK σ (τ 1) w nw sp ns nf l0 l1 g0 g1 kn kf) (M : MS (τ 1) nw ns nf l0 l1 g0 g1 kf) (hs : s < ns) (hj : j < nf) (hn : n < 400) (hm : m < 2 ^ nw) :
    ∃ b : Bool, (∀ σ1, same fpZ σ σ1 → ∃ σ2, f_X10_hinders (nI m) (nI j) (nI s) (nI n) σ1 = some (bI b, σ2) ∧ same fpZ σ σ2) ∧
      (∀ t, same scrM τ t → f_X11_isMoreStopped (nI m) t = some (bI (decide (m &&& sp = 0)), t) ∧ (m &&& sp = 0 → ∃ t', f_X11_knowsIfStopped (nI j) (nI s) (nI n) (nI m) t = some (bI (!b), t') ∧ same scrM τ t')) ∧ (b = true → m &&& sp = 0) := by
  obtain ⟨⟨a0, a0', a1, a2, a3, a4⟩, Y, F, K, C, ek⟩ := id T
  have y8 := M.1.2.1
  have f6 := M.1.2.2.1
  have w8 := M.1.1
  have m8 : m < 256 := lt_256 hm w8
  have s8 : sp < 256 := lt_256 a4 w8
  have flags : ∀ i, i < nw → τ 1 (12 + 4 * i) = nI (sp.testBit i).toNat := fun i hi => (C.2.1 i hi).2.2.2
  have moreT : ∀ t, same scrM τ t → f_X11_isMoreStopped (nI m) t = some (bI (decide (m &&& sp = 0)), t) := fun t S => moreM ((S 1 2 (by unfold scrM; omega)).trans M.1.2.2.2.1) w8 hm a4 (fun i hi => (S 1 _ (by unfold scrM; omega)).trans (flags i hi))
  by_cases z : m &&& sp = 0
  · -- the reference: from any state that is like τ
    have ref : ∀ t, same scrM τ t → ∃ t1, f_X11_knowsIfStopped (nI j) (nI s) (nI n) (nI m) t = (Option.bind (f_X11_knowersBehind (nI s) (nI n) t1) fun r3 => (Option.bind (f_X11_hasBit r3.1 (nI j) r3.2) fun r4 => (if r4.1 = 0 ∨ r4.1 = 1 then (some (r4.1, r4.2)) else none))) ∧ Aside τ t1 ∧ (∀ x, x < 273 → ¬ (12 ≤ x ∧ x < 12 + 4 * nw ∧ x % 4 = 0) → t1 1 x = τ 1 x) ∧ ∀ i, i < nw → t1 1 (12 + 4 * i) = nI ((sp ||| m).testBit i).toNat := by
      intro t S
      obtain ⟨t0, s1, s2, s3, s4⟩ := mSave t
      have A0 : Aside τ t0 := ⟨fun q x hq => (s2.1 q x hq).trans (S q x (fun y => hq (Or.inr y))), fun x hx => (s2.2 x hx).trans (S 1 x (by unfold scrM; omega))⟩
      obtain ⟨t1, q1, q2, q3, q4⟩ := flagM (j := j) (s := s) (n := n) w8 hm M.1.2.2.2.1 flags A0 (fun x hx => by rw [s3]; exact S 1 x (by unfold scrM; omega))
      exact ⟨t1, by rw [f_X11_knowsIfStopped, s1, ob_some]; exact q1, q2, q3, q4⟩
    -- the class: from any state that is like σ
    have cls : ∀ σ1, same fpZ σ σ1 → ∃ σ2, f_X7_thought (nI s) σ1 = some (41, σ2) ∧ same fpZ σ σ2 ∧ MV σ2 (τ 1) (kst nf kf s) s ∧ CS σ2 (τ 1) nw nf l0 l1 sp g0 g1 := by
      intro σ1 S
      have T1 := T.moved (σ' := σ1) (fun q x y => S q x (by unfold fpK at y; unfold fpZ fpH; omega))
      obtain ⟨-, Y1, F1, K1, C1, -⟩ := T1
      obtain ⟨σ2, e1, e2, mv⟩ := cThought Y1 K1 hs
      rw [ek s hs] at mv
      exact ⟨σ2, e1, S.tr (e2.mono (fun q x y => Or.inr y)), mv, C1.moved (fun q x y => e2 q x (by omega))⟩
    obtain ⟨g, hg, eg⟩ := (Y.2.2.2.2.2.2.2.2 s hs).2.2.2.2.2.2.2
    have spm : sp ||| m < 256 := Nat.or_lt_two_pow (n := 8) s8 m8
    have pair : ∀ σ2 t1, MV σ2 (τ 1) (kst nf kf s) s → CS σ2 (τ 1) nw nf l0 l1 sp g0 g1 → σ2 1 2 = τ 1 0 → Aside τ t1 → (∀ x, x < 273 → ¬ (12 ≤ x ∧ x < 12 + 4 * nw ∧ x % 4 = 0) → t1 1 x = τ 1 x) → (∀ i, i < nw → t1 1 (12 + 4 * i) = nI ((sp ||| m).testBit i).toNat) →
        ∃ KK σ3 t2, KK < 2 ^ nf ∧ f_X7_passAll 41 (τ 1 5) (nI (sp ||| m)) (nI n) σ2 = some σ3 ∧ same fpH σ2 σ3 ∧ σ3 41 5 = nI KK ∧ f_X11_knowersBehind (nI s) (nI n) t1 = some (nI KK, t2) ∧ same scrM τ t2 := by
      intro σ2 t1 mv C2 hh A q3 q4
      have C3 : CS σ2 (t1 1) nw nf l0 l1 (sp ||| m) g0 g1 := by
        obtain ⟨⟨b1, b2, b3, b4, b5⟩, c, d, e, e1, e2, e3, e4⟩ := C2
        refine ⟨⟨b1, b2, spm, b4, b5⟩, fun i hi => ?_, fun f hf => ?_, e, e1, e2, e3.row (fun i x y => q3 i (by omega) (by omega)), e4.row (fun i x y => q3 i (by omega) (by omega))⟩
        · rw [q3 (9 + 4 * i) (by omega) (by omega), q3 (10 + 4 * i) (by omega) (by omega), q3 (11 + 4 * i) (by omega) (by omega)]
          exact ⟨(c i hi).1, (c i hi).2.1, (c i hi).2.2.1, q4 i hi⟩
        · rw [q3 (81 + 3 * f) (by omega) (by omega), q3 (82 + 3 * f) (by omega) (by omega)]
          exact d f hf
      have M3 : MS (t1 1) nw ns nf l0 l1 g0 g1 kf := M.rowG (fun x hx => q3 x (by omega) (by omega))
      have mv3 : MV σ2 (t1 1) (kst nf kf s) s := by
        unfold MV at mv ⊢
        rw [q3 (41 + 5 * s) (by omega) (by omega), q3 (42 + 5 * s) (by omega) (by omega), q3 (43 + 5 * s) (by omega) (by omega), q3 (44 + 5 * s) (by omega) (by omega), q3 (45 + 5 * s) (by omega) (by omega)]
        exact mv
      obtain ⟨KK, σ3, t2, k1, k2, k3, k4, k5, k6, -, -⟩ := one C3 M3 mv3 hs (by omega) ((q3 _ (by omega) (by omega)).trans eg) (hh.trans (q3 0 (by omega) (by omega)).symm) A hn
      rw [q3 5 (by omega) (by omega)] at k2
      exact ⟨KK, σ3, t2, k1, k2, k3, k4, k5, k6⟩
    obtain ⟨σa, ca1, ca2, ca3, ca4⟩ := cls σ same.rf
    obtain ⟨ta, ra1, ra2, ra3, ra4⟩ := ref τ same.rf
    have hh : ∀ σ2, same fpZ σ σ2 → σ2 1 2 = τ 1 0 := fun σ2 S => (S 1 2 (by unfold fpZ fpH; omega)).trans a2
    obtain ⟨K0, σ3, t3, p1, p2, p3, p4, p5, p6⟩ := pair σa ta ca3 ca4 (hh σa ca2) ra2 ra3 ra4
    have inj : ∀ x y, x < 2 ^ nf → y < 2 ^ nf → nI x = nI y → x = y := fun x y hx hy e => (nI_eq (by have := lt_64 hx f6; omega) (by have := lt_64 hy f6; omega)).mp e
    refine ⟨!K0.testBit j, fun σ1 S => ?_, fun t S => ⟨moreT t S, fun _ => ?_⟩, fun _ => z⟩
    · obtain ⟨σ2, c1, c2, c3, c4⟩ := cls σ1 S
      obtain ⟨K1, σ4, t4, u1, u2, u3, u4, u5, u6⟩ := pair σ2 ta c3 c4 (hh σ2 c2) ra2 ra3 ra4
      have : K1 = K0 := by
        rw [p5] at u5
        have := congrArg (fun o => o.map Prod.fst) u5
        exact (inj _ _ p1 u1 (Option.some.inj this)).symm
      subst this
      have k8 := lt_256 u1 (show nf ≤ 8 by omega)
      have e0 := (z_and0 m m8 sp s8).mpr z
      rw [f_X10_hinders, S 2 3 (by unfold fpZ fpH; omega), a3, if_pos e0, c1, ob_some]
      dsimp only
      rw [if_pos (by decide), c2 1 1 (by unfold fpZ fpH; omega), a1, c2 2 3 (by unfold fpZ fpH; omega), a3, z_or, u2, ob_some, u4, inSet_ok k8 (by omega), ob_some]
      dsimp only
      have S4 : same fpZ σ σ4 := c2.tr (u3.mono (fun q x y => Or.inl y))
      cases K1.testBit j
      · exact ⟨σ4, rfl, S4⟩
      · exact ⟨σ4, rfl, S4⟩
    · obtain ⟨t1, q1, q2, q3, q4⟩ := ref t S
      obtain ⟨K1, σ4, t4, u1, u2, u3, u4, u5, u6⟩ := pair σa t1 ca3 ca4 (hh σa ca2) q2 q3 q4
      have : K1 = K0 := by
        rw [p2] at u2
        cases u2
        exact inj _ _ u1 p1 (u4.symm.trans p4)
      subst this
      have k8 := lt_256 u1 (show nf ≤ 8 by omega)
      rw [q1, u5, ob_some]
      dsimp only
      rw [hasBit_ok k8 (by omega), ob_some, if_bI01, Bool.not_not]
      exact ⟨t4, rfl, u6⟩
  · refine ⟨false, fun σ1 S => ?_, fun t S => ⟨moreT t S, fun x => absurd x z⟩, fun x => by cases x⟩
    rw [f_X10_hinders, S 2 3 (by unfold fpZ fpH; omega), a3, if_neg (fun x => z ((z_and0 m m8 sp s8).mp x))]
    exact ⟨σ1, rfl, S⟩
end STOPS
def bO (P : Nat → Bool) : Nat → Option Nat
  | 0 => none
  | m + 1 => if P m = true ∧ (∀ b, bO P m = some b → pcN m < pcN b) then some m else bO P m
theorem bO_none {P : Nat → Bool} : ∀ {n : Nat}, bO P n = none → ∀ m, m < n → P m = false
  | 0, _, m, hm => by omega
  | n + 1, h, m, hm => by
    rw [bO] at h
    by_cases q : P n = true ∧ (∀ b, bO P n = some b → pcN n < pcN b)
    · rw [if_pos q] at h
      cases h
    · rw [if_neg q] at h
      by_cases e : m = n
      · subst e
        apply bnot
        intro hp
        exact q ⟨hp, fun b hb => by rw [h] at hb; cases hb⟩
      · exact bO_none h m (by omega)
theorem bO_some {P : Nat → Bool} : ∀ {n b : Nat}, bO P n = some b → b < n ∧ P b = true ∧ ∀ m, m < n → P m = true → pcN b < pcN m ∨ (pcN b = pcN m ∧ b ≤ m)
  | 0, b, h => by cases h
  | n + 1, b, h => by
    rw [bO] at h
    by_cases q : P n = true ∧ (∀ b, bO P n = some b → pcN n < pcN b)
    · rw [if_pos q] at h
      cases h
      refine ⟨by omega, q.1, fun m hm hp => ?_⟩
      by_cases e : m = n
      · subst e; exact Or.inr ⟨rfl, Nat.le_refl _⟩
      · cases hb : bO P n with
        | none => rw [bO_none hb m (by omega)] at hp; cases hp
        | some c =>
          have h1 := q.2 c hb
          have h2 := (bO_some hb).2.2 m (by omega) hp
          omega
    · rw [if_neg q] at h
      obtain ⟨h1, h2, h3⟩ := bO_some h
      refine ⟨by omega, h2, fun m hm hp => ?_⟩
      by_cases e : m = n
      · subst e
        by_cases z : pcN m < pcN b
        · exact absurd ⟨hp, fun c hc => by rw [h] at hc; cases hc; exact z⟩ q
        · by_cases z2 : pcN b < pcN m
          · exact Or.inl z2
          · exact Or.inr ⟨by omega, by omega⟩
      · exact h3 m (by omega) hp
def encO : Option Nat → Int32
  | none => -1
  | some b => nI b
def SP (σ τ : St) (nw sp j s n : Nat) (P : Nat → Bool) : Prop := ∀ m, m < 2 ^ nw → (∀ σ1, same fpZ σ σ1 → ∃ σ2, f_X10_hinders (nI m) (nI j) (nI s) (nI n) σ1 = some (bI (P m), σ2) ∧ same fpZ σ σ2) ∧
      (∀ t, same scrM τ t → f_X11_isMoreStopped (nI m) t = some (bI (decide (m &&& sp = 0)), t) ∧ (m &&& sp = 0 → ∃ t', f_X11_knowsIfStopped (nI j) (nI s) (nI n) (nI m) t = some (bI (!(P m)), t') ∧ same scrM τ t')) ∧ (P m = true → m &&& sp = 0)
def ansM (o : Option Nat) (t : St) : Option (Int32 × St) := match o with | some b => some (nI b, t) | none => f_X11_finding (-1000000002) t
def ansC (o : Option Nat) (t : St) : Option (Int32 × St) := match o with | some b => some (nI b, t) | none => f_X10_error 2 t
theorem encO_n : encO none = -1 := rfl
theorem encO_s (b : Nat) : encO (some b) = nI b := rfl
/-- the reference's search -/
theorem stopsM {σ τ : St} {nw sp j s n : Nat} {P : Nat → Bool} (hP : SP σ τ nw sp j s n P) (w8 : nw ≤ 8) (h2 : τ 1 2 = nI nw) : ∀ d f i (t : St), i + d = 2 ^ nw → d < f → same scrM τ t → ∃ t', same scrM τ t' ∧ f_X11_stops_L39 f (nI j) (nI s) (nI n) (encO (bO P i)) (nI i) t = ansM (bO P (2 ^ nw)) t' := by
  have pw := pw_le w8
  intro d
  induction d with
  | zero =>
    intro f i t hi hf S
    obtain ⟨f, rfl⟩ : ∃ x, f = x + 1 := ⟨f - 1, by omega⟩
    have : i = 2 ^ nw := by omega
    subst this
    rw [f_X11_stops_L39, (S 1 2 (by unfold scrM; omega)).trans h2, z_one nw (by omega), if_pos Int32.le_rfl]
    refine ⟨t, S, ?_⟩
    cases hb : bO P (2 ^ nw) with
    | none =>
      rw [encO_n, if_neg (by decide), ob_eta]
      rfl
    | some c =>
      have := (bO_some hb).1
      rw [encO_s, if_pos (nI_pos' (by omega))]
      rfl
  | succ d ih =>
    intro f i t hi hf S
    obtain ⟨f, rfl⟩ : ∃ x, f = x + 1 := ⟨f - 1, by omega⟩
    have hlt : i < 2 ^ nw := by omega
    obtain ⟨-, h2', h3⟩ := hP i hlt
    obtain ⟨m1, m2⟩ := h2' t S
    rw [f_X11_stops_L39, (S 1 2 (by unfold scrM; omega)).trans h2, z_one nw (by omega), if_neg (fun x => by have := (nI_leI (by omega) (by omega)).mp x; omega)]
    have stay : ¬ (P i = true ∧ (∀ b, bO P i = some b → pcN i < pcN b)) → ∀ t, same scrM τ t → ∃ t', same scrM τ t' ∧ f_X11_stops_L39 f (nI j) (nI s) (nI n) (encO (bO P i)) (nI i + 1) t = ansM (bO P (2 ^ nw)) t' := by
      intro q t S
      have := ih f (i + 1) t (by omega) (by omega) S
      rw [bO, if_neg q] at this
      rw [nI_1]
      exact this
    have take : (P i = true ∧ (∀ b, bO P i = some b → pcN i < pcN b)) → ∀ t, same scrM τ t → ∃ t', same scrM τ t' ∧ f_X11_stops_L39 f (nI j) (nI s) (nI n) (nI i) (nI i + 1) t = ansM (bO P (2 ^ nw)) t' := by
      intro q t S
      have := ih f (i + 1) t (by omega) (by omega) S
      rw [bO, if_pos q, encO_s] at this
      rw [nI_1]
      exact this
    have no : ¬ (P i = true ∧ (∀ b, bO P i = some b → pcN i < pcN b)) → ∃ t', same scrM τ t' ∧ f_X11_stops_L84 (f_X11_stops_L39 f) (nI j) (nI s) (nI n) (encO (bO P i)) (nI i) 0 t = ansM (bO P (2 ^ nw)) t' := by
      intro q
      rw [f_X11_stops_L84, if_pos rfl]
      exact stay q t S
    -- whether it may be taken, once it has fewer
    have may : (∀ b, bO P i = some b → pcN i < pcN b) → ∃ t', same scrM τ t' ∧ (if bI (decide (i &&& sp = 0)) = 0 then f_X11_stops_L84 (f_X11_stops_L39 f) (nI j) (nI s) (nI n) (encO (bO P i)) (nI i) 0 t else f_X11_stops_L84 (f_X11_stops_L39 f) (nI j) (nI s) (nI n) (encO (bO P i)) (nI i) 1 t) = ansM (bO P (2 ^ nw)) t' := by
      intro hb
      by_cases z : i &&& sp = 0
      · rw [decide_eq_true z, if_neg (show ¬ bI true = 0 by decide), f_X11_stops_L84, if_neg (by decide)]
        obtain ⟨t2, k1, k2⟩ := m2 z
        rw [k1, ob_some]
        dsimp only
        cases hp : P i
        · rw [if_neg (show ¬ bI (!false) = 0 by decide)]
          exact stay (fun x => by rw [hp] at x; cases x.1) t2 k2
        · rw [if_pos (show bI (!true) = 0 from rfl)]
          exact take ⟨hp, hb⟩ t2 k2
      · rw [decide_eq_false z, if_pos (show bI false = 0 from rfl)]
        exact no (fun x => z (h3 x.1))
    cases hb : bO P i with
    | none =>
      rw [hb] at may no
      rw [encO_n] at may no ⊢
      rw [if_pos (by decide), m1, ob_some]
      exact may (fun b x => by cases x)
    | some c =>
      have cl := (bO_some hb).1
      rw [hb] at may no
      rw [encO_s] at may no ⊢
      have p1 := pcN_le i
      have p2 := pcN_le c
      rw [if_neg (nI_pos (by omega)), bits_ok (by omega), ob_some]
      dsimp only
      rw [bits_ok (by omega), ob_some]
      dsimp only
      by_cases q : pcN c ≤ pcN i
      · rw [if_pos ((nI_leI (by omega) (by omega)).mpr q)]
        exact no (fun x => by have := x.2 c rfl; omega)
      · rw [if_neg (fun x => q ((nI_leI (by omega) (by omega)).mp x)), m1, ob_some]
        exact may (fun b x => by cases x; omega)
/-- the class's search -/
theorem stopsC {σ τ : St} {nw sp j s n : Nat} {P : Nat → Bool} (hP : SP σ τ nw sp j s n P) (w8 : nw ≤ 8) (R3 : σ 3 1 = nI nw) : ∀ d f k (σ1 : St), k + d = nw + 1 → d < f → same fpZ σ σ1 → (∀ m, m < 2 ^ nw → P m = true → k ≤ pcN m) → ∃ σ2, same fpZ σ σ2 ∧ f_X10_stops_L61 f (nI j) (nI s) (nI n) (nI (2 ^ nw)) (nI k) σ1 = ansC (bO P (2 ^ nw)) σ2 := by
  have pw := pw_le w8
  intro d
  induction d with
  | zero =>
    intro f k σ1 hk hf S inv
    obtain ⟨f, rfl⟩ : ∃ x, f = x + 1 := ⟨f - 1, by omega⟩
    rw [f_X10_stops_L61, cSizW ((S 3 1 (by unfold fpZ fpH; omega)).trans R3), ob_some]
    dsimp only
    rw [if_pos (nI_lt (by omega) (by omega)), ob_eta]
    refine ⟨σ1, S, ?_⟩
    cases hb : bO P (2 ^ nw) with
    | none => rfl
    | some c =>
      exfalso
      obtain ⟨q1, q2, -⟩ := bO_some hb
      have h1 := inv c q1 q2
      have h2 := cnt_le (fun i => c.testBit i) nw
      rw [← pcN_of w8 q1] at h2
      omega
  | succ d ih =>
    intro f k σ1 hk hf S inv
    obtain ⟨f, rfl⟩ : ∃ x, f = x + 1 := ⟨f - 1, by omega⟩
    rw [f_X10_stops_L61, cSizW ((S 3 1 (by unfold fpZ fpH; omega)).trans R3), ob_some]
    dsimp only
    rw [if_neg (show ¬ nI nw < nI k from fun x => by have := (nI_ltI (by omega) (by omega)).mp x; omega)]
    have inner : ∀ e g i (σ1 : St), i + e = 2 ^ nw → e < g → same fpZ σ σ1 → (∀ m, m < i → P m = true → pcN m ≠ k) → ∃ σ2, same fpZ σ σ2 ∧ f_X10_stops_L79 (f_X10_stops_L61 f) g (nI j) (nI s) (nI n) (nI (2 ^ nw)) (nI k) (nI i) σ1 = ansC (bO P (2 ^ nw)) σ2 := by
      intro e
      induction e with
      | zero =>
        intro g i σ1 hi hg S inv2
        obtain ⟨g, rfl⟩ : ∃ x, g = x + 1 := ⟨g - 1, by omega⟩
        have : i = 2 ^ nw := by omega
        subst this
        rw [f_X10_stops_L79, if_pos Int32.le_rfl, nI_1]
        exact ih f (k + 1) σ1 (by omega) (by omega) S (fun m hm hp => by have := inv m hm hp; have := inv2 m hm hp; omega)
      | succ e ihe =>
        intro g i σ1 hi hg S inv2
        obtain ⟨g, rfl⟩ : ∃ x, g = x + 1 := ⟨g - 1, by omega⟩
        have hlt : i < 2 ^ nw := by omega
        have p1 := pcN_le i
        rw [f_X10_stops_L79, if_neg (fun x => by have := (nI_leI (by omega) (by omega)).mp x; omega), bitc_ok i (by omega), nI_1]
        by_cases q : pcN i = k
        · obtain ⟨σ2, c1, c2⟩ := (hP i hlt).1 σ1 S
          rw [if_pos (by rw [q]), c1, ob_some]
          dsimp only
          cases hp : P i
          · rw [if_pos (show bI false = 0 from rfl)]
            exact ihe g (i + 1) σ2 (by omega) (by omega) c2 (fun m hm hp' => by
              by_cases z : m = i
              · subst z; rw [hp] at hp'; cases hp'
              · exact inv2 m (by omega) hp')
          · rw [if_neg (show ¬ bI true = 0 by decide)]
            refine ⟨σ2, c2, ?_⟩
            cases hb : bO P (2 ^ nw) with
            | none => rw [bO_none hb i hlt] at hp; cases hp
            | some c =>
              obtain ⟨r1, r2, r3⟩ := bO_some hb
              have h1 := inv c r1 r2
              have h2 := r3 i hlt hp
              have : c = i := by
                by_cases z : c < i
                · exact absurd (by omega) (inv2 c z r2)
                · omega
              subst this
              rfl
        · rw [if_neg (fun x => q ((nI_eq (by omega) (by omega)).mp x))]
          exact ihe g (i + 1) σ1 (by omega) (by omega) S (fun m hm hp' => by
            by_cases z : m = i
            · subst z; exact q
            · exact inv2 m (by omega) hp')
    exact inner (2 ^ nw) 400 0 σ1 (by omega) (by omega) S (fun m hm => by omega)
theorem sp_ex {σ τ : St} {w nw sp ns nf l0 l1 j s n : Nat} {g0 g1 : Nat → Int32} {kn kf : Nat → Nat} (T : TK σ (τ 1) w nw sp ns nf l0 l1 g0 g1 kn kf) (M : MS (τ 1) nw ns nf l0 l1 g0 g1 kf) (hs : s < ns) (hj : j < nf) (hn : n < 400) : ∃ P, SP σ τ nw sp j s n P := by
  have ch : ∀ m, ∃ p : Bool, m < 2 ^ nw → (∀ σ1, same fpZ σ σ1 → ∃ σ2, f_X10_hinders (nI m) (nI j) (nI s) (nI n) σ1 = some (bI p, σ2) ∧ same fpZ σ σ2) ∧
      (∀ t, same scrM τ t → f_X11_isMoreStopped (nI m) t = some (bI (decide (m &&& sp = 0)), t) ∧ (m &&& sp = 0 → ∃ t', f_X11_knowsIfStopped (nI j) (nI s) (nI n) (nI m) t = some (bI (!p), t') ∧ same scrM τ t')) ∧ (p = true → m &&& sp = 0) := by
    intro m
    by_cases hm : m < 2 ^ nw
    · obtain ⟨p, q⟩ := stopOne (n := n) T M hs hj hn hm
      exact ⟨p, fun _ => q⟩
    · exact ⟨false, fun x => absurd x hm⟩
  obtain ⟨P, hP⟩ := Classical.axiomOfChoice ch
  exact ⟨P, hP⟩
theorem stopsBoth {σ τ : St} (h : RR σ τ) {w nw sp ns nf l0 l1 j s n : Nat} {g0 g1 : Nat → Int32} {kn kf : Nat → Nat} (T : TK σ (τ 1) w nw sp ns nf l0 l1 g0 g1 kn kf) (M : MS (τ 1) nw ns nf l0 l1 g0 g1 kf) (hs : s < ns) (hj : j < nf) (hn : n < 400) : Agree (f_X10_stops_L61 400 (nI j) (nI s) (nI n) (nI (2 ^ nw)) (nI 0) σ) (f_X11_stops_L39 400 (nI j) (nI s) (nI n) (-1) (nI 0) τ) := by
  obtain ⟨P, hP⟩ := sp_ex T M hs hj hn
  have w8 := M.1.1
  have pw := pw_le w8
  obtain ⟨σ2, S2, c1⟩ := stopsC hP w8 T.2.2.2.2.1.1.2.2.2.1 (nw + 1) 400 0 σ (by omega) (by omega) same.rf (fun m _ _ => Nat.zero_le _)
  obtain ⟨t2, S3, c2⟩ := stopsM hP w8 M.1.2.2.2.1 (2 ^ nw) 400 0 τ (by omega) (by omega) same.rf
  have R1 : RR σ2 t2 := h.scr (S2.mono fpZ_scr) S3
  rw [show bO P 0 = none from rfl, encO_n] at c2
  rw [c1, c2]
  cases bO P (2 ^ nw) with
  | none => exact Agree.err R1 2
  | some b => exact Agree.of R1
theorem stops_c {σ : St} {nw : Nat} (R3 : σ 3 1 = nI nw) (w8 : nw ≤ 8) (G : Int32 → Int32 → Int32 → Int32 → Int32 → St → Option (Int32 × St)) {a b c : Int32} : (Option.bind (f_X9_size σ) fun r6 => G a b c (1 <<< (r6.1 &&& 31)) 0 r6.2) = G a b c (nI (2 ^ nw)) 0 σ := by
  rw [cSizW R3, ob_some]
  dsimp only
  rw [z_one nw (by omega)]
theorem k_stops {σ τ : St} (h : RR σ τ) (a b c : Int32) : Agree (f_X10_stops a b c σ) (f_X11_stops a b c τ) := by
  obtain ⟨w, nw, sp, ns, nf, l0, l1, kn, kf, T, M, hw⟩ := tk_of h.1 h.2.2.2.2.2.2.1 h.2.2.2.2.2.2.2
  obtain ⟨⟨a0, a0', a1, a2, a3, a4⟩, Y, F, K, C, ek⟩ := id T
  have y8 := M.1.2.1
  have f6 := M.1.2.2.1
  have w8 := M.1.1
  have R3 : σ 3 1 = nI nw := C.1.2.2.2.1
  simp only [f_X10_stops, f_X11_stops, cHasF a F.2.2.1, mOne a F.2.1 (by omega), cHasY b Y.2.2.1, mSay b Y.2.1 (by omega), within_ok, mwithin_ok, ob_some, ob_eta, if_bI]
  refine Agree.cond (fun ha => ?_) (fun _ => Agree.err h 1)
  refine Agree.cond (fun hb => ?_) (fun _ => Agree.err h 1)
  refine Agree.cond (fun hc => ?_) (fun _ => Agree.err h 1)
  obtain ⟨j, hj, rfl⟩ := isIx_nI ha (by omega)
  obtain ⟨s, hs, rfl⟩ := isIx_nI hb (by omega)
  obtain ⟨n, -, hn, rfl⟩ := btw_nI 0 10 hc
  rw [stops_c R3 w8 (f_X10_stops_L61 400), show (0 : Int32) = nI 0 from rfl]
  exact stopsBoth h T M hs hj (by omega)
