/-! the relation between the class's cells and the reference's -/
/-! one village: the class's cells from k on, the reference's row N -/
def RVa (σ : St) (k : Nat) (N : Nat → Int32) (w h : Nat) : Prop := 2 ≤ w ∧ w ≤ 8 ∧ h ≤ 9999 ∧ σ k 0 = nI w ∧ N 1 = nI w ∧ σ k 2 = nI h ∧ N 0 = nI h ∧ σ k 1 = N 5 ∧ σ k 3 = N 6
def RVw (σ : St) (k : Nat) (N : Nat → Int32) (nw sp : Nat) : Prop := nw ≤ 8 ∧ sp < 2 ^ nw ∧ N 2 = nI nw ∧ rowN σ (k + 2) nw ∧ rowN σ (k + 4) nw ∧ rowN σ (k + 6) nw ∧ σ (k + 1) 3 = nI sp ∧
  ∀ i, i < nw → σ (k + 3) i = N (9 + 4 * i) ∧ σ (k + 5) i = N (10 + 4 * i) ∧ σ (k + 7) i = N (11 + 4 * i) ∧ N (12 + 4 * i) = nI (sp.testBit i).toNat
def RVy (σ : St) (k : Nat) (N : Nat → Int32) (ns : Nat) : Prop := ns ≤ 8 ∧ N 3 = nI ns ∧ rowN σ (k + 9) ns ∧ rowN σ (k + 11) ns ∧ rowN σ (k + 13) ns ∧ rowN σ (k + 15) ns ∧ rowN σ (k + 17) ns ∧ rowN σ (k + 19) ns ∧
  ∀ i, i < ns → σ (k + 10) i = N (41 + 5 * i) ∧ σ (k + 12) i = N (42 + 5 * i) ∧ σ (k + 14) i = N (43 + 5 * i) ∧ σ (k + 16) i = N (44 + 5 * i) ∧ σ (k + 18) i = N (45 + 5 * i) ∧
    (∃ d, d ≤ 6 ∧ N (41 + 5 * i) = nI d) ∧ (∃ m, m ≤ 9 ∧ N (42 + 5 * i) = nI m) ∧ ∃ g, g ≤ 99 ∧ N (44 + 5 * i) = nI g
def RVf (σ : St) (k : Nat) (N : Nat → Int32) (nf : Nat) : Prop := nf ≤ 6 ∧ N 4 = nI nf ∧ rowN σ (k + 22) nf ∧ rowN σ (k + 24) nf ∧
  ∀ i, i < nf → σ (k + 23) i = N (81 + 3 * i) ∧ σ (k + 25) i = N (82 + 3 * i)
/-- who knows what: kn s by the class (a set of folk), kf f by the reference (a set of sayings) -/
def RVk (σ : St) (k : Nat) (N : Nat → Int32) (ns nf : Nat) (kn kf : Nat → Nat) : Prop := (∀ s, s < ns → kn s < 2 ^ nf ∧ σ (k + 20) s = nI (kn s)) ∧ (∀ f, f < nf → kf f < 2 ^ ns ∧ N (83 + 3 * f) = nI (kf f)) ∧
  ∀ s f, s < ns → f < nf → (kn s).testBit f = (kf f).testBit s
def RVt (σ : St) (k : Nat) (N : Nat → Int32) (nt : Nat) : Prop := nt ≤ 50 ∧ N 7 = nI nt ∧ rowN σ (k + 26) nt ∧ ∀ i, i < nt → σ (k + 27) i = N (99 + i) ∧ ∃ b, b < 256 ∧ N (99 + i) = nI b
def RVx (σ : St) (k : Nat) (N : Nat → Int32) (nx : Nat) : Prop := nx ≤ 20 ∧ N 8 = nI nx ∧ rowN σ (k + 28) nx ∧ ∀ i, i < nx → σ (k + 29) i = N (149 + i)
/-- a sign of the class's text as the reference's; what may stand there; how many numbers it leaves -/
def cvt (c : Int32) : Int32 := if 0 ≤ c then c else if c = -1 then 10000 else if c = -2 then 10001 else if c = -3 then 10002 else if c = -33 then 20010 else if c = -124 then 20000 else if c = -38 then 20001 else if c = -60 then 20002 else if c = -61 then 20003 else if c = -62 then 20004 else if c = -43 then 20005 else if c = -45 then 20006 else if c = -42 then 20007 else if c = -47 then 20008 else 20009
def signL : List Int32 := [-1, -2, -3, -33, -124, -38, -60, -61, -62, -43, -45, -42, -47, -37]
def okSign (c : Int32) : Prop := (0 ≤ c ∧ c ≤ 9999) ∨ c ∈ signL
def dep (c : Int32) (n : Nat) : Option Nat := if -3 ≤ c then some (n + 1) else if c = -33 then (if 1 ≤ n then some n else none) else if 2 ≤ n then some (n - 1) else none
def depG (g : Nat → Int32) : Nat → Nat → Nat → Option Nat
  | 0, _, n => some n
  | m + 1, i, n => (dep (g i) n).bind (depG g m (i + 1))
theorem depG_congr {g g' : Nat → Int32} : ∀ {m i n : Nat}, (∀ j, i ≤ j → j < i + m → g j = g' j) → depG g m i n = depG g' m i n
  | 0, _, _, _ => rfl
  | m + 1, i, n, h => by
    rw [depG, depG, h i (Nat.le_refl _) (by omega)]
    congr 1
    funext k
    exact depG_congr (fun j a b => h j (by omega) (by omega))
def RVc (σ : St) (r : Nat) (N : Nat → Int32) (a l : Nat) : Prop := l ≤ 50 ∧ N a = nI l ∧ rowN σ r l ∧ (∀ i, i < l → N (a + 1 + i) = cvt (σ (r + 1) i) ∧ okSign (σ (r + 1) i)) ∧ (l = 0 ∨ depG (σ (r + 1)) l 0 0 = some 1)
def RV (σ : St) (k : Nat) (N : Nat → Int32) : Prop := (∃ w h, RVa σ k N w h) ∧ (∃ nw sp, RVw σ k N nw sp) ∧ (∃ ns nf kn kf, RVy σ k N ns ∧ RVf σ k N nf ∧ RVk σ k N ns nf kn kf) ∧ (∃ nt, RVt σ k N nt) ∧ (∃ nx, RVx σ k N nx) ∧ (∃ l, RVc σ (k + 31) N 169 l) ∧ ∃ l, RVc σ (k + 36) N 221 l
def RE (σ τ : St) : Prop := ∀ i, 1 ≤ i → i ≤ 5 → σ 99 i = τ 4 i
def RS (σ τ : St) : Prop := ∀ i, i < 4 → σ (100 + 3 * i) 0 = τ 10 i ∧ (τ 10 i = 0 ∨ τ 10 i = 8 ∨ τ 10 i = 16 ∨ τ 10 i = 32) ∧ ∃ n, n ≤ 40 ∧ τ 11 i = nI n ∧ rowN σ (101 + 3 * i) n ∧ (τ 10 i = 0 → n = 0) ∧ ∀ j, j < n → σ (102 + 3 * i) j = τ 12 (40 * i + j)
def RT (σ τ : St) : Prop := ∃ n, n ≤ 40 ∧ τ 0 15 = nI n ∧ rowN σ 93 n ∧ ∀ j, j < n → σ 94 j = τ 9 j
/-- σ: the class, τ: the reference -/
def RR (σ τ : St) : Prop := RV σ 1 (τ 1) ∧ (τ 0 3 = 0 ∨ RV σ 44 (τ 2)) ∧ σ 0 7 = τ 0 3 ∧ RE σ τ ∧ RS σ τ ∧ RT σ τ ∧ σ 31 2 = 0 ∧ σ 36 2 = 1
/-! each part of the relation asks of few cells -/
theorem RVa.congr {σ σ' : St} {k w h : Nat} {N N' : Nat → Int32} (H : RVa σ k N w h) (hs : ∀ j, j < 4 → σ' k j = σ k j) (hN : ∀ i, i = 0 ∨ i = 1 ∨ i = 5 ∨ i = 6 → N' i = N i) : RVa σ' k N' w h := by
  unfold RVa at H ⊢
  rw [hs 0 (by omega), hs 1 (by omega), hs 2 (by omega), hs 3 (by omega), hN 0 (by omega), hN 1 (by omega), hN 5 (by omega), hN 6 (by omega)]
  exact H
theorem RVw.congr {σ σ' : St} {k nw sp : Nat} {N N' : Nat → Int32} (h : RVw σ k N nw sp) (hs : ∀ q j, k + 1 ≤ q → q ≤ k + 7 → σ' q j = σ q j) (hN : ∀ i, i = 2 ∨ (9 ≤ i ∧ i < 41) → N' i = N i) : RVw σ' k N' nw sp := by
  obtain ⟨h0, h1, h2, h3, h4, h5, h6, h7⟩ := h
  unfold RVw rowN
  rw [hs (k + 1) 3 (by omega) (by omega), hs (k + 2) 1 (by omega) (by omega), hs (k + 4) 1 (by omega) (by omega), hs (k + 6) 1 (by omega) (by omega), hN 2 (Or.inl rfl)]
  refine ⟨h0, h1, h2, h3, h4, h5, h6, fun i hi => ?_⟩
  rw [hs (k + 3) i (by omega) (by omega), hs (k + 5) i (by omega) (by omega), hs (k + 7) i (by omega) (by omega), hN (9 + 4 * i) (Or.inr (by omega)), hN (10 + 4 * i) (Or.inr (by omega)), hN (11 + 4 * i) (Or.inr (by omega)), hN (12 + 4 * i) (Or.inr (by omega))]
  exact h7 i hi
theorem RVy.congr {σ σ' : St} {k ns : Nat} {N N' : Nat → Int32} (h : RVy σ k N ns) (hs : ∀ q j, k + 9 ≤ q → q ≤ k + 19 → σ' q j = σ q j) (hN : ∀ i, i = 3 ∨ (41 ≤ i ∧ i < 81) → N' i = N i) : RVy σ' k N' ns := by
  obtain ⟨h0, h1, h2, h3, h4, h5, h6, h7, h8⟩ := h
  unfold RVy rowN
  rw [hs (k + 9) 1 (by omega) (by omega), hs (k + 11) 1 (by omega) (by omega), hs (k + 13) 1 (by omega) (by omega), hs (k + 15) 1 (by omega) (by omega), hs (k + 17) 1 (by omega) (by omega), hs (k + 19) 1 (by omega) (by omega), hN 3 (Or.inl rfl)]
  refine ⟨h0, h1, h2, h3, h4, h5, h6, h7, fun i hi => ?_⟩
  rw [hs (k + 10) i (by omega) (by omega), hs (k + 12) i (by omega) (by omega), hs (k + 14) i (by omega) (by omega), hs (k + 16) i (by omega) (by omega), hs (k + 18) i (by omega) (by omega), hN (41 + 5 * i) (Or.inr (by omega)), hN (42 + 5 * i) (Or.inr (by omega)), hN (43 + 5 * i) (Or.inr (by omega)), hN (44 + 5 * i) (Or.inr (by omega)), hN (45 + 5 * i) (Or.inr (by omega))]
  exact h8 i hi
theorem RVf.congr {σ σ' : St} {k nf : Nat} {N N' : Nat → Int32} (h : RVf σ k N nf) (hs : ∀ q j, k + 22 ≤ q → q ≤ k + 25 → σ' q j = σ q j) (hN : N' 4 = N 4 ∧ ∀ i, i < 6 → N' (81 + 3 * i) = N (81 + 3 * i) ∧ N' (82 + 3 * i) = N (82 + 3 * i)) : RVf σ' k N' nf := by
  obtain ⟨h0, h1, h2, h3, h4⟩ := h
  unfold RVf rowN
  rw [hs (k + 22) 1 (by omega) (by omega), hs (k + 24) 1 (by omega) (by omega), hN.1]
  refine ⟨h0, h1, h2, h3, fun i hi => ?_⟩
  rw [hs (k + 23) i (by omega) (by omega), hs (k + 25) i (by omega) (by omega), (hN.2 i (by omega)).1, (hN.2 i (by omega)).2]
  exact h4 i hi
theorem RVk.congr {σ σ' : St} {k ns nf : Nat} {kn kf : Nat → Nat} {N N' : Nat → Int32} (h : RVk σ k N ns nf kn kf) (hs : ∀ j, σ' (k + 20) j = σ (k + 20) j) (hN : ∀ f, f < nf → N' (83 + 3 * f) = N (83 + 3 * f)) : RVk σ' k N' ns nf kn kf := by
  obtain ⟨h1, h2, h3⟩ := h
  exact ⟨fun s hs' => by rw [hs]; exact h1 s hs', fun f hf => by rw [hN f hf]; exact h2 f hf, h3⟩
theorem RVt.congr {σ σ' : St} {k nt : Nat} {N N' : Nat → Int32} (h : RVt σ k N nt) (hs : ∀ q j, k + 26 ≤ q → q ≤ k + 27 → σ' q j = σ q j) (hN : ∀ i, i = 7 ∨ (99 ≤ i ∧ i < 149) → N' i = N i) : RVt σ' k N' nt := by
  obtain ⟨h0, h1, h2, h3⟩ := h
  unfold RVt rowN
  rw [hs (k + 26) 1 (by omega) (by omega), hN 7 (Or.inl rfl)]
  refine ⟨h0, h1, h2, fun i hi => ?_⟩
  rw [hs (k + 27) i (by omega) (by omega), hN (99 + i) (Or.inr (by omega))]
  exact h3 i hi
theorem RVx.congr {σ σ' : St} {k nx : Nat} {N N' : Nat → Int32} (h : RVx σ k N nx) (hs : ∀ q j, k + 28 ≤ q → q ≤ k + 29 → σ' q j = σ q j) (hN : ∀ i, i = 8 ∨ (149 ≤ i ∧ i < 169) → N' i = N i) : RVx σ' k N' nx := by
  obtain ⟨h0, h1, h2, h3⟩ := h
  unfold RVx rowN
  rw [hs (k + 28) 1 (by omega) (by omega), hN 8 (Or.inl rfl)]
  refine ⟨h0, h1, h2, fun i hi => ?_⟩
  rw [hs (k + 29) i (by omega) (by omega), hN (149 + i) (Or.inr (by omega))]
  exact h3 i hi
theorem RVc.congr {σ σ' : St} {r r' a l : Nat} {N N' : Nat → Int32} (h : RVc σ r N a l) (hs : σ' r' 1 = σ r 1 ∧ ∀ j, j < l → σ' (r' + 1) j = σ (r + 1) j) (hN : ∀ i, a ≤ i → i < a + 52 → N' i = N i) : RVc σ' r' N' a l := by
  obtain ⟨h0, h1, h2, h3, h4⟩ := h
  unfold RVc rowN
  rw [hs.1, depG_congr (fun j _ b => hs.2 j (by omega)), hN a (by omega) (by omega)]
  refine ⟨h0, h1, h2, fun i hi => ?_, h4⟩
  rw [hs.2 i hi, hN (a + 1 + i) (by omega) (by omega)]
  exact h3 i hi
/-- the places of a village that count -/
def vil (k q j : Nat) : Prop := (q = k ∧ j < 4) ∨ (k + 1 ≤ q ∧ q ≤ k + 29) ∨ (k + 31 ≤ q ∧ q ≤ k + 32) ∨ (k + 36 ≤ q ∧ q ≤ k + 37)
theorem RV.congr {σ σ' : St} {k : Nat} {N N' : Nat → Int32} (h : RV σ k N) (hs : ∀ q j, vil k q j → σ' q j = σ q j) (hN : ∀ i, i < 273 → N' i = N i) : RV σ' k N' := by
  unfold vil at hs
  obtain ⟨⟨w, h, a⟩, ⟨nw, sp, b⟩, ⟨ns, nf, kn, kf, c1, c2, c3⟩, ⟨nt, d⟩, ⟨nx, e⟩, ⟨l1, f⟩, ⟨l2, g⟩⟩ := h
  have hnf : nf ≤ 6 := c2.1
  exact ⟨⟨w, h, a.congr (fun j hj => hs k j (by omega)) (fun i hi => hN i (by omega))⟩, ⟨nw, sp, b.congr (fun q j h1 h2 => hs q j (by omega)) (fun i hi => hN i (by omega))⟩,
    ⟨ns, nf, kn, kf, c1.congr (fun q j h1 h2 => hs q j (by omega)) (fun i hi => hN i (by omega)), c2.congr (fun q j h1 h2 => hs q j (by omega)) ⟨hN _ (by omega), fun i hi => ⟨hN _ (by omega), hN _ (by omega)⟩⟩, c3.congr (fun j => hs _ j (by omega)) (fun f hf => hN _ (by omega))⟩,
    ⟨nt, d.congr (fun q j h1 h2 => hs q j (by omega)) (fun i hi => hN i (by omega))⟩, ⟨nx, e.congr (fun q j h1 h2 => hs q j (by omega)) (fun i hi => hN i (by omega))⟩,
    ⟨l1, f.congr ⟨hs _ _ (by omega), fun j _ => hs _ _ (by omega)⟩ (fun i h1 h2 => hN i (by omega))⟩, ⟨l2, g.congr ⟨hs _ _ (by omega), fun j _ => hs _ _ (by omega)⟩ (fun i h1 h2 => hN i (by omega))⟩⟩
/-- the places that a call about the village of now may change -/
def nowC (q j : Nat) : Prop := (1 ≤ q ∧ q ≤ 43 ∧ (q = 31 → j ≠ 2) ∧ (q = 36 → j ≠ 2)) ∨ (87 ≤ q ∧ q ≤ 92) ∨ q = 96 ∨ q = 97
def nowM (q j : Nat) : Prop := q = 1 ∨ q = 3 ∨ (6 ≤ q ∧ q ≤ 8) ∨ q = 13 ∨ (q = 0 ∧ (6 ≤ j ∧ j ≤ 12 ∨ 16 ≤ j ∧ j ≤ 18))
/-- the places that count for nothing -/
def scrC (q j : Nat) : Prop := (q = 1 ∧ 4 ≤ j) ∨ q = 34 ∨ q = 35 ∨ q = 39 ∨ q = 40 ∨ q = 41 ∨ q = 42 ∨ q = 43 ∨ (87 ≤ q ∧ q ≤ 92) ∨ q = 96 ∨ q = 97
def scrM (q j : Nat) : Prop := (q = 1 ∧ 273 ≤ j) ∨ q = 3 ∨ (6 ≤ q ∧ q ≤ 8) ∨ q = 13 ∨ (q = 0 ∧ (6 ≤ j ∧ j ≤ 12 ∨ 16 ≤ j ∧ j ≤ 18))
theorem scrC_now (q j : Nat) (h : scrC q j) : nowC q j := by
  unfold scrC at h
  unfold nowC
  omega
theorem scrM_now (q j : Nat) (h : scrM q j) : nowM q j := by
  unfold scrM at h
  unfold nowM
  omega
theorem RR.now {σ σ' τ τ' : St} (h : RR σ τ) (hc : same nowC σ σ') (hm : same nowM τ τ') (hv : RV σ' 1 (τ' 1)) : RR σ' τ' := by
  obtain ⟨-, h2, h3, h4, h5, h6, h7, h8⟩ := h
  unfold same nowC at hc
  unfold same nowM at hm
  refine ⟨hv, ?_, by rw [hc 0 7 (by omega), hm 0 3 (by omega), h3], fun i a b => by rw [hc 99 i (by omega), hm 4 i (by omega)]; exact h4 i a b, fun i hi => ?_, ?_, by rw [hc 31 2 (by omega)]; exact h7, by rw [hc 36 2 (by omega)]; exact h8⟩
  · rw [hm 0 3 (by omega)]
    exact h2.imp id (fun h => h.congr (fun q j hq => hc q j (by unfold vil at hq; omega)) (fun i hi => hm 2 i (by omega)))
  · have e := h5 i hi
    unfold rowN at e ⊢
    rw [hc (100 + 3 * i) 0 (by omega), hc (101 + 3 * i) 1 (by omega), hm 10 i (by omega), hm 11 i (by omega)]
    obtain ⟨a, b, n, c1, c2, c3, c4, c5⟩ := e
    exact ⟨a, b, n, c1, c2, c3, c4, fun j hj => by rw [hc _ j (by omega), hm 12 _ (by omega)]; exact c5 j hj⟩
  · obtain ⟨n, c1, c2, c3, c4⟩ := h6
    unfold rowN at c3
    refine ⟨n, c1, by rw [hm 0 15 (by omega)]; exact c2, ?_, fun j hj => by rw [hc 94 j (by omega), hm 9 j (by omega)]; exact c4 j hj⟩
    unfold rowN
    rw [hc 93 1 (by omega)]
    exact c3
theorem RR.scr {σ σ' τ τ' : St} (h : RR σ τ) (hc : same scrC σ σ') (hm : same scrM τ τ') : RR σ' τ' := by
  refine h.now (hc.mono scrC_now) (hm.mono scrM_now) (h.1.congr (fun q j hq => hc q j ?_) (fun i hi => hm 1 i ?_))
  · unfold vil at hq
    unfold scrC
    omega
  · unfold scrM
    omega
/-! one part of the village of now is new -/
def fpA (q j : Nat) : Prop := q = 1 ∧ j < 4
def fpW (q j : Nat) : Prop := 2 ≤ q ∧ q ≤ 8
def fpY (q j : Nat) : Prop := 10 ≤ q ∧ q ≤ 26
def fpT (q j : Nat) : Prop := 27 ≤ q ∧ q ≤ 28
def fpX (q j : Nat) : Prop := 29 ≤ q ∧ q ≤ 30
def fp0 (q j : Nat) : Prop := 32 ≤ q ∧ q ≤ 33
def fp1 (q j : Nat) : Prop := 37 ≤ q ∧ q ≤ 38
def nfA (i : Nat) : Prop := i = 0 ∨ i = 1 ∨ i = 5 ∨ i = 6
def nfW (i : Nat) : Prop := i = 2 ∨ (9 ≤ i ∧ i < 41)
def nfY (i : Nat) : Prop := i = 3 ∨ i = 4 ∨ (41 ≤ i ∧ i < 99)
def nfT (i : Nat) : Prop := i = 7 ∨ (99 ≤ i ∧ i < 149)
def nfX (i : Nat) : Prop := i = 8 ∨ (149 ≤ i ∧ i < 169)
def nf0 (i : Nat) : Prop := 169 ≤ i ∧ i < 221
def nf1 (i : Nat) : Prop := 221 ≤ i ∧ i < 273
def RVs (σ : St) (k : Nat) (N : Nat → Int32) : Prop := ∃ ns nf kn kf, RVy σ k N ns ∧ RVf σ k N nf ∧ RVk σ k N ns nf kn kf
section PARTS
variable {σ σ' : St} {N N' : Nat → Int32}
theorem ra_of (h : RV σ 1 N) (hs : ∀ q j, fpA q j → σ' q j = σ q j) (hN : ∀ i, nfA i → N' i = N i) : ∃ w h, RVa σ' 1 N' w h := by
  obtain ⟨⟨w, h, a⟩, -⟩ := h
  exact ⟨w, h, a.congr (fun j hj => hs 1 j ⟨rfl, hj⟩) (fun i hi => hN i hi)⟩
theorem rw_of (h : RV σ 1 N) (hs : ∀ q j, fpW q j → σ' q j = σ q j) (hN : ∀ i, nfW i → N' i = N i) : ∃ nw sp, RVw σ' 1 N' nw sp := by
  obtain ⟨-, ⟨nw, sp, b⟩, -⟩ := h
  exact ⟨nw, sp, b.congr (fun q j h1 h2 => hs q j ⟨h1, h2⟩) (fun i hi => hN i hi)⟩
theorem rs_of (h : RV σ 1 N) (hs : ∀ q j, fpY q j → σ' q j = σ q j) (hN : ∀ i, nfY i → N' i = N i) : RVs σ' 1 N' := by
  obtain ⟨-, -, ⟨ns, nf, kn, kf, c1, c2, c3⟩, -⟩ := h
  unfold fpY at hs
  unfold nfY at hN
  have hnf : nf ≤ 6 := c2.1
  exact ⟨ns, nf, kn, kf, c1.congr (fun q j h1 h2 => hs q j (by omega)) (fun i hi => hN i (by omega)), c2.congr (fun q j h1 h2 => hs q j (by omega)) ⟨hN _ (by omega), fun i hi => ⟨hN _ (by omega), hN _ (by omega)⟩⟩, c3.congr (fun j => hs _ j (by omega)) (fun f hf => hN _ (by omega))⟩
theorem rt_of (h : RV σ 1 N) (hs : ∀ q j, fpT q j → σ' q j = σ q j) (hN : ∀ i, nfT i → N' i = N i) : ∃ nt, RVt σ' 1 N' nt := by
  obtain ⟨-, -, -, ⟨nt, d⟩, -⟩ := h
  exact ⟨nt, d.congr (fun q j h1 h2 => hs q j ⟨h1, h2⟩) (fun i hi => hN i hi)⟩
theorem rx_of (h : RV σ 1 N) (hs : ∀ q j, fpX q j → σ' q j = σ q j) (hN : ∀ i, nfX i → N' i = N i) : ∃ nx, RVx σ' 1 N' nx := by
  obtain ⟨-, -, -, -, ⟨nx, d⟩, -⟩ := h
  exact ⟨nx, d.congr (fun q j h1 h2 => hs q j ⟨h1, h2⟩) (fun i hi => hN i hi)⟩
theorem r0_of (h : RV σ 1 N) (hs : ∀ q j, fp0 q j → σ' q j = σ q j) (hN : ∀ i, nf0 i → N' i = N i) : ∃ l, RVc σ' (1 + 31) N' 169 l := by
  obtain ⟨-, -, -, -, -, ⟨l, d⟩, -⟩ := h
  exact ⟨l, d.congr ⟨hs 32 1 ⟨by decide, by decide⟩, fun j _ => hs 33 j ⟨by decide, by decide⟩⟩ (fun i h1 h2 => hN i ⟨h1, h2⟩)⟩
theorem r1_of (h : RV σ 1 N) (hs : ∀ q j, fp1 q j → σ' q j = σ q j) (hN : ∀ i, nf1 i → N' i = N i) : ∃ l, RVc σ' (1 + 36) N' 221 l := by
  obtain ⟨-, -, -, -, -, -, ⟨l, d⟩⟩ := h
  exact ⟨l, d.congr ⟨hs 37 1 ⟨by decide, by decide⟩, fun j _ => hs 38 j ⟨by decide, by decide⟩⟩ (fun i h1 h2 => hN i ⟨h1, h2⟩)⟩
theorem RV.newA (h : RV σ 1 N) (hs : ∀ q j, ¬ fpA q j → σ' q j = σ q j) (hN : ∀ i, ¬ nfA i → N' i = N i) (k : ∃ w h, RVa σ' 1 N' w h) : RV σ' 1 N' := by
  unfold fpA at hs
  unfold nfA at hN
  exact ⟨k, rw_of h (fun q j e => hs q j (by unfold fpW at e; omega)) (fun i e => hN i (by unfold nfW at e; omega)), rs_of h (fun q j e => hs q j (by unfold fpY at e; omega)) (fun i e => hN i (by unfold nfY at e; omega)), rt_of h (fun q j e => hs q j (by unfold fpT at e; omega)) (fun i e => hN i (by unfold nfT at e; omega)), rx_of h (fun q j e => hs q j (by unfold fpX at e; omega)) (fun i e => hN i (by unfold nfX at e; omega)), r0_of h (fun q j e => hs q j (by unfold fp0 at e; omega)) (fun i e => hN i (by unfold nf0 at e; omega)), r1_of h (fun q j e => hs q j (by unfold fp1 at e; omega)) (fun i e => hN i (by unfold nf1 at e; omega))⟩
theorem RV.newW (h : RV σ 1 N) (hs : ∀ q j, ¬ fpW q j → σ' q j = σ q j) (hN : ∀ i, ¬ nfW i → N' i = N i) (k : ∃ nw sp, RVw σ' 1 N' nw sp) : RV σ' 1 N' := by
  unfold fpW at hs
  unfold nfW at hN
  exact ⟨ra_of h (fun q j e => hs q j (by unfold fpA at e; omega)) (fun i e => hN i (by unfold nfA at e; omega)), k, rs_of h (fun q j e => hs q j (by unfold fpY at e; omega)) (fun i e => hN i (by unfold nfY at e; omega)), rt_of h (fun q j e => hs q j (by unfold fpT at e; omega)) (fun i e => hN i (by unfold nfT at e; omega)), rx_of h (fun q j e => hs q j (by unfold fpX at e; omega)) (fun i e => hN i (by unfold nfX at e; omega)), r0_of h (fun q j e => hs q j (by unfold fp0 at e; omega)) (fun i e => hN i (by unfold nf0 at e; omega)), r1_of h (fun q j e => hs q j (by unfold fp1 at e; omega)) (fun i e => hN i (by unfold nf1 at e; omega))⟩
theorem RV.newY (h : RV σ 1 N) (hs : ∀ q j, ¬ fpY q j → σ' q j = σ q j) (hN : ∀ i, ¬ nfY i → N' i = N i) (k : RVs σ' 1 N') : RV σ' 1 N' := by
  unfold fpY at hs
  unfold nfY at hN
  exact ⟨ra_of h (fun q j e => hs q j (by unfold fpA at e; omega)) (fun i e => hN i (by unfold nfA at e; omega)), rw_of h (fun q j e => hs q j (by unfold fpW at e; omega)) (fun i e => hN i (by unfold nfW at e; omega)), k, rt_of h (fun q j e => hs q j (by unfold fpT at e; omega)) (fun i e => hN i (by unfold nfT at e; omega)), rx_of h (fun q j e => hs q j (by unfold fpX at e; omega)) (fun i e => hN i (by unfold nfX at e; omega)), r0_of h (fun q j e => hs q j (by unfold fp0 at e; omega)) (fun i e => hN i (by unfold nf0 at e; omega)), r1_of h (fun q j e => hs q j (by unfold fp1 at e; omega)) (fun i e => hN i (by unfold nf1 at e; omega))⟩
theorem RV.newT (h : RV σ 1 N) (hs : ∀ q j, ¬ fpT q j → σ' q j = σ q j) (hN : ∀ i, ¬ nfT i → N' i = N i) (k : ∃ nt, RVt σ' 1 N' nt) : RV σ' 1 N' := by
  unfold fpT at hs
  unfold nfT at hN
  exact ⟨ra_of h (fun q j e => hs q j (by unfold fpA at e; omega)) (fun i e => hN i (by unfold nfA at e; omega)), rw_of h (fun q j e => hs q j (by unfold fpW at e; omega)) (fun i e => hN i (by unfold nfW at e; omega)), rs_of h (fun q j e => hs q j (by unfold fpY at e; omega)) (fun i e => hN i (by unfold nfY at e; omega)), k, rx_of h (fun q j e => hs q j (by unfold fpX at e; omega)) (fun i e => hN i (by unfold nfX at e; omega)), r0_of h (fun q j e => hs q j (by unfold fp0 at e; omega)) (fun i e => hN i (by unfold nf0 at e; omega)), r1_of h (fun q j e => hs q j (by unfold fp1 at e; omega)) (fun i e => hN i (by unfold nf1 at e; omega))⟩
theorem RV.newX (h : RV σ 1 N) (hs : ∀ q j, ¬ fpX q j → σ' q j = σ q j) (hN : ∀ i, ¬ nfX i → N' i = N i) (k : ∃ nx, RVx σ' 1 N' nx) : RV σ' 1 N' := by
  unfold fpX at hs
  unfold nfX at hN
  exact ⟨ra_of h (fun q j e => hs q j (by unfold fpA at e; omega)) (fun i e => hN i (by unfold nfA at e; omega)), rw_of h (fun q j e => hs q j (by unfold fpW at e; omega)) (fun i e => hN i (by unfold nfW at e; omega)), rs_of h (fun q j e => hs q j (by unfold fpY at e; omega)) (fun i e => hN i (by unfold nfY at e; omega)), rt_of h (fun q j e => hs q j (by unfold fpT at e; omega)) (fun i e => hN i (by unfold nfT at e; omega)), k, r0_of h (fun q j e => hs q j (by unfold fp0 at e; omega)) (fun i e => hN i (by unfold nf0 at e; omega)), r1_of h (fun q j e => hs q j (by unfold fp1 at e; omega)) (fun i e => hN i (by unfold nf1 at e; omega))⟩
end PARTS
/-! two sides answer alike -/
def Agree (x y : Option (Int32 × St)) : Prop := ∃ (r : Int32) (σ τ : St), x = some (r, σ) ∧ y = some (r, τ) ∧ RR σ τ
theorem Agree.cond {b : Bool} {x y x' y' : Option (Int32 × St)} (h1 : b = true → Agree x x') (h2 : b = false → Agree y y') : Agree (cond b x y) (cond b x' y') := by
  cases b
  · exact h2 rfl
  · exact h1 rfl
theorem Agree.ite {c : Prop} [Decidable c] {x y x' y' : Option (Int32 × St)} (h1 : c → Agree x x') (h2 : ¬ c → Agree y y') : Agree (if c then x else y) (if c then x' else y') := by
  by_cases h : c
  · rw [if_pos h, if_pos h]; exact h1 h
  · rw [if_neg h, if_neg h]; exact h2 h
theorem Agree.of {r : Int32} {σ τ : St} (h : RR σ τ) : Agree (some (r, σ)) (some (r, τ)) := ⟨r, σ, τ, rfl, rfl, h⟩
theorem Agree.of' {r r' : Int32} {σ τ : St} (e : r = r') (h : RR σ τ) : Agree (some (r, σ)) (some (r', τ)) := e ▸ Agree.of h
/-- both answer an error and count it -/
theorem Agree.err {σ τ : St} (h : RR σ τ) (e : Nat) {k : Int32} (h1 : 1 ≤ e := by decide) (h5 : e ≤ 5 := by decide) (hk : -1000000000 - k = nI e := by rfl) : Agree (f_X10_error (nI e) σ) (f_X11_finding k τ) := by
  have e1 : f_X10_error (nI e) σ = some (-1000000000 - nI e, up σ 99 e (σ 99 e + 1)) := by
    rw [f_X10_error, get_ok (c := 6) rfl (by decide) σ (by omega), ob_some, set_ok (c := 6) rfl (by decide) σ _ (by omega)]
    rfl
  have e2 : f_X11_finding k τ = some (k, up τ 4 e (τ 4 e + 1)) := by
    have hi : inb (nI e) (shM 4 - 100) = true := nI_inb (show e < 6 by omega) (by decide)
    rw [f_X11_finding, hk, if_pos hi, if_pos hi, nI_clamp (by omega)]
    rfl
  rw [e1, e2, show k = -1000000000 - nI e from (Int32.sub_eq_iff_eq_add.mpr (by rw [Int32.add_comm]; exact Int32.sub_eq_iff_eq_add.mp hk)).symm]
  refine Agree.of ?_
  obtain ⟨h1', h2, h3, h4, h5', h6, h7, h8⟩ := h
  have hc : ∀ q j, q ≠ 99 → up σ 99 e (σ 99 e + 1) q j = σ q j := fun q j hq => by rw [up_ap, if_neg (fun x => hq x.1)]
  have hm : ∀ q j, q ≠ 4 → up τ 4 e (τ 4 e + 1) q j = τ q j := fun q j hq => by rw [up_ap, if_neg (fun x => hq x.1)]
  refine ⟨h1'.congr (fun q j hq => hc q j (by unfold vil at hq; omega)) (fun i hi => hm 1 i (by omega)), ?_, by rw [hc 0 7 (by omega), hm 0 3 (by omega), h3], fun i a b => ?_, fun i hi => ?_, ?_, by rw [hc 31 2 (by omega)]; exact h7, by rw [hc 36 2 (by omega)]; exact h8⟩
  · rw [hm 0 3 (by omega)]
    exact h2.imp id (fun h => h.congr (fun q j hq => hc q j (by unfold vil at hq; omega)) (fun i hi => hm 2 i (by omega)))
  · rw [up_ap, up_ap, h4 e (by omega) (by omega), h4 i a b]
    by_cases q : i = e
    · rw [if_pos ⟨rfl, q⟩, if_pos ⟨rfl, q⟩]
    · rw [if_neg (fun x => q x.2), if_neg (fun x => q x.2)]
  · have e := h5' i hi
    unfold rowN at e ⊢
    rw [hc (100 + 3 * i) 0 (by omega), hc (101 + 3 * i) 1 (by omega), hm 10 i (by omega), hm 11 i (by omega)]
    obtain ⟨a, b, n, c1, c2, c3, c4, c5⟩ := e
    exact ⟨a, b, n, c1, c2, c3, c4, fun j hj => by rw [hc _ j (by omega), hm 12 _ (by omega)]; exact c5 j hj⟩
  · obtain ⟨n, c1, c2, c3, c4⟩ := h6
    unfold rowN at c3
    refine ⟨n, c1, by rw [hm 0 15 (by omega)]; exact c2, ?_, fun j hj => by rw [hc 94 j (by omega), hm 9 j (by omega)]; exact c4 j hj⟩
    unfold rowN
    rw [hc 93 1 (by omega)]
    exact c3
