/-! the pure side: states that are the same but for some places, sets of bits, yes or no as an int -/
def same (P : Nat → Nat → Prop) (σ σ' : St) : Prop := ∀ q j, ¬ P q j → σ' q j = σ q j
theorem same.rf {P : Nat → Nat → Prop} {σ : St} : same P σ σ := fun _ _ _ => rfl
theorem same.tr {P : Nat → Nat → Prop} {a b c : St} (h : same P a b) (g : same P b c) : same P a c := fun q j hp => (g q j hp).trans (h q j hp)
theorem same.mono {P Q : Nat → Nat → Prop} {a b : St} (h : same P a b) (k : ∀ q j, P q j → Q q j) : same Q a b := fun q j hp => h q j (fun x => hp (k q j x))
theorem up_ap (σ : St) (k j q i : Nat) (v : Int32) : up σ k j v q i = if q = k ∧ i = j then v else σ q i := by
  unfold up
  by_cases h1 : q = k
  · by_cases h2 : i = j <;> simp [h1, h2]
  · simp [h1]
theorem same_up {P : Nat → Nat → Prop} {σ : St} {k j : Nat} {v : Int32} (h : P k j) : same P σ (up σ k j v) := by
  intro q i hp
  rw [up_ap, if_neg]
  rintro ⟨rfl, rfl⟩
  exact hp h
theorem same.up {P : Nat → Nat → Prop} {σ s : St} {k j : Nat} {v : Int32} (g : same P σ s) (h : P k j) : same P σ (up s k j v) := g.tr (same_up h)
/-! sets -/
def bset : Nat → (Nat → Bool) → Nat
  | 0, _ => 0
  | n + 1, p => bset n p ||| (if p n then 2 ^ n else 0)
theorem bset_bit (p : Nat → Bool) (i : Nat) : ∀ n, (bset n p).testBit i = (decide (i < n) && p i)
  | 0 => by simp [bset]
  | n + 1 => by
    rw [bset, Nat.testBit_or, bset_bit p i n]
    by_cases h : i = n
    · subst h
      cases hp : p i <;> simp
    · have h2 : decide (i < n + 1) = decide (i < n) := by
        rw [decide_eq_decide]; omega
      rw [h2]
      have h3 : (if p n then 2 ^ n else 0 : Nat).testBit i = false := by
        split
        · rw [Nat.testBit_two_pow]; exact decide_eq_false (fun q => h q.symm)
        · exact Nat.zero_testBit i
      rw [h3, Bool.or_false]
theorem tb_ge {s n i : Nat} (h : s < 2 ^ n) (hi : n ≤ i) : s.testBit i = false := Nat.testBit_lt_two_pow (Nat.lt_of_lt_of_le h (Nat.pow_le_pow_right (by decide) hi))
theorem bset_lt (n : Nat) (p : Nat → Bool) : bset n p < 2 ^ n := by
  apply Nat.lt_pow_two_of_testBit
  intro i hi
  rw [bset_bit, decide_eq_false (Nat.not_lt.mpr hi)]
  rfl
theorem bset_ext {s t n : Nat} (hs : s < 2 ^ n) (ht : t < 2 ^ n) (h : ∀ i, i < n → s.testBit i = t.testBit i) : s = t := by
  apply Nat.eq_of_testBit_eq
  intro i
  by_cases hi : i < n
  · exact h i hi
  · rw [tb_ge hs (by omega), tb_ge ht (by omega)]
theorem bset_eta {s n : Nat} (h : s < 2 ^ n) : bset n (fun i => s.testBit i) = s := by
  refine bset_ext (bset_lt n _) h (fun i hi => ?_)
  rw [bset_bit, decide_eq_true hi]
  rfl
theorem bset_of {s n : Nat} {p : Nat → Bool} (h : s < 2 ^ n) (hp : ∀ i, i < n → s.testBit i = p i) : bset n p = s := by
  refine bset_ext (bset_lt n _) h (fun i hi => ?_)
  rw [bset_bit, decide_eq_true hi, hp i hi]
  rfl
theorem bset_congr {n : Nat} {p q : Nat → Bool} (h : ∀ i, i < n → p i = q i) : bset n p = bset n q := by
  refine bset_ext (bset_lt n _) (bset_lt n _) (fun i hi => ?_)
  rw [bset_bit, bset_bit, h i hi]
theorem pw_le {n : Nat} (h : n ≤ 8) : 2 ^ n ≤ 256 := Nat.pow_le_pow_right (n := 2) (by decide) h
theorem lt_256 {s n : Nat} (h : s < 2 ^ n) (hn : n ≤ 8) : s < 256 := Nat.lt_of_lt_of_le h (pw_le hn)
theorem bset_256 {n : Nat} (hn : n ≤ 8) (p : Nat → Bool) : bset n p < 256 := lt_256 (bset_lt n p) hn
theorem z_in : ∀ s, s < 256 → ∀ j, j < 8 → ((nI s >>> (nI j &&& 31)) &&& 1) = nI (s.testBit j).toNat := by decide +kernel
theorem z_on : ∀ s, s < 256 → ∀ j, j < 8 → (nI s ||| ((1 : Int32) <<< (nI j &&& 31))) = nI (s ||| 2 ^ j) := by decide +kernel
theorem z_off : ∀ s, s < 256 → ∀ j, j < 8 → (nI s &&& (((1 : Int32) <<< (nI j &&& 31)) ^^^ (-1))) = nI (s &&& (255 ^^^ 2 ^ j)) := by decide +kernel
theorem z_offE : ∀ j, j < 8 → ∀ s, s < 2 ^ j → s &&& (255 ^^^ 2 ^ j) = s := by decide +kernel
theorem z_onB : ∀ s, s < 256 → ∀ j, j < 8 → ∀ i, i < 8 → (s ||| 2 ^ j).testBit i = (s.testBit i || decide (i = j)) := by decide +kernel
theorem z_offB : ∀ s, s < 256 → ∀ j, j < 8 → ∀ i, i < 8 → (s &&& (255 ^^^ 2 ^ j)).testBit i = (s.testBit i && !decide (i = j)) := by decide +kernel
theorem z_one : ∀ j, j < 9 → ((1 : Int32) <<< (nI j &&& 31)) = nI (2 ^ j) := by decide +kernel
theorem z_or {a b : Nat} : nI a ||| nI b = nI (a ||| b) := by
  apply Int32.toBitVec_inj.1
  show BitVec.ofNat 32 a ||| BitVec.ofNat 32 b = BitVec.ofNat 32 (a ||| b)
  apply BitVec.eq_of_getLsbD_eq
  intro i hi
  simp [hi]
theorem z_and {a b : Nat} : nI a &&& nI b = nI (a &&& b) := by
  apply Int32.toBitVec_inj.1
  show BitVec.ofNat 32 a &&& BitVec.ofNat 32 b = BitVec.ofNat 32 (a &&& b)
  apply BitVec.eq_of_getLsbD_eq
  intro i hi
  simp [hi]
/-- a set with a member in it or not -/
def wm (s j : Nat) (b : Bool) : Nat := if b then s ||| 2 ^ j else s &&& (255 ^^^ 2 ^ j)
theorem wm_lt : ∀ s, s < 256 → ∀ j, j < 8 → s ||| 2 ^ j < 256 ∧ s &&& (255 ^^^ 2 ^ j) < 256 := by decide +kernel
theorem wm_256 {s j : Nat} {b : Bool} (hs : s < 256) (hj : j < 8) : wm s j b < 256 := by
  unfold wm
  split
  · exact (wm_lt s hs j hj).1
  · exact (wm_lt s hs j hj).2
theorem wm_bit {s j i : Nat} {b : Bool} (hs : s < 256) (hj : j < 8) (hi : i < 8) : (wm s j b).testBit i = if i = j then b else s.testBit i := by
  unfold wm
  cases b
  · rw [if_neg (by decide), z_offB s hs j hj i hi]
    by_cases h : i = j <;> simp [h]
  · rw [if_pos rfl, z_onB s hs j hj i hi]
    by_cases h : i = j <;> simp [h]
theorem lt_of_bits {s n : Nat} (hs : s < 256) (h : ∀ i, i < 8 → n ≤ i → s.testBit i = false) : s < 2 ^ n := by
  apply Nat.lt_pow_two_of_testBit
  intro i hi
  by_cases h8 : i < 8
  · exact h i h8 hi
  · exact tb_ge (n := 8) hs (by omega)
theorem wm_pw {s j n : Nat} {b : Bool} (hs : s < 2 ^ n) (hn : n ≤ 8) (hj : j < n) : wm s j b < 2 ^ n := by
  have h8 : s < 256 := lt_256 hs hn
  refine lt_of_bits (wm_256 h8 (by omega)) (fun i hi hi2 => ?_)
  rw [wm_bit h8 (by omega) hi, if_neg (by omega), tb_ge hs hi2]
theorem inSet_ok {s j : Nat} (hs : s < 256) (hj : j < 8) (σ : St) : f_X10_inSet (nI s) (nI j) σ = some (nI (s.testBit j).toNat, σ) := by
  rw [f_X10_inSet, z_in s hs j hj]
theorem with_ok {s j : Nat} {b : Bool} {v : Int32} (hs : s < 256) (hj : j < 8) (hv : v = 0 ↔ b = false) (σ : St) : f_X10_withMember (nI s) (nI j) v σ = some (nI (wm s j b), σ) := by
  rw [f_X10_withMember]
  cases b
  · rw [if_pos (hv.mpr rfl), z_off s hs j hj]; rfl
  · rw [if_neg (fun h => by have := hv.mp h; cases this), z_on s hs j hj]; rfl
theorem with_bset {n : Nat} {p : Nat → Bool} {v : Int32} (hn : n < 8) (hv : v = 0 ↔ p n = false) (σ : St) : f_X10_withMember (nI (bset n p)) (nI n) v σ = some (nI (bset (n + 1) p), σ) := by
  have h8 : bset n p < 256 := bset_256 (by omega) p
  rw [with_ok (b := p n) h8 hn hv, wm, bset]
  cases p n
  · rw [if_neg (by decide), if_neg (by decide), z_offE n hn _ (bset_lt n p), Nat.or_zero]
  · rfl
theorem or_bset1 {n : Nat} {p : Nat → Bool} (hn : n < 8) (hp : p n = true) : nI (bset n p) ||| ((1 : Int32) <<< (nI n &&& 31)) = nI (bset (n + 1) p) := by
  rw [z_on _ (bset_256 (by omega) p) n hn, bset, if_pos hp]
theorem or_bset0 {n : Nat} {p : Nat → Bool} (hp : p n = false) : nI (bset n p) ||| 0 = nI (bset (n + 1) p) := by
  rw [bset, hp, show (0 : Int32) = nI 0 from rfl, z_or]
  rfl
/-! yes or no as an int -/
def bI (b : Bool) : Int32 := if b then 1 else 0
theorem bI_01 (b : Bool) : bI b = 0 ∨ bI b = 1 := by cases b; exact Or.inl rfl; exact Or.inr rfl
theorem bI_0 {b : Bool} : bI b = 0 ↔ b = false := by cases b <;> decide
theorem bI_1 {b : Bool} : bI b = 1 ↔ b = true := by cases b <;> decide
theorem bI_n (b : Bool) : nI b.toNat = bI b := by cases b <;> rfl
theorem if_bI {α : Type} {b : Bool} {x y : α} : (if bI b = 0 then x else y) = cond b y x := by cases b <;> rfl
theorem if_bI01 {α : Type} {b : Bool} {x y : α} : (if bI b = 0 ∨ bI b = 1 then x else y) = x := if_pos (bI_01 b)
theorem ob_eta {α β : Type} (x : Option (α × β)) : (Option.bind x fun r => some (r.1, r.2)) = x := by cases x <;> rfl
theorem ob_eta1 {α : Type} (x : Option α) : (Option.bind x fun r => some r) = x := by cases x <;> rfl
theorem ob_some {α β : Type} (x : α) (f : α → Option β) : Option.bind (some x) f = f x := rfl
theorem bst_ok {α : Type} (s : St) (f : St → Option α) : Bst s f = f s := rfl
def btw (v a b : Int32) : Bool := decide (a ≤ v ∧ v ≤ b)
theorem within_ok (v a b : Int32) (σ : St) : f_X10_within v a b σ = some (bI (btw v a b), σ) := by
  rw [f_X10_within]
  by_cases h1 : v < a
  · rw [if_pos h1, show btw v a b = false from decide_eq_false (fun h => Int32.not_lt.mpr h.1 h1)]; rfl
  · rw [if_neg h1]
    by_cases h2 : b < v
    · rw [if_pos h2, show btw v a b = false from decide_eq_false (fun h => Int32.not_lt.mpr h.2 h2)]; rfl
    · rw [if_neg h2, show btw v a b = true from decide_eq_true ⟨Int32.not_lt.mp h1, Int32.not_lt.mp h2⟩]; rfl
theorem mwithin_ok (v a b : Int32) (σ : St) : f_X11_within v a b σ = some (bI (btw v a b), σ) := by
  rw [f_X11_within]
  by_cases h1 : v < a
  · rw [if_pos h1, show btw v a b = false from decide_eq_false (fun h => Int32.not_lt.mpr h.1 h1)]; rfl
  · rw [if_neg h1]
    by_cases h2 : b < v
    · rw [if_pos h2, show btw v a b = false from decide_eq_false (fun h => Int32.not_lt.mpr h.2 h2)]; rfl
    · rw [if_neg h2, show btw v a b = true from decide_eq_true ⟨Int32.not_lt.mp h1, Int32.not_lt.mp h2⟩]; rfl
/-- a number of a row of n: as the class and as the reference ask -/
def isIx (i : Int32) (n : Nat) : Bool := decide (0 ≤ i ∧ i < nI n)
theorem isIx_nI {i : Int32} {n : Nat} (h : isIx i n = true) (hn : n < 2 ^ 31) : ∃ j : Nat, j < n ∧ i = nI j := by
  have h1 := of_decide_eq_true h
  exact vp_in_of (vp_in_iff.mpr ⟨by have := h1.1; rw [Int32.le_iff_toInt_le] at this; simpa using this, by have := h1.2; rw [Int32.lt_iff_toInt_lt, nI_toInt hn] at this; exact this⟩) hn
theorem isIx_of {j n : Nat} (h : j < n) (hn : n < 2 ^ 31) : isIx (nI j) n = true := decide_eq_true ⟨nI_pos' (by omega), nI_lt h hn⟩
theorem btw_ix (i : Int32) {n : Nat} (hn : n < 2 ^ 30) : btw i 0 (nI n - 1) = isIx i n := by
  unfold btw isIx
  congr 1
  apply propext
  constructor
  · rintro ⟨h1, h2⟩
    refine ⟨h1, ?_⟩
    rw [Int32.lt_iff_toInt_lt, nI_toInt (by omega)]
    rw [Int32.le_iff_toInt_le] at h2 h1
    rw [show (1 : Int32) = nI 1 from rfl, pk_sub_toInt (by omega) (by omega)] at h2
    omega
  · rintro ⟨h1, h2⟩
    refine ⟨h1, ?_⟩
    rw [Int32.lt_iff_toInt_lt, nI_toInt (by omega)] at h2
    rw [Int32.le_iff_toInt_le, show (1 : Int32) = nI 1 from rfl, pk_sub_toInt (by omega) (by omega)]
    omega
theorem btw_nI {v A B : Int32} (a b : Nat) (h : btw v A B = true) (hA : A = nI a := by rfl) (hB : B = nI b := by rfl) (ha : a < 2 ^ 31 := by decide) (hb : b < 2 ^ 31 := by decide) : ∃ j : Nat, a ≤ j ∧ j ≤ b ∧ v = nI j := by
  subst hA
  subst hB
  have h1 := of_decide_eq_true h
  obtain ⟨j, hj, rfl⟩ := nI_of2 (nI_toInt hb) (fun q => Int32.not_lt.mpr (Int32.le_trans (nI_pos' ha) h1.1) q) h1.2
  exact ⟨j, (nI_leI ha (by omega)).mp h1.1, hj, rfl⟩
theorem has_ok (k : Nat) (i : Int32) (σ : St) {n : Nat} (h : σ k 1 = nI n) : f_X2_has k i σ = some (bI (isIx i n), σ) := by
  rw [f_X2_has, h]
  by_cases h1 : i < 0
  · rw [if_pos h1, show isIx i n = false from decide_eq_false (fun h => Int32.not_lt.mpr h.1 h1)]; rfl
  · rw [if_neg h1]
    by_cases h2 : nI n ≤ i
    · rw [if_pos h2, show isIx i n = false from decide_eq_false (fun h => Int32.not_lt.mpr h2 h.2)]; rfl
    · rw [if_neg h2, show isIx i n = true from decide_eq_true ⟨Int32.not_lt.mp h1, Int32.not_le.mp h2⟩]; rfl
