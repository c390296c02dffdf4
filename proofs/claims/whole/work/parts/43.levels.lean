/-! the levels of both readers -/
theorem signs_ok {l : Nat} (hl : l ≤ 4) (σ : St) : f_X1_signsOf (nI l) σ = some (4 + l, σ) := by
  have : l = 0 ∨ l = 1 ∨ l = 2 ∨ l = 3 ∨ l = 4 := by omega
  rcases this with rfl | rfl | rfl | rfl | rfl <;> rfl
theorem nI_ne {b k : Nat} (hb : b < 256) (hk : k < 256) (h : b ≠ k) : ¬ nI b = nI k := fun x => h ((nI_eq (by omega) (by omega)).mp x)
section LEVEL
variable {u nt o KF KG : Nat}
theorem level_of {l : Nat} (hl : l ≤ 4) (h2 : l ≠ 2) (h : SimL u nt (l + 1) o KF KG) (CT : Nat → Nat → St → Option St)
    (hR : ∀ G τ, RLv l (G + 1) τ = Option.bind (RLv (l + 1) G τ) (CT G 399))
    (hA : ∀ G n τ c, f_X11_here τ = some (c, τ) → (c = -1 ∨ ∃ b, b < 256 ∧ c = nI b ∧ (chs (4 + l)).contains b = false) → CT G n τ = some τ)
    (hB : ∀ G n τ b p, f_X11_here τ = some (nI b, τ) → (chs (4 + l)).contains b = true → τ 0 6 = nI p → CT G (n + 1) τ = Option.bind (RLv (l + 1) G (up τ 0 6 (nI (p + 1)))) fun r => Option.bind (f_X11_codes (rcS b) r) (CT G n)) :
    SimL u nt l o (KF + 2) (KG + 1) := by
  intro F G hF hG p m σ τ P
  obtain ⟨F, rfl⟩ : ∃ x, F = x + 1 := ⟨F - 1, by omega⟩
  obtain ⟨G, rfl⟩ : ∃ x, G = x + 1 := ⟨G - 1, by omega⟩
  have PP := part_ok hl h F G (by omega) (by omega)
  obtain ⟨σ1, τ1, e1, e2, e3, e4⟩ := PP p m σ τ P
  rw [if_neg (by omega), hR, e1, ob_some]
  show Out u nt o p m σ τ (f_X1_reads (fam_X1 F) (nI l) (nI o) σ) _
  rw [f_X1_reads]
  rcases e4 with ⟨e4, p1, m1, P1, hp1, hm1, bal, pre, dp⟩ | ⟨e4, p1, z1, z2, z3, z4⟩
  · rw [e4, ob_some]
    dsimp only
    rw [if_neg (by decide), signs_ok hl, ob_some]
    dsimp only
    rw [if_pos (by omega), show (0 : Int32) = nI 0 from rfl]
    exact loopL hl h2 PP (CT G) (hA G) (hB G) 50 400 399 0 p1 m1 σ1 τ1 (by decide) (by decide) (by decide) (by omega) hp1 P1 hm1 bal e2 e3 pre dp
  · rw [e4, ob_some]
    dsimp only
    rw [if_pos rfl, hA G 399 τ1 (-1) (hereW z4) (Or.inl rfl)]
    exact ⟨σ1, τ1, rfl, e2, e3, Or.inr ⟨rfl, p1, z1, z2, z3, z4⟩⟩
theorem level0 (h : SimL u nt 1 o KF KG) : SimL u nt 0 o (KF + 2) (KG + 1) := by
  refine level_of (by decide) (by decide) h (fun G n => f_X11_either_L4 (fam_X11 G) (n + 1)) (fun G τ => rfl) (fun G n τ c hh hc => ?_) (fun G n τ b p hh hc hp => ?_)
  · have : ¬ c = 124 := by
      rcases hc with rfl | ⟨b, hb, rfl, hc⟩
      · decide
      · exact nI_ne (k := 124) hb (by decide) (fun x => by subst x; revert hc; decide)
    rw [f_X11_either_L4, takesF 124 hh this, ob_some]
    dsimp only
    rw [if_pos rfl]
  · have : b = 124 := by simpa [chs] using hc
    subst this
    rw [f_X11_either_L4, takesT 124 hh rfl hp, ob_some]
    dsimp only
    rw [if_neg (by decide)]
    rfl
theorem level1 (h : SimL u nt 2 o KF KG) : SimL u nt 1 o (KF + 2) (KG + 1) := by
  refine level_of (by decide) (by decide) h (fun G n => f_X11_both_L4 (fam_X11 G) (n + 1)) (fun G τ => rfl) (fun G n τ c hh hc => ?_) (fun G n τ b p hh hc hp => ?_)
  · have : ¬ c = 38 := by
      rcases hc with rfl | ⟨b, hb, rfl, hc⟩
      · decide
      · exact nI_ne (k := 38) hb (by decide) (fun x => by subst x; revert hc; decide)
    rw [f_X11_both_L4, takesF 38 hh this, ob_some]
    dsimp only
    rw [if_pos rfl]
  · have : b = 38 := by simpa [chs] using hc
    subst this
    rw [f_X11_both_L4, takesT 38 hh rfl hp, ob_some]
    dsimp only
    rw [if_neg (by decide)]
    rfl
def PD3 (q : FamT_X11) (n : Nat) (τ : St) : Option St := Option.bind (f_X11_takes 43 τ) fun r2 => (if r2.1 = 0 then (Option.bind (f_X11_takes 45 r2.2) fun r3 => (if r3.1 = 0 then (f_X11_sum_L36 q (n + 1) 0 r3.2) else (f_X11_sum_L36 q (n + 1) 20006 r3.2))) else (f_X11_sum_L36 q (n + 1) 20005 r2.2))
theorem level3 (h : SimL u nt 4 o KF KG) : SimL u nt 3 o (KF + 2) (KG + 1) := by
  refine level_of (by decide) (by decide) h (fun G n => PD3 (fam_X11 G) n) (fun G τ => rfl) (fun G n τ c hh hc => ?_) (fun G n τ b p hh hc hp => ?_)
  · have : ¬ c = 43 ∧ ¬ c = 45 := by
      rcases hc with rfl | ⟨b, hb, rfl, hc⟩
      · decide
      · exact ⟨nI_ne (k := 43) hb (by decide) (fun x => by subst x; revert hc; decide), nI_ne (k := 45) hb (by decide) (fun x => by subst x; revert hc; decide)⟩
    rw [PD3, takesF 43 hh this.1, ob_some]
    dsimp only
    rw [if_pos rfl, takesF 45 hh this.2, ob_some]
    dsimp only
    rw [if_pos rfl, f_X11_sum_L36, if_pos Int32.le_rfl]
  · have : b = 43 ∨ b = 45 := by simpa [chs] using hc
    rcases this with rfl | rfl
    · rw [PD3, takesT 43 hh rfl hp, ob_some]
      dsimp only
      rw [if_neg (by decide), f_X11_sum_L36, if_neg (by decide)]
      rfl
    · rw [PD3, takesF 43 hh (by decide), ob_some]
      dsimp only
      rw [if_pos rfl, takesT 45 hh rfl hp, ob_some]
      dsimp only
      rw [if_neg (by decide), f_X11_sum_L36, if_neg (by decide)]
      rfl
def PD4 (q : FamT_X11) (n : Nat) (τ : St) : Option St := Option.bind (f_X11_takes 42 τ) fun r2 => (if r2.1 = 0 then (Option.bind (f_X11_takes 47 r2.2) fun r3 => (if r3.1 = 0 then (Option.bind (f_X11_takes 37 r3.2) fun r4 => (if r4.1 = 0 then (f_X11_product_L51 q (n + 1) 0 r4.2) else (f_X11_product_L51 q (n + 1) 20009 r4.2))) else (f_X11_product_L51 q (n + 1) 20008 r3.2))) else (f_X11_product_L51 q (n + 1) 20007 r2.2))
theorem level4 (h : SimL u nt 5 o KF KG) : SimL u nt 4 o (KF + 2) (KG + 1) := by
  refine level_of (by decide) (by decide) h (fun G n => PD4 (fam_X11 G) n) (fun G τ => rfl) (fun G n τ c hh hc => ?_) (fun G n τ b p hh hc hp => ?_)
  · have : ¬ c = 42 ∧ ¬ c = 47 ∧ ¬ c = 37 := by
      rcases hc with rfl | ⟨b, hb, rfl, hc⟩
      · decide
      · exact ⟨nI_ne (k := 42) hb (by decide) (fun x => by subst x; revert hc; decide), nI_ne (k := 47) hb (by decide) (fun x => by subst x; revert hc; decide), nI_ne (k := 37) hb (by decide) (fun x => by subst x; revert hc; decide)⟩
    rw [PD4, takesF 42 hh this.1, ob_some]
    dsimp only
    rw [if_pos rfl, takesF 47 hh this.2.1, ob_some]
    dsimp only
    rw [if_pos rfl, takesF 37 hh this.2.2, ob_some]
    dsimp only
    rw [if_pos rfl, f_X11_product_L51, if_pos Int32.le_rfl]
  · have : b = 42 ∨ b = 47 ∨ b = 37 := by simpa [chs] using hc
    rcases this with rfl | rfl | rfl
    · rw [PD4, takesT 42 hh rfl hp, ob_some]
      dsimp only
      rw [if_neg (by decide), f_X11_product_L51, if_neg (by decide)]
      rfl
    · rw [PD4, takesF 42 hh (by decide), ob_some]
      dsimp only
      rw [if_pos rfl, takesT 47 hh rfl hp, ob_some]
      dsimp only
      rw [if_neg (by decide), f_X11_product_L51, if_neg (by decide)]
      rfl
    · rw [PD4, takesF 42 hh (by decide), ob_some]
      dsimp only
      rw [if_pos rfl, takesF 47 hh (by decide), ob_some]
      dsimp only
      rw [if_pos rfl, takesT 37 hh rfl hp, ob_some]
      dsimp only
      rw [if_neg (by decide), f_X11_product_L51, if_neg (by decide)]
      rfl
def PD2 (q : FamT_X11) (r1 : St) : Option St := (Option.bind (f_X11_takes 60 r1) fun r2 => (if r2.1 = 0 then (Option.bind (f_X11_takes 61 r2.2) fun r3 => (if r3.1 = 0 then (Option.bind (f_X11_takes 62 r3.2) fun r4 => (if r4.1 = 0 then (if (0 : Int32) ≤ 0 then (some r4.2) else (Option.bind (q.2.2.2.2.2 r4.2) fun r5 => (Option.bind (f_X11_codes 0 r5) fun r6 => (some r6)))) else (if (20004 : Int32) ≤ 0 then (some r4.2) else (Option.bind (q.2.2.2.2.2 r4.2) fun r7 => (Option.bind (f_X11_codes 20004 r7) fun r8 => (some r8)))))) else (if (20003 : Int32) ≤ 0 then (some r3.2) else (Option.bind (q.2.2.2.2.2 r3.2) fun r9 => (Option.bind (f_X11_codes 20003 r9) fun r10 => (some r10)))))) else (if (20002 : Int32) ≤ 0 then (some r2.2) else (Option.bind (q.2.2.2.2.2 r2.2) fun r11 => (Option.bind (f_X11_codes 20002 r11) fun r12 => (some r12))))))
theorem PD2_A (q : FamT_X11) {τ : St} {c : Int32} (hh : f_X11_here τ = some (c, τ)) (hc : c = -1 ∨ ∃ b, b < 256 ∧ c = nI b ∧ (chs 6).contains b = false) : PD2 q τ = some τ := by
  have : ¬ c = 60 ∧ ¬ c = 61 ∧ ¬ c = 62 := by
    rcases hc with rfl | ⟨b, hb, rfl, hc⟩
    · decide
    · exact ⟨nI_ne (k := 60) hb (by decide) (fun x => by subst x; revert hc; decide), nI_ne (k := 61) hb (by decide) (fun x => by subst x; revert hc; decide), nI_ne (k := 62) hb (by decide) (fun x => by subst x; revert hc; decide)⟩
  rw [PD2, takesF 60 hh this.1, ob_some]
  dsimp only
  rw [if_pos rfl, takesF 61 hh this.2.1, ob_some]
  dsimp only
  rw [if_pos rfl, takesF 62 hh this.2.2, ob_some]
  dsimp only
  rw [if_pos rfl, if_pos Int32.le_rfl]
theorem PD2_B (q : FamT_X11) {τ : St} {b p : Nat} (hh : f_X11_here τ = some (nI b, τ)) (hc : (chs 6).contains b = true) (hp : τ 0 6 = nI p) : PD2 q τ = Option.bind (q.2.2.2.2.2 (up τ 0 6 (nI (p + 1)))) fun r => Option.bind (f_X11_codes (rcS b) r) (fun x => some x) := by
  have : b = 60 ∨ b = 61 ∨ b = 62 := by simpa [chs] using hc
  rcases this with rfl | rfl | rfl
  · rw [PD2, takesT 60 hh rfl hp, ob_some]
    dsimp only
    rw [if_neg (by decide), if_neg (by decide)]
    rfl
  · rw [PD2, takesF 60 hh (by decide), ob_some]
    dsimp only
    rw [if_pos rfl, takesT 61 hh rfl hp, ob_some]
    dsimp only
    rw [if_neg (by decide), if_neg (by decide)]
    rfl
  · rw [PD2, takesF 60 hh (by decide), ob_some]
    dsimp only
    rw [if_pos rfl, takesF 61 hh (by decide), ob_some]
    dsimp only
    rw [if_pos rfl, takesT 62 hh rfl hp, ob_some]
    dsimp only
    rw [if_neg (by decide), if_neg (by decide)]
    rfl
theorem level2 (h : SimL u nt 3 o KF KG) : SimL u nt 2 o (KF + 2) (KG + 1) := by
  intro F G hF hG p m σ τ P
  obtain ⟨F, rfl⟩ : ∃ x, F = x + 1 := ⟨F - 1, by omega⟩
  obtain ⟨G, rfl⟩ : ∃ x, G = x + 1 := ⟨G - 1, by omega⟩
  have PP := part_ok (l := 2) (by decide) h F G (by omega) (by omega)
  obtain ⟨σ1, τ1, e1, e2, e3, e4⟩ := PP p m σ τ P
  rw [if_neg (by decide), show RLv 2 (G + 1) τ = Option.bind (RLv (2 + 1) G τ) (PD2 (fam_X11 G)) from rfl, e1, ob_some]
  show Out u nt o p m σ τ (f_X1_reads (fam_X1 F) (nI 2) (nI o) σ) _
  rw [f_X1_reads]
  rcases e4 with ⟨e4, p1, m1, P1, hp1, hm1, bal, pre, dp⟩ | ⟨e4, p1, z1, z2, z3, z4⟩
  · rw [e4, ob_some]
    dsimp only
    rw [if_neg (by decide), signs_ok (by decide), ob_some]
    dsimp only
    rw [if_pos (by decide), show (0 : Int32) = nI 0 from rfl]
    obtain ⟨c, c1, c2, c3⟩ := nextB P1
    have stop : ∀ d : Bool, d = false → f_X1_isIn 6 c σ1 = some (bI d, σ1) → f_X1_reads_L19 (fam_X1 F) 400 (nI 2) (nI o) (4 + 2) (nI 0) σ1 = some (1, σ1) := by
      intro d hd e
      rw [f_X1_reads_L19, if_neg (by decide), c1, ob_some]
      dsimp only
      rw [e, hd, ob_some]
      dsimp only
      rw [if_pos (show bI false = 0 from rfl)]
    rcases c3 with ⟨rfl, hpn⟩ | ⟨b, hb, rfl, hpn⟩
    · rw [stop false rfl (isIn_n σ1), PD2_A _ c2 (Or.inl rfl)]
      exact ⟨σ1, τ1, rfl, e2, e3, Or.inl ⟨rfl, p1, m1, P1, hp1, hm1, bal, pre, dp⟩⟩
    · cases hc : (chs 6).contains b
      · rw [stop false rfl (by rw [isIn_b (by decide) (by decide) hb, hc]), PD2_A _ c2 (Or.inr ⟨b, hb, rfl, hc⟩)]
        exact ⟨σ1, τ1, rfl, e2, e3, Or.inl ⟨rfl, p1, m1, P1, hp1, hm1, bal, pre, dp⟩⟩
      · obtain ⟨σ', τ', T1, T2, r1, r2⟩ := iter (l := 2) (by decide) PP (fun x => some x) P1 (by omega) hb hc c1 hpn (show 0 < 50 by decide) 399
        rw [PD2_B _ c2 hc P1.2.2.1.2.1]
        have r1' : (Option.bind ((fam_X11 G).2.2.2.2.2 (up τ1 0 6 (nI (p1 + 1)))) fun r => Option.bind (f_X11_codes (rcS b) r) (fun x => some x)) = some τ' := r1
        rw [r1']
        rcases r2 with ⟨r2, p', m', P', hp', hm', bal', pre', dp'⟩ | ⟨r2, p', z1, z2, z3, z4⟩
        · rw [r2, if_pos (show nI 2 = 2 from rfl)]
          refine ⟨σ', τ', rfl, e2.tr T1, e3.tr T2, Or.inl ⟨rfl, p', m', P', by omega, by omega, by omega, fun j hj => (pre' j (by omega)).trans (pre j hj), fun x => ?_⟩⟩
          have d1 : depG (σ' 89) (m1 - m) m x = some (x + 1) := by
            rw [← dp x]
            exact depG_congr (fun j a b => pre' j (by omega))
          rw [show m' - m = m1 - m + (m' - m1) by omega, depG_add (σ' 89) d1, show m + (m1 - m) = m1 by omega]
          exact dp' x
        · rw [r2]
          exact ⟨σ', τ', rfl, e2.tr T1, e3.tr T2, Or.inr ⟨rfl, p', z1, z2, z3, z4⟩⟩
  · rw [e4, ob_some]
    dsimp only
    rw [if_pos rfl, PD2_A _ (hereW z4) (Or.inl rfl)]
    exact ⟨σ1, τ1, rfl, e2, e3, Or.inr ⟨rfl, p1, z1, z2, z3, z4⟩⟩
end LEVEL
/-! names -/
theorem nameOf_ok {u b : Nat} {τ : St} (hu : u ≤ 1) (hb : b < 256) (h8 : τ 0 8 = nI u) : f_X11_nameOf (nI b) τ = some (nmv u b, τ) := by
  have i2 : inb (nI u) 2 = true := nI_inb (by omega) (by decide)
  have step : ∀ n k (v : Int32) (c : Nat), k < 3 → lenS.getD (u + 1) 0 = 3 → schr (u + 1) (nI k) = nI c → c < 256 → f_X11_nameOf_L4 (n + 1) (nI b) v (nI k) τ = if b = c then f_X11_nameOf_L4 n (nI b) (nI k) (nI (k + 1)) τ else f_X11_nameOf_L4 n (nI b) v (nI (k + 1)) τ := by
    intro n k v c hk hl hc hc2
    rw [f_X11_nameOf_L4, h8, nI_clamp (by omega), hl, if_pos i2, if_neg (show ¬ nI 3 ≤ nI k from fun x => by have := (nI_leI (a := 3) (by decide) (by omega)).mp x; omega), if_pos i2, if_pos (nI_inb (show k < 3 by omega) (by decide)), hc, nI_1]
    by_cases q : b = c
    · rw [if_pos (by rw [q]), if_pos q]
    · rw [if_neg (nI_ne hc2 hb (fun x => q x.symm)), if_neg q]
  have last : ∀ n (v : Int32), lenS.getD (u + 1) 0 = 3 → f_X11_nameOf_L4 (n + 1) (nI b) v (nI 3) τ = some (v, τ) := by
    intro n v hl
    rw [f_X11_nameOf_L4, h8, nI_clamp (by omega), hl, if_pos i2, if_pos Int32.le_rfl]
  have : u = 0 ∨ u = 1 := by omega
  rcases this with rfl | rfl
  · rw [f_X11_nameOf, show (0 : Int32) = nI 0 from rfl, step 399 0 _ 115 (by decide) rfl (by decide) (by decide), step 398 1 _ 109 (by decide) rfl (by decide) (by decide), step 398 1 _ 109 (by decide) rfl (by decide) (by decide), step 397 2 _ 114 (by decide) rfl (by decide) (by decide), step 397 2 _ 114 (by decide) rfl (by decide) (by decide), step 397 2 _ 114 (by decide) rfl (by decide) (by decide), last 396 _ rfl, last 396 _ rfl, last 396 _ rfl, last 396 _ rfl]
    unfold nmv
    rw [if_pos rfl]
    by_cases q1 : b = 115
    · subst q1; rfl
    · by_cases q2 : b = 109
      · subst q2; rfl
      · by_cases q3 : b = 114
        · subst q3; rfl
        · rw [if_neg q1, if_neg q2, if_neg q3, if_neg q3, if_neg q2, if_neg q1]
  · rw [f_X11_nameOf, show (0 : Int32) = nI 0 from rfl, step 399 0 _ 115 (by decide) rfl (by decide) (by decide), step 398 1 _ 112 (by decide) rfl (by decide) (by decide), step 398 1 _ 112 (by decide) rfl (by decide) (by decide), step 397 2 _ 104 (by decide) rfl (by decide) (by decide), step 397 2 _ 104 (by decide) rfl (by decide) (by decide), step 397 2 _ 104 (by decide) rfl (by decide) (by decide), last 396 _ rfl, last 396 _ rfl, last 396 _ rfl, last 396 _ rfl]
    unfold nmv
    rw [if_neg (show ¬ (1 : Nat) = 0 by decide)]
    by_cases q1 : b = 115
    · subst q1; rfl
    · by_cases q2 : b = 112
      · subst q2; rfl
      · by_cases q3 : b = 104
        · subst q3; rfl
        · rw [if_neg q1, if_neg q2, if_neg q3, if_neg q3, if_neg q2, if_neg q1]
