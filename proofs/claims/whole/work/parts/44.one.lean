/-! one: a number, a name, not, brackets -/
theorem up_comm (σ : St) {k j k' j' : Nat} (v v' : Int32) (h : k ≠ k' ∨ j ≠ j') : up (up σ k j v) k' j' v' = up (up σ k' j' v') k j v := by
  funext q i
  rw [up_ap, up_ap, up_ap, up_ap]
  by_cases h1 : q = k' ∧ i = j'
  · rw [if_pos h1, if_neg (by omega), if_pos h1]
  · rw [if_neg h1]
    by_cases h2 : q = k ∧ i = j
    · rw [if_pos h2, if_pos h2]
    · rw [if_neg h2, if_neg h2, if_neg h1]
/-- what both do at a place where nothing goes on -/
theorem Out.bad {u nt o p m : Nat} {σ τ : St} (h : PS u nt o p m σ τ) : Out u nt o p m σ τ (some (0, σ)) (some (up τ 0 9 1)) :=
  ⟨σ, up τ 0 9 1, rfl, same.rf, same_up (Or.inr ⟨rfl, by omega⟩), Or.inr ⟨rfl, p, h.1.2.2.1, h.2.1.2.1, (up_o (by omega)).trans h.2.2.1.2.1, up_e rfl rfl⟩⟩
theorem L218_1 (q : FamT_X11) (v : Int32) (τ : St) : f_X11_one_L218 q v 1 τ = some (up τ 0 9 1) := by
  rw [f_X11_one_L218, if_pos (Or.inr rfl), bst_ok, up_e rfl rfl, if_neg (by decide)]
theorem L31_1 (q : FamT_X11) (v : Int32) (τ : St) : f_X11_one_L31 q v 1 τ = some (up τ 0 9 1) := by
  rw [f_X11_one_L31, if_pos (Or.inr rfl), bst_ok, up_e rfl rfl, if_neg (by decide)]
theorem no_name : ∀ u, u < 2 → ∀ b, b < 256 → (chs (u + 1)).contains b = true → b ≠ 33 ∧ b ≠ 40 ∧ (chs 3).contains b = false := by decide +kernel
theorem no_dig : ∀ b, b < 256 → (chs 3).contains b = true → b ≠ 33 ∧ b ≠ 40 := by decide +kernel
theorem okNot : okSign (-33) := Or.inr (by decide)
section ONE
variable {u nt : Nat}
/-- a state of the reference below brackets, back to the count o -/
theorem back_o {o p m : Nat} {σ τ : St} (h : PS u nt (o + 1) p m σ τ) : PS u nt o p m σ (up τ 0 7 (τ 0 7 - 1)) := by
  rw [h.2.2.1.2.2.1, nI_pred]
  exact h.depth o
theorem one_of {o KF KG KF' KG' : Nat} (ho : o ≤ 5) (h0 : o < 5 → SimL u nt 0 (o + 1) KF KG) (h5 : o < 5 → SimL u nt 5 (o + 1) KF' KG') : SimL u nt 5 o (max KF KF' + 2) (max KG KG' + 1) := by
  intro F G hF hG p m σ τ P
  obtain ⟨F, rfl⟩ : ∃ x, F = x + 2 := ⟨F - 2, by omega⟩
  obtain ⟨G, rfl⟩ : ∃ x, G = x + 1 := ⟨G - 1, by omega⟩
  rw [if_pos rfl]
  show Out u nt o p m σ τ (f_X1_readsOne (fam_X1 (F + 1)) (nI o) σ) (f_X11_one (fam_X11 G) τ)
  obtain ⟨⟨a1, a2, a3, a4⟩, ⟨b1, b2, b3, b4⟩, ⟨d1, d2, d3, d4, d5, d6⟩, dd, de⟩ := id P
  have nm : (σ 87 2).toNatClampNeg = u + 1 := by rw [b1, nI_clamp (by omega)]
  have o5 : (5 : Int32) ≤ nI o ↔ o = 5 := by
    have := nI_leI (a := 5) (b := o) (by decide) (by omega)
    constructor
    · intro x; have := this.mp x; omega
    · intro x; exact this.mpr (by omega)
  have o5' : nI o = 5 ↔ o = 5 := nI_eq (b := 5) (by omega) (by decide)
  have t5 : τ 0 7 = 5 ↔ o = 5 := by rw [d3]; exact o5'
  obtain ⟨c, c1, c2, c3⟩ := nextB P
  rw [f_X1_readsOne, f_X11_one, c1, c2, ob_some, ob_some]
  dsimp only
  rcases c3 with ⟨rfl, hp⟩ | ⟨b, hb, rfl, hp⟩
  · -- there is no byte
    rw [isIn_n, ob_some]
    dsimp only
    rw [if_pos (show bI false = 0 from rfl), nm, if_pos (by omega), isIn_n, ob_some]
    dsimp only
    rw [if_pos (show bI false = 0 from rfl), if_neg (show ¬ (-1 : Int32) = 33 by decide), if_neg (show ¬ (-1 : Int32) = 40 by decide), if_neg (show ¬ (-1 : Int32) = 33 by decide), if_neg (show ¬ (-1 : Int32) = 40 by decide), mwithin_ok, ob_some]
    dsimp only
    rw [if_pos (show bI (btw (-1) 48 57) = 0 by decide), if_neg (show ¬ (0 : Int32) ≤ -1 by decide), if_pos d5, if_neg (show ¬ (0 : Int32) ≤ -1 by decide), L218_1]
    have : (if (5 : Int32) ≤ nI o then some ((0 : Int32), σ) else some (0, σ)) = some (0, σ) := by
      by_cases z : (5 : Int32) ≤ nI o
      · rw [if_pos z]
      · rw [if_neg z]
    rw [this]
    exact Out.bad P
  · rw [isIn_b (e := 3) (by decide) (by decide) hb, ob_some]
    dsimp only
    rw [if_bI]
    have c0 : (0 : Int32) ≤ nI b := nI_pos' (by omega)
    cases hd : (chs 3).contains b
    · dsimp only [cond]
      rw [nm, if_pos (by omega), isIn_b (e := u + 1) (by omega) (by omega) hb, ob_some]
      dsimp only
      rw [if_bI]
      obtain ⟨t1, t2⟩ := nm_tab u (by omega) b hb
      cases hn : (chs (u + 1)).contains b
      · -- no name
        dsimp only [cond]
        have nneg : ¬ 0 ≤ nmv u b := by
          rw [hn] at t1
          exact of_decide_eq_false t1.symm
        have other : b ≠ 33 → b ≠ 40 → Out u nt o p m σ τ (if (5 : Int32) ≤ nI o then some (0, σ) else if nI b = 33 then f_X1_readsOne_L80 (fam_X1 (F + 1)) (nI o) (nI b) σ else if nI b = 40 then f_X1_readsOne_L80 (fam_X1 (F + 1)) (nI o) (nI b) σ else some (0, σ))
            (if nI b = 33 then if τ 0 7 = 5 then f_X11_one_L31 (fam_X11 G) (nI b) 1 τ else f_X11_one_L31 (fam_X11 G) (nI b) 0 τ else if nI b = 40 then if τ 0 7 = 5 then f_X11_one_L31 (fam_X11 G) (nI b) 1 τ else f_X11_one_L31 (fam_X11 G) (nI b) 0 τ else Option.bind (f_X11_within (nI b) 48 57 τ) fun r2 => if r2.1 = 0 then if 0 ≤ nI b then Option.bind (f_X11_nameOf (nI b) r2.2) fun r3 => if r3.2 0 9 = 0 then if 0 ≤ r3.1 then f_X11_one_L218 (fam_X11 G) r3.1 0 r3.2 else f_X11_one_L218 (fam_X11 G) r3.1 1 r3.2 else f_X11_one_L218 (fam_X11 G) r3.1 1 r3.2 else if r2.2 0 9 = 0 then if 0 ≤ (-1 : Int32) then f_X11_one_L218 (fam_X11 G) (-1) 0 r2.2 else f_X11_one_L218 (fam_X11 G) (-1) 1 r2.2 else f_X11_one_L218 (fam_X11 G) (-1) 1 r2.2 else f_X11_one_L131 (fam_X11 G) 400 0 0 r2.2) := by
          intro h33 h40
          rw [if_neg (show ¬ nI b = 33 from nI_ne (k := 33) hb (by decide) h33), if_neg (show ¬ nI b = 40 from nI_ne (k := 40) hb (by decide) h40), if_neg (show ¬ nI b = 33 from nI_ne (k := 33) hb (by decide) h33), if_neg (show ¬ nI b = 40 from nI_ne (k := 40) hb (by decide) h40), mwithin_ok, dg_tab b hb, hd, ob_some]
          dsimp only
          rw [if_pos (show bI false = 0 from rfl), if_pos c0, nameOf_ok a1 hb d4, ob_some]
          dsimp only
          rw [if_pos d5, if_neg nneg, L218_1]
          have : (if (5 : Int32) ≤ nI o then some ((0 : Int32), σ) else some (0, σ)) = some (0, σ) := by
            by_cases z : (5 : Int32) ≤ nI o
            · rw [if_pos z]
            · rw [if_neg z]
          rw [this]
          exact Out.bad P
        by_cases e5 : o = 5
        · by_cases h33 : b = 33
          · rw [if_pos (o5.mpr e5), if_pos (show nI b = 33 by rw [h33]; rfl), if_pos (t5.mpr e5), L31_1]
            exact Out.bad P
          · by_cases h40 : b = 40
            · rw [if_pos (o5.mpr e5), if_neg (show ¬ nI b = 33 from nI_ne (k := 33) hb (by decide) h33), if_pos (show nI b = 40 by rw [h40]; rfl), if_pos (t5.mpr e5), L31_1]
              exact Out.bad P
            · exact other h33 h40
        · have on5 : ¬ (5 : Int32) ≤ nI o := fun x => e5 (o5.mp x)
          have on5' : ¬ nI o = 5 := fun x => e5 (o5'.mp x)
          have olt : o < 5 := by omega
          -- one bracket or not more
          have P1 : PS u nt (o + 1) (p + 1) m (up σ 87 3 (nI (p + 1))) (up (up τ 0 7 (nI (o + 1))) 0 6 (nI (p + 1))) := (P.depth (o + 1)).on hp
          have st0 : up τ 0 9 0 = τ := up9 τ d5
          have T1 : same fmR τ (up (up τ 0 7 (nI (o + 1))) 0 6 (nI (p + 1))) := (same_up (Or.inr ⟨rfl, by omega⟩)).tr (same_up (Or.inr ⟨rfl, by omega⟩))
          have T0 : same fpR σ (up σ 87 3 (nI (p + 1))) := same_up (Or.inl ⟨rfl, rfl⟩)
          by_cases h33 : b = 33
          · rw [if_neg on5, if_pos (show nI b = 33 by rw [h33]; rfl), if_pos (show nI b = 33 by rw [h33]; rfl), if_neg (fun x => e5 (t5.mp x)), f_X1_readsOne_L80, f_X11_one_L31, if_pos (Or.inl rfl), st0, bst_ok, bst_ok, if_pos d5, bst_ok, bst_ok, d3, b2, nI_1, nI_1, up_o (show 0 ≠ 0 ∨ 6 ≠ 7 by omega), d2, nI_1, if_pos (show nI b = 33 by rw [h33]; rfl), if_pos (show nI b = 33 by rw [h33]; rfl)]
            obtain ⟨σ1, τ1, e1, e2, e3, e4⟩ := h5 olt F G (by omega) (by omega) (p + 1) m _ _ P1
            rw [if_pos rfl] at e4
            have e1' : (fam_X11 G).2.2.2.1 (up (up τ 0 7 (nI (o + 1))) 0 6 (nI (p + 1))) = some τ1 := e1
            rw [e1', ob_some, show (fam_X1 (F + 1)).2.2.1 (nI (o + 1)) (up σ 87 3 (nI (p + 1))) = f_X1_readsNot (fam_X1 F) (nI (o + 1)) (up σ 87 3 (nI (p + 1))) from rfl, f_X1_readsNot]
            rcases e4 with ⟨e4, p1, m1, Q, hp1, hm1, bal, pre, dp⟩ | ⟨e4, p1, z1, z2, z3, z4⟩
            · obtain ⟨σ2, τ2, g1, g2, Q2, g3, g4, g5, g6⟩ := Q.put (by omega) okNot (show (20010 : Int32) = cvt (-33) by decide)
              rw [e4, ob_some]
              dsimp only
              rw [if_neg (by decide), g1, ob_some, ob_some]
              dsimp only
              rw [if_pos (Or.inr rfl), g2, ob_some, bst_ok]
              refine ⟨σ2, _, rfl, (T0.tr e2).tr g3, ((T1.tr e3).tr g4).tr (same_up (Or.inr ⟨rfl, by omega⟩)), Or.inl ⟨rfl, p1, m1 + 1, back_o Q2, by omega, by omega, by omega, fun j hj => ?_, fun n => ?_⟩⟩
              · rw [g5 j (by omega), pre j hj]
                exact up_o (by omega)
              · have dd1 : depG (σ2 89) (m1 - m) m n = some (n + 1) := by
                  rw [← dp n]
                  exact depG_congr (fun j a b => g5 j (by omega))
                rw [show m1 + 1 - m = m1 - m + 1 by omega, depG_add (σ2 89) dd1, show m + (m1 - m) = m1 by omega, depG, g6]
                unfold dep
                rw [if_neg (by decide), if_pos rfl, if_pos (by omega)]
                rfl
            · rw [e4, ob_some]
              dsimp only
              rw [if_pos rfl, ob_some]
              dsimp only
              rw [if_pos (Or.inl rfl), codesW z4, ob_some, bst_ok]
              exact ⟨σ1, _, rfl, T0.tr e2, (T1.tr e3).tr (same_up (Or.inr ⟨rfl, by omega⟩)), Or.inr ⟨rfl, p1, z1, z2, (up_o (by omega)).trans z3, (up_o (by omega)).trans z4⟩⟩
          · by_cases h40 : b = 40
            · rw [if_neg on5, if_neg (show ¬ nI b = 33 from nI_ne (k := 33) hb (by decide) h33), if_pos (show nI b = 40 by rw [h40]; rfl), if_neg (show ¬ nI b = 33 from nI_ne (k := 33) hb (by decide) h33), if_pos (show nI b = 40 by rw [h40]; rfl), if_neg (fun x => e5 (t5.mp x)), f_X1_readsOne_L80, f_X11_one_L31, if_pos (Or.inl rfl), st0, bst_ok, bst_ok, if_pos d5, bst_ok, bst_ok, d3, b2, nI_1, nI_1, up_o (show 0 ≠ 0 ∨ 6 ≠ 7 by omega), d2, nI_1, if_neg (show ¬ nI b = 33 from nI_ne (k := 33) hb (by decide) h33), if_neg (show ¬ nI b = 33 from nI_ne (k := 33) hb (by decide) h33)]
              obtain ⟨σ1, τ1, e1, e2, e3, e4⟩ := h0 olt F G (by omega) (by omega) (p + 1) m _ _ P1
              rw [if_neg (by decide), n0] at e4
              have e1' : (fam_X11 G).2.2.1 (up (up τ 0 7 (nI (o + 1))) 0 6 (nI (p + 1))) = some τ1 := e1
              rw [e1', ob_some, show (fam_X1 (F + 1)).2.1 (nI (o + 1)) (up σ 87 3 (nI (p + 1))) = f_X1_readsBracket (fam_X1 F) (nI (o + 1)) (up σ 87 3 (nI (p + 1))) from rfl, f_X1_readsBracket]
              rcases e4 with ⟨e4, p1, m1, Q, hp1, hm1, bal, pre, dp⟩ | ⟨e4, p1, z1, z2, z3, z4⟩
              · rw [e4, ob_some]
                dsimp only
                rw [if_neg (by decide)]
                obtain ⟨c', k1, k2, k3⟩ := nextB Q
                rw [k1, ob_some]
                dsimp only
                by_cases e41 : c' = 41
                · have hp2 : p1 < nt := by
                    rcases k3 with ⟨k3, -⟩ | ⟨b', hb', k3, k4⟩
                    · rw [k3] at e41
                      exact absurd e41 (by decide)
                    · exact k4
                  rw [if_pos e41, bst_ok, ob_some]
                  dsimp only
                  rw [if_pos (Or.inr rfl), takesT 41 k2 e41 Q.2.2.1.2.1, ob_some]
                  dsimp only
                  rw [if_neg (by decide), bst_ok, bst_ok, Q.2.1.2.1, nI_1, up9 _ ((up_o (by omega)).trans Q.2.2.1.2.2.2.2.1)]
                  have Q2 := Q.on hp2
                  exact ⟨_, _, rfl, (T0.tr e2).tr (same_up (Or.inl ⟨rfl, rfl⟩)), ((T1.tr e3).tr (same_up (Or.inr ⟨rfl, by omega⟩))).tr (same_up (Or.inr ⟨rfl, by omega⟩)), Or.inl ⟨rfl, p1 + 1, m1, back_o Q2, by omega, by omega, by omega, fun j hj => (up_o (by omega)).trans ((pre j hj).trans (up_o (by omega))), fun n => by
                    rw [← dp n]
                    exact depG_congr (fun j a b => up_o (by omega))⟩⟩
                · rw [if_neg e41, ob_some]
                  dsimp only
                  rw [if_pos (Or.inl rfl), takesF 41 k2 e41, ob_some]
                  dsimp only
                  rw [if_pos rfl, bst_ok, bst_ok]
                  exact ⟨σ1, _, rfl, T0.tr e2, ((T1.tr e3).tr (same_up (Or.inr ⟨rfl, by omega⟩))).tr (same_up (Or.inr ⟨rfl, by omega⟩)), Or.inr ⟨rfl, p1, Q.1.2.2.1, Q.2.1.2.1, by rw [up_o (by omega), up_o (by omega)]; exact Q.2.2.1.2.1, by rw [up_o (by omega), up_e rfl rfl]⟩⟩
              · rw [e4, ob_some]
                dsimp only
                rw [if_pos rfl, ob_some]
                dsimp only
                rw [if_pos (Or.inl rfl), takesF 41 (hereW z4) (by decide), ob_some]
                dsimp only
                rw [if_pos rfl, bst_ok, bst_ok]
                exact ⟨σ1, _, rfl, T0.tr e2, ((T1.tr e3).tr (same_up (Or.inr ⟨rfl, by omega⟩))).tr (same_up (Or.inr ⟨rfl, by omega⟩)), Or.inr ⟨rfl, p1, z1, z2, by rw [up_o (by omega), up_o (by omega)]; exact z3, by rw [up_o (by omega), up_e rfl rfl]⟩⟩
            · exact other h33 h40
      · -- a name
        dsimp only [cond]
        obtain ⟨v1, v2, v3, v4⟩ := t2 hn
        obtain ⟨f33, f40, -⟩ := no_name u (by omega) b hb hn
        have npos : 0 ≤ nmv u b := by
          rw [hn] at t1
          exact of_decide_eq_true t1.symm
        rw [nm, if_pos (by omega), v1, add88 _ σ b4 (by omega), ob_some, bst_ok, if_neg (show ¬ nI b = 33 from nI_ne (k := 33) hb (by decide) f33), if_neg (show ¬ nI b = 40 from nI_ne (k := 40) hb (by decide) f40), mwithin_ok, dg_tab b hb, hd, ob_some]
        dsimp only
        rw [if_pos (show bI false = 0 from rfl), if_pos c0, nameOf_ok a1 hb d4, ob_some]
        dsimp only
        rw [if_pos d5, if_pos npos, f_X11_one_L218, if_pos (Or.inl rfl), up9 τ d5, bst_ok, if_pos d5]
        obtain ⟨σ2, τ2, g1, g2, Q2, g3, g4, g5, g6⟩ := (P.on hp).put (by omega) (x := -1 - nmv u b) (y := 10000 + nmv u b) (Or.inr v2) v3
        have hc : f_X11_codes (10000 + nmv u b) τ = some (up (up τ 6 m (10000 + nmv u b)) 0 11 (nI (m + 1))) := by
          rw [f_X11_codes, if_pos d5, d6, if_pos (show inb (nI m) (shM 6 - 100) = true from nI_inb (show m < 60 by omega) (by decide)), clampN (by omega), bst_ok, bst_ok, up_o (by omega), d6, nI_1]
        have hc2 : f_X11_codes (10000 + nmv u b) (up τ 0 6 (nI (p + 1))) = some (up (up (up τ 0 6 (nI (p + 1))) 6 m (10000 + nmv u b)) 0 11 (nI (m + 1))) := by
          rw [f_X11_codes, if_pos ((up_o (by omega)).trans d5), up_o (by omega), d6, if_pos (show inb (nI m) (shM 6 - 100) = true from nI_inb (show m < 60 by omega) (by decide)), clampN (by omega), bst_ok, bst_ok, up_o (by omega), up_o (by omega), d6, nI_1]
        have es : up (up (up σ 89 m (-1 - nmv u b)) 88 1 (nI (m + 1))) 87 3 (nI (p + 1)) = σ2 := by
          have := g1
          rw [add88 _ _ ((up_o (by omega)).trans b4) (by omega)] at this
          rw [up_comm _ _ _ (show 88 ≠ 87 ∨ 1 ≠ 3 by omega), up_comm σ _ _ (show 89 ≠ 87 ∨ m ≠ 3 by omega)]
          exact Option.some.inj this
        have et : up (up (up τ 6 m (10000 + nmv u b)) 0 11 (nI (m + 1))) 0 6 (nI (p + 1)) = τ2 := by
          rw [hc2] at g2
          rw [up_comm _ _ _ (show 0 ≠ 0 ∨ 11 ≠ 6 by omega), up_comm τ _ _ (show 6 ≠ 0 ∨ m ≠ 6 by omega)]
          exact Option.some.inj g2
        rw [hc, ob_some, bst_ok, up_o (by omega), up_o (by omega), b2, nI_1, es, up_o (by omega), up_o (by omega), d2, nI_1, et]
        refine ⟨σ2, τ2, rfl, (same_up (Or.inl ⟨rfl, rfl⟩)).tr g3, (same_up (Or.inr ⟨rfl, by omega⟩)).tr g4, Or.inl ⟨rfl, p + 1, m + 1, Q2, by omega, by omega, by omega, fun j hj => (g5 j hj).trans (up_o (by omega)), fun n => ?_⟩⟩
        rw [show m + 1 - m = 1 by omega, depG, g6]
        unfold dep
        rw [if_pos v4]
        rfl
    · -- a number
      dsimp only [cond]
      obtain ⟨f33, f40⟩ := no_dig b hb hd
      rw [if_neg (show ¬ nI b = 33 from nI_ne (k := 33) hb (by decide) f33), if_neg (show ¬ nI b = 40 from nI_ne (k := 40) hb (by decide) f40), mwithin_ok, dg_tab b hb, hd, ob_some]
      dsimp only
      rw [if_neg (show ¬ bI true = 0 by decide)]
      obtain ⟨σ', τ', p', w, e1, e2, e3, e4, e5, e6, e7, e8, e9⟩ := numL (fam_X11 G) 4 400 400 0 0 p σ τ (by decide) (by decide) (by decide) (by decide) P (Or.inr ⟨b, hb, hd, c1⟩) (fun x => by omega)
      rw [f_X1_readNumber, show (0 : Int32) = nI 0 from rfl, e1, e2, ob_some]
      refine ⟨σ', τ', rfl, e5, e6, Or.inl ⟨rfl, p', m + 1, e3, by omega, by omega, by omega, e7, fun n => ?_⟩⟩
      rw [show m + 1 - m = 1 by omega, depG, e9]
      unfold dep
      rw [if_pos (Int32.le_trans (by decide) (nI_pos' (show w < 2 ^ 31 by omega)))]
      rfl
end ONE
theorem sims {u nt : Nat} : ∀ k o, o + k = 5 → SimL u nt 5 o (2 + 12 * k) (1 + 6 * k) ∧ SimL u nt 0 o (12 + 12 * k) (6 + 6 * k) := by
  have up0 : ∀ o KF KG, SimL u nt 5 o KF KG → SimL u nt 0 o (KF + 10) (KG + 5) := fun o KF KG h => level0 (level1 (level2 (level3 (level4 h))))
  intro k
  induction k with
  | zero =>
    intro o ho
    have h1 := one_of (u := u) (nt := nt) (o := o) (KF := 0) (KG := 0) (KF' := 0) (KG' := 0) (by omega) (fun x => by omega) (fun x => by omega)
    exact ⟨h1, up0 o _ _ h1⟩
  | succ k ih =>
    intro o ho
    obtain ⟨i5, i0⟩ := ih (o + 1) (by omega)
    have h1 := one_of (u := u) (nt := nt) (o := o) (by omega) (fun _ => i0) (fun _ => i5)
    have h2 : SimL u nt 5 o (2 + 12 * (k + 1)) (1 + 6 * (k + 1)) := fun F G hF hG => h1 F G (by omega) (by omega)
    exact ⟨h2, fun F G hF hG => up0 o _ _ h2 F G (by omega) (by omega)⟩
