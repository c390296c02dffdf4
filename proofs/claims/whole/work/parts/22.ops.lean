/-! the methods of Row at the class's own rows; the reference's small methods at its own places -/
theorem get3 {j : Nat} (σ : St) (hj : j < 8) : f_X2_get 3 (nI j) σ = some (σ 4 j, σ) := get_ok (c := 8) rfl (by decide) σ hj
theorem set3 {j : Nat} (v : Int32) (σ : St) (hj : j < 8) : f_X2_set 3 (nI j) v σ = some (up σ 4 j v) := set_ok (c := 8) rfl (by decide) σ v hj
theorem add3 {n : Nat} (v : Int32) (σ : St) (h : σ 3 1 = nI n) (hn : n < 8) : f_X2_add 3 v σ = some (up (up σ 4 n v) 3 1 (nI (n + 1))) := add_ok (c := 8) rfl (by decide) σ v h hn
theorem get5 {j : Nat} (σ : St) (hj : j < 8) : f_X2_get 5 (nI j) σ = some (σ 6 j, σ) := get_ok (c := 8) rfl (by decide) σ hj
theorem set5 {j : Nat} (v : Int32) (σ : St) (hj : j < 8) : f_X2_set 5 (nI j) v σ = some (up σ 6 j v) := set_ok (c := 8) rfl (by decide) σ v hj
theorem add5 {n : Nat} (v : Int32) (σ : St) (h : σ 5 1 = nI n) (hn : n < 8) : f_X2_add 5 v σ = some (up (up σ 6 n v) 5 1 (nI (n + 1))) := add_ok (c := 8) rfl (by decide) σ v h hn
theorem get7 {j : Nat} (σ : St) (hj : j < 8) : f_X2_get 7 (nI j) σ = some (σ 8 j, σ) := get_ok (c := 8) rfl (by decide) σ hj
theorem set7 {j : Nat} (v : Int32) (σ : St) (hj : j < 8) : f_X2_set 7 (nI j) v σ = some (up σ 8 j v) := set_ok (c := 8) rfl (by decide) σ v hj
theorem add7 {n : Nat} (v : Int32) (σ : St) (h : σ 7 1 = nI n) (hn : n < 8) : f_X2_add 7 v σ = some (up (up σ 8 n v) 7 1 (nI (n + 1))) := add_ok (c := 8) rfl (by decide) σ v h hn
theorem get10 {j : Nat} (σ : St) (hj : j < 8) : f_X2_get 10 (nI j) σ = some (σ 11 j, σ) := get_ok (c := 8) rfl (by decide) σ hj
theorem set10 {j : Nat} (v : Int32) (σ : St) (hj : j < 8) : f_X2_set 10 (nI j) v σ = some (up σ 11 j v) := set_ok (c := 8) rfl (by decide) σ v hj
theorem add10 {n : Nat} (v : Int32) (σ : St) (h : σ 10 1 = nI n) (hn : n < 8) : f_X2_add 10 v σ = some (up (up σ 11 n v) 10 1 (nI (n + 1))) := add_ok (c := 8) rfl (by decide) σ v h hn
theorem get12 {j : Nat} (σ : St) (hj : j < 8) : f_X2_get 12 (nI j) σ = some (σ 13 j, σ) := get_ok (c := 8) rfl (by decide) σ hj
theorem set12 {j : Nat} (v : Int32) (σ : St) (hj : j < 8) : f_X2_set 12 (nI j) v σ = some (up σ 13 j v) := set_ok (c := 8) rfl (by decide) σ v hj
theorem add12 {n : Nat} (v : Int32) (σ : St) (h : σ 12 1 = nI n) (hn : n < 8) : f_X2_add 12 v σ = some (up (up σ 13 n v) 12 1 (nI (n + 1))) := add_ok (c := 8) rfl (by decide) σ v h hn
theorem get14 {j : Nat} (σ : St) (hj : j < 8) : f_X2_get 14 (nI j) σ = some (σ 15 j, σ) := get_ok (c := 8) rfl (by decide) σ hj
theorem set14 {j : Nat} (v : Int32) (σ : St) (hj : j < 8) : f_X2_set 14 (nI j) v σ = some (up σ 15 j v) := set_ok (c := 8) rfl (by decide) σ v hj
theorem add14 {n : Nat} (v : Int32) (σ : St) (h : σ 14 1 = nI n) (hn : n < 8) : f_X2_add 14 v σ = some (up (up σ 15 n v) 14 1 (nI (n + 1))) := add_ok (c := 8) rfl (by decide) σ v h hn
theorem get16 {j : Nat} (σ : St) (hj : j < 8) : f_X2_get 16 (nI j) σ = some (σ 17 j, σ) := get_ok (c := 8) rfl (by decide) σ hj
theorem set16 {j : Nat} (v : Int32) (σ : St) (hj : j < 8) : f_X2_set 16 (nI j) v σ = some (up σ 17 j v) := set_ok (c := 8) rfl (by decide) σ v hj
theorem add16 {n : Nat} (v : Int32) (σ : St) (h : σ 16 1 = nI n) (hn : n < 8) : f_X2_add 16 v σ = some (up (up σ 17 n v) 16 1 (nI (n + 1))) := add_ok (c := 8) rfl (by decide) σ v h hn
theorem get18 {j : Nat} (σ : St) (hj : j < 8) : f_X2_get 18 (nI j) σ = some (σ 19 j, σ) := get_ok (c := 8) rfl (by decide) σ hj
theorem set18 {j : Nat} (v : Int32) (σ : St) (hj : j < 8) : f_X2_set 18 (nI j) v σ = some (up σ 19 j v) := set_ok (c := 8) rfl (by decide) σ v hj
theorem add18 {n : Nat} (v : Int32) (σ : St) (h : σ 18 1 = nI n) (hn : n < 8) : f_X2_add 18 v σ = some (up (up σ 19 n v) 18 1 (nI (n + 1))) := add_ok (c := 8) rfl (by decide) σ v h hn
theorem get20 {j : Nat} (σ : St) (hj : j < 8) : f_X2_get 20 (nI j) σ = some (σ 21 j, σ) := get_ok (c := 8) rfl (by decide) σ hj
theorem set20 {j : Nat} (v : Int32) (σ : St) (hj : j < 8) : f_X2_set 20 (nI j) v σ = some (up σ 21 j v) := set_ok (c := 8) rfl (by decide) σ v hj
theorem add20 {n : Nat} (v : Int32) (σ : St) (h : σ 20 1 = nI n) (hn : n < 8) : f_X2_add 20 v σ = some (up (up σ 21 n v) 20 1 (nI (n + 1))) := add_ok (c := 8) rfl (by decide) σ v h hn
theorem get23 {j : Nat} (σ : St) (hj : j < 6) : f_X2_get 23 (nI j) σ = some (σ 24 j, σ) := get_ok (c := 6) rfl (by decide) σ hj
theorem set23 {j : Nat} (v : Int32) (σ : St) (hj : j < 6) : f_X2_set 23 (nI j) v σ = some (up σ 24 j v) := set_ok (c := 6) rfl (by decide) σ v hj
theorem add23 {n : Nat} (v : Int32) (σ : St) (h : σ 23 1 = nI n) (hn : n < 6) : f_X2_add 23 v σ = some (up (up σ 24 n v) 23 1 (nI (n + 1))) := add_ok (c := 6) rfl (by decide) σ v h hn
theorem get25 {j : Nat} (σ : St) (hj : j < 6) : f_X2_get 25 (nI j) σ = some (σ 26 j, σ) := get_ok (c := 6) rfl (by decide) σ hj
theorem set25 {j : Nat} (v : Int32) (σ : St) (hj : j < 6) : f_X2_set 25 (nI j) v σ = some (up σ 26 j v) := set_ok (c := 6) rfl (by decide) σ v hj
theorem add25 {n : Nat} (v : Int32) (σ : St) (h : σ 25 1 = nI n) (hn : n < 6) : f_X2_add 25 v σ = some (up (up σ 26 n v) 25 1 (nI (n + 1))) := add_ok (c := 6) rfl (by decide) σ v h hn
theorem get27 {j : Nat} (σ : St) (hj : j < 50) : f_X2_get 27 (nI j) σ = some (σ 28 j, σ) := get_ok (c := 50) rfl (by decide) σ hj
theorem set27 {j : Nat} (v : Int32) (σ : St) (hj : j < 50) : f_X2_set 27 (nI j) v σ = some (up σ 28 j v) := set_ok (c := 50) rfl (by decide) σ v hj
theorem add27 {n : Nat} (v : Int32) (σ : St) (h : σ 27 1 = nI n) (hn : n < 50) : f_X2_add 27 v σ = some (up (up σ 28 n v) 27 1 (nI (n + 1))) := add_ok (c := 50) rfl (by decide) σ v h hn
theorem get29 {j : Nat} (σ : St) (hj : j < 20) : f_X2_get 29 (nI j) σ = some (σ 30 j, σ) := get_ok (c := 20) rfl (by decide) σ hj
theorem set29 {j : Nat} (v : Int32) (σ : St) (hj : j < 20) : f_X2_set 29 (nI j) v σ = some (up σ 30 j v) := set_ok (c := 20) rfl (by decide) σ v hj
theorem add29 {n : Nat} (v : Int32) (σ : St) (h : σ 29 1 = nI n) (hn : n < 20) : f_X2_add 29 v σ = some (up (up σ 30 n v) 29 1 (nI (n + 1))) := add_ok (c := 20) rfl (by decide) σ v h hn
theorem get32 {j : Nat} (σ : St) (hj : j < 50) : f_X2_get 32 (nI j) σ = some (σ 33 j, σ) := get_ok (c := 50) rfl (by decide) σ hj
theorem set32 {j : Nat} (v : Int32) (σ : St) (hj : j < 50) : f_X2_set 32 (nI j) v σ = some (up σ 33 j v) := set_ok (c := 50) rfl (by decide) σ v hj
theorem add32 {n : Nat} (v : Int32) (σ : St) (h : σ 32 1 = nI n) (hn : n < 50) : f_X2_add 32 v σ = some (up (up σ 33 n v) 32 1 (nI (n + 1))) := add_ok (c := 50) rfl (by decide) σ v h hn
theorem get34 {j : Nat} (σ : St) (hj : j < 50) : f_X2_get 34 (nI j) σ = some (σ 35 j, σ) := get_ok (c := 50) rfl (by decide) σ hj
theorem set34 {j : Nat} (v : Int32) (σ : St) (hj : j < 50) : f_X2_set 34 (nI j) v σ = some (up σ 35 j v) := set_ok (c := 50) rfl (by decide) σ v hj
theorem add34 {n : Nat} (v : Int32) (σ : St) (h : σ 34 1 = nI n) (hn : n < 50) : f_X2_add 34 v σ = some (up (up σ 35 n v) 34 1 (nI (n + 1))) := add_ok (c := 50) rfl (by decide) σ v h hn
theorem get37 {j : Nat} (σ : St) (hj : j < 50) : f_X2_get 37 (nI j) σ = some (σ 38 j, σ) := get_ok (c := 50) rfl (by decide) σ hj
theorem set37 {j : Nat} (v : Int32) (σ : St) (hj : j < 50) : f_X2_set 37 (nI j) v σ = some (up σ 38 j v) := set_ok (c := 50) rfl (by decide) σ v hj
theorem add37 {n : Nat} (v : Int32) (σ : St) (h : σ 37 1 = nI n) (hn : n < 50) : f_X2_add 37 v σ = some (up (up σ 38 n v) 37 1 (nI (n + 1))) := add_ok (c := 50) rfl (by decide) σ v h hn
theorem get39 {j : Nat} (σ : St) (hj : j < 50) : f_X2_get 39 (nI j) σ = some (σ 40 j, σ) := get_ok (c := 50) rfl (by decide) σ hj
theorem set39 {j : Nat} (v : Int32) (σ : St) (hj : j < 50) : f_X2_set 39 (nI j) v σ = some (up σ 40 j v) := set_ok (c := 50) rfl (by decide) σ v hj
theorem add39 {n : Nat} (v : Int32) (σ : St) (h : σ 39 1 = nI n) (hn : n < 50) : f_X2_add 39 v σ = some (up (up σ 40 n v) 39 1 (nI (n + 1))) := add_ok (c := 50) rfl (by decide) σ v h hn
theorem get42 {j : Nat} (σ : St) (hj : j < 8) : f_X2_get 42 (nI j) σ = some (σ 43 j, σ) := get_ok (c := 8) rfl (by decide) σ hj
theorem set42 {j : Nat} (v : Int32) (σ : St) (hj : j < 8) : f_X2_set 42 (nI j) v σ = some (up σ 43 j v) := set_ok (c := 8) rfl (by decide) σ v hj
theorem add42 {n : Nat} (v : Int32) (σ : St) (h : σ 42 1 = nI n) (hn : n < 8) : f_X2_add 42 v σ = some (up (up σ 43 n v) 42 1 (nI (n + 1))) := add_ok (c := 8) rfl (by decide) σ v h hn
theorem get88 {j : Nat} (σ : St) (hj : j < 50) : f_X2_get 88 (nI j) σ = some (σ 89 j, σ) := get_ok (c := 50) rfl (by decide) σ hj
theorem set88 {j : Nat} (v : Int32) (σ : St) (hj : j < 50) : f_X2_set 88 (nI j) v σ = some (up σ 89 j v) := set_ok (c := 50) rfl (by decide) σ v hj
theorem add88 {n : Nat} (v : Int32) (σ : St) (h : σ 88 1 = nI n) (hn : n < 50) : f_X2_add 88 v σ = some (up (up σ 89 n v) 88 1 (nI (n + 1))) := add_ok (c := 50) rfl (by decide) σ v h hn
theorem get90 {j : Nat} (σ : St) (hj : j < 50) : f_X2_get 90 (nI j) σ = some (σ 91 j, σ) := get_ok (c := 50) rfl (by decide) σ hj
theorem set90 {j : Nat} (v : Int32) (σ : St) (hj : j < 50) : f_X2_set 90 (nI j) v σ = some (up σ 91 j v) := set_ok (c := 50) rfl (by decide) σ v hj
theorem add90 {n : Nat} (v : Int32) (σ : St) (h : σ 90 1 = nI n) (hn : n < 50) : f_X2_add 90 v σ = some (up (up σ 91 n v) 90 1 (nI (n + 1))) := add_ok (c := 50) rfl (by decide) σ v h hn
theorem get93 {j : Nat} (σ : St) (hj : j < 40) : f_X2_get 93 (nI j) σ = some (σ 94 j, σ) := get_ok (c := 40) rfl (by decide) σ hj
theorem set93 {j : Nat} (v : Int32) (σ : St) (hj : j < 40) : f_X2_set 93 (nI j) v σ = some (up σ 94 j v) := set_ok (c := 40) rfl (by decide) σ v hj
theorem add93 {n : Nat} (v : Int32) (σ : St) (h : σ 93 1 = nI n) (hn : n < 40) : f_X2_add 93 v σ = some (up (up σ 94 n v) 93 1 (nI (n + 1))) := add_ok (c := 40) rfl (by decide) σ v h hn
theorem get96 {j : Nat} (σ : St) (hj : j < 40) : f_X2_get 96 (nI j) σ = some (σ 97 j, σ) := get_ok (c := 40) rfl (by decide) σ hj
theorem set96 {j : Nat} (v : Int32) (σ : St) (hj : j < 40) : f_X2_set 96 (nI j) v σ = some (up σ 97 j v) := set_ok (c := 40) rfl (by decide) σ v hj
theorem add96 {n : Nat} (v : Int32) (σ : St) (h : σ 96 1 = nI n) (hn : n < 40) : f_X2_add 96 v σ = some (up (up σ 97 n v) 96 1 (nI (n + 1))) := add_ok (c := 40) rfl (by decide) σ v h hn
theorem get98 {j : Nat} (σ : St) (hj : j < 6) : f_X2_get 98 (nI j) σ = some (σ 99 j, σ) := get_ok (c := 6) rfl (by decide) σ hj
theorem set98 {j : Nat} (v : Int32) (σ : St) (hj : j < 6) : f_X2_set 98 (nI j) v σ = some (up σ 99 j v) := set_ok (c := 6) rfl (by decide) σ v hj
theorem add98 {n : Nat} (v : Int32) (σ : St) (h : σ 98 1 = nI n) (hn : n < 6) : f_X2_add 98 v σ = some (up (up σ 99 n v) 98 1 (nI (n + 1))) := add_ok (c := 6) rfl (by decide) σ v h hn
theorem shS {i : Nat} (hi : i < 4) : shC (101 + 3 * i + 1) - 100 = 40 := by
  have : i = 0 ∨ i = 1 ∨ i = 2 ∨ i = 3 := by omega
  rcases this with h | h | h | h <;> subst h <;> rfl
theorem getS {i j : Nat} (σ : St) (hi : i < 4) (hj : j < 40) : f_X2_get (101 + 3 * i) (nI j) σ = some (σ (102 + 3 * i) j, σ) := by
  rw [get_ok (shS hi) (by decide) σ hj, show 101 + 3 * i + 1 = 102 + 3 * i by omega]
theorem setS {i j : Nat} (v : Int32) (σ : St) (hi : i < 4) (hj : j < 40) : f_X2_set (101 + 3 * i) (nI j) v σ = some (up σ (102 + 3 * i) j v) := by
  rw [set_ok (shS hi) (by decide) σ v hj, show 101 + 3 * i + 1 = 102 + 3 * i by omega]
theorem m_in {j : Nat} (h : j < 273) : inb (nI j) (shM 1 - 100) = true := nI_inb h (by decide)
theorem if_in {α : Type} {j : Nat} {x : Option α} (h : j < 273) : (if inb (nI j) (shM 1 - 100) = true then x else none) = x := if_pos (m_in h)
theorem clampN {n : Nat} (h : n < 2147483648) : (nI n).toNatClampNeg = n := nI_clamp h
theorem turn_ok {j : Nat} (v : Int32) (τ : St) (h : j < 273) : f_X11_turn (nI j) v τ = some (τ 1 j, up τ 1 j v) := by
  rw [f_X11_turn, if_in h, if_in h, nI_clamp (by omega)]
  rfl
theorem ix4 (j b : Nat) : (9 + 4 * nI j) + nI b = nI (9 + 4 * j + b) := by
  rw [show (9 : Int32) = nI 9 from rfl, show (4 : Int32) = nI 4 from rfl, pk_mul, nI_add, nI_add]
theorem ix5 (j b : Nat) : (41 + 5 * nI j) + nI b = nI (41 + 5 * j + b) := by
  rw [show (41 : Int32) = nI 41 from rfl, show (5 : Int32) = nI 5 from rfl, pk_mul, nI_add, nI_add]
theorem ix3 (j b : Nat) : (81 + 3 * nI j) + nI b = nI (81 + 3 * j + b) := by
  rw [show (81 : Int32) = nI 81 from rfl, show (3 : Int32) = nI 3 from rfl, pk_mul, nI_add, nI_add]
theorem ix40 (j b : Nat) : (40 * nI j) + nI b = nI (40 * j + b) := by
  rw [show (40 : Int32) = nI 40 from rfl, pk_mul, nI_add]
theorem wayAtN (j b : Nat) (τ : St) : f_X11_wayAt (nI j) (nI b) τ = some (nI (9 + 4 * j + b), τ) := by rw [f_X11_wayAt, ix4]
theorem sayAtN (j b : Nat) (τ : St) : f_X11_sayingAt (nI j) (nI b) τ = some (nI (41 + 5 * j + b), τ) := by rw [f_X11_sayingAt, ix5]
theorem folkAtN (j b : Nat) (τ : St) : f_X11_folkAt (nI j) (nI b) τ = some (nI (81 + 3 * j + b), τ) := by rw [f_X11_folkAt, ix3]
theorem wayIsN {j b : Nat} (τ : St) (hj : j < 8) (hb : b < 4) : f_X11_wayIs (nI j) (nI b) τ = some (τ 1 (9 + 4 * j + b), τ) := by
  rw [f_X11_wayIs, wayAtN, ob_some, if_in (by omega), nI_clamp (by omega)]
theorem sayIsN {j b : Nat} (τ : St) (hj : j < 8) (hb : b < 5) : f_X11_sayingIs (nI j) (nI b) τ = some (τ 1 (41 + 5 * j + b), τ) := by
  rw [f_X11_sayingIs, sayAtN, ob_some, if_in (by omega), nI_clamp (by omega)]
theorem folkIsN {j b : Nat} (τ : St) (hj : j < 6) (hb : b < 3) : f_X11_folkIs (nI j) (nI b) τ = some (τ 1 (81 + 3 * j + b), τ) := by
  rw [f_X11_folkIs, folkAtN, ob_some, if_in (by omega), nI_clamp (by omega)]
theorem wayAt0 (j : Nat) (τ : St) : f_X11_wayAt (nI j) 0 τ = some (nI (9 + 4 * j), τ) := by
  rw [show (0 : Int32) = nI 0 from rfl, wayAtN, show 9 + 4 * j + 0 = 9 + 4 * j by omega]
theorem wayIs0 {j : Nat} (τ : St) (hj : j < 8) : f_X11_wayIs (nI j) 0 τ = some (τ 1 (9 + 4 * j), τ) := by
  rw [show (0 : Int32) = nI 0 from rfl, wayIsN τ hj (by decide), show 9 + 4 * j + 0 = 9 + 4 * j by omega]
theorem wayAt1 (j : Nat) (τ : St) : f_X11_wayAt (nI j) 1 τ = some (nI (10 + 4 * j), τ) := by
  rw [show (1 : Int32) = nI 1 from rfl, wayAtN, show 9 + 4 * j + 1 = 10 + 4 * j by omega]
theorem wayIs1 {j : Nat} (τ : St) (hj : j < 8) : f_X11_wayIs (nI j) 1 τ = some (τ 1 (10 + 4 * j), τ) := by
  rw [show (1 : Int32) = nI 1 from rfl, wayIsN τ hj (by decide), show 9 + 4 * j + 1 = 10 + 4 * j by omega]
theorem wayAt2 (j : Nat) (τ : St) : f_X11_wayAt (nI j) 2 τ = some (nI (11 + 4 * j), τ) := by
  rw [show (2 : Int32) = nI 2 from rfl, wayAtN, show 9 + 4 * j + 2 = 11 + 4 * j by omega]
theorem wayIs2 {j : Nat} (τ : St) (hj : j < 8) : f_X11_wayIs (nI j) 2 τ = some (τ 1 (11 + 4 * j), τ) := by
  rw [show (2 : Int32) = nI 2 from rfl, wayIsN τ hj (by decide), show 9 + 4 * j + 2 = 11 + 4 * j by omega]
theorem wayAt3 (j : Nat) (τ : St) : f_X11_wayAt (nI j) 3 τ = some (nI (12 + 4 * j), τ) := by
  rw [show (3 : Int32) = nI 3 from rfl, wayAtN, show 9 + 4 * j + 3 = 12 + 4 * j by omega]
theorem wayIs3 {j : Nat} (τ : St) (hj : j < 8) : f_X11_wayIs (nI j) 3 τ = some (τ 1 (12 + 4 * j), τ) := by
  rw [show (3 : Int32) = nI 3 from rfl, wayIsN τ hj (by decide), show 9 + 4 * j + 3 = 12 + 4 * j by omega]
theorem sayAt0 (j : Nat) (τ : St) : f_X11_sayingAt (nI j) 0 τ = some (nI (41 + 5 * j), τ) := by
  rw [show (0 : Int32) = nI 0 from rfl, sayAtN, show 41 + 5 * j + 0 = 41 + 5 * j by omega]
theorem sayIs0 {j : Nat} (τ : St) (hj : j < 8) : f_X11_sayingIs (nI j) 0 τ = some (τ 1 (41 + 5 * j), τ) := by
  rw [show (0 : Int32) = nI 0 from rfl, sayIsN τ hj (by decide), show 41 + 5 * j + 0 = 41 + 5 * j by omega]
theorem sayAt1 (j : Nat) (τ : St) : f_X11_sayingAt (nI j) 1 τ = some (nI (42 + 5 * j), τ) := by
  rw [show (1 : Int32) = nI 1 from rfl, sayAtN, show 41 + 5 * j + 1 = 42 + 5 * j by omega]
theorem sayIs1 {j : Nat} (τ : St) (hj : j < 8) : f_X11_sayingIs (nI j) 1 τ = some (τ 1 (42 + 5 * j), τ) := by
  rw [show (1 : Int32) = nI 1 from rfl, sayIsN τ hj (by decide), show 41 + 5 * j + 1 = 42 + 5 * j by omega]
theorem sayAt2 (j : Nat) (τ : St) : f_X11_sayingAt (nI j) 2 τ = some (nI (43 + 5 * j), τ) := by
  rw [show (2 : Int32) = nI 2 from rfl, sayAtN, show 41 + 5 * j + 2 = 43 + 5 * j by omega]
theorem sayIs2 {j : Nat} (τ : St) (hj : j < 8) : f_X11_sayingIs (nI j) 2 τ = some (τ 1 (43 + 5 * j), τ) := by
  rw [show (2 : Int32) = nI 2 from rfl, sayIsN τ hj (by decide), show 41 + 5 * j + 2 = 43 + 5 * j by omega]
theorem sayAt3 (j : Nat) (τ : St) : f_X11_sayingAt (nI j) 3 τ = some (nI (44 + 5 * j), τ) := by
  rw [show (3 : Int32) = nI 3 from rfl, sayAtN, show 41 + 5 * j + 3 = 44 + 5 * j by omega]
theorem sayIs3 {j : Nat} (τ : St) (hj : j < 8) : f_X11_sayingIs (nI j) 3 τ = some (τ 1 (44 + 5 * j), τ) := by
  rw [show (3 : Int32) = nI 3 from rfl, sayIsN τ hj (by decide), show 41 + 5 * j + 3 = 44 + 5 * j by omega]
theorem sayAt4 (j : Nat) (τ : St) : f_X11_sayingAt (nI j) 4 τ = some (nI (45 + 5 * j), τ) := by
  rw [show (4 : Int32) = nI 4 from rfl, sayAtN, show 41 + 5 * j + 4 = 45 + 5 * j by omega]
theorem sayIs4 {j : Nat} (τ : St) (hj : j < 8) : f_X11_sayingIs (nI j) 4 τ = some (τ 1 (45 + 5 * j), τ) := by
  rw [show (4 : Int32) = nI 4 from rfl, sayIsN τ hj (by decide), show 41 + 5 * j + 4 = 45 + 5 * j by omega]
theorem folkAt0 (j : Nat) (τ : St) : f_X11_folkAt (nI j) 0 τ = some (nI (81 + 3 * j), τ) := by
  rw [show (0 : Int32) = nI 0 from rfl, folkAtN, show 81 + 3 * j + 0 = 81 + 3 * j by omega]
theorem folkIs0 {j : Nat} (τ : St) (hj : j < 6) : f_X11_folkIs (nI j) 0 τ = some (τ 1 (81 + 3 * j), τ) := by
  rw [show (0 : Int32) = nI 0 from rfl, folkIsN τ hj (by decide), show 81 + 3 * j + 0 = 81 + 3 * j by omega]
theorem folkAt1 (j : Nat) (τ : St) : f_X11_folkAt (nI j) 1 τ = some (nI (82 + 3 * j), τ) := by
  rw [show (1 : Int32) = nI 1 from rfl, folkAtN, show 81 + 3 * j + 1 = 82 + 3 * j by omega]
theorem folkIs1 {j : Nat} (τ : St) (hj : j < 6) : f_X11_folkIs (nI j) 1 τ = some (τ 1 (82 + 3 * j), τ) := by
  rw [show (1 : Int32) = nI 1 from rfl, folkIsN τ hj (by decide), show 81 + 3 * j + 1 = 82 + 3 * j by omega]
theorem folkAt2 (j : Nat) (τ : St) : f_X11_folkAt (nI j) 2 τ = some (nI (83 + 3 * j), τ) := by
  rw [show (2 : Int32) = nI 2 from rfl, folkAtN, show 81 + 3 * j + 2 = 83 + 3 * j by omega]
theorem folkIs2 {j : Nat} (τ : St) (hj : j < 6) : f_X11_folkIs (nI j) 2 τ = some (τ 1 (83 + 3 * j), τ) := by
  rw [show (2 : Int32) = nI 2 from rfl, folkIsN τ hj (by decide), show 81 + 3 * j + 2 = 83 + 3 * j by omega]
/-! yes and no of both sides -/
theorem cHasW {n : Nat} {σ : St} (a : Int32) (h : σ 3 1 = nI n) : f_X9_has a σ = some (bI (isIx a n), σ) := by
  rw [f_X9_has, has_ok 3 a σ h, ob_some, if_bI01]
theorem cHasY {n : Nat} {σ : St} (a : Int32) (h : σ 10 1 = nI n) : f_X4_has a σ = some (bI (isIx a n), σ) := by
  rw [f_X4_has, has_ok 10 a σ h, ob_some, if_bI01]
theorem cHasF {n : Nat} {σ : St} (a : Int32) (h : σ 23 1 = nI n) : f_X0_has a σ = some (bI (isIx a n), σ) := by
  rw [f_X0_has, has_ok 23 a σ h, ob_some, if_bI01]
theorem cSizW {n : Nat} {σ : St} (h : σ 3 1 = nI n) : f_X9_size σ = some (nI n, σ) := by rw [f_X9_size, size_ok, ob_some, h]
theorem cSizY {n : Nat} {σ : St} (h : σ 10 1 = nI n) : f_X4_size σ = some (nI n, σ) := by rw [f_X4_size, size_ok, ob_some, h]
theorem cSizF {n : Nat} {σ : St} (h : σ 23 1 = nI n) : f_X0_size σ = some (nI n, σ) := by rw [f_X0_size, size_ok, ob_some, h]
theorem cWell {n : Nat} {σ : St} (a : Int32) (h : σ 1 0 = nI n) (hn : n < 2 ^ 30) : f_X7_isWell a σ = some (bI (isIx a n), σ) := by
  rw [f_X7_isWell, within_ok, ob_some, h, btw_ix a hn, if_bI01]
theorem cKind (a : Int32) (σ : St) : f_X10_isKindAndDigit a σ = some (bI (btw a 0 69), σ) := by
  rw [f_X10_isKindAndDigit, within_ok, ob_some, if_bI01]
theorem mWell {n : Nat} {τ : St} (a : Int32) (h : τ 1 1 = nI n) (hn : n < 2 ^ 30) : f_X11_isWell a τ = some (bI (isIx a n), τ) := by
  rw [f_X11_isWell, mwithin_ok, ob_some, h, btw_ix a hn, if_bI01]
theorem mWay {n : Nat} {τ : St} (a : Int32) (h : τ 1 2 = nI n) (hn : n < 2 ^ 30) : f_X11_isWay a τ = some (bI (isIx a n), τ) := by
  rw [f_X11_isWay, mwithin_ok, ob_some, h, btw_ix a hn, if_bI01]
theorem mSay {n : Nat} {τ : St} (a : Int32) (h : τ 1 3 = nI n) (hn : n < 2 ^ 30) : f_X11_isSaying a τ = some (bI (isIx a n), τ) := by
  rw [f_X11_isSaying, mwithin_ok, ob_some, h, btw_ix a hn, if_bI01]
theorem mOne {n : Nat} {τ : St} (a : Int32) (h : τ 1 4 = nI n) (hn : n < 2 ^ 30) : f_X11_isOne a τ = some (bI (isIx a n), τ) := by
  rw [f_X11_isOne, mwithin_ok, ob_some, h, btw_ix a hn, if_bI01]
theorem mKind (a : Int32) (τ : St) : f_X11_isKindM a τ = some (bI (btw a 0 69), τ) := by
  rw [f_X11_isKindM, mwithin_ok, ob_some, if_bI01]
theorem mStrong (a : Int32) (τ : St) : f_X11_isStrength a τ = some (bI (btw a 0 99), τ) := by
  rw [f_X11_isStrength, mwithin_ok, ob_some, if_bI01]
theorem mBehind (a : Int32) (τ : St) : f_X11_isBehind a τ = some (bI (btw a 0 99), τ) := by
  rw [f_X11_isBehind, mwithin_ok, ob_some, if_bI01]
theorem mSheet (a : Int32) (τ : St) : f_X11_isSheet a τ = some (bI (btw a 0 3), τ) := by
  rw [f_X11_isSheet, mwithin_ok, ob_some, if_bI01]
