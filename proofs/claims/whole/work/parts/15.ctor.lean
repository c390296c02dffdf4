section MAKE2
variable {ρ : Type} {F : FT} {Y : YT} {X : XT} {cc : ByteArray} {nL : Nat} {own : String} {d : Nat} {zf z : Nat × Nat} {em : ρ → Option Value × (Heap → Prop)} {pc : Nat} {lv : List (Nat × Value)} {rest st : List Value} {hp hp' : Heap → Prop} {o : Option ρ} {idx : Nat} {l : List va_E}
theorem c_aast (C : CxI F Y X cc nL own d zf) {P Q : List va_E} {kk : Nat} (hP : P.length = kk) {cA : ClassId} {nm : String} (t0 : Nat) (ht : (tysY Y)[t0]? = some (cA, .object nm)) {N v : Nat} {f : Nat → Option Nat}
    (hr : ∀ (H : Heap) (locs : List Loc), RepL Y (P ++ .inl (cA, N, .inr (.inr (.inr (.inr f)))) :: Q) H → va_S (AF F Y) (sX X).heap H locs → va_Any nm (sX X) H v) {i : Int32} (hin : vp_in i N) (hlt : kk < F.2) (dd : decode cc pc = .ok (.aastore, 1))
    (k : G F Y X nL em zf z (pc + 1) lv rest (RepL Y (P ++ .inl (cA, N, .inr (.inr (.inr (.inr (va_up f i.toNatClampNeg (some v)))))) :: Q)) o) : G F Y X nL em zf z pc lv (.ref v :: .int i :: Rf Y kk :: rest) (RepL Y (P ++ .inl (cA, N, .inr (.inr (.inr (.inr f)))) :: Q)) o := by
  subst hP
  intro r hr0 ls H locs h1 h2 h3
  have C := C.1
  have hK := C.2.2.2.2.2.1.1
  have hlt' : i.toNatClampNeg < N := Nat.not_le.mp fun q => hin (Or.inr q)
  have h0 : ¬ i < 0 := fun q => hin (Or.inl q)
  obtain ⟨cellV, g1, g3, ⟨kC, hkC⟩, hasg⟩ := hr H locs h2 h3
  obtain ⟨kA, comp, k1, k2, k3, -⟩ := (hK.2 t0 _ ht).2
  obtain ⟨kE, hkE, -⟩ := Vm.findClass_spec k3
  have hat : H[bY Y + P.length]? = some (vp_cell cA (N, .inr (.inr (.inr (.inr f))))) := h2.2 P.length (.inl (cA, N, .inr (.inr (.inr (.inr f))))) (by simp)
  refine W.aast C.1 C.2.1 hat (fun q h => by cases h) (fun h => by cases h) k1 k2 rfl hkE ⟨h0, by show _ < (arrV _ _ _).slots.size; rw [arrV_size]; exact hlt'⟩ g1 (fun q h => by rw [h] at g3; cases g3) hkC (hasg _ k3) rfl rfl dd fun H1 e z oq => ?_
  have hset := h2.set (k := P.length) (e := .inl (cA, N, .inr (.inr (.inr (.inr (va_up f i.toNatClampNeg (some v))))))) (by simp) z ?_ oq
  · rw [show (P ++ (.inl (cA, N, .inr (.inr (.inr (.inr f)))) : va_E) :: Q).set P.length (.inl (cA, N, .inr (.inr (.inr (.inr (va_up f i.toNatClampNeg (some v))))))) = P ++ .inl (cA, N, .inr (.inr (.inr (.inr (va_up f i.toNatClampNeg (some v)))))) :: Q by simp [List.set_append]] at hset
    exact k r hr0 ls H1 _ h1 hset (h3.put z oq (AF_lt hlt))
  · show H1[_]? = some (vp_cell _ _)
    rw [e]
    rw [vp_cell_q, vp_cell_q, arrV_store]
    congr 2
    funext q
    by_cases hq : q = i.toNatClampNeg
    · subst hq
      simp [updV, va_up, va_rf]
    · simp [updV, va_up, hq]
theorem c_iast (C : CxI F Y X cc nL own d zf) {P Q : List va_E} {kk N : Nat} (hP : P.length = kk) {f : Nat → Int32} {i x : Int32} (hin : vp_in i N) (hlt : kk < F.2) (dd : decode cc pc = .ok (.iastore, 1))
    (k : G F Y X nL em zf z (pc + 1) lv rest (RepL Y (P ++ .inl (Y.2.1.1, N, .inl (upd f i.toNatClampNeg x)) :: Q)) o) : G F Y X nL em zf z pc lv (.int x :: .int i :: Rf Y kk :: rest) (RepL Y (P ++ .inl (Y.2.1.1, N, .inl f) :: Q)) o := by
  subst hP
  intro r hr0 ls H locs h1 h2 h3
  have C := C.1
  have hK := C.2.2.2.2.2.1.1
  have hat : H[bY Y + P.length]? = some (vp_cell Y.2.1.1 (N, .inl f)) := h2.2 P.length (.inl (Y.2.1.1, N, .inl f)) (by simp)
  refine W.iast C.1 C.2.1 hat ((hK.2 0 _ rfl).1 N (fun j => .int (f j))) (fun q => by cases q) (by show ¬ (i < 0 ∨ (arrV _ _ _).slots.size ≤ _); rw [arrV_size]; exact hin) rfl rfl dd fun H1 e z oq => ?_
  have hset := h2.set (k := P.length) (e := .inl (Y.2.1.1, N, .inl (upd f i.toNatClampNeg x))) (by simp) z ?_ oq
  · rw [show (P ++ (.inl (Y.2.1.1, N, .inl f) : va_E) :: Q).set P.length (.inl (Y.2.1.1, N, .inl (upd f i.toNatClampNeg x))) = P ++ .inl (Y.2.1.1, N, .inl (upd f i.toNatClampNeg x)) :: Q by simp [List.set_append]] at hset
    exact k r hr0 ls H1 _ h1 hset (h3.put z oq (AF_lt hlt))
  · show H1[_]? = some (vp_cell _ _)
    rw [e]
    rw [vp_cell_i, vp_cell_i, arrV_store]
    congr 2
    funext q
    by_cases hq : q = i.toNatClampNeg
    · subst hq
      simp [updV, upd]
    · simp [updV, upd, hq]
theorem any_str (C : CxI F Y X cc nL own d zf) {e : Nat} (he : e < 9) {H : Heap} {locs : List Loc} (h3 : va_S (AF F Y) (sX X).heap H locs) : va_Any "java/lang/String" (sX X) H (Y.2.2.1 e) := by
  obtain ⟨cell, h1, h2, h3'⟩ := vk_recv C.1.2.2.2.2.2.1.2.2.1 he h3
  obtain ⟨kC, hkC, -⟩ := Vm.findClass_spec h3'
  refine ⟨cell, h1, h2, ⟨kC, hkC⟩, fun comp hc => ?_⟩
  have : comp = cell.cls := Option.some.inj (hc.symm.trans h3')
  subst this
  exact va_asg _ _
theorem any_obj (C : CxI F Y X cc nL own d zf) {k ci : Nat} {fs : List Value} {q : vw_C} (hl : l[k]? = some (.inr (ci, fs))) (hc : vwCl[ci]? = some q) {H : Heap} (h2 : RepL Y l H) : va_Any q.1 (sX X) H (bY Y + k) := by
  refine va_rAny C.1.2.2.2.2.2.1.1 (va_P1 (h2.2 k _ hl)) (q0 := 0) rfl hc (fun comp c0 h1 h3 => ?_)
  have : comp = c0 := Option.some.inj (h1.symm.trans h3)
  subst this
  exact va_asg _ _
/-- a branch whose condition is known -/
theorem q_ge_no {x y : Int32} {off : Int} (C : CxI F Y X cc nL own d zf) (tgt : Nat) (h : ¬ y ≤ x) (dd : decode cc pc = .ok (.if_icmp .ge off, 3)) (ht : (pc : Int) + off = (tgt : Int)) (k : G F Y X nL em zf z (pc + 3) lv rest hp o) : G F Y X nL em zf z pc lv (.int y :: .int x :: rest) hp o := by
  have := q_icmp_ge C.1 (x := x) (y := y) (ot := none) (of := o) tgt dd ht (fun h' => absurd h' h) (fun _ => k)
  rw [if_neg h] at this
  exact this
theorem q_ge_yes {x y : Int32} {off : Int} (C : CxI F Y X cc nL own d zf) (tgt : Nat) (h : y ≤ x) (dd : decode cc pc = .ok (.if_icmp .ge off, 3)) (ht : (pc : Int) + off = (tgt : Int)) (k : G F Y X nL em zf z tgt lv rest hp o) : G F Y X nL em zf z pc lv (.int y :: .int x :: rest) hp o := by
  have := q_icmp_ge C.1 (x := x) (y := y) (ot := o) (of := none) tgt dd ht (fun _ => k) (fun h' => absurd h h')
  rw [if_pos h] at this
  exact this
/-- how large the heap can be -/
theorem G.bound (k : G F Y X nL em zf z pc lv st (fun H => hp H ∧ H.size ≤ (sX X).heap.size + z.1) o) : G F Y X nL em zf z pc lv st hp o := by
  intro r hr ls H locs h1 h2 h3 T hT XX
  exact k r hr ls H locs h1 ⟨h2, by rw [← hT]; exact XX.heapSize⟩ h3 T hT XX
end MAKE2
theorem Ct.ofGj {ρ : Type} {F : FT} {Y : YT} {y : MethodName} {cc : ByteArray} {maxL : Nat} {d mc ms : Nat} {as : List Value} {hp : Heap → Prop} {em : ρ → Option Value × (Heap → Prop)} {o : Option ρ}
    (hy : plainName y.cls = true) (hi : y.name = "<init>") (hlen : (lg_sl as).length ≤ maxL)
    (body : ∀ X : XT, CxI F Y X cc maxL y.cls d (mc, ms) → hp (sX X).heap → G F Y X maxL em (mc, ms) (0, 0) 0 (lv_args 0 as) [] hp o) : ∀ r, o = some r → Ct F Y y cc maxL none d mc ms as hp (em r).1 (em r).2 := by
  intro r hr l
  refine Met.ofW (cc := cc) (maxL := maxL) (ret := none) hy rfl ?_
  intro p e s m args below meth c s₁ B hml hv
  obtain ⟨rfl, hh, hE⟩ := hv
  have hts := atoms_spec (ws := Cond.code y cc maxL none :: TB) B.pre
  have hin : meth.name = "<init>" := ((name_of_methodNamed B.named B.method).1).trans hi
  have k := body (p, l, e, rmD d mc ms, s, m, as.toArray, below, meth, c) ⟨⟨B.exec, B.bytes, hml, findClass_of_methodNamed B.named, fun w hw => hts w (List.mem_cons_of_mem _ hw), hE, B.notSynchronized, B.returns, rfl⟩, hin⟩ hh
  rw [lg_entry_eq]
  exact k r hr _ _ _ (lv_entry as hlen) hh va_S.rf

theorem lk_X10_9 : LkIN RX10 9 yX7_init "WellTold" cX7_init 1 0 := ⟨TB_p [99, 70, 100] (by decide +kernel) (by decide +kernel), by decide +kernel, rfl, by decide +kernel, by decide +kernel, by decide +kernel⟩
theorem lk_X10_21 : LkIN RX10 21 yX1_init "WellTold" cX1_init 1 0 := ⟨TB_p [321, 78, 322] (by decide +kernel) (by decide +kernel), by decide +kernel, rfl, by decide +kernel, by decide +kernel, by decide +kernel⟩
theorem lk_X10_28 : LkIN RX10 28 yX8_init "WellTold" cX8_init 1 0 := ⟨TB_p [345, 79, 346] (by decide +kernel) (by decide +kernel), by decide +kernel, rfl, by decide +kernel, by decide +kernel, by decide +kernel⟩
theorem lk_X10_41 : LkI RX10 41 yX2_init cX2_init 2 1 := ⟨TB_p [367, 111, 72, 112] (by decide +kernel) (by decide +kernel), rfl, by decide +kernel, by decide +kernel, by decide +kernel⟩
theorem lk_X10_55 : LkIN RX10 55 yX5_init "WellTold" cX5_init 1 0 := ⟨TB_p [370, 80, 371] (by decide +kernel) (by decide +kernel), by decide +kernel, rfl, by decide +kernel, by decide +kernel, by decide +kernel⟩
def A10 (Y : YT) : List va_E := ((.inr (10, [Rf Y 1, Rf Y 44, Rf Y 87, Rf Y 92, Rf Y 95, Rf Y 96, Rf Y 98, .int 0])) :: (((([] ++ O_7 Y 1) ++ O_7 Y 44) ++ O_1 Y 87) ++ O_8 Y 92))
theorem A10_len {Y : YT} : (A10 Y).length = 95 := rfl
theorem A10_0 {Y : YT} (L : List va_E) : (A10 Y ++ L)[0]? = some (.inr (10, [Rf Y 1, Rf Y 44, Rf Y 87, Rf Y 92, Rf Y 95, Rf Y 96, Rf Y 98, .int 0])) := rfl
theorem mid_at {P Q : List va_E} {e : va_E} {n : Nat} (h : P.length = n) : (P ++ e :: Q)[n]? = some e := by subst h; simp
theorem beh_at {P L : List va_E} {e : va_E} {n j : Nat} (h : P.length = n) (hj : L[j]? = some e) : (P ++ L)[n + j]? = some e := by subst h; rw [List.getElem?_append_right (Nat.le_add_right _ _), Nat.add_sub_cancel_left]; exact hj
def fin10 (Y : YT) : List va_E := (A10 Y) ++ (.inl (Y.2.1.2.1, 4, .inr (.inr (.inr (.inr (va_up (va_up (va_up (va_up (fun _ => none) ((0 : Int32).toNatClampNeg) (some (bY Y + 100))) ((1 : Int32).toNatClampNeg) (some (bY Y + 103))) ((2 : Int32).toNatClampNeg) (some (bY Y + 106))) ((3 : Int32).toNatClampNeg) (some (bY Y + 109)))))))) :: (((((([] ++ O_2 Y 96 40) ++ O_2 Y 98 6) ++ O_5 Y 100) ++ O_5 Y 103) ++ O_5 Y 106) ++ O_5 Y 109)
def st0C : St := fun k => if k = 1 then (fun j => if j = 0 then 4 else if j = 3 then 1 else 0) else if k = 44 then (fun j => if j = 0 then 4 else if j = 3 then 1 else 0) else if k = 36 then (fun j => if j = 2 then 1 else 0) else if k = 79 then (fun j => if j = 2 then 1 else 0) else fun _ => 0
def st0M : St := fun k => if k = 1 then (upd (upd (fun _ => 0) 6 1) 1 4) else fun _ => 0
theorem arrV_congr {cI : ClassId} {N : Nat} {f : Nat → Value} (g : Nat → Value) (h : ∀ i, i < N → f i = g i) : arrV cI N f = arrV cI N g := by
  unfold arrV
  congr 1
  apply Array.ext
  · simp
  · intro i h1 h2
    simp only [Array.getElem_ofFn]
    exact h i (by simpa using h1)
def fl10 (Y : YT) : List va_E := [.inr (10, [Rf Y 1, Rf Y 44, Rf Y 87, Rf Y 92, Rf Y 95, Rf Y 96, Rf Y 98, .int 0]), .inr (7, [.int 4, .int 0, .int 0, .int 1, Rf Y 2, Rf Y 9, Rf Y 22, Rf Y 27, Rf Y 29, Rf Y 31, Rf Y 36, Rf Y 41, Rf Y 42, .int 0]), .inr (9, [Rf Y 3, Rf Y 5, Rf Y 7, .int 0]), .inr (2, [Rf Y 4, .int 0]), .inl (Y.2.1.1, 8, .inl (fun _ => 0)), .inr (2, [Rf Y 6, .int 0]), .inl (Y.2.1.1, 8, .inl (fun _ => 0)), .inr (2, [Rf Y 8, .int 0]), .inl (Y.2.1.1, 8, .inl (fun _ => 0)), .inr (4, [Rf Y 10, Rf Y 12, Rf Y 14, Rf Y 16, Rf Y 18, Rf Y 20]), .inr (2, [Rf Y 11, .int 0]), .inl (Y.2.1.1, 8, .inl (fun _ => 0)), .inr (2, [Rf Y 13, .int 0]), .inl (Y.2.1.1, 8, .inl (fun _ => 0)), .inr (2, [Rf Y 15, .int 0]), .inl (Y.2.1.1, 8, .inl (fun _ => 0)), .inr (2, [Rf Y 17, .int 0]), .inl (Y.2.1.1, 8, .inl (fun _ => 0)), .inr (2, [Rf Y 19, .int 0]), .inl (Y.2.1.1, 8, .inl (fun _ => 0)), .inr (2, [Rf Y 21, .int 0]), .inl (Y.2.1.1, 8, .inl (fun _ => 0)), .inr (0, [Rf Y 23, Rf Y 25]), .inr (2, [Rf Y 24, .int 0]), .inl (Y.2.1.1, 6, .inl (fun _ => 0)), .inr (2, [Rf Y 26, .int 0]), .inl (Y.2.1.1, 6, .inl (fun _ => 0)), .inr (2, [Rf Y 28, .int 0]), .inl (Y.2.1.1, 50, .inl (fun _ => 0)), .inr (2, [Rf Y 30, .int 0]), .inl (Y.2.1.1, 20, .inl (fun _ => 0)), .inr (6, [Rf Y 32, Rf Y 34, .int 0]), .inr (2, [Rf Y 33, .int 0]), .inl (Y.2.1.1, 50, .inl (fun _ => 0)), .inr (2, [Rf Y 35, .int 0]), .inl (Y.2.1.1, 50, .inl (fun _ => 0)), .inr (6, [Rf Y 37, Rf Y 39, .int 1]), .inr (2, [Rf Y 38, .int 0]), .inl (Y.2.1.1, 50, .inl (fun _ => 0)), .inr (2, [Rf Y 40, .int 0]), .inl (Y.2.1.1, 50, .inl (fun _ => 0)), .inr (3, [.int 0, .int 0, .int 0, .int 0, .int 0, .int 0]), .inr (2, [Rf Y 43, .int 0]), .inl (Y.2.1.1, 8, .inl (fun _ => 0)), .inr (7, [.int 4, .int 0, .int 0, .int 1, Rf Y 45, Rf Y 52, Rf Y 65, Rf Y 70, Rf Y 72, Rf Y 74, Rf Y 79, Rf Y 84, Rf Y 85, .int 0]), .inr (9, [Rf Y 46, Rf Y 48, Rf Y 50, .int 0]), .inr (2, [Rf Y 47, .int 0]), .inl (Y.2.1.1, 8, .inl (fun _ => 0)), .inr (2, [Rf Y 49, .int 0]), .inl (Y.2.1.1, 8, .inl (fun _ => 0)), .inr (2, [Rf Y 51, .int 0]), .inl (Y.2.1.1, 8, .inl (fun _ => 0)), .inr (4, [Rf Y 53, Rf Y 55, Rf Y 57, Rf Y 59, Rf Y 61, Rf Y 63]), .inr (2, [Rf Y 54, .int 0]), .inl (Y.2.1.1, 8, .inl (fun _ => 0)), .inr (2, [Rf Y 56, .int 0]), .inl (Y.2.1.1, 8, .inl (fun _ => 0)), .inr (2, [Rf Y 58, .int 0]), .inl (Y.2.1.1, 8, .inl (fun _ => 0)), .inr (2, [Rf Y 60, .int 0]), .inl (Y.2.1.1, 8, .inl (fun _ => 0)), .inr (2, [Rf Y 62, .int 0]), .inl (Y.2.1.1, 8, .inl (fun _ => 0)), .inr (2, [Rf Y 64, .int 0]), .inl (Y.2.1.1, 8, .inl (fun _ => 0)), .inr (0, [Rf Y 66, Rf Y 68]), .inr (2, [Rf Y 67, .int 0]), .inl (Y.2.1.1, 6, .inl (fun _ => 0)), .inr (2, [Rf Y 69, .int 0]), .inl (Y.2.1.1, 6, .inl (fun _ => 0)), .inr (2, [Rf Y 71, .int 0]), .inl (Y.2.1.1, 50, .inl (fun _ => 0)), .inr (2, [Rf Y 73, .int 0]), .inl (Y.2.1.1, 20, .inl (fun _ => 0)), .inr (6, [Rf Y 75, Rf Y 77, .int 0]), .inr (2, [Rf Y 76, .int 0]), .inl (Y.2.1.1, 50, .inl (fun _ => 0)), .inr (2, [Rf Y 78, .int 0]), .inl (Y.2.1.1, 50, .inl (fun _ => 0)), .inr (6, [Rf Y 80, Rf Y 82, .int 1]), .inr (2, [Rf Y 81, .int 0]), .inl (Y.2.1.1, 50, .inl (fun _ => 0)), .inr (2, [Rf Y 83, .int 0]), .inl (Y.2.1.1, 50, .inl (fun _ => 0)), .inr (3, [.int 0, .int 0, .int 0, .int 0, .int 0, .int 0]), .inr (2, [Rf Y 86, .int 0]), .inl (Y.2.1.1, 8, .inl (fun _ => 0)), .inr (1, [Rf Y 88, Rf Y 90, .ref (Y.2.2.1 0), .int 0]), .inr (2, [Rf Y 89, .int 0]), .inl (Y.2.1.1, 50, .inl (fun _ => 0)), .inr (2, [Rf Y 91, .int 0]), .inl (Y.2.1.1, 50, .inl (fun _ => 0)), .inr (8, [Rf Y 93, .int 0, .int 0, .int 0]), .inr (2, [Rf Y 94, .int 0]), .inl (Y.2.1.1, 40, .inl (fun _ => 0)), .inl (Y.2.1.2.1, 4, .inr (.inr (.inr (.inr (va_up (va_up (va_up (va_up (fun _ => none) 0 (some (bY Y + 100))) 1 (some (bY Y + 103))) 2 (some (bY Y + 106))) 3 (some (bY Y + 109))))))), .inr (2, [Rf Y 97, .int 0]), .inl (Y.2.1.1, 40, .inl (fun _ => 0)), .inr (2, [Rf Y 99, .int 0]), .inl (Y.2.1.1, 6, .inl (fun _ => 0)), .inr (5, [.int 0, Rf Y 101]), .inr (2, [Rf Y 102, .int 0]), .inl (Y.2.1.1, 40, .inl (fun _ => 0)), .inr (5, [.int 0, Rf Y 104]), .inr (2, [Rf Y 105, .int 0]), .inl (Y.2.1.1, 40, .inl (fun _ => 0)), .inr (5, [.int 0, Rf Y 107]), .inr (2, [Rf Y 108, .int 0]), .inl (Y.2.1.1, 40, .inl (fun _ => 0)), .inr (5, [.int 0, Rf Y 110]), .inr (2, [Rf Y 111, .int 0]), .inl (Y.2.1.1, 40, .inl (fun _ => 0))]
set_option maxRecDepth 100000 in
set_option maxHeartbeats 20000000 in
theorem fl10_eq (Y : YT) : fin10 Y = fl10 Y := rfl
theorem f10_0 {Y : YT} {H : Heap} (h : RepL Y (fl10 Y) H) : va_at Y.1 vwCl (bY Y + 0, entK Y 0 (shC 0) (st0C 0)) H := by
  have h1 : va_at Y.1 vwCl (bY Y + 0, (.inr (10, [Rf Y 1, Rf Y 44, Rf Y 87, Rf Y 92, Rf Y 95, Rf Y 96, Rf Y 98, .int 0]) : va_E)) H := h.2 0 _ rfl
  rw [skC_0]
  exact h1
theorem f10_1 {Y : YT} {H : Heap} (h : RepL Y (fl10 Y) H) : va_at Y.1 vwCl (bY Y + 1, entK Y 1 (shC 1) (st0C 1)) H := by
  have h1 : va_at Y.1 vwCl (bY Y + 1, (.inr (7, [.int 4, .int 0, .int 0, .int 1, Rf Y 2, Rf Y 9, Rf Y 22, Rf Y 27, Rf Y 29, Rf Y 31, Rf Y 36, Rf Y 41, Rf Y 42, .int 0]) : va_E)) H := h.2 1 _ rfl
  rw [skC_1]
  exact h1
theorem f10_2 {Y : YT} {H : Heap} (h : RepL Y (fl10 Y) H) : va_at Y.1 vwCl (bY Y + 2, entK Y 2 (shC 2) (st0C 2)) H := by
  have h1 : va_at Y.1 vwCl (bY Y + 2, (.inr (9, [Rf Y 3, Rf Y 5, Rf Y 7, .int 0]) : va_E)) H := h.2 2 _ rfl
  rw [skC_2]
  exact h1
theorem f10_3 {Y : YT} {H : Heap} (h : RepL Y (fl10 Y) H) : va_at Y.1 vwCl (bY Y + 3, entK Y 3 (shC 3) (st0C 3)) H := by
  have h1 : va_at Y.1 vwCl (bY Y + 3, (.inr (2, [Rf Y 4, .int 0]) : va_E)) H := h.2 3 _ rfl
  rw [skC_3]
  exact h1
theorem f10_4 {Y : YT} {H : Heap} (h : RepL Y (fl10 Y) H) : va_at Y.1 vwCl (bY Y + 4, entK Y 4 (shC 4) (st0C 4)) H := by
  have h1 : va_at Y.1 vwCl (bY Y + 4, (.inl (Y.2.1.1, 8, .inl (fun _ => 0)) : va_E)) H := h.2 4 _ rfl
  rw [skC_4]
  exact h1
theorem f10_5 {Y : YT} {H : Heap} (h : RepL Y (fl10 Y) H) : va_at Y.1 vwCl (bY Y + 5, entK Y 5 (shC 5) (st0C 5)) H := by
  have h1 : va_at Y.1 vwCl (bY Y + 5, (.inr (2, [Rf Y 6, .int 0]) : va_E)) H := h.2 5 _ rfl
  rw [skC_5]
  exact h1
theorem f10_6 {Y : YT} {H : Heap} (h : RepL Y (fl10 Y) H) : va_at Y.1 vwCl (bY Y + 6, entK Y 6 (shC 6) (st0C 6)) H := by
  have h1 : va_at Y.1 vwCl (bY Y + 6, (.inl (Y.2.1.1, 8, .inl (fun _ => 0)) : va_E)) H := h.2 6 _ rfl
  rw [skC_6]
  exact h1
theorem f10_7 {Y : YT} {H : Heap} (h : RepL Y (fl10 Y) H) : va_at Y.1 vwCl (bY Y + 7, entK Y 7 (shC 7) (st0C 7)) H := by
  have h1 : va_at Y.1 vwCl (bY Y + 7, (.inr (2, [Rf Y 8, .int 0]) : va_E)) H := h.2 7 _ rfl
  rw [skC_7]
  exact h1
theorem f10_8 {Y : YT} {H : Heap} (h : RepL Y (fl10 Y) H) : va_at Y.1 vwCl (bY Y + 8, entK Y 8 (shC 8) (st0C 8)) H := by
  have h1 : va_at Y.1 vwCl (bY Y + 8, (.inl (Y.2.1.1, 8, .inl (fun _ => 0)) : va_E)) H := h.2 8 _ rfl
  rw [skC_8]
  exact h1
theorem f10_9 {Y : YT} {H : Heap} (h : RepL Y (fl10 Y) H) : va_at Y.1 vwCl (bY Y + 9, entK Y 9 (shC 9) (st0C 9)) H := by
  have h1 : va_at Y.1 vwCl (bY Y + 9, (.inr (4, [Rf Y 10, Rf Y 12, Rf Y 14, Rf Y 16, Rf Y 18, Rf Y 20]) : va_E)) H := h.2 9 _ rfl
  rw [skC_9]
  exact h1
theorem f10_10 {Y : YT} {H : Heap} (h : RepL Y (fl10 Y) H) : va_at Y.1 vwCl (bY Y + 10, entK Y 10 (shC 10) (st0C 10)) H := by
  have h1 : va_at Y.1 vwCl (bY Y + 10, (.inr (2, [Rf Y 11, .int 0]) : va_E)) H := h.2 10 _ rfl
  rw [skC_10]
  exact h1
theorem f10_11 {Y : YT} {H : Heap} (h : RepL Y (fl10 Y) H) : va_at Y.1 vwCl (bY Y + 11, entK Y 11 (shC 11) (st0C 11)) H := by
  have h1 : va_at Y.1 vwCl (bY Y + 11, (.inl (Y.2.1.1, 8, .inl (fun _ => 0)) : va_E)) H := h.2 11 _ rfl
  rw [skC_11]
  exact h1
theorem f10_12 {Y : YT} {H : Heap} (h : RepL Y (fl10 Y) H) : va_at Y.1 vwCl (bY Y + 12, entK Y 12 (shC 12) (st0C 12)) H := by
  have h1 : va_at Y.1 vwCl (bY Y + 12, (.inr (2, [Rf Y 13, .int 0]) : va_E)) H := h.2 12 _ rfl
  rw [skC_12]
  exact h1
theorem f10_13 {Y : YT} {H : Heap} (h : RepL Y (fl10 Y) H) : va_at Y.1 vwCl (bY Y + 13, entK Y 13 (shC 13) (st0C 13)) H := by
  have h1 : va_at Y.1 vwCl (bY Y + 13, (.inl (Y.2.1.1, 8, .inl (fun _ => 0)) : va_E)) H := h.2 13 _ rfl
  rw [skC_13]
  exact h1
theorem f10_14 {Y : YT} {H : Heap} (h : RepL Y (fl10 Y) H) : va_at Y.1 vwCl (bY Y + 14, entK Y 14 (shC 14) (st0C 14)) H := by
  have h1 : va_at Y.1 vwCl (bY Y + 14, (.inr (2, [Rf Y 15, .int 0]) : va_E)) H := h.2 14 _ rfl
  rw [skC_14]
  exact h1
theorem f10_15 {Y : YT} {H : Heap} (h : RepL Y (fl10 Y) H) : va_at Y.1 vwCl (bY Y + 15, entK Y 15 (shC 15) (st0C 15)) H := by
  have h1 : va_at Y.1 vwCl (bY Y + 15, (.inl (Y.2.1.1, 8, .inl (fun _ => 0)) : va_E)) H := h.2 15 _ rfl
  rw [skC_15]
  exact h1
theorem f10_16 {Y : YT} {H : Heap} (h : RepL Y (fl10 Y) H) : va_at Y.1 vwCl (bY Y + 16, entK Y 16 (shC 16) (st0C 16)) H := by
  have h1 : va_at Y.1 vwCl (bY Y + 16, (.inr (2, [Rf Y 17, .int 0]) : va_E)) H := h.2 16 _ rfl
  rw [skC_16]
  exact h1
theorem f10_17 {Y : YT} {H : Heap} (h : RepL Y (fl10 Y) H) : va_at Y.1 vwCl (bY Y + 17, entK Y 17 (shC 17) (st0C 17)) H := by
  have h1 : va_at Y.1 vwCl (bY Y + 17, (.inl (Y.2.1.1, 8, .inl (fun _ => 0)) : va_E)) H := h.2 17 _ rfl
  rw [skC_17]
  exact h1
theorem f10_18 {Y : YT} {H : Heap} (h : RepL Y (fl10 Y) H) : va_at Y.1 vwCl (bY Y + 18, entK Y 18 (shC 18) (st0C 18)) H := by
  have h1 : va_at Y.1 vwCl (bY Y + 18, (.inr (2, [Rf Y 19, .int 0]) : va_E)) H := h.2 18 _ rfl
  rw [skC_18]
  exact h1
theorem f10_19 {Y : YT} {H : Heap} (h : RepL Y (fl10 Y) H) : va_at Y.1 vwCl (bY Y + 19, entK Y 19 (shC 19) (st0C 19)) H := by
  have h1 : va_at Y.1 vwCl (bY Y + 19, (.inl (Y.2.1.1, 8, .inl (fun _ => 0)) : va_E)) H := h.2 19 _ rfl
  rw [skC_19]
  exact h1
theorem f10_20 {Y : YT} {H : Heap} (h : RepL Y (fl10 Y) H) : va_at Y.1 vwCl (bY Y + 20, entK Y 20 (shC 20) (st0C 20)) H := by
  have h1 : va_at Y.1 vwCl (bY Y + 20, (.inr (2, [Rf Y 21, .int 0]) : va_E)) H := h.2 20 _ rfl
  rw [skC_20]
  exact h1
theorem f10_21 {Y : YT} {H : Heap} (h : RepL Y (fl10 Y) H) : va_at Y.1 vwCl (bY Y + 21, entK Y 21 (shC 21) (st0C 21)) H := by
  have h1 : va_at Y.1 vwCl (bY Y + 21, (.inl (Y.2.1.1, 8, .inl (fun _ => 0)) : va_E)) H := h.2 21 _ rfl
  rw [skC_21]
  exact h1
theorem f10_22 {Y : YT} {H : Heap} (h : RepL Y (fl10 Y) H) : va_at Y.1 vwCl (bY Y + 22, entK Y 22 (shC 22) (st0C 22)) H := by
  have h1 : va_at Y.1 vwCl (bY Y + 22, (.inr (0, [Rf Y 23, Rf Y 25]) : va_E)) H := h.2 22 _ rfl
  rw [skC_22]
  exact h1
theorem f10_23 {Y : YT} {H : Heap} (h : RepL Y (fl10 Y) H) : va_at Y.1 vwCl (bY Y + 23, entK Y 23 (shC 23) (st0C 23)) H := by
  have h1 : va_at Y.1 vwCl (bY Y + 23, (.inr (2, [Rf Y 24, .int 0]) : va_E)) H := h.2 23 _ rfl
  rw [skC_23]
  exact h1
theorem f10_24 {Y : YT} {H : Heap} (h : RepL Y (fl10 Y) H) : va_at Y.1 vwCl (bY Y + 24, entK Y 24 (shC 24) (st0C 24)) H := by
  have h1 : va_at Y.1 vwCl (bY Y + 24, (.inl (Y.2.1.1, 6, .inl (fun _ => 0)) : va_E)) H := h.2 24 _ rfl
  rw [skC_24]
  exact h1
theorem f10_25 {Y : YT} {H : Heap} (h : RepL Y (fl10 Y) H) : va_at Y.1 vwCl (bY Y + 25, entK Y 25 (shC 25) (st0C 25)) H := by
  have h1 : va_at Y.1 vwCl (bY Y + 25, (.inr (2, [Rf Y 26, .int 0]) : va_E)) H := h.2 25 _ rfl
  rw [skC_25]
  exact h1
theorem f10_26 {Y : YT} {H : Heap} (h : RepL Y (fl10 Y) H) : va_at Y.1 vwCl (bY Y + 26, entK Y 26 (shC 26) (st0C 26)) H := by
  have h1 : va_at Y.1 vwCl (bY Y + 26, (.inl (Y.2.1.1, 6, .inl (fun _ => 0)) : va_E)) H := h.2 26 _ rfl
  rw [skC_26]
  exact h1
theorem f10_27 {Y : YT} {H : Heap} (h : RepL Y (fl10 Y) H) : va_at Y.1 vwCl (bY Y + 27, entK Y 27 (shC 27) (st0C 27)) H := by
  have h1 : va_at Y.1 vwCl (bY Y + 27, (.inr (2, [Rf Y 28, .int 0]) : va_E)) H := h.2 27 _ rfl
  rw [skC_27]
  exact h1
theorem f10_28 {Y : YT} {H : Heap} (h : RepL Y (fl10 Y) H) : va_at Y.1 vwCl (bY Y + 28, entK Y 28 (shC 28) (st0C 28)) H := by
  have h1 : va_at Y.1 vwCl (bY Y + 28, (.inl (Y.2.1.1, 50, .inl (fun _ => 0)) : va_E)) H := h.2 28 _ rfl
  rw [skC_28]
  exact h1
theorem f10_29 {Y : YT} {H : Heap} (h : RepL Y (fl10 Y) H) : va_at Y.1 vwCl (bY Y + 29, entK Y 29 (shC 29) (st0C 29)) H := by
  have h1 : va_at Y.1 vwCl (bY Y + 29, (.inr (2, [Rf Y 30, .int 0]) : va_E)) H := h.2 29 _ rfl
  rw [skC_29]
  exact h1
theorem f10_30 {Y : YT} {H : Heap} (h : RepL Y (fl10 Y) H) : va_at Y.1 vwCl (bY Y + 30, entK Y 30 (shC 30) (st0C 30)) H := by
  have h1 : va_at Y.1 vwCl (bY Y + 30, (.inl (Y.2.1.1, 20, .inl (fun _ => 0)) : va_E)) H := h.2 30 _ rfl
  rw [skC_30]
  exact h1
theorem f10_31 {Y : YT} {H : Heap} (h : RepL Y (fl10 Y) H) : va_at Y.1 vwCl (bY Y + 31, entK Y 31 (shC 31) (st0C 31)) H := by
  have h1 : va_at Y.1 vwCl (bY Y + 31, (.inr (6, [Rf Y 32, Rf Y 34, .int 0]) : va_E)) H := h.2 31 _ rfl
  rw [skC_31]
  exact h1
theorem f10_32 {Y : YT} {H : Heap} (h : RepL Y (fl10 Y) H) : va_at Y.1 vwCl (bY Y + 32, entK Y 32 (shC 32) (st0C 32)) H := by
  have h1 : va_at Y.1 vwCl (bY Y + 32, (.inr (2, [Rf Y 33, .int 0]) : va_E)) H := h.2 32 _ rfl
  rw [skC_32]
  exact h1
theorem f10_33 {Y : YT} {H : Heap} (h : RepL Y (fl10 Y) H) : va_at Y.1 vwCl (bY Y + 33, entK Y 33 (shC 33) (st0C 33)) H := by
  have h1 : va_at Y.1 vwCl (bY Y + 33, (.inl (Y.2.1.1, 50, .inl (fun _ => 0)) : va_E)) H := h.2 33 _ rfl
  rw [skC_33]
  exact h1
theorem f10_34 {Y : YT} {H : Heap} (h : RepL Y (fl10 Y) H) : va_at Y.1 vwCl (bY Y + 34, entK Y 34 (shC 34) (st0C 34)) H := by
  have h1 : va_at Y.1 vwCl (bY Y + 34, (.inr (2, [Rf Y 35, .int 0]) : va_E)) H := h.2 34 _ rfl
  rw [skC_34]
  exact h1
theorem f10_35 {Y : YT} {H : Heap} (h : RepL Y (fl10 Y) H) : va_at Y.1 vwCl (bY Y + 35, entK Y 35 (shC 35) (st0C 35)) H := by
  have h1 : va_at Y.1 vwCl (bY Y + 35, (.inl (Y.2.1.1, 50, .inl (fun _ => 0)) : va_E)) H := h.2 35 _ rfl
  rw [skC_35]
  exact h1
theorem f10_36 {Y : YT} {H : Heap} (h : RepL Y (fl10 Y) H) : va_at Y.1 vwCl (bY Y + 36, entK Y 36 (shC 36) (st0C 36)) H := by
  have h1 : va_at Y.1 vwCl (bY Y + 36, (.inr (6, [Rf Y 37, Rf Y 39, .int 1]) : va_E)) H := h.2 36 _ rfl
  rw [skC_36]
  exact h1
theorem f10_37 {Y : YT} {H : Heap} (h : RepL Y (fl10 Y) H) : va_at Y.1 vwCl (bY Y + 37, entK Y 37 (shC 37) (st0C 37)) H := by
  have h1 : va_at Y.1 vwCl (bY Y + 37, (.inr (2, [Rf Y 38, .int 0]) : va_E)) H := h.2 37 _ rfl
  rw [skC_37]
  exact h1
theorem f10_38 {Y : YT} {H : Heap} (h : RepL Y (fl10 Y) H) : va_at Y.1 vwCl (bY Y + 38, entK Y 38 (shC 38) (st0C 38)) H := by
  have h1 : va_at Y.1 vwCl (bY Y + 38, (.inl (Y.2.1.1, 50, .inl (fun _ => 0)) : va_E)) H := h.2 38 _ rfl
  rw [skC_38]
  exact h1
theorem f10_39 {Y : YT} {H : Heap} (h : RepL Y (fl10 Y) H) : va_at Y.1 vwCl (bY Y + 39, entK Y 39 (shC 39) (st0C 39)) H := by
  have h1 : va_at Y.1 vwCl (bY Y + 39, (.inr (2, [Rf Y 40, .int 0]) : va_E)) H := h.2 39 _ rfl
  rw [skC_39]
  exact h1
theorem f10_40 {Y : YT} {H : Heap} (h : RepL Y (fl10 Y) H) : va_at Y.1 vwCl (bY Y + 40, entK Y 40 (shC 40) (st0C 40)) H := by
  have h1 : va_at Y.1 vwCl (bY Y + 40, (.inl (Y.2.1.1, 50, .inl (fun _ => 0)) : va_E)) H := h.2 40 _ rfl
  rw [skC_40]
  exact h1
theorem f10_41 {Y : YT} {H : Heap} (h : RepL Y (fl10 Y) H) : va_at Y.1 vwCl (bY Y + 41, entK Y 41 (shC 41) (st0C 41)) H := by
  have h1 : va_at Y.1 vwCl (bY Y + 41, (.inr (3, [.int 0, .int 0, .int 0, .int 0, .int 0, .int 0]) : va_E)) H := h.2 41 _ rfl
  rw [skC_41]
  exact h1
theorem f10_42 {Y : YT} {H : Heap} (h : RepL Y (fl10 Y) H) : va_at Y.1 vwCl (bY Y + 42, entK Y 42 (shC 42) (st0C 42)) H := by
  have h1 : va_at Y.1 vwCl (bY Y + 42, (.inr (2, [Rf Y 43, .int 0]) : va_E)) H := h.2 42 _ rfl
  rw [skC_42]
  exact h1
theorem f10_43 {Y : YT} {H : Heap} (h : RepL Y (fl10 Y) H) : va_at Y.1 vwCl (bY Y + 43, entK Y 43 (shC 43) (st0C 43)) H := by
  have h1 : va_at Y.1 vwCl (bY Y + 43, (.inl (Y.2.1.1, 8, .inl (fun _ => 0)) : va_E)) H := h.2 43 _ rfl
  rw [skC_43]
  exact h1
theorem f10_44 {Y : YT} {H : Heap} (h : RepL Y (fl10 Y) H) : va_at Y.1 vwCl (bY Y + 44, entK Y 44 (shC 44) (st0C 44)) H := by
  have h1 : va_at Y.1 vwCl (bY Y + 44, (.inr (7, [.int 4, .int 0, .int 0, .int 1, Rf Y 45, Rf Y 52, Rf Y 65, Rf Y 70, Rf Y 72, Rf Y 74, Rf Y 79, Rf Y 84, Rf Y 85, .int 0]) : va_E)) H := h.2 44 _ rfl
  rw [skC_44]
  exact h1
theorem f10_45 {Y : YT} {H : Heap} (h : RepL Y (fl10 Y) H) : va_at Y.1 vwCl (bY Y + 45, entK Y 45 (shC 45) (st0C 45)) H := by
  have h1 : va_at Y.1 vwCl (bY Y + 45, (.inr (9, [Rf Y 46, Rf Y 48, Rf Y 50, .int 0]) : va_E)) H := h.2 45 _ rfl
  rw [skC_45]
  exact h1
theorem f10_46 {Y : YT} {H : Heap} (h : RepL Y (fl10 Y) H) : va_at Y.1 vwCl (bY Y + 46, entK Y 46 (shC 46) (st0C 46)) H := by
  have h1 : va_at Y.1 vwCl (bY Y + 46, (.inr (2, [Rf Y 47, .int 0]) : va_E)) H := h.2 46 _ rfl
  rw [skC_46]
  exact h1
theorem f10_47 {Y : YT} {H : Heap} (h : RepL Y (fl10 Y) H) : va_at Y.1 vwCl (bY Y + 47, entK Y 47 (shC 47) (st0C 47)) H := by
  have h1 : va_at Y.1 vwCl (bY Y + 47, (.inl (Y.2.1.1, 8, .inl (fun _ => 0)) : va_E)) H := h.2 47 _ rfl
  rw [skC_47]
  exact h1
theorem f10_48 {Y : YT} {H : Heap} (h : RepL Y (fl10 Y) H) : va_at Y.1 vwCl (bY Y + 48, entK Y 48 (shC 48) (st0C 48)) H := by
  have h1 : va_at Y.1 vwCl (bY Y + 48, (.inr (2, [Rf Y 49, .int 0]) : va_E)) H := h.2 48 _ rfl
  rw [skC_48]
  exact h1
theorem f10_49 {Y : YT} {H : Heap} (h : RepL Y (fl10 Y) H) : va_at Y.1 vwCl (bY Y + 49, entK Y 49 (shC 49) (st0C 49)) H := by
  have h1 : va_at Y.1 vwCl (bY Y + 49, (.inl (Y.2.1.1, 8, .inl (fun _ => 0)) : va_E)) H := h.2 49 _ rfl
  rw [skC_49]
  exact h1
theorem f10_50 {Y : YT} {H : Heap} (h : RepL Y (fl10 Y) H) : va_at Y.1 vwCl (bY Y + 50, entK Y 50 (shC 50) (st0C 50)) H := by
  have h1 : va_at Y.1 vwCl (bY Y + 50, (.inr (2, [Rf Y 51, .int 0]) : va_E)) H := h.2 50 _ rfl
  rw [skC_50]
  exact h1
theorem f10_51 {Y : YT} {H : Heap} (h : RepL Y (fl10 Y) H) : va_at Y.1 vwCl (bY Y + 51, entK Y 51 (shC 51) (st0C 51)) H := by
  have h1 : va_at Y.1 vwCl (bY Y + 51, (.inl (Y.2.1.1, 8, .inl (fun _ => 0)) : va_E)) H := h.2 51 _ rfl
  rw [skC_51]
  exact h1
theorem f10_52 {Y : YT} {H : Heap} (h : RepL Y (fl10 Y) H) : va_at Y.1 vwCl (bY Y + 52, entK Y 52 (shC 52) (st0C 52)) H := by
  have h1 : va_at Y.1 vwCl (bY Y + 52, (.inr (4, [Rf Y 53, Rf Y 55, Rf Y 57, Rf Y 59, Rf Y 61, Rf Y 63]) : va_E)) H := h.2 52 _ rfl
  rw [skC_52]
  exact h1
theorem f10_53 {Y : YT} {H : Heap} (h : RepL Y (fl10 Y) H) : va_at Y.1 vwCl (bY Y + 53, entK Y 53 (shC 53) (st0C 53)) H := by
  have h1 : va_at Y.1 vwCl (bY Y + 53, (.inr (2, [Rf Y 54, .int 0]) : va_E)) H := h.2 53 _ rfl
  rw [skC_53]
  exact h1
theorem f10_54 {Y : YT} {H : Heap} (h : RepL Y (fl10 Y) H) : va_at Y.1 vwCl (bY Y + 54, entK Y 54 (shC 54) (st0C 54)) H := by
  have h1 : va_at Y.1 vwCl (bY Y + 54, (.inl (Y.2.1.1, 8, .inl (fun _ => 0)) : va_E)) H := h.2 54 _ rfl
  rw [skC_54]
  exact h1
theorem f10_55 {Y : YT} {H : Heap} (h : RepL Y (fl10 Y) H) : va_at Y.1 vwCl (bY Y + 55, entK Y 55 (shC 55) (st0C 55)) H := by
  have h1 : va_at Y.1 vwCl (bY Y + 55, (.inr (2, [Rf Y 56, .int 0]) : va_E)) H := h.2 55 _ rfl
  rw [skC_55]
  exact h1
theorem f10_56 {Y : YT} {H : Heap} (h : RepL Y (fl10 Y) H) : va_at Y.1 vwCl (bY Y + 56, entK Y 56 (shC 56) (st0C 56)) H := by
  have h1 : va_at Y.1 vwCl (bY Y + 56, (.inl (Y.2.1.1, 8, .inl (fun _ => 0)) : va_E)) H := h.2 56 _ rfl
  rw [skC_56]
  exact h1
theorem f10_57 {Y : YT} {H : Heap} (h : RepL Y (fl10 Y) H) : va_at Y.1 vwCl (bY Y + 57, entK Y 57 (shC 57) (st0C 57)) H := by
  have h1 : va_at Y.1 vwCl (bY Y + 57, (.inr (2, [Rf Y 58, .int 0]) : va_E)) H := h.2 57 _ rfl
  rw [skC_57]
  exact h1
theorem f10_58 {Y : YT} {H : Heap} (h : RepL Y (fl10 Y) H) : va_at Y.1 vwCl (bY Y + 58, entK Y 58 (shC 58) (st0C 58)) H := by
  have h1 : va_at Y.1 vwCl (bY Y + 58, (.inl (Y.2.1.1, 8, .inl (fun _ => 0)) : va_E)) H := h.2 58 _ rfl
  rw [skC_58]
  exact h1
theorem f10_59 {Y : YT} {H : Heap} (h : RepL Y (fl10 Y) H) : va_at Y.1 vwCl (bY Y + 59, entK Y 59 (shC 59) (st0C 59)) H := by
  have h1 : va_at Y.1 vwCl (bY Y + 59, (.inr (2, [Rf Y 60, .int 0]) : va_E)) H := h.2 59 _ rfl
  rw [skC_59]
  exact h1
theorem f10_60 {Y : YT} {H : Heap} (h : RepL Y (fl10 Y) H) : va_at Y.1 vwCl (bY Y + 60, entK Y 60 (shC 60) (st0C 60)) H := by
  have h1 : va_at Y.1 vwCl (bY Y + 60, (.inl (Y.2.1.1, 8, .inl (fun _ => 0)) : va_E)) H := h.2 60 _ rfl
  rw [skC_60]
  exact h1
theorem f10_61 {Y : YT} {H : Heap} (h : RepL Y (fl10 Y) H) : va_at Y.1 vwCl (bY Y + 61, entK Y 61 (shC 61) (st0C 61)) H := by
  have h1 : va_at Y.1 vwCl (bY Y + 61, (.inr (2, [Rf Y 62, .int 0]) : va_E)) H := h.2 61 _ rfl
  rw [skC_61]
  exact h1
theorem f10_62 {Y : YT} {H : Heap} (h : RepL Y (fl10 Y) H) : va_at Y.1 vwCl (bY Y + 62, entK Y 62 (shC 62) (st0C 62)) H := by
  have h1 : va_at Y.1 vwCl (bY Y + 62, (.inl (Y.2.1.1, 8, .inl (fun _ => 0)) : va_E)) H := h.2 62 _ rfl
  rw [skC_62]
  exact h1
theorem f10_63 {Y : YT} {H : Heap} (h : RepL Y (fl10 Y) H) : va_at Y.1 vwCl (bY Y + 63, entK Y 63 (shC 63) (st0C 63)) H := by
  have h1 : va_at Y.1 vwCl (bY Y + 63, (.inr (2, [Rf Y 64, .int 0]) : va_E)) H := h.2 63 _ rfl
  rw [skC_63]
  exact h1
theorem f10_64 {Y : YT} {H : Heap} (h : RepL Y (fl10 Y) H) : va_at Y.1 vwCl (bY Y + 64, entK Y 64 (shC 64) (st0C 64)) H := by
  have h1 : va_at Y.1 vwCl (bY Y + 64, (.inl (Y.2.1.1, 8, .inl (fun _ => 0)) : va_E)) H := h.2 64 _ rfl
  rw [skC_64]
  exact h1
theorem f10_65 {Y : YT} {H : Heap} (h : RepL Y (fl10 Y) H) : va_at Y.1 vwCl (bY Y + 65, entK Y 65 (shC 65) (st0C 65)) H := by
  have h1 : va_at Y.1 vwCl (bY Y + 65, (.inr (0, [Rf Y 66, Rf Y 68]) : va_E)) H := h.2 65 _ rfl
  rw [skC_65]
  exact h1
theorem f10_66 {Y : YT} {H : Heap} (h : RepL Y (fl10 Y) H) : va_at Y.1 vwCl (bY Y + 66, entK Y 66 (shC 66) (st0C 66)) H := by
  have h1 : va_at Y.1 vwCl (bY Y + 66, (.inr (2, [Rf Y 67, .int 0]) : va_E)) H := h.2 66 _ rfl
  rw [skC_66]
  exact h1
theorem f10_67 {Y : YT} {H : Heap} (h : RepL Y (fl10 Y) H) : va_at Y.1 vwCl (bY Y + 67, entK Y 67 (shC 67) (st0C 67)) H := by
  have h1 : va_at Y.1 vwCl (bY Y + 67, (.inl (Y.2.1.1, 6, .inl (fun _ => 0)) : va_E)) H := h.2 67 _ rfl
  rw [skC_67]
  exact h1
theorem f10_68 {Y : YT} {H : Heap} (h : RepL Y (fl10 Y) H) : va_at Y.1 vwCl (bY Y + 68, entK Y 68 (shC 68) (st0C 68)) H := by
  have h1 : va_at Y.1 vwCl (bY Y + 68, (.inr (2, [Rf Y 69, .int 0]) : va_E)) H := h.2 68 _ rfl
  rw [skC_68]
  exact h1
theorem f10_69 {Y : YT} {H : Heap} (h : RepL Y (fl10 Y) H) : va_at Y.1 vwCl (bY Y + 69, entK Y 69 (shC 69) (st0C 69)) H := by
  have h1 : va_at Y.1 vwCl (bY Y + 69, (.inl (Y.2.1.1, 6, .inl (fun _ => 0)) : va_E)) H := h.2 69 _ rfl
  rw [skC_69]
  exact h1
theorem f10_70 {Y : YT} {H : Heap} (h : RepL Y (fl10 Y) H) : va_at Y.1 vwCl (bY Y + 70, entK Y 70 (shC 70) (st0C 70)) H := by
  have h1 : va_at Y.1 vwCl (bY Y + 70, (.inr (2, [Rf Y 71, .int 0]) : va_E)) H := h.2 70 _ rfl
  rw [skC_70]
  exact h1
theorem f10_71 {Y : YT} {H : Heap} (h : RepL Y (fl10 Y) H) : va_at Y.1 vwCl (bY Y + 71, entK Y 71 (shC 71) (st0C 71)) H := by
  have h1 : va_at Y.1 vwCl (bY Y + 71, (.inl (Y.2.1.1, 50, .inl (fun _ => 0)) : va_E)) H := h.2 71 _ rfl
  rw [skC_71]
  exact h1
theorem f10_72 {Y : YT} {H : Heap} (h : RepL Y (fl10 Y) H) : va_at Y.1 vwCl (bY Y + 72, entK Y 72 (shC 72) (st0C 72)) H := by
  have h1 : va_at Y.1 vwCl (bY Y + 72, (.inr (2, [Rf Y 73, .int 0]) : va_E)) H := h.2 72 _ rfl
  rw [skC_72]
  exact h1
theorem f10_73 {Y : YT} {H : Heap} (h : RepL Y (fl10 Y) H) : va_at Y.1 vwCl (bY Y + 73, entK Y 73 (shC 73) (st0C 73)) H := by
  have h1 : va_at Y.1 vwCl (bY Y + 73, (.inl (Y.2.1.1, 20, .inl (fun _ => 0)) : va_E)) H := h.2 73 _ rfl
  rw [skC_73]
  exact h1
theorem f10_74 {Y : YT} {H : Heap} (h : RepL Y (fl10 Y) H) : va_at Y.1 vwCl (bY Y + 74, entK Y 74 (shC 74) (st0C 74)) H := by
  have h1 : va_at Y.1 vwCl (bY Y + 74, (.inr (6, [Rf Y 75, Rf Y 77, .int 0]) : va_E)) H := h.2 74 _ rfl
  rw [skC_74]
  exact h1
theorem f10_75 {Y : YT} {H : Heap} (h : RepL Y (fl10 Y) H) : va_at Y.1 vwCl (bY Y + 75, entK Y 75 (shC 75) (st0C 75)) H := by
  have h1 : va_at Y.1 vwCl (bY Y + 75, (.inr (2, [Rf Y 76, .int 0]) : va_E)) H := h.2 75 _ rfl
  rw [skC_75]
  exact h1
theorem f10_76 {Y : YT} {H : Heap} (h : RepL Y (fl10 Y) H) : va_at Y.1 vwCl (bY Y + 76, entK Y 76 (shC 76) (st0C 76)) H := by
  have h1 : va_at Y.1 vwCl (bY Y + 76, (.inl (Y.2.1.1, 50, .inl (fun _ => 0)) : va_E)) H := h.2 76 _ rfl
  rw [skC_76]
  exact h1
theorem f10_77 {Y : YT} {H : Heap} (h : RepL Y (fl10 Y) H) : va_at Y.1 vwCl (bY Y + 77, entK Y 77 (shC 77) (st0C 77)) H := by
  have h1 : va_at Y.1 vwCl (bY Y + 77, (.inr (2, [Rf Y 78, .int 0]) : va_E)) H := h.2 77 _ rfl
  rw [skC_77]
  exact h1
theorem f10_78 {Y : YT} {H : Heap} (h : RepL Y (fl10 Y) H) : va_at Y.1 vwCl (bY Y + 78, entK Y 78 (shC 78) (st0C 78)) H := by
  have h1 : va_at Y.1 vwCl (bY Y + 78, (.inl (Y.2.1.1, 50, .inl (fun _ => 0)) : va_E)) H := h.2 78 _ rfl
  rw [skC_78]
  exact h1
theorem f10_79 {Y : YT} {H : Heap} (h : RepL Y (fl10 Y) H) : va_at Y.1 vwCl (bY Y + 79, entK Y 79 (shC 79) (st0C 79)) H := by
  have h1 : va_at Y.1 vwCl (bY Y + 79, (.inr (6, [Rf Y 80, Rf Y 82, .int 1]) : va_E)) H := h.2 79 _ rfl
  rw [skC_79]
  exact h1
theorem f10_80 {Y : YT} {H : Heap} (h : RepL Y (fl10 Y) H) : va_at Y.1 vwCl (bY Y + 80, entK Y 80 (shC 80) (st0C 80)) H := by
  have h1 : va_at Y.1 vwCl (bY Y + 80, (.inr (2, [Rf Y 81, .int 0]) : va_E)) H := h.2 80 _ rfl
  rw [skC_80]
  exact h1
theorem f10_81 {Y : YT} {H : Heap} (h : RepL Y (fl10 Y) H) : va_at Y.1 vwCl (bY Y + 81, entK Y 81 (shC 81) (st0C 81)) H := by
  have h1 : va_at Y.1 vwCl (bY Y + 81, (.inl (Y.2.1.1, 50, .inl (fun _ => 0)) : va_E)) H := h.2 81 _ rfl
  rw [skC_81]
  exact h1
theorem f10_82 {Y : YT} {H : Heap} (h : RepL Y (fl10 Y) H) : va_at Y.1 vwCl (bY Y + 82, entK Y 82 (shC 82) (st0C 82)) H := by
  have h1 : va_at Y.1 vwCl (bY Y + 82, (.inr (2, [Rf Y 83, .int 0]) : va_E)) H := h.2 82 _ rfl
  rw [skC_82]
  exact h1
theorem f10_83 {Y : YT} {H : Heap} (h : RepL Y (fl10 Y) H) : va_at Y.1 vwCl (bY Y + 83, entK Y 83 (shC 83) (st0C 83)) H := by
  have h1 : va_at Y.1 vwCl (bY Y + 83, (.inl (Y.2.1.1, 50, .inl (fun _ => 0)) : va_E)) H := h.2 83 _ rfl
  rw [skC_83]
  exact h1
theorem f10_84 {Y : YT} {H : Heap} (h : RepL Y (fl10 Y) H) : va_at Y.1 vwCl (bY Y + 84, entK Y 84 (shC 84) (st0C 84)) H := by
  have h1 : va_at Y.1 vwCl (bY Y + 84, (.inr (3, [.int 0, .int 0, .int 0, .int 0, .int 0, .int 0]) : va_E)) H := h.2 84 _ rfl
  rw [skC_84]
  exact h1
theorem f10_85 {Y : YT} {H : Heap} (h : RepL Y (fl10 Y) H) : va_at Y.1 vwCl (bY Y + 85, entK Y 85 (shC 85) (st0C 85)) H := by
  have h1 : va_at Y.1 vwCl (bY Y + 85, (.inr (2, [Rf Y 86, .int 0]) : va_E)) H := h.2 85 _ rfl
  rw [skC_85]
  exact h1
theorem f10_86 {Y : YT} {H : Heap} (h : RepL Y (fl10 Y) H) : va_at Y.1 vwCl (bY Y + 86, entK Y 86 (shC 86) (st0C 86)) H := by
  have h1 : va_at Y.1 vwCl (bY Y + 86, (.inl (Y.2.1.1, 8, .inl (fun _ => 0)) : va_E)) H := h.2 86 _ rfl
  rw [skC_86]
  exact h1
theorem f10_87 {Y : YT} {H : Heap} (h : RepL Y (fl10 Y) H) : va_at Y.1 vwCl (bY Y + 87, entK Y 87 (shC 87) (st0C 87)) H := by
  have h1 : va_at Y.1 vwCl (bY Y + 87, (.inr (1, [Rf Y 88, Rf Y 90, .ref (Y.2.2.1 0), .int 0]) : va_E)) H := h.2 87 _ rfl
  rw [skC_87]
  exact h1
theorem f10_88 {Y : YT} {H : Heap} (h : RepL Y (fl10 Y) H) : va_at Y.1 vwCl (bY Y + 88, entK Y 88 (shC 88) (st0C 88)) H := by
  have h1 : va_at Y.1 vwCl (bY Y + 88, (.inr (2, [Rf Y 89, .int 0]) : va_E)) H := h.2 88 _ rfl
  rw [skC_88]
  exact h1
theorem f10_89 {Y : YT} {H : Heap} (h : RepL Y (fl10 Y) H) : va_at Y.1 vwCl (bY Y + 89, entK Y 89 (shC 89) (st0C 89)) H := by
  have h1 : va_at Y.1 vwCl (bY Y + 89, (.inl (Y.2.1.1, 50, .inl (fun _ => 0)) : va_E)) H := h.2 89 _ rfl
  rw [skC_89]
  exact h1
theorem f10_90 {Y : YT} {H : Heap} (h : RepL Y (fl10 Y) H) : va_at Y.1 vwCl (bY Y + 90, entK Y 90 (shC 90) (st0C 90)) H := by
  have h1 : va_at Y.1 vwCl (bY Y + 90, (.inr (2, [Rf Y 91, .int 0]) : va_E)) H := h.2 90 _ rfl
  rw [skC_90]
  exact h1
theorem f10_91 {Y : YT} {H : Heap} (h : RepL Y (fl10 Y) H) : va_at Y.1 vwCl (bY Y + 91, entK Y 91 (shC 91) (st0C 91)) H := by
  have h1 : va_at Y.1 vwCl (bY Y + 91, (.inl (Y.2.1.1, 50, .inl (fun _ => 0)) : va_E)) H := h.2 91 _ rfl
  rw [skC_91]
  exact h1
theorem f10_92 {Y : YT} {H : Heap} (h : RepL Y (fl10 Y) H) : va_at Y.1 vwCl (bY Y + 92, entK Y 92 (shC 92) (st0C 92)) H := by
  have h1 : va_at Y.1 vwCl (bY Y + 92, (.inr (8, [Rf Y 93, .int 0, .int 0, .int 0]) : va_E)) H := h.2 92 _ rfl
  rw [skC_92]
  exact h1
theorem f10_93 {Y : YT} {H : Heap} (h : RepL Y (fl10 Y) H) : va_at Y.1 vwCl (bY Y + 93, entK Y 93 (shC 93) (st0C 93)) H := by
  have h1 : va_at Y.1 vwCl (bY Y + 93, (.inr (2, [Rf Y 94, .int 0]) : va_E)) H := h.2 93 _ rfl
  rw [skC_93]
  exact h1
theorem f10_94 {Y : YT} {H : Heap} (h : RepL Y (fl10 Y) H) : va_at Y.1 vwCl (bY Y + 94, entK Y 94 (shC 94) (st0C 94)) H := by
  have h1 : va_at Y.1 vwCl (bY Y + 94, (.inl (Y.2.1.1, 40, .inl (fun _ => 0)) : va_E)) H := h.2 94 _ rfl
  rw [skC_94]
  exact h1
theorem f10_96 {Y : YT} {H : Heap} (h : RepL Y (fl10 Y) H) : va_at Y.1 vwCl (bY Y + 96, entK Y 96 (shC 96) (st0C 96)) H := by
  have h1 : va_at Y.1 vwCl (bY Y + 96, (.inr (2, [Rf Y 97, .int 0]) : va_E)) H := h.2 96 _ rfl
  rw [skC_96]
  exact h1
theorem f10_97 {Y : YT} {H : Heap} (h : RepL Y (fl10 Y) H) : va_at Y.1 vwCl (bY Y + 97, entK Y 97 (shC 97) (st0C 97)) H := by
  have h1 : va_at Y.1 vwCl (bY Y + 97, (.inl (Y.2.1.1, 40, .inl (fun _ => 0)) : va_E)) H := h.2 97 _ rfl
  rw [skC_97]
  exact h1
theorem f10_98 {Y : YT} {H : Heap} (h : RepL Y (fl10 Y) H) : va_at Y.1 vwCl (bY Y + 98, entK Y 98 (shC 98) (st0C 98)) H := by
  have h1 : va_at Y.1 vwCl (bY Y + 98, (.inr (2, [Rf Y 99, .int 0]) : va_E)) H := h.2 98 _ rfl
  rw [skC_98]
  exact h1
theorem f10_99 {Y : YT} {H : Heap} (h : RepL Y (fl10 Y) H) : va_at Y.1 vwCl (bY Y + 99, entK Y 99 (shC 99) (st0C 99)) H := by
  have h1 : va_at Y.1 vwCl (bY Y + 99, (.inl (Y.2.1.1, 6, .inl (fun _ => 0)) : va_E)) H := h.2 99 _ rfl
  rw [skC_99]
  exact h1
theorem f10_100 {Y : YT} {H : Heap} (h : RepL Y (fl10 Y) H) : va_at Y.1 vwCl (bY Y + 100, entK Y 100 (shC 100) (st0C 100)) H := by
  have h1 : va_at Y.1 vwCl (bY Y + 100, (.inr (5, [.int 0, Rf Y 101]) : va_E)) H := h.2 100 _ rfl
  rw [skC_100]
  exact h1
theorem f10_101 {Y : YT} {H : Heap} (h : RepL Y (fl10 Y) H) : va_at Y.1 vwCl (bY Y + 101, entK Y 101 (shC 101) (st0C 101)) H := by
  have h1 : va_at Y.1 vwCl (bY Y + 101, (.inr (2, [Rf Y 102, .int 0]) : va_E)) H := h.2 101 _ rfl
  rw [skC_101]
  exact h1
theorem f10_102 {Y : YT} {H : Heap} (h : RepL Y (fl10 Y) H) : va_at Y.1 vwCl (bY Y + 102, entK Y 102 (shC 102) (st0C 102)) H := by
  have h1 : va_at Y.1 vwCl (bY Y + 102, (.inl (Y.2.1.1, 40, .inl (fun _ => 0)) : va_E)) H := h.2 102 _ rfl
  rw [skC_102]
  exact h1
theorem f10_103 {Y : YT} {H : Heap} (h : RepL Y (fl10 Y) H) : va_at Y.1 vwCl (bY Y + 103, entK Y 103 (shC 103) (st0C 103)) H := by
  have h1 : va_at Y.1 vwCl (bY Y + 103, (.inr (5, [.int 0, Rf Y 104]) : va_E)) H := h.2 103 _ rfl
  rw [skC_103]
  exact h1
theorem f10_104 {Y : YT} {H : Heap} (h : RepL Y (fl10 Y) H) : va_at Y.1 vwCl (bY Y + 104, entK Y 104 (shC 104) (st0C 104)) H := by
  have h1 : va_at Y.1 vwCl (bY Y + 104, (.inr (2, [Rf Y 105, .int 0]) : va_E)) H := h.2 104 _ rfl
  rw [skC_104]
  exact h1
theorem f10_105 {Y : YT} {H : Heap} (h : RepL Y (fl10 Y) H) : va_at Y.1 vwCl (bY Y + 105, entK Y 105 (shC 105) (st0C 105)) H := by
  have h1 : va_at Y.1 vwCl (bY Y + 105, (.inl (Y.2.1.1, 40, .inl (fun _ => 0)) : va_E)) H := h.2 105 _ rfl
  rw [skC_105]
  exact h1
theorem f10_106 {Y : YT} {H : Heap} (h : RepL Y (fl10 Y) H) : va_at Y.1 vwCl (bY Y + 106, entK Y 106 (shC 106) (st0C 106)) H := by
  have h1 : va_at Y.1 vwCl (bY Y + 106, (.inr (5, [.int 0, Rf Y 107]) : va_E)) H := h.2 106 _ rfl
  rw [skC_106]
  exact h1
theorem f10_107 {Y : YT} {H : Heap} (h : RepL Y (fl10 Y) H) : va_at Y.1 vwCl (bY Y + 107, entK Y 107 (shC 107) (st0C 107)) H := by
  have h1 : va_at Y.1 vwCl (bY Y + 107, (.inr (2, [Rf Y 108, .int 0]) : va_E)) H := h.2 107 _ rfl
  rw [skC_107]
  exact h1
theorem f10_108 {Y : YT} {H : Heap} (h : RepL Y (fl10 Y) H) : va_at Y.1 vwCl (bY Y + 108, entK Y 108 (shC 108) (st0C 108)) H := by
  have h1 : va_at Y.1 vwCl (bY Y + 108, (.inl (Y.2.1.1, 40, .inl (fun _ => 0)) : va_E)) H := h.2 108 _ rfl
  rw [skC_108]
  exact h1
theorem f10_109 {Y : YT} {H : Heap} (h : RepL Y (fl10 Y) H) : va_at Y.1 vwCl (bY Y + 109, entK Y 109 (shC 109) (st0C 109)) H := by
  have h1 : va_at Y.1 vwCl (bY Y + 109, (.inr (5, [.int 0, Rf Y 110]) : va_E)) H := h.2 109 _ rfl
  rw [skC_109]
  exact h1
theorem f10_110 {Y : YT} {H : Heap} (h : RepL Y (fl10 Y) H) : va_at Y.1 vwCl (bY Y + 110, entK Y 110 (shC 110) (st0C 110)) H := by
  have h1 : va_at Y.1 vwCl (bY Y + 110, (.inr (2, [Rf Y 111, .int 0]) : va_E)) H := h.2 110 _ rfl
  rw [skC_110]
  exact h1
theorem f10_111 {Y : YT} {H : Heap} (h : RepL Y (fl10 Y) H) : va_at Y.1 vwCl (bY Y + 111, entK Y 111 (shC 111) (st0C 111)) H := by
  have h1 : va_at Y.1 vwCl (bY Y + 111, (.inl (Y.2.1.1, 40, .inl (fun _ => 0)) : va_E)) H := h.2 111 _ rfl
  rw [skC_111]
  exact h1
theorem full10 {Y : YT} {H : Heap} (h0 : RepL Y (fin10 Y) H) : RepS FC Y st0C H := by
  have h : RepL Y (fl10 Y) H := fl10_eq Y ▸ h0
  have a0 : ∀ a, a < 0 → va_at Y.1 vwCl (bY Y + a, entK Y a (shC a) (st0C a)) H := lt_0
  have a1 := lt_s a0 (f10_0 h)
  have a2 := lt_s a1 (f10_1 h)
  have a3 := lt_s a2 (f10_2 h)
  have a4 := lt_s a3 (f10_3 h)
  have a5 := lt_s a4 (f10_4 h)
  have a6 := lt_s a5 (f10_5 h)
  have a7 := lt_s a6 (f10_6 h)
  have a8 := lt_s a7 (f10_7 h)
  have a9 := lt_s a8 (f10_8 h)
  have a10 := lt_s a9 (f10_9 h)
  have a11 := lt_s a10 (f10_10 h)
  have a12 := lt_s a11 (f10_11 h)
  have a13 := lt_s a12 (f10_12 h)
  have a14 := lt_s a13 (f10_13 h)
  have a15 := lt_s a14 (f10_14 h)
  have a16 := lt_s a15 (f10_15 h)
  have a17 := lt_s a16 (f10_16 h)
  have a18 := lt_s a17 (f10_17 h)
  have a19 := lt_s a18 (f10_18 h)
  have a20 := lt_s a19 (f10_19 h)
  have a21 := lt_s a20 (f10_20 h)
  have a22 := lt_s a21 (f10_21 h)
  have a23 := lt_s a22 (f10_22 h)
  have a24 := lt_s a23 (f10_23 h)
  have a25 := lt_s a24 (f10_24 h)
  have a26 := lt_s a25 (f10_25 h)
  have a27 := lt_s a26 (f10_26 h)
  have a28 := lt_s a27 (f10_27 h)
  have a29 := lt_s a28 (f10_28 h)
  have a30 := lt_s a29 (f10_29 h)
  have a31 := lt_s a30 (f10_30 h)
  have a32 := lt_s a31 (f10_31 h)
  have a33 := lt_s a32 (f10_32 h)
  have a34 := lt_s a33 (f10_33 h)
  have a35 := lt_s a34 (f10_34 h)
  have a36 := lt_s a35 (f10_35 h)
  have a37 := lt_s a36 (f10_36 h)
  have a38 := lt_s a37 (f10_37 h)
  have a39 := lt_s a38 (f10_38 h)
  have a40 := lt_s a39 (f10_39 h)
  have a41 := lt_s a40 (f10_40 h)
  have a42 := lt_s a41 (f10_41 h)
  have a43 := lt_s a42 (f10_42 h)
  have a44 := lt_s a43 (f10_43 h)
  have a45 := lt_s a44 (f10_44 h)
  have a46 := lt_s a45 (f10_45 h)
  have a47 := lt_s a46 (f10_46 h)
  have a48 := lt_s a47 (f10_47 h)
  have a49 := lt_s a48 (f10_48 h)
  have a50 := lt_s a49 (f10_49 h)
  have a51 := lt_s a50 (f10_50 h)
  have a52 := lt_s a51 (f10_51 h)
  have a53 := lt_s a52 (f10_52 h)
  have a54 := lt_s a53 (f10_53 h)
  have a55 := lt_s a54 (f10_54 h)
  have a56 := lt_s a55 (f10_55 h)
  have a57 := lt_s a56 (f10_56 h)
  have a58 := lt_s a57 (f10_57 h)
  have a59 := lt_s a58 (f10_58 h)
  have a60 := lt_s a59 (f10_59 h)
  have a61 := lt_s a60 (f10_60 h)
  have a62 := lt_s a61 (f10_61 h)
  have a63 := lt_s a62 (f10_62 h)
  have a64 := lt_s a63 (f10_63 h)
  have a65 := lt_s a64 (f10_64 h)
  have a66 := lt_s a65 (f10_65 h)
  have a67 := lt_s a66 (f10_66 h)
  have a68 := lt_s a67 (f10_67 h)
  have a69 := lt_s a68 (f10_68 h)
  have a70 := lt_s a69 (f10_69 h)
  have a71 := lt_s a70 (f10_70 h)
  have a72 := lt_s a71 (f10_71 h)
  have a73 := lt_s a72 (f10_72 h)
  have a74 := lt_s a73 (f10_73 h)
  have a75 := lt_s a74 (f10_74 h)
  have a76 := lt_s a75 (f10_75 h)
  have a77 := lt_s a76 (f10_76 h)
  have a78 := lt_s a77 (f10_77 h)
  have a79 := lt_s a78 (f10_78 h)
  have a80 := lt_s a79 (f10_79 h)
  have a81 := lt_s a80 (f10_80 h)
  have a82 := lt_s a81 (f10_81 h)
  have a83 := lt_s a82 (f10_82 h)
  have a84 := lt_s a83 (f10_83 h)
  have a85 := lt_s a84 (f10_84 h)
  have a86 := lt_s a85 (f10_85 h)
  have a87 := lt_s a86 (f10_86 h)
  have a88 := lt_s a87 (f10_87 h)
  have a89 := lt_s a88 (f10_88 h)
  have a90 := lt_s a89 (f10_89 h)
  have a91 := lt_s a90 (f10_90 h)
  have a92 := lt_s a91 (f10_91 h)
  have a93 := lt_s a92 (f10_92 h)
  have a94 := lt_s a93 (f10_93 h)
  have a95 := lt_s a94 (f10_94 h)
  have a96 := lt_s a95 (by
    show va_at Y.1 vwCl (bY Y + 95, .inl (Y.2.1.2.1, 4, .inr (.inr (.inr (.inr (fun i => some (bY Y + (95 + 5 + 3 * i)))))))) H
    refine (h.2 95 _ rfl).trans (congrArg some ?_)
    rw [vp_cell_q, vp_cell_q]
    exact arrV_congr _ (fun i hi => by
      have : i = 0 ∨ i = 1 ∨ i = 2 ∨ i = 3 := by omega
      rcases this with h | h | h | h <;> subst h <;> rfl))
  have a97 := lt_s a96 (f10_96 h)
  have a98 := lt_s a97 (f10_97 h)
  have a99 := lt_s a98 (f10_98 h)
  have a100 := lt_s a99 (f10_99 h)
  have a101 := lt_s a100 (f10_100 h)
  have a102 := lt_s a101 (f10_101 h)
  have a103 := lt_s a102 (f10_102 h)
  have a104 := lt_s a103 (f10_103 h)
  have a105 := lt_s a104 (f10_104 h)
  have a106 := lt_s a105 (f10_105 h)
  have a107 := lt_s a106 (f10_106 h)
  have a108 := lt_s a107 (f10_107 h)
  have a109 := lt_s a108 (f10_108 h)
  have a110 := lt_s a109 (f10_109 h)
  have a111 := lt_s a110 (f10_110 h)
  have a112 := lt_s a111 (f10_111 h)
  exact a112
theorem zeros_ex : ∃ s, f_X2_zeros 98 6 st0C = some s ∧ rowN s 98 6 ∧ (∀ q, q ≠ 98 → q ≠ 99 → s q = st0C q) ∧ (∀ j, j ≠ 1 → s 98 j = st0C 98 j) ∧ ∀ j, j < 6 → s 99 j = 0 := zeros_ok (c := 6) (n := 6) rfl (by decide) (by decide) st0C
noncomputable def st1C : St := Classical.choose zeros_ex
theorem zeros0 : f_X2_zeros 98 6 st0C = some st1C := (Classical.choose_spec zeros_ex).1
theorem st1C_ok : rowN st1C 98 6 ∧ (∀ q, q ≠ 98 → q ≠ 99 → st1C q = st0C q) ∧ (∀ j, j ≠ 1 → st1C 98 j = st0C 98 j) ∧ ∀ j, j < 6 → st1C 99 j = 0 := (Classical.choose_spec zeros_ex).2
theorem made10 {Y : YT} {X : XT} {H : Heap} {hp' : Prop} {σ : St} {n : Nat} (hh : RepL Y [.inr (10, [.null, .null, .null, .null, .null, .null, .null, .int 0])] (sX X).heap) (h : RepS FC Y σ H) (hb : H.size ≤ (sX X).heap.size + n) (hn : n = 111 := by rfl) : H.size = bY Y + 112 := by
  have h1 := (h 111 (by decide)).lt
  have h2 : (sX X).heap.size = bY Y + 1 := hh.1
  have h3 : bY Y + 111 < H.size := h1
  omega
