/-! making: the cells made so far are a list, at bY Y and on -/
def RepL (Y : YT) (l : List va_E) (H : Heap) : Prop := H.size = bY Y + l.length ∧ ∀ (k : Nat) (e : va_E), l[k]? = some e → va_at Y.1 vwCl (bY Y + k, e) H
def emL (Y : YT) (l : List va_E) : Unit → Option Value × (Heap → Prop) := fun _ => (none, RepL Y l)
abbrev CxI (F : FT) (Y : YT) (X : XT) (cc : ByteArray) (nL : Nat) (own : String) (d : Nat) (zf : Nat × Nat) : Prop := Cx F Y X cc nL own none d zf ∧ X.2.2.2.2.2.2.2.2.1.name = "<init>"
theorem Ct.ofGi {ρ : Type} {F : FT} {Y : YT} {y : MethodName} {cc : ByteArray} {maxL : Nat} {d mc ms : Nat} {as : List Value} {hp : Heap → Prop} {em : ρ → Option Value × (Heap → Prop)} {o : Option ρ}
    (hy : plainName y.cls = true) (hi : y.name = "<init>") (hlen : (lg_sl as).length ≤ maxL)
    (body : ∀ X : XT, CxI F Y X cc maxL y.cls d (mc, ms) → G F Y X maxL em (mc, ms) (0, 0) 0 (lv_args 0 as) [] hp o) : ∀ r, o = some r → Ct F Y y cc maxL none d mc ms as hp (em r).1 (em r).2 := by
  intro r hr l
  refine Met.ofW (cc := cc) (maxL := maxL) (ret := none) hy rfl ?_
  intro p e s m args below meth c s₁ B hml hv
  obtain ⟨rfl, hh, hE⟩ := hv
  have hts := atoms_spec (ws := Cond.code y cc maxL none :: TB) B.pre
  have hin : meth.name = "<init>" := ((name_of_methodNamed B.named B.method).1).trans hi
  have k := body (p, l, e, rmD d mc ms, s, m, as.toArray, below, meth, c) ⟨⟨B.exec, B.bytes, hml, findClass_of_methodNamed B.named, fun w hw => hts w (List.mem_cons_of_mem _ hw), hE, B.notSynchronized, B.returns, rfl⟩, hin⟩
  rw [lg_entry_eq]
  exact k r hr _ _ _ (lv_entry as hlen) hh va_S.rf
theorem AF_lt {F : FT} {Y : YT} {k : Nat} (h : k < F.2) : AF F Y (bY Y + k) := ⟨Nat.le_add_right _ _, Nat.add_lt_add_left h _⟩
theorem RepL.push {Y : YT} {l : List va_E} {e : va_E} {H H1 : Heap} (h : RepL Y l H) (hs : H1.size = bY Y + l.length + 1) (h1 : va_at Y.1 vwCl (bY Y + l.length, e) H1) (ho : ∀ q, q < bY Y + l.length → H1[q]? = H[q]?) : RepL Y (l ++ [e]) H1 := by
  refine ⟨by rw [hs, List.length_append]; rfl, fun k x hx => ?_⟩
  by_cases hk : k < l.length
  · rw [List.getElem?_append_left hk] at hx
    exact (h.2 k x hx).kept (ho _ (Nat.add_lt_add_left hk _))
  · rw [List.getElem?_append_right (Nat.le_of_not_lt hk)] at hx
    have hz : k - l.length < 1 := (List.getElem?_eq_some_iff.mp hx).1
    rw [show k - l.length = 0 by omega] at hx
    cases hx
    rw [show k = l.length by omega]
    exact h1
theorem RepL.set {Y : YT} {l : List va_E} {k : Nat} {e : va_E} {H H1 : Heap} (h : RepL Y l H) (hk : k < l.length) (hs : H1.size = H.size) (h1 : va_at Y.1 vwCl (bY Y + k, e) H1) (ho : ∀ q, q ≠ bY Y + k → H1[q]? = H[q]?) : RepL Y (l.set k e) H1 := by
  refine ⟨by rw [hs, h.1, List.length_set], fun j x hx => ?_⟩
  by_cases hj : j = k
  · subst hj
    rw [List.getElem?_set_self hk] at hx
    cases hx
    exact h1
  · rw [List.getElem?_set_ne (fun q => hj q.symm)] at hx
    exact (h.2 j x hx).kept (ho _ (by omega))
section MAKE
variable {ρ : Type} {F : FT} {Y : YT} {X : XT} {cc : ByteArray} {nL : Nat} {own : String} {d : Nat} {zf z : Nat × Nat} {em : ρ → Option Value × (Heap → Prop)} {pc : Nat} {lv : List (Nat × Value)} {rest st : List Value} {hp hp' : Heap → Prop} {o : Option ρ} {idx : Nat} {l : List va_E}
theorem G.imp {ret : Option FieldType} (C : Cx F Y X cc nL own ret d zf) (h : ∀ H, hp H → hp' H) (k : G F Y X nL em zf z pc lv st hp' o) : G F Y X nL em zf z pc lv st hp o := fun r hr ls H locs h1 h2 h3 => k r hr ls H locs h1 (h H h2) h3
theorem G.zc {z' : Nat × Nat} (h : z = z') (k : G F Y X nL em zf z' pc lv st hp o) : G F Y X nL em zf z pc lv st hp o := h ▸ k
theorem G.cast {l' : List va_E} (h : l = l') (k : G F Y X nL em zf z pc lv st (RepL Y l') o) : G F Y X nL em zf z pc lv st (RepL Y l) o := h ▸ k
theorem c_new (C : CxI F Y X cc nL own d zf) {ci N : Nat} {RC : String} {T : u_T} (hc : vwCl[ci]? = some (RC, T, N)) (hin : ∀ w ∈ u_ws RC T N, w ∈ TB) (ty : Nat → FieldType) (hty : ∀ k, k < N → parseFieldDescriptor (T k).2.2.1 = some (ty k)) (hcl : Cond.classLink own idx RC ∈ TB) (hinst : Cond.instantiable RC N ∈ TB) (hini : Cond.initialized RC ∈ TB)
    {fs : List Value} (hfs : ∀ j, j < N → defaultValue (ty j) = vp_V fs j) {n : Nat} (hn : l.length = n) (hlt : n < F.2) (hz : z.1 + 1 ≤ zf.1 ∧ z.2 + N ≤ zf.2) (dd : decode cc pc = .ok (.new idx, 3)) (k : G F Y X nL em zf (z.1 + 1, z.2 + N) (pc + 3) lv (Rf Y n :: rest) (RepL Y (l ++ [.inr (ci, fs)])) o) : G F Y X nL em zf z pc lv rest (RepL Y l) o := by
  subst hn
  intro r hr ls H locs h1 h2 h3
  have C := C.1
  have hts := C.2.2.2.2.1
  have hKn := C.2.2.2.2.2.1.1.1 ci _ hc
  have hR := C.2.2.2.2.2.2.2.2
  refine W.newcK (h := bY Y + l.length) C.1 C.2.1 C.2.2.2.1 (hts _ hcl) (hts _ hinst) (hts _ hini) rfl dd (by rw [hR]; exact hz.1) (by rw [hR]; exact hz.2) hKn.2.1 h2.1 fun H1 kC hkC e1 z1 o1 => ?_
  refine k r hr ls H1 locs h1 (h2.push z1 ⟨_, hc, (u_born ty hts hin hKn hkC e1 hty).to hfs⟩ o1) ⟨Nat.le_trans h3.1 (by rw [h2.1, z1]; omega), fun q a1 a2 => ?_, h3.2.2⟩
  rw [o1 q (by have := Nat.lt_of_lt_of_le a1 h3.1; rw [h2.1] at this; exact this)]
  exact h3.2.1 q a1 a2
theorem c_newa (C : CxI F Y X cc nL own d zf) {a0 : Int32} {N n : Nat} (ha : ¬ a0 < 0) (hN : a0.toNatClampNeg = N) (hN2 : N ≤ 1000) (hn : l.length = n) (hz : z.1 + 1 ≤ zf.1 ∧ z.2 + N ≤ zf.2) (harr : Cond.arrayClass .int ∈ TB) (dd : decode cc pc = .ok (.newarray .int, 2)) (k : G F Y X nL em zf (z.1 + 1, z.2 + N) (pc + 2) lv (Rf Y n :: rest) (RepL Y (l ++ [.inl (Y.2.1.1, N, .inl (fun _ => 0))])) o) : G F Y X nL em zf z pc lv (.int a0 :: rest) (RepL Y l) o := by
  subst hn
  subst hN
  intro r hr ls H locs h1 h2 h3
  have C := C.1
  have hts := C.2.2.2.2.1
  have hR := C.2.2.2.2.2.2.2.2
  have hT := C.2.2.2.2.2.1.1.2 0 _ rfl
  refine W.newa C.1 C.2.1 (atype := .int) (hts _ harr) rfl dd rfl ha (by show _ * 4 ≤ _; omega) (by rw [hR]; exact hz.1) (by rw [hR]; exact hz.2) fun cA kA comp e1 e2 e3 => ?_
  have hcA : cA = Y.2.1.1 := Option.some.inj (e1.symm.trans hT.2)
  subst hcA
  rw [show (defaultValue (newarray.typeOf .int)) = Value.int 0 from rfl, arrV_new, show Value.ref H.size = Rf Y l.length by rw [h2.1]]
  refine k r hr ls _ locs h1 (h2.push (by rw [Array.size_push, h2.1]) ?_ (fun q hq => ?_)) ⟨Nat.le_trans h3.1 (by rw [Array.size_push]; omega), fun q a1 a2 => ?_, h3.2.2⟩
  · show (H.push _)[bY Y + l.length]? = some (vp_cell _ _)
    rw [← h2.1, Array.getElem?_push, if_pos rfl]
    rfl
  · rw [Array.getElem?_push, if_neg (by rw [h2.1]; omega)]
  · rw [Array.getElem?_push, if_neg (by have := h3.1; omega)]
    exact h3.2.1 q a1 a2
theorem c_anew (C : CxI F Y X cc nL own d zf) {a0 : Int32} {N n : Nat} {nm : String} {cA0 : ClassId} (t0 : Nat) (ht : (tysY Y)[t0]? = some (cA0, .object nm)) (ha : ¬ a0 < 0) (hN : a0.toNatClampNeg = N) (hN2 : N ≤ 1000) (hn : l.length = n) (hz : z.1 + 1 ≤ zf.1 ∧ z.2 + N ≤ zf.2) (hcl : Cond.classLink own idx nm ∈ TB) (hov : va_AO nm (sX X)) (dd : decode cc pc = .ok (.anewarray idx, 3)) (k : G F Y X nL em zf (z.1 + 1, z.2 + N) (pc + 3) lv (Rf Y n :: rest) (RepL Y (l ++ [.inl (cA0, N, .inr (.inr (.inr (.inr (fun _ => none)))))])) o) : G F Y X nL em zf z pc lv (.int a0 :: rest) (RepL Y l) o := by
  subst hn
  subst hN
  intro r hr ls H locs h1 h2 h3
  have C := C.1
  have hts := C.2.2.2.2.1
  have hR := C.2.2.2.2.2.2.2.2
  obtain ⟨-, kA0, comp0, g1, g2, g3, g4⟩ := C.2.2.2.2.2.1.1.2 t0 _ ht
  refine W.anew C.1 C.2.1 C.2.2.2.1 (hts _ hcl) (va_AO.use hov) rfl dd rfl ha (by omega) (by rw [hR]; exact hz.1) (by rw [hR]; exact hz.2) fun cA kA comp e1 e2 e3 e4 => ?_
  have hcA : cA = cA0 := Option.some.inj (e1.symm.trans g4)
  subst hcA
  rw [arrV_new, show Value.ref H.size = Rf Y l.length by rw [h2.1]]
  refine k r hr ls _ locs h1 (h2.push (by rw [Array.size_push, h2.1]) ?_ (fun q hq => ?_)) ⟨Nat.le_trans h3.1 (by rw [Array.size_push]; omega), fun q a1 a2 => ?_, h3.2.2⟩
  · show (H.push _)[bY Y + l.length]? = some (vp_cell _ _)
    rw [← h2.1, Array.getElem?_push, if_pos rfl]
    rfl
  · rw [Array.getElem?_push, if_neg (by rw [h2.1]; omega)]
  · rw [Array.getElem?_push, if_neg (by have := h3.1; omega)]
    exact h3.2.1 q a1 a2
theorem c_put (C : CxI F Y X cc nL own d zf) {P Q : List va_E} {kk : Nat} (hP : P.length = kk) {ci N : Nat} {T : u_T} (hc : vwCl[ci]? = some (own, T, N)) (hin : ∀ w ∈ u_ws own T N, w ∈ TB) (ty0 : Nat → FieldType) (hty : ∀ k, k < N → parseFieldDescriptor (T k).2.2.1 = some (ty0 k)) (hnm : ∀ a, a < N → ∀ b, b < N → a ≠ b → (T a).2.1 ≠ (T b).2.1)
    (j : Nat) (hj : j < N) (hlink : Cond.fieldLink own idx own (T j).2.1 (T j).2.2.1 ∈ TB) (hdecl : (T j).1 = own) {fs : List Value} {v : Value} {ty : FieldType} (hd : parseFieldDescriptor (T j).2.2.1 = some ty) (hn : narrow ty v = v) (hfit : fits ty v = true) (hl : j < fs.length) (hlt : kk < F.2) (dd : decode cc pc = .ok (.putfield idx, 3))
    (k : G F Y X nL em zf z (pc + 3) lv rest (RepL Y (P ++ .inr (ci, fs.set j v) :: Q)) o) : G F Y X nL em zf z pc lv (v :: Rf Y kk :: rest) (RepL Y (P ++ .inr (ci, fs) :: Q)) o := by
  subst hP
  intro r hr ls H locs h1 h2 h3
  obtain ⟨C, hname⟩ := C
  have hts := C.2.2.2.2.1
  have hK := C.2.2.2.2.2.1.1
  have hap := va_apart (own := own) hts hin ty0 hty hnm hK hc
  obtain ⟨r', e1, cell, q1, q2, q3, q4⟩ := h2.2 P.length (.inr (ci, fs)) (by simp)
  have hr' : r' = (own, T, N) := Option.some.inj (e1.symm.trans hc)
  subst hr'
  obtain ⟨hS, hfc, kC, hkC, hkind⟩ := hK.1 ci _ hc
  obtain ⟨cf, kf, fi, f, hi, hsl⟩ := hS j hj
  have hlay := hts _ (hin _ (u_in_lay hj))
  have hst := (u_facts hfc hkC (u_lays hts hin hj) hi).1
  have hi' : (sX X).fieldFound? own (T j).2.1 (T j).2.2.1 = some (cf, kf, fi, f) := by rw [hdecl] at hi; exact hi
  have fin : ∀ H' : Heap, H'[bY Y + P.length]? = some (cell.setSlot f.slot v) → H'.size = H.size → (∀ q, q ≠ bY Y + P.length → H'[q]? = H[q]?) → W X.1 X.2.1 X.2.2.1 X.2.2.2.1 (sX X) X.2.2.2.2.2.1 X.2.2.2.2.2.2.1 X.2.2.2.2.2.2.2.1 X.2.2.2.2.2.2.2.2.1 X.2.2.2.2.2.2.2.2.2 H' (locs ++ [⟨bY Y + P.length, f.slot⟩]) z.1 z.2 (MQ X.2.2.2.2.2.2.2.1 (Qof (AF F Y) (em r).1 (em r).2) X.2.2.2.2.2.2.1 (sX X) zf.1 zf.2 (AF F Y)) (F0 X.2.2.2.2.2.1 (pc + 3) ls rest) := by
    intro H' e1 e2 e3
    rw [hsl] at e1 ⊢
    have hset := h2.set (k := P.length) (e := .inr (ci, fs.set j v)) (by simp) e2 ⟨_, hc, t_OB.to (V := updV (vp_V fs) j v) ⟨_, e1, q2, q3, t_set q4 hap hj v⟩ (fun i _ => vp_updV_set hl v i)⟩ e3
    rw [show (P ++ (.inr (ci, fs) : va_E) :: Q).set P.length (.inr (ci, fs.set j v)) = P ++ .inr (ci, fs.set j v) :: Q by simp [List.set_append]] at hset
    exact k r hr ls H' _ h1 hset (h3.put e2 e3 (AF_lt hlt))
  unfold u_lay at hlay
  by_cases hfin : (T j).2.2.2 = true
  · rw [if_pos hfin] at hlay
    have hcf : X.2.2.2.2.2.1.cls = cf := by
      obtain ⟨_, _, c', _, _, _, -, -, hf', -, -, -, hown2, -⟩ := Cond.laysFinal_spec hlay
      have e1 : c' = cf := by have := hi.symm.trans hf'; simp at this; exact this.1.symm
      rw [hdecl] at hown2
      rw [← e1]; exact Option.some.inj (C.2.2.2.1.symm.trans hown2)
    have h6 := u_fits hfc hkC hkind (Or.inr hlay) hi hd hn hfit
    exact W.putFinK C.1 C.2.1 C.2.2.2.1 (hts _ hlink) hi' hst hcf hname (by rw [q2]; exact h6) q1 q3 (by rw [hsl]; exact k2_hasslot (q4 j hj)) rfl rfl dd fin
  · rw [if_neg hfin] at hlay
    have h6 := u_store hfc hkC hkind hlay hi hd hn hfit
    exact W.putK C.1 C.2.1 (f := f) ⟨C.2.2.2.1, hts _ hlink, ⟨_, _, _, hi'⟩, hst⟩ (by rw [q2]; exact h6) q1 q3 (by rw [hsl]; exact k2_hasslot (q4 j hj)) rfl rfl dd fin
theorem c_obj (C : CxI F Y X cc nL own d zf) {a : Nat} (hl : Cond.methodLink own idx Lib.objectInit ∈ TB) (hi : Cond.instanceMethod Lib.objectInit ∈ TB) (hcd : Cond.code Lib.objectInit ⟨#[0xb1]⟩ 1 none ∈ TB) (hd : 1 ≤ d) (hW : (rest.map fun v => v.category).sum ≤ 8) (dd : decode cc pc = .ok (.invokespecial idx, 3)) (k : G F Y X nL em zf z (pc + 3) lv rest hp o) : G F Y X nL em zf z pc lv (.ref a :: rest) hp o := by
  intro r hr ls H locs h1 h2 h3
  have C := C.1
  have hts := C.2.2.2.2.1
  have hR := C.2.2.2.2.2.2.2.2
  have hr0 := lv_room (m := X.2.2.2.2.2.1) (pc := pc) (ls := ls) (rest := .ref a :: rest) hW
  refine W.objInit C.1 C.2.1 C.2.2.2.1 (hts _ hl) (hts _ hi) (hts _ hcd) rfl (h1.1.trans C.2.2.1.symm) rfl dd (by rw [hR]; exact hd) ?_ (k r hr ls H locs h1 h2 h3)
  rw [hR]
  show _ ≤ 64 * d
  omega
end MAKE

theorem len_ap {P L : List va_E} {k c : Nat} (hP : P.length = k) (hL : L.length = c) : (P ++ L).length = k + c := by rw [List.length_append, hP, hL]
theorem app3 (P : List va_E) (V : va_E) (Q O : List va_E) : (P ++ V :: Q) ++ O = P ++ V :: (Q ++ O) := by simp
theorem dflt_0 : ∀ j, j < 2 → defaultValue (tyX0 j) = vp_V [.null, .null] j := by
  intro j hj
  have : j = 0 ∨ j = 1 := by omega
  rcases this with h | h <;> subst h <;> rfl
theorem dflt_1 : ∀ j, j < 4 → defaultValue (tyX1 j) = vp_V [.null, .null, .null, .int 0] j := by
  intro j hj
  have : j = 0 ∨ j = 1 ∨ j = 2 ∨ j = 3 := by omega
  rcases this with h | h | h | h <;> subst h <;> rfl
theorem dflt_2 : ∀ j, j < 2 → defaultValue (tyX2 j) = vp_V [.null, .int 0] j := by
  intro j hj
  have : j = 0 ∨ j = 1 := by omega
  rcases this with h | h <;> subst h <;> rfl
theorem dflt_3 : ∀ j, j < 6 → defaultValue (tyX3 j) = vp_V [.int 0, .int 0, .int 0, .int 0, .int 0, .int 0] j := by
  intro j hj
  have : j = 0 ∨ j = 1 ∨ j = 2 ∨ j = 3 ∨ j = 4 ∨ j = 5 := by omega
  rcases this with h | h | h | h | h | h <;> subst h <;> rfl
theorem dflt_4 : ∀ j, j < 6 → defaultValue (tyX4 j) = vp_V [.null, .null, .null, .null, .null, .null] j := by
  intro j hj
  have : j = 0 ∨ j = 1 ∨ j = 2 ∨ j = 3 ∨ j = 4 ∨ j = 5 := by omega
  rcases this with h | h | h | h | h | h <;> subst h <;> rfl
theorem dflt_5 : ∀ j, j < 2 → defaultValue (tyX5 j) = vp_V [.int 0, .null] j := by
  intro j hj
  have : j = 0 ∨ j = 1 := by omega
  rcases this with h | h <;> subst h <;> rfl
theorem dflt_6 : ∀ j, j < 3 → defaultValue (tyX6 j) = vp_V [.null, .null, .int 0] j := by
  intro j hj
  have : j = 0 ∨ j = 1 ∨ j = 2 := by omega
  rcases this with h | h | h <;> subst h <;> rfl
theorem dflt_7 : ∀ j, j < 14 → defaultValue (tyX7 j) = vp_V [.int 0, .int 0, .int 0, .int 0, .null, .null, .null, .null, .null, .null, .null, .null, .null, .int 0] j := by
  intro j hj
  have : j = 0 ∨ j = 1 ∨ j = 2 ∨ j = 3 ∨ j = 4 ∨ j = 5 ∨ j = 6 ∨ j = 7 ∨ j = 8 ∨ j = 9 ∨ j = 10 ∨ j = 11 ∨ j = 12 ∨ j = 13 := by omega
  rcases this with h | h | h | h | h | h | h | h | h | h | h | h | h | h <;> subst h <;> rfl
theorem dflt_8 : ∀ j, j < 4 → defaultValue (tyX8 j) = vp_V [.null, .int 0, .int 0, .int 0] j := by
  intro j hj
  have : j = 0 ∨ j = 1 ∨ j = 2 ∨ j = 3 := by omega
  rcases this with h | h | h | h <;> subst h <;> rfl
theorem dflt_9 : ∀ j, j < 4 → defaultValue (tyX9 j) = vp_V [.null, .null, .null, .int 0] j := by
  intro j hj
  have : j = 0 ∨ j = 1 ∨ j = 2 ∨ j = 3 := by omega
  rcases this with h | h | h | h <;> subst h <;> rfl
theorem dflt_10 : ∀ j, j < 8 → defaultValue (tyX10 j) = vp_V [.null, .null, .null, .null, .null, .null, .null, .int 0] j := by
  intro j hj
  have : j = 0 ∨ j = 1 ∨ j = 2 ∨ j = 3 ∨ j = 4 ∨ j = 5 ∨ j = 6 ∨ j = 7 := by omega
  rcases this with h | h | h | h | h | h | h | h <;> subst h <;> rfl
theorem dflt_11 : ∀ j, j < 23 → defaultValue (tyX11 j) = vp_V [.null, .null, .null, .int 0, .null, .null, .int 0, .int 0, .int 0, .int 0, .null, .int 0, .null, .null, .null, .int 0, .int 0, .int 0, .int 0, .null, .null, .null, .null] j := by
  intro j hj
  have : j = 0 ∨ j = 1 ∨ j = 2 ∨ j = 3 ∨ j = 4 ∨ j = 5 ∨ j = 6 ∨ j = 7 ∨ j = 8 ∨ j = 9 ∨ j = 10 ∨ j = 11 ∨ j = 12 ∨ j = 13 ∨ j = 14 ∨ j = 15 ∨ j = 16 ∨ j = 17 ∨ j = 18 ∨ j = 19 ∨ j = 20 ∨ j = 21 ∨ j = 22 := by omega
  rcases this with h | h | h | h | h | h | h | h | h | h | h | h | h | h | h | h | h | h | h | h | h | h | h <;> subst h <;> rfl
def O_2 (Y : YT) (k : Nat) (m : Nat) : List va_E := (.inr (2, [Rf Y (k + 1), .int 0])) :: ([] ++ [.inl (Y.2.1.1, m, .inl (fun _ => 0))])
theorem ct_X2 {Y : YT} {P : List va_E} {k : Nat} {a : Int32} {m : Nat} (hP : P.length = k) (hk : k + 2 ≤ 112) (ha : a = nI m) (hm : m ≤ 1000) : Ct FC Y yX2_init cX2_init 2 none 1 1 m [Rf Y k, .int a] (RepL Y (P ++ [.inr (2, [.null, .int 0])])) none (RepL Y (P ++ O_2 Y k m)) := by
  have hmx : imax 0 a = nI m := by
    subst ha
    unfold imax
    split
    · rfl
    · rename_i h
      rcases Nat.eq_zero_or_pos m with h0 | h0
      · subst h0; rfl
      · exact absurd (show nI 0 < nI m from nI_lt h0 (by omega)) h
  have ha1 : ¬ imax 0 a < 0 := by rw [hmx]; exact nI_pos (by omega)
  have ha2 : (imax 0 a).toNatClampNeg = m := by rw [hmx]; exact nI_clamp (by omega)
  refine Ct.ofGi (em := emL Y (P ++ O_2 Y k m)) (o := some ()) (by decide) rfl (Nat.le_of_ble_eq_true rfl) (fun X C0 => ?_) () rfl
  have C : CxI FC Y X cX2_init 2 RX2 1 (1, m) := C0
  show G FC Y X 2 (emL Y (P ++ O_2 Y k m)) (1, m) (0, 0) 0 [(0, Rf Y k), (1, .int a)] [] (RepL Y (P ++ (.inr (2, [.null, .int 0])) :: [])) (some ())
  refine q_aload_n C.1 0 dX2_init_0 rfl ?_
  refine c_obj C (TB_of (List.mem_of_getElem? (i := 113) (by decide +kernel)) rfl) (TB_of (List.mem_of_getElem? (i := 94) (by decide +kernel)) rfl) (TB_of (List.mem_of_getElem? (i := 95) (by decide +kernel)) rfl) (Nat.le_of_ble_eq_true rfl) (Nat.le_of_ble_eq_true rfl) dX2_init_1 ?_
  refine q_aload_n C.1 0 dX2_init_4 rfl ?_
  refine q_iconst C.1 (v := 0) dX2_init_5 (by decide) ?_
  refine c_put (P := P) (Q := []) (fs := [.null, .int 0]) (v := .int 0) (ty := .int) C hP (ci := 2) (T := TX2) (N := 2) rfl in_X2 tyX2 tyX2_ok nmX2 1 (by decide) (TB_of (List.mem_of_getElem? (i := 118) (by decide +kernel)) rfl) rfl (by decide +kernel) rfl rfl (Nat.le_of_ble_eq_true rfl) (show k < 112 by omega) dX2_init_6 ?_
  show G FC Y X 2 _ _ _ _ _ _ (RepL Y (P ++ (.inr (2, [.null, .int 0])) :: [])) _
  refine q_aload_n C.1 0 dX2_init_9 rfl ?_
  refine q_iconst C.1 (v := 0) dX2_init_10 (by decide) ?_
  refine q_iload_n C.1 1 dX2_init_11 rfl ?_
  refine q_mmaxz (z := (0, 0)) C.1 (show 0 ≤ 1 ∧ 0 ≤ m by omega) (TB_of (List.mem_of_getElem? (i := 114) (by decide +kernel)) rfl) (Nat.le_of_ble_eq_true rfl) (Nat.le_of_ble_eq_true rfl) dX2_init_12 ?_
  refine c_newa (z := (0, 0)) (l := P ++ (.inr (2, [.null, .int 0])) :: []) C (N := m) (n := k + 1) ha1 ha2 hm (len_ap hP rfl) (show 0 + 1 ≤ 1 ∧ 0 + m ≤ m by omega) (TB_of (List.mem_of_getElem? (i := 124) (by decide +kernel)) rfl) dX2_init_15 ?_
  refine G.cast (app3 P _ ([]) ([.inl (Y.2.1.1, m, .inl (fun _ => 0))])) ?_
  refine c_put (P := P) (Q := ([] ++ [.inl (Y.2.1.1, m, .inl (fun _ => 0))])) (fs := [.null, .int 0]) (v := Rf Y (k + 1)) (ty := .array .int) C hP (ci := 2) (T := TX2) (N := 2) rfl in_X2 tyX2 tyX2_ok nmX2 0 (by decide) (TB_of (List.mem_of_getElem? (i := 117) (by decide +kernel)) rfl) rfl (by decide +kernel) rfl rfl (Nat.le_of_ble_eq_true rfl) (show k < 112 by omega) dX2_init_17 ?_
  show G FC Y X 2 _ _ _ _ _ _ (RepL Y (P ++ (.inr (2, [Rf Y (k + 1), .int 0])) :: ([] ++ [.inl (Y.2.1.1, m, .inl (fun _ => 0))]))) _
  refine G.zc (z' := (1, m)) (by show (1, 0 + m) = (1, m); rw [Nat.zero_add m]) ?_
  exact q_vret C.1 rfl dX2_init_20
def O_3 (Y : YT) (k : Nat) : List va_E := (.inr (3, [.int 0, .int 0, .int 0, .int 0, .int 0, .int 0])) :: []
theorem ct_X3 {Y : YT} {P : List va_E} {k : Nat} (hP : P.length = k) (hk : k + 1 ≤ 112) : Ct FC Y yX3_init cX3_init 1 none 1 0 0 [Rf Y k] (RepL Y (P ++ [.inr (3, [.int 0, .int 0, .int 0, .int 0, .int 0, .int 0])])) none (RepL Y (P ++ O_3 Y k)) := by
  refine Ct.ofGi (em := emL Y (P ++ O_3 Y k)) (o := some ()) (by decide) rfl (Nat.le_of_ble_eq_true rfl) (fun X C0 => ?_) () rfl
  have C : CxI FC Y X cX3_init 1 RX3 1 (0, 0) := C0
  show G FC Y X 1 (emL Y (P ++ O_3 Y k)) (0, 0) (0, 0) 0 [(0, Rf Y k)] [] (RepL Y (P ++ (.inr (3, [.int 0, .int 0, .int 0, .int 0, .int 0, .int 0])) :: [])) (some ())
  refine q_aload_n C.1 0 dX3_init_0 rfl ?_
  refine c_obj C (TB_of (List.mem_of_getElem? (i := 224) (by decide +kernel)) rfl) (TB_of (List.mem_of_getElem? (i := 94) (by decide +kernel)) rfl) (TB_of (List.mem_of_getElem? (i := 95) (by decide +kernel)) rfl) (Nat.le_of_ble_eq_true rfl) (Nat.le_of_ble_eq_true rfl) dX3_init_1 ?_
  refine q_aload_n C.1 0 dX3_init_4 rfl ?_
  refine q_iconst C.1 (v := 0) dX3_init_5 (by decide) ?_
  refine c_put (P := P) (Q := []) (fs := [.int 0, .int 0, .int 0, .int 0, .int 0, .int 0]) (v := .int 0) (ty := .int) C hP (ci := 3) (T := TX3) (N := 6) rfl in_X3 tyX3 tyX3_ok nmX3 0 (by decide) (TB_of (List.mem_of_getElem? (i := 225) (by decide +kernel)) rfl) rfl (by decide +kernel) rfl rfl (Nat.le_of_ble_eq_true rfl) (show k < 112 by omega) dX3_init_6 ?_
  show G FC Y X 1 _ _ _ _ _ _ (RepL Y (P ++ (.inr (3, [.int 0, .int 0, .int 0, .int 0, .int 0, .int 0])) :: [])) _
  refine q_aload_n C.1 0 dX3_init_9 rfl ?_
  refine q_iconst C.1 (v := 0) dX3_init_10 (by decide) ?_
  refine c_put (P := P) (Q := []) (fs := [.int 0, .int 0, .int 0, .int 0, .int 0, .int 0]) (v := .int 0) (ty := .int) C hP (ci := 3) (T := TX3) (N := 6) rfl in_X3 tyX3 tyX3_ok nmX3 1 (by decide) (TB_of (List.mem_of_getElem? (i := 230) (by decide +kernel)) rfl) rfl (by decide +kernel) rfl rfl (Nat.le_of_ble_eq_true rfl) (show k < 112 by omega) dX3_init_11 ?_
  show G FC Y X 1 _ _ _ _ _ _ (RepL Y (P ++ (.inr (3, [.int 0, .int 0, .int 0, .int 0, .int 0, .int 0])) :: [])) _
  refine q_aload_n C.1 0 dX3_init_14 rfl ?_
  refine q_iconst C.1 (v := 0) dX3_init_15 (by decide) ?_
  refine c_put (P := P) (Q := []) (fs := [.int 0, .int 0, .int 0, .int 0, .int 0, .int 0]) (v := .int 0) (ty := .int) C hP (ci := 3) (T := TX3) (N := 6) rfl in_X3 tyX3 tyX3_ok nmX3 2 (by decide) (TB_of (List.mem_of_getElem? (i := 235) (by decide +kernel)) rfl) rfl (by decide +kernel) rfl rfl (Nat.le_of_ble_eq_true rfl) (show k < 112 by omega) dX3_init_16 ?_
  show G FC Y X 1 _ _ _ _ _ _ (RepL Y (P ++ (.inr (3, [.int 0, .int 0, .int 0, .int 0, .int 0, .int 0])) :: [])) _
  refine q_aload_n C.1 0 dX3_init_19 rfl ?_
  refine q_iconst C.1 (v := 0) dX3_init_20 (by decide) ?_
  refine c_put (P := P) (Q := []) (fs := [.int 0, .int 0, .int 0, .int 0, .int 0, .int 0]) (v := .int 0) (ty := .int) C hP (ci := 3) (T := TX3) (N := 6) rfl in_X3 tyX3 tyX3_ok nmX3 3 (by decide) (TB_of (List.mem_of_getElem? (i := 239) (by decide +kernel)) rfl) rfl (by decide +kernel) rfl rfl (Nat.le_of_ble_eq_true rfl) (show k < 112 by omega) dX3_init_21 ?_
  show G FC Y X 1 _ _ _ _ _ _ (RepL Y (P ++ (.inr (3, [.int 0, .int 0, .int 0, .int 0, .int 0, .int 0])) :: [])) _
  refine q_aload_n C.1 0 dX3_init_24 rfl ?_
  refine q_iconst C.1 (v := 0) dX3_init_25 (by decide) ?_
  refine c_put (P := P) (Q := []) (fs := [.int 0, .int 0, .int 0, .int 0, .int 0, .int 0]) (v := .int 0) (ty := .int) C hP (ci := 3) (T := TX3) (N := 6) rfl in_X3 tyX3 tyX3_ok nmX3 4 (by decide) (TB_of (List.mem_of_getElem? (i := 243) (by decide +kernel)) rfl) rfl (by decide +kernel) rfl rfl (Nat.le_of_ble_eq_true rfl) (show k < 112 by omega) dX3_init_26 ?_
  show G FC Y X 1 _ _ _ _ _ _ (RepL Y (P ++ (.inr (3, [.int 0, .int 0, .int 0, .int 0, .int 0, .int 0])) :: [])) _
  refine q_aload_n C.1 0 dX3_init_29 rfl ?_
  refine q_iconst C.1 (v := 0) dX3_init_30 (by decide) ?_
  refine c_put (P := P) (Q := []) (fs := [.int 0, .int 0, .int 0, .int 0, .int 0, .int 0]) (v := .int 0) (ty := .int) C hP (ci := 3) (T := TX3) (N := 6) rfl in_X3 tyX3 tyX3_ok nmX3 5 (by decide) (TB_of (List.mem_of_getElem? (i := 247) (by decide +kernel)) rfl) rfl (by decide +kernel) rfl rfl (Nat.le_of_ble_eq_true rfl) (show k < 112 by omega) dX3_init_31 ?_
  show G FC Y X 1 _ _ _ _ _ _ (RepL Y (P ++ (.inr (3, [.int 0, .int 0, .int 0, .int 0, .int 0, .int 0])) :: [])) _
  exact q_vret C.1 rfl dX3_init_34
theorem lk_X0_11 : LkI RX0 11 yX2_init cX2_init 2 1 := ⟨TB_p [185, 111, 72, 112] (by decide +kernel) (by decide +kernel), rfl, by decide +kernel, by decide +kernel, by decide +kernel⟩
def O_0 (Y : YT) (k : Nat) : List va_E := (.inr (0, [Rf Y (k + 1), Rf Y (k + 3)])) :: (([] ++ O_2 Y (k + 1) 6) ++ O_2 Y (k + 3) 6)
theorem ct_X0 {Y : YT} {P : List va_E} {k : Nat} (hP : P.length = k) (hk : k + 5 ≤ 112) : Ct FC Y yX0_init cX0_init 1 none 2 4 16 [Rf Y k] (RepL Y (P ++ [.inr (0, [.null, .null])])) none (RepL Y (P ++ O_0 Y k)) := by
  refine Ct.ofGi (em := emL Y (P ++ O_0 Y k)) (o := some ()) (by decide) rfl (Nat.le_of_ble_eq_true rfl) (fun X C0 => ?_) () rfl
  have C : CxI FC Y X cX0_init 1 RX0 2 (4, 16) := C0
  show G FC Y X 1 (emL Y (P ++ O_0 Y k)) (4, 16) (0, 0) 0 [(0, Rf Y k)] [] (RepL Y (P ++ (.inr (0, [.null, .null])) :: [])) (some ())
  refine q_aload_n C.1 0 dX0_init_0 rfl ?_
  refine c_obj C (TB_of (List.mem_of_getElem? (i := 183) (by decide +kernel)) rfl) (TB_of (List.mem_of_getElem? (i := 94) (by decide +kernel)) rfl) (TB_of (List.mem_of_getElem? (i := 95) (by decide +kernel)) rfl) (Nat.le_of_ble_eq_true rfl) (Nat.le_of_ble_eq_true rfl) dX0_init_1 ?_
  refine q_aload_n C.1 0 dX0_init_4 rfl ?_
  refine c_new (z := (0, 0)) (l := P ++ (.inr (0, [.null, .null])) :: []) C (ci := 2) (RC := RX2) (T := TX2) (N := 2) (fs := [.null, .int 0]) rfl in_X2 tyX2 tyX2_ok (TB_of (List.mem_of_getElem? (i := 184) (by decide +kernel)) rfl) (TB_of (List.mem_of_getElem? (i := 109) (by decide +kernel)) rfl) (TB_of (List.mem_of_getElem? (i := 72) (by decide +kernel)) rfl) (dflt_2) (n := k + 1) (len_ap hP rfl) (show k + 1 < 112 by omega) (by decide) dX0_init_5 ?_
  refine q_dup C.1 dX0_init_8 rfl ?_
  refine q_bipush C.1 (v := 6) dX0_init_9 (by decide) ?_
  refine q_callI (z := (1, 2)) C.1 lk_X0_11 (ct_X2 (P := P ++ (.inr (0, [.null, .null])) :: []) (k := k + 1) (a := 6) (m := 6) (len_ap hP rfl) (show k + 1 + 2 ≤ 112 by omega) (by decide) (by decide)) (Nat.le_of_ble_eq_true rfl) rfl (rest := [Rf Y (k + 1), Rf Y k]) rfl rfl (Nat.le_of_ble_eq_true rfl) dX0_init_11 (by decide) ?_
  refine G.cast (app3 P _ ([]) (O_2 Y (k + 1) 6)) ?_
  refine c_put (P := P) (Q := ([] ++ O_2 Y (k + 1) 6)) (fs := [.null, .null]) (v := Rf Y (k + 1)) (ty := .object "WellTold$Row") C hP (ci := 0) (T := TX0) (N := 2) rfl in_X0 tyX0 tyX0_ok nmX0 0 (by decide) (TB_of (List.mem_of_getElem? (i := 186) (by decide +kernel)) rfl) rfl (by decide +kernel) rfl rfl (Nat.le_of_ble_eq_true rfl) (show k < 112 by omega) dX0_init_14 ?_
  show G FC Y X 1 _ _ _ _ _ _ (RepL Y (P ++ (.inr (0, [Rf Y (k + 1), .null])) :: ([] ++ O_2 Y (k + 1) 6))) _
  refine q_aload_n C.1 0 dX0_init_17 rfl ?_
  refine c_new (z := (2, 8)) (l := P ++ (.inr (0, [Rf Y (k + 1), .null])) :: ([] ++ O_2 Y (k + 1) 6)) C (ci := 2) (RC := RX2) (T := TX2) (N := 2) (fs := [.null, .int 0]) rfl in_X2 tyX2 tyX2_ok (TB_of (List.mem_of_getElem? (i := 184) (by decide +kernel)) rfl) (TB_of (List.mem_of_getElem? (i := 109) (by decide +kernel)) rfl) (TB_of (List.mem_of_getElem? (i := 72) (by decide +kernel)) rfl) (dflt_2) (n := k + 3) (len_ap hP rfl) (show k + 3 < 112 by omega) (by decide) dX0_init_18 ?_
  refine q_dup C.1 dX0_init_21 rfl ?_
  refine q_bipush C.1 (v := 6) dX0_init_22 (by decide) ?_
  refine q_callI (z := (3, 10)) C.1 lk_X0_11 (ct_X2 (P := P ++ (.inr (0, [Rf Y (k + 1), .null])) :: ([] ++ O_2 Y (k + 1) 6)) (k := k + 3) (a := 6) (m := 6) (len_ap hP rfl) (show k + 3 + 2 ≤ 112 by omega) (by decide) (by decide)) (Nat.le_of_ble_eq_true rfl) rfl (rest := [Rf Y (k + 3), Rf Y k]) rfl rfl (Nat.le_of_ble_eq_true rfl) dX0_init_24 (by decide) ?_
  refine G.cast (app3 P _ (([] ++ O_2 Y (k + 1) 6)) (O_2 Y (k + 3) 6)) ?_
  refine c_put (P := P) (Q := (([] ++ O_2 Y (k + 1) 6) ++ O_2 Y (k + 3) 6)) (fs := [Rf Y (k + 1), .null]) (v := Rf Y (k + 3)) (ty := .object "WellTold$Row") C hP (ci := 0) (T := TX0) (N := 2) rfl in_X0 tyX0 tyX0_ok nmX0 1 (by decide) (TB_of (List.mem_of_getElem? (i := 189) (by decide +kernel)) rfl) rfl (by decide +kernel) rfl rfl (Nat.le_of_ble_eq_true rfl) (show k < 112 by omega) dX0_init_27 ?_
  show G FC Y X 1 _ _ _ _ _ _ (RepL Y (P ++ (.inr (0, [Rf Y (k + 1), Rf Y (k + 3)])) :: (([] ++ O_2 Y (k + 1) 6) ++ O_2 Y (k + 3) 6))) _
  exact q_vret C.1 rfl dX0_init_30
theorem lk_X9_11 : LkI RX9 11 yX2_init cX2_init 2 1 := ⟨TB_p [110, 111, 72, 112] (by decide +kernel) (by decide +kernel), rfl, by decide +kernel, by decide +kernel, by decide +kernel⟩
def O_9 (Y : YT) (k : Nat) : List va_E := (.inr (9, [Rf Y (k + 1), Rf Y (k + 3), Rf Y (k + 5), .int 0])) :: ((([] ++ O_2 Y (k + 1) 8) ++ O_2 Y (k + 3) 8) ++ O_2 Y (k + 5) 8)
theorem ct_X9 {Y : YT} {P : List va_E} {k : Nat} (hP : P.length = k) (hk : k + 7 ≤ 112) : Ct FC Y yX9_init cX9_init 1 none 2 6 30 [Rf Y k] (RepL Y (P ++ [.inr (9, [.null, .null, .null, .int 0])])) none (RepL Y (P ++ O_9 Y k)) := by
  refine Ct.ofGi (em := emL Y (P ++ O_9 Y k)) (o := some ()) (by decide) rfl (Nat.le_of_ble_eq_true rfl) (fun X C0 => ?_) () rfl
  have C : CxI FC Y X cX9_init 1 RX9 2 (6, 30) := C0
  show G FC Y X 1 (emL Y (P ++ O_9 Y k)) (6, 30) (0, 0) 0 [(0, Rf Y k)] [] (RepL Y (P ++ (.inr (9, [.null, .null, .null, .int 0])) :: [])) (some ())
  refine q_aload_n C.1 0 dX9_init_0 rfl ?_
  refine c_obj C (TB_of (List.mem_of_getElem? (i := 107) (by decide +kernel)) rfl) (TB_of (List.mem_of_getElem? (i := 94) (by decide +kernel)) rfl) (TB_of (List.mem_of_getElem? (i := 95) (by decide +kernel)) rfl) (Nat.le_of_ble_eq_true rfl) (Nat.le_of_ble_eq_true rfl) dX9_init_1 ?_
  refine q_aload_n C.1 0 dX9_init_4 rfl ?_
  refine c_new (z := (0, 0)) (l := P ++ (.inr (9, [.null, .null, .null, .int 0])) :: []) C (ci := 2) (RC := RX2) (T := TX2) (N := 2) (fs := [.null, .int 0]) rfl in_X2 tyX2 tyX2_ok (TB_of (List.mem_of_getElem? (i := 108) (by decide +kernel)) rfl) (TB_of (List.mem_of_getElem? (i := 109) (by decide +kernel)) rfl) (TB_of (List.mem_of_getElem? (i := 72) (by decide +kernel)) rfl) (dflt_2) (n := k + 1) (len_ap hP rfl) (show k + 1 < 112 by omega) (by decide) dX9_init_5 ?_
  refine q_dup C.1 dX9_init_8 rfl ?_
  refine q_bipush C.1 (v := 8) dX9_init_9 (by decide) ?_
  refine q_callI (z := (1, 2)) C.1 lk_X9_11 (ct_X2 (P := P ++ (.inr (9, [.null, .null, .null, .int 0])) :: []) (k := k + 1) (a := 8) (m := 8) (len_ap hP rfl) (show k + 1 + 2 ≤ 112 by omega) (by decide) (by decide)) (Nat.le_of_ble_eq_true rfl) rfl (rest := [Rf Y (k + 1), Rf Y k]) rfl rfl (Nat.le_of_ble_eq_true rfl) dX9_init_11 (by decide) ?_
  refine G.cast (app3 P _ ([]) (O_2 Y (k + 1) 8)) ?_
  refine c_put (P := P) (Q := ([] ++ O_2 Y (k + 1) 8)) (fs := [.null, .null, .null, .int 0]) (v := Rf Y (k + 1)) (ty := .object "WellTold$Row") C hP (ci := 9) (T := TX9) (N := 4) rfl in_X9 tyX9 tyX9_ok nmX9 0 (by decide) (TB_of (List.mem_of_getElem? (i := 125) (by decide +kernel)) rfl) rfl (by decide +kernel) rfl rfl (Nat.le_of_ble_eq_true rfl) (show k < 112 by omega) dX9_init_14 ?_
  show G FC Y X 1 _ _ _ _ _ _ (RepL Y (P ++ (.inr (9, [Rf Y (k + 1), .null, .null, .int 0])) :: ([] ++ O_2 Y (k + 1) 8))) _
  refine q_aload_n C.1 0 dX9_init_17 rfl ?_
  refine c_new (z := (2, 10)) (l := P ++ (.inr (9, [Rf Y (k + 1), .null, .null, .int 0])) :: ([] ++ O_2 Y (k + 1) 8)) C (ci := 2) (RC := RX2) (T := TX2) (N := 2) (fs := [.null, .int 0]) rfl in_X2 tyX2 tyX2_ok (TB_of (List.mem_of_getElem? (i := 108) (by decide +kernel)) rfl) (TB_of (List.mem_of_getElem? (i := 109) (by decide +kernel)) rfl) (TB_of (List.mem_of_getElem? (i := 72) (by decide +kernel)) rfl) (dflt_2) (n := k + 3) (len_ap hP rfl) (show k + 3 < 112 by omega) (by decide) dX9_init_18 ?_
  refine q_dup C.1 dX9_init_21 rfl ?_
  refine q_bipush C.1 (v := 8) dX9_init_22 (by decide) ?_
  refine q_callI (z := (3, 12)) C.1 lk_X9_11 (ct_X2 (P := P ++ (.inr (9, [Rf Y (k + 1), .null, .null, .int 0])) :: ([] ++ O_2 Y (k + 1) 8)) (k := k + 3) (a := 8) (m := 8) (len_ap hP rfl) (show k + 3 + 2 ≤ 112 by omega) (by decide) (by decide)) (Nat.le_of_ble_eq_true rfl) rfl (rest := [Rf Y (k + 3), Rf Y k]) rfl rfl (Nat.le_of_ble_eq_true rfl) dX9_init_24 (by decide) ?_
  refine G.cast (app3 P _ (([] ++ O_2 Y (k + 1) 8)) (O_2 Y (k + 3) 8)) ?_
  refine c_put (P := P) (Q := (([] ++ O_2 Y (k + 1) 8) ++ O_2 Y (k + 3) 8)) (fs := [Rf Y (k + 1), .null, .null, .int 0]) (v := Rf Y (k + 3)) (ty := .object "WellTold$Row") C hP (ci := 9) (T := TX9) (N := 4) rfl in_X9 tyX9 tyX9_ok nmX9 1 (by decide) (TB_of (List.mem_of_getElem? (i := 127) (by decide +kernel)) rfl) rfl (by decide +kernel) rfl rfl (Nat.le_of_ble_eq_true rfl) (show k < 112 by omega) dX9_init_27 ?_
  show G FC Y X 1 _ _ _ _ _ _ (RepL Y (P ++ (.inr (9, [Rf Y (k + 1), Rf Y (k + 3), .null, .int 0])) :: (([] ++ O_2 Y (k + 1) 8) ++ O_2 Y (k + 3) 8))) _
  refine q_aload_n C.1 0 dX9_init_30 rfl ?_
  refine c_new (z := (4, 20)) (l := P ++ (.inr (9, [Rf Y (k + 1), Rf Y (k + 3), .null, .int 0])) :: (([] ++ O_2 Y (k + 1) 8) ++ O_2 Y (k + 3) 8)) C (ci := 2) (RC := RX2) (T := TX2) (N := 2) (fs := [.null, .int 0]) rfl in_X2 tyX2 tyX2_ok (TB_of (List.mem_of_getElem? (i := 108) (by decide +kernel)) rfl) (TB_of (List.mem_of_getElem? (i := 109) (by decide +kernel)) rfl) (TB_of (List.mem_of_getElem? (i := 72) (by decide +kernel)) rfl) (dflt_2) (n := k + 5) (len_ap hP rfl) (show k + 5 < 112 by omega) (by decide) dX9_init_31 ?_
  refine q_dup C.1 dX9_init_34 rfl ?_
  refine q_bipush C.1 (v := 8) dX9_init_35 (by decide) ?_
  refine q_callI (z := (5, 22)) C.1 lk_X9_11 (ct_X2 (P := P ++ (.inr (9, [Rf Y (k + 1), Rf Y (k + 3), .null, .int 0])) :: (([] ++ O_2 Y (k + 1) 8) ++ O_2 Y (k + 3) 8)) (k := k + 5) (a := 8) (m := 8) (len_ap hP rfl) (show k + 5 + 2 ≤ 112 by omega) (by decide) (by decide)) (Nat.le_of_ble_eq_true rfl) rfl (rest := [Rf Y (k + 5), Rf Y k]) rfl rfl (Nat.le_of_ble_eq_true rfl) dX9_init_37 (by decide) ?_
  refine G.cast (app3 P _ ((([] ++ O_2 Y (k + 1) 8) ++ O_2 Y (k + 3) 8)) (O_2 Y (k + 5) 8)) ?_
  refine c_put (P := P) (Q := ((([] ++ O_2 Y (k + 1) 8) ++ O_2 Y (k + 3) 8) ++ O_2 Y (k + 5) 8)) (fs := [Rf Y (k + 1), Rf Y (k + 3), .null, .int 0]) (v := Rf Y (k + 5)) (ty := .object "WellTold$Row") C hP (ci := 9) (T := TX9) (N := 4) rfl in_X9 tyX9 tyX9_ok nmX9 2 (by decide) (TB_of (List.mem_of_getElem? (i := 130) (by decide +kernel)) rfl) rfl (by decide +kernel) rfl rfl (Nat.le_of_ble_eq_true rfl) (show k < 112 by omega) dX9_init_40 ?_
  show G FC Y X 1 _ _ _ _ _ _ (RepL Y (P ++ (.inr (9, [Rf Y (k + 1), Rf Y (k + 3), Rf Y (k + 5), .int 0])) :: ((([] ++ O_2 Y (k + 1) 8) ++ O_2 Y (k + 3) 8) ++ O_2 Y (k + 5) 8))) _
  refine q_aload_n C.1 0 dX9_init_43 rfl ?_
  refine q_iconst C.1 (v := 0) dX9_init_44 (by decide) ?_
  refine c_put (P := P) (Q := ((([] ++ O_2 Y (k + 1) 8) ++ O_2 Y (k + 3) 8) ++ O_2 Y (k + 5) 8)) (fs := [Rf Y (k + 1), Rf Y (k + 3), Rf Y (k + 5), .int 0]) (v := .int 0) (ty := .int) C hP (ci := 9) (T := TX9) (N := 4) rfl in_X9 tyX9 tyX9_ok nmX9 3 (by decide) (TB_of (List.mem_of_getElem? (i := 133) (by decide +kernel)) rfl) rfl (by decide +kernel) rfl rfl (Nat.le_of_ble_eq_true rfl) (show k < 112 by omega) dX9_init_45 ?_
  show G FC Y X 1 _ _ _ _ _ _ (RepL Y (P ++ (.inr (9, [Rf Y (k + 1), Rf Y (k + 3), Rf Y (k + 5), .int 0])) :: ((([] ++ O_2 Y (k + 1) 8) ++ O_2 Y (k + 3) 8) ++ O_2 Y (k + 5) 8))) _
  exact q_vret C.1 rfl dX9_init_48
theorem lk_X4_11 : LkI RX4 11 yX2_init cX2_init 2 1 := ⟨TB_p [152, 111, 72, 112] (by decide +kernel) (by decide +kernel), rfl, by decide +kernel, by decide +kernel, by decide +kernel⟩
def O_4 (Y : YT) (k : Nat) : List va_E := (.inr (4, [Rf Y (k + 1), Rf Y (k + 3), Rf Y (k + 5), Rf Y (k + 7), Rf Y (k + 9), Rf Y (k + 11)])) :: (((((([] ++ O_2 Y (k + 1) 8) ++ O_2 Y (k + 3) 8) ++ O_2 Y (k + 5) 8) ++ O_2 Y (k + 7) 8) ++ O_2 Y (k + 9) 8) ++ O_2 Y (k + 11) 8)
theorem ct_X4 {Y : YT} {P : List va_E} {k : Nat} (hP : P.length = k) (hk : k + 13 ≤ 112) : Ct FC Y yX4_init cX4_init 1 none 2 12 60 [Rf Y k] (RepL Y (P ++ [.inr (4, [.null, .null, .null, .null, .null, .null])])) none (RepL Y (P ++ O_4 Y k)) := by
  refine Ct.ofGi (em := emL Y (P ++ O_4 Y k)) (o := some ()) (by decide) rfl (Nat.le_of_ble_eq_true rfl) (fun X C0 => ?_) () rfl
  have C : CxI FC Y X cX4_init 1 RX4 2 (12, 60) := C0
  show G FC Y X 1 (emL Y (P ++ O_4 Y k)) (12, 60) (0, 0) 0 [(0, Rf Y k)] [] (RepL Y (P ++ (.inr (4, [.null, .null, .null, .null, .null, .null])) :: [])) (some ())
  refine q_aload_n C.1 0 dX4_init_0 rfl ?_
  refine c_obj C (TB_of (List.mem_of_getElem? (i := 150) (by decide +kernel)) rfl) (TB_of (List.mem_of_getElem? (i := 94) (by decide +kernel)) rfl) (TB_of (List.mem_of_getElem? (i := 95) (by decide +kernel)) rfl) (Nat.le_of_ble_eq_true rfl) (Nat.le_of_ble_eq_true rfl) dX4_init_1 ?_
  refine q_aload_n C.1 0 dX4_init_4 rfl ?_
  refine c_new (z := (0, 0)) (l := P ++ (.inr (4, [.null, .null, .null, .null, .null, .null])) :: []) C (ci := 2) (RC := RX2) (T := TX2) (N := 2) (fs := [.null, .int 0]) rfl in_X2 tyX2 tyX2_ok (TB_of (List.mem_of_getElem? (i := 151) (by decide +kernel)) rfl) (TB_of (List.mem_of_getElem? (i := 109) (by decide +kernel)) rfl) (TB_of (List.mem_of_getElem? (i := 72) (by decide +kernel)) rfl) (dflt_2) (n := k + 1) (len_ap hP rfl) (show k + 1 < 112 by omega) (by decide) dX4_init_5 ?_
  refine q_dup C.1 dX4_init_8 rfl ?_
  refine q_bipush C.1 (v := 8) dX4_init_9 (by decide) ?_
  refine q_callI (z := (1, 2)) C.1 lk_X4_11 (ct_X2 (P := P ++ (.inr (4, [.null, .null, .null, .null, .null, .null])) :: []) (k := k + 1) (a := 8) (m := 8) (len_ap hP rfl) (show k + 1 + 2 ≤ 112 by omega) (by decide) (by decide)) (Nat.le_of_ble_eq_true rfl) rfl (rest := [Rf Y (k + 1), Rf Y k]) rfl rfl (Nat.le_of_ble_eq_true rfl) dX4_init_11 (by decide) ?_
  refine G.cast (app3 P _ ([]) (O_2 Y (k + 1) 8)) ?_
  refine c_put (P := P) (Q := ([] ++ O_2 Y (k + 1) 8)) (fs := [.null, .null, .null, .null, .null, .null]) (v := Rf Y (k + 1)) (ty := .object "WellTold$Row") C hP (ci := 4) (T := TX4) (N := 6) rfl in_X4 tyX4 tyX4_ok nmX4 0 (by decide) (TB_of (List.mem_of_getElem? (i := 153) (by decide +kernel)) rfl) rfl (by decide +kernel) rfl rfl (Nat.le_of_ble_eq_true rfl) (show k < 112 by omega) dX4_init_14 ?_
  show G FC Y X 1 _ _ _ _ _ _ (RepL Y (P ++ (.inr (4, [Rf Y (k + 1), .null, .null, .null, .null, .null])) :: ([] ++ O_2 Y (k + 1) 8))) _
  refine q_aload_n C.1 0 dX4_init_17 rfl ?_
  refine c_new (z := (2, 10)) (l := P ++ (.inr (4, [Rf Y (k + 1), .null, .null, .null, .null, .null])) :: ([] ++ O_2 Y (k + 1) 8)) C (ci := 2) (RC := RX2) (T := TX2) (N := 2) (fs := [.null, .int 0]) rfl in_X2 tyX2 tyX2_ok (TB_of (List.mem_of_getElem? (i := 151) (by decide +kernel)) rfl) (TB_of (List.mem_of_getElem? (i := 109) (by decide +kernel)) rfl) (TB_of (List.mem_of_getElem? (i := 72) (by decide +kernel)) rfl) (dflt_2) (n := k + 3) (len_ap hP rfl) (show k + 3 < 112 by omega) (by decide) dX4_init_18 ?_
  refine q_dup C.1 dX4_init_21 rfl ?_
  refine q_bipush C.1 (v := 8) dX4_init_22 (by decide) ?_
  refine q_callI (z := (3, 12)) C.1 lk_X4_11 (ct_X2 (P := P ++ (.inr (4, [Rf Y (k + 1), .null, .null, .null, .null, .null])) :: ([] ++ O_2 Y (k + 1) 8)) (k := k + 3) (a := 8) (m := 8) (len_ap hP rfl) (show k + 3 + 2 ≤ 112 by omega) (by decide) (by decide)) (Nat.le_of_ble_eq_true rfl) rfl (rest := [Rf Y (k + 3), Rf Y k]) rfl rfl (Nat.le_of_ble_eq_true rfl) dX4_init_24 (by decide) ?_
  refine G.cast (app3 P _ (([] ++ O_2 Y (k + 1) 8)) (O_2 Y (k + 3) 8)) ?_
  refine c_put (P := P) (Q := (([] ++ O_2 Y (k + 1) 8) ++ O_2 Y (k + 3) 8)) (fs := [Rf Y (k + 1), .null, .null, .null, .null, .null]) (v := Rf Y (k + 3)) (ty := .object "WellTold$Row") C hP (ci := 4) (T := TX4) (N := 6) rfl in_X4 tyX4 tyX4_ok nmX4 1 (by decide) (TB_of (List.mem_of_getElem? (i := 155) (by decide +kernel)) rfl) rfl (by decide +kernel) rfl rfl (Nat.le_of_ble_eq_true rfl) (show k < 112 by omega) dX4_init_27 ?_
  show G FC Y X 1 _ _ _ _ _ _ (RepL Y (P ++ (.inr (4, [Rf Y (k + 1), Rf Y (k + 3), .null, .null, .null, .null])) :: (([] ++ O_2 Y (k + 1) 8) ++ O_2 Y (k + 3) 8))) _
  refine q_aload_n C.1 0 dX4_init_30 rfl ?_
  refine c_new (z := (4, 20)) (l := P ++ (.inr (4, [Rf Y (k + 1), Rf Y (k + 3), .null, .null, .null, .null])) :: (([] ++ O_2 Y (k + 1) 8) ++ O_2 Y (k + 3) 8)) C (ci := 2) (RC := RX2) (T := TX2) (N := 2) (fs := [.null, .int 0]) rfl in_X2 tyX2 tyX2_ok (TB_of (List.mem_of_getElem? (i := 151) (by decide +kernel)) rfl) (TB_of (List.mem_of_getElem? (i := 109) (by decide +kernel)) rfl) (TB_of (List.mem_of_getElem? (i := 72) (by decide +kernel)) rfl) (dflt_2) (n := k + 5) (len_ap hP rfl) (show k + 5 < 112 by omega) (by decide) dX4_init_31 ?_
  refine q_dup C.1 dX4_init_34 rfl ?_
  refine q_bipush C.1 (v := 8) dX4_init_35 (by decide) ?_
  refine q_callI (z := (5, 22)) C.1 lk_X4_11 (ct_X2 (P := P ++ (.inr (4, [Rf Y (k + 1), Rf Y (k + 3), .null, .null, .null, .null])) :: (([] ++ O_2 Y (k + 1) 8) ++ O_2 Y (k + 3) 8)) (k := k + 5) (a := 8) (m := 8) (len_ap hP rfl) (show k + 5 + 2 ≤ 112 by omega) (by decide) (by decide)) (Nat.le_of_ble_eq_true rfl) rfl (rest := [Rf Y (k + 5), Rf Y k]) rfl rfl (Nat.le_of_ble_eq_true rfl) dX4_init_37 (by decide) ?_
  refine G.cast (app3 P _ ((([] ++ O_2 Y (k + 1) 8) ++ O_2 Y (k + 3) 8)) (O_2 Y (k + 5) 8)) ?_
  refine c_put (P := P) (Q := ((([] ++ O_2 Y (k + 1) 8) ++ O_2 Y (k + 3) 8) ++ O_2 Y (k + 5) 8)) (fs := [Rf Y (k + 1), Rf Y (k + 3), .null, .null, .null, .null]) (v := Rf Y (k + 5)) (ty := .object "WellTold$Row") C hP (ci := 4) (T := TX4) (N := 6) rfl in_X4 tyX4 tyX4_ok nmX4 2 (by decide) (TB_of (List.mem_of_getElem? (i := 157) (by decide +kernel)) rfl) rfl (by decide +kernel) rfl rfl (Nat.le_of_ble_eq_true rfl) (show k < 112 by omega) dX4_init_40 ?_
  show G FC Y X 1 _ _ _ _ _ _ (RepL Y (P ++ (.inr (4, [Rf Y (k + 1), Rf Y (k + 3), Rf Y (k + 5), .null, .null, .null])) :: ((([] ++ O_2 Y (k + 1) 8) ++ O_2 Y (k + 3) 8) ++ O_2 Y (k + 5) 8))) _
  refine q_aload_n C.1 0 dX4_init_43 rfl ?_
  refine c_new (z := (6, 30)) (l := P ++ (.inr (4, [Rf Y (k + 1), Rf Y (k + 3), Rf Y (k + 5), .null, .null, .null])) :: ((([] ++ O_2 Y (k + 1) 8) ++ O_2 Y (k + 3) 8) ++ O_2 Y (k + 5) 8)) C (ci := 2) (RC := RX2) (T := TX2) (N := 2) (fs := [.null, .int 0]) rfl in_X2 tyX2 tyX2_ok (TB_of (List.mem_of_getElem? (i := 151) (by decide +kernel)) rfl) (TB_of (List.mem_of_getElem? (i := 109) (by decide +kernel)) rfl) (TB_of (List.mem_of_getElem? (i := 72) (by decide +kernel)) rfl) (dflt_2) (n := k + 7) (len_ap hP rfl) (show k + 7 < 112 by omega) (by decide) dX4_init_44 ?_
  refine q_dup C.1 dX4_init_47 rfl ?_
  refine q_bipush C.1 (v := 8) dX4_init_48 (by decide) ?_
  refine q_callI (z := (7, 32)) C.1 lk_X4_11 (ct_X2 (P := P ++ (.inr (4, [Rf Y (k + 1), Rf Y (k + 3), Rf Y (k + 5), .null, .null, .null])) :: ((([] ++ O_2 Y (k + 1) 8) ++ O_2 Y (k + 3) 8) ++ O_2 Y (k + 5) 8)) (k := k + 7) (a := 8) (m := 8) (len_ap hP rfl) (show k + 7 + 2 ≤ 112 by omega) (by decide) (by decide)) (Nat.le_of_ble_eq_true rfl) rfl (rest := [Rf Y (k + 7), Rf Y k]) rfl rfl (Nat.le_of_ble_eq_true rfl) dX4_init_50 (by decide) ?_
  refine G.cast (app3 P _ (((([] ++ O_2 Y (k + 1) 8) ++ O_2 Y (k + 3) 8) ++ O_2 Y (k + 5) 8)) (O_2 Y (k + 7) 8)) ?_
  refine c_put (P := P) (Q := (((([] ++ O_2 Y (k + 1) 8) ++ O_2 Y (k + 3) 8) ++ O_2 Y (k + 5) 8) ++ O_2 Y (k + 7) 8)) (fs := [Rf Y (k + 1), Rf Y (k + 3), Rf Y (k + 5), .null, .null, .null]) (v := Rf Y (k + 7)) (ty := .object "WellTold$Row") C hP (ci := 4) (T := TX4) (N := 6) rfl in_X4 tyX4 tyX4_ok nmX4 3 (by decide) (TB_of (List.mem_of_getElem? (i := 159) (by decide +kernel)) rfl) rfl (by decide +kernel) rfl rfl (Nat.le_of_ble_eq_true rfl) (show k < 112 by omega) dX4_init_53 ?_
  show G FC Y X 1 _ _ _ _ _ _ (RepL Y (P ++ (.inr (4, [Rf Y (k + 1), Rf Y (k + 3), Rf Y (k + 5), Rf Y (k + 7), .null, .null])) :: (((([] ++ O_2 Y (k + 1) 8) ++ O_2 Y (k + 3) 8) ++ O_2 Y (k + 5) 8) ++ O_2 Y (k + 7) 8))) _
  refine q_aload_n C.1 0 dX4_init_56 rfl ?_
  refine c_new (z := (8, 40)) (l := P ++ (.inr (4, [Rf Y (k + 1), Rf Y (k + 3), Rf Y (k + 5), Rf Y (k + 7), .null, .null])) :: (((([] ++ O_2 Y (k + 1) 8) ++ O_2 Y (k + 3) 8) ++ O_2 Y (k + 5) 8) ++ O_2 Y (k + 7) 8)) C (ci := 2) (RC := RX2) (T := TX2) (N := 2) (fs := [.null, .int 0]) rfl in_X2 tyX2 tyX2_ok (TB_of (List.mem_of_getElem? (i := 151) (by decide +kernel)) rfl) (TB_of (List.mem_of_getElem? (i := 109) (by decide +kernel)) rfl) (TB_of (List.mem_of_getElem? (i := 72) (by decide +kernel)) rfl) (dflt_2) (n := k + 9) (len_ap hP rfl) (show k + 9 < 112 by omega) (by decide) dX4_init_57 ?_
  refine q_dup C.1 dX4_init_60 rfl ?_
  refine q_bipush C.1 (v := 8) dX4_init_61 (by decide) ?_
  refine q_callI (z := (9, 42)) C.1 lk_X4_11 (ct_X2 (P := P ++ (.inr (4, [Rf Y (k + 1), Rf Y (k + 3), Rf Y (k + 5), Rf Y (k + 7), .null, .null])) :: (((([] ++ O_2 Y (k + 1) 8) ++ O_2 Y (k + 3) 8) ++ O_2 Y (k + 5) 8) ++ O_2 Y (k + 7) 8)) (k := k + 9) (a := 8) (m := 8) (len_ap hP rfl) (show k + 9 + 2 ≤ 112 by omega) (by decide) (by decide)) (Nat.le_of_ble_eq_true rfl) rfl (rest := [Rf Y (k + 9), Rf Y k]) rfl rfl (Nat.le_of_ble_eq_true rfl) dX4_init_63 (by decide) ?_
  refine G.cast (app3 P _ ((((([] ++ O_2 Y (k + 1) 8) ++ O_2 Y (k + 3) 8) ++ O_2 Y (k + 5) 8) ++ O_2 Y (k + 7) 8)) (O_2 Y (k + 9) 8)) ?_
  refine c_put (P := P) (Q := ((((([] ++ O_2 Y (k + 1) 8) ++ O_2 Y (k + 3) 8) ++ O_2 Y (k + 5) 8) ++ O_2 Y (k + 7) 8) ++ O_2 Y (k + 9) 8)) (fs := [Rf Y (k + 1), Rf Y (k + 3), Rf Y (k + 5), Rf Y (k + 7), .null, .null]) (v := Rf Y (k + 9)) (ty := .object "WellTold$Row") C hP (ci := 4) (T := TX4) (N := 6) rfl in_X4 tyX4 tyX4_ok nmX4 4 (by decide) (TB_of (List.mem_of_getElem? (i := 161) (by decide +kernel)) rfl) rfl (by decide +kernel) rfl rfl (Nat.le_of_ble_eq_true rfl) (show k < 112 by omega) dX4_init_66 ?_
  show G FC Y X 1 _ _ _ _ _ _ (RepL Y (P ++ (.inr (4, [Rf Y (k + 1), Rf Y (k + 3), Rf Y (k + 5), Rf Y (k + 7), Rf Y (k + 9), .null])) :: ((((([] ++ O_2 Y (k + 1) 8) ++ O_2 Y (k + 3) 8) ++ O_2 Y (k + 5) 8) ++ O_2 Y (k + 7) 8) ++ O_2 Y (k + 9) 8))) _
  refine q_aload_n C.1 0 dX4_init_69 rfl ?_
  refine c_new (z := (10, 50)) (l := P ++ (.inr (4, [Rf Y (k + 1), Rf Y (k + 3), Rf Y (k + 5), Rf Y (k + 7), Rf Y (k + 9), .null])) :: ((((([] ++ O_2 Y (k + 1) 8) ++ O_2 Y (k + 3) 8) ++ O_2 Y (k + 5) 8) ++ O_2 Y (k + 7) 8) ++ O_2 Y (k + 9) 8)) C (ci := 2) (RC := RX2) (T := TX2) (N := 2) (fs := [.null, .int 0]) rfl in_X2 tyX2 tyX2_ok (TB_of (List.mem_of_getElem? (i := 151) (by decide +kernel)) rfl) (TB_of (List.mem_of_getElem? (i := 109) (by decide +kernel)) rfl) (TB_of (List.mem_of_getElem? (i := 72) (by decide +kernel)) rfl) (dflt_2) (n := k + 11) (len_ap hP rfl) (show k + 11 < 112 by omega) (by decide) dX4_init_70 ?_
  refine q_dup C.1 dX4_init_73 rfl ?_
  refine q_bipush C.1 (v := 8) dX4_init_74 (by decide) ?_
  refine q_callI (z := (11, 52)) C.1 lk_X4_11 (ct_X2 (P := P ++ (.inr (4, [Rf Y (k + 1), Rf Y (k + 3), Rf Y (k + 5), Rf Y (k + 7), Rf Y (k + 9), .null])) :: ((((([] ++ O_2 Y (k + 1) 8) ++ O_2 Y (k + 3) 8) ++ O_2 Y (k + 5) 8) ++ O_2 Y (k + 7) 8) ++ O_2 Y (k + 9) 8)) (k := k + 11) (a := 8) (m := 8) (len_ap hP rfl) (show k + 11 + 2 ≤ 112 by omega) (by decide) (by decide)) (Nat.le_of_ble_eq_true rfl) rfl (rest := [Rf Y (k + 11), Rf Y k]) rfl rfl (Nat.le_of_ble_eq_true rfl) dX4_init_76 (by decide) ?_
  refine G.cast (app3 P _ (((((([] ++ O_2 Y (k + 1) 8) ++ O_2 Y (k + 3) 8) ++ O_2 Y (k + 5) 8) ++ O_2 Y (k + 7) 8) ++ O_2 Y (k + 9) 8)) (O_2 Y (k + 11) 8)) ?_
  refine c_put (P := P) (Q := (((((([] ++ O_2 Y (k + 1) 8) ++ O_2 Y (k + 3) 8) ++ O_2 Y (k + 5) 8) ++ O_2 Y (k + 7) 8) ++ O_2 Y (k + 9) 8) ++ O_2 Y (k + 11) 8)) (fs := [Rf Y (k + 1), Rf Y (k + 3), Rf Y (k + 5), Rf Y (k + 7), Rf Y (k + 9), .null]) (v := Rf Y (k + 11)) (ty := .object "WellTold$Row") C hP (ci := 4) (T := TX4) (N := 6) rfl in_X4 tyX4 tyX4_ok nmX4 5 (by decide) (TB_of (List.mem_of_getElem? (i := 163) (by decide +kernel)) rfl) rfl (by decide +kernel) rfl rfl (Nat.le_of_ble_eq_true rfl) (show k < 112 by omega) dX4_init_79 ?_
  show G FC Y X 1 _ _ _ _ _ _ (RepL Y (P ++ (.inr (4, [Rf Y (k + 1), Rf Y (k + 3), Rf Y (k + 5), Rf Y (k + 7), Rf Y (k + 9), Rf Y (k + 11)])) :: (((((([] ++ O_2 Y (k + 1) 8) ++ O_2 Y (k + 3) 8) ++ O_2 Y (k + 5) 8) ++ O_2 Y (k + 7) 8) ++ O_2 Y (k + 9) 8) ++ O_2 Y (k + 11) 8))) _
  exact q_vret C.1 rfl dX4_init_82
theorem lk_X5_17 : LkI RX5 17 yX2_init cX2_init 2 1 := ⟨TB_p [374, 111, 72, 112] (by decide +kernel) (by decide +kernel), rfl, by decide +kernel, by decide +kernel, by decide +kernel⟩
def O_5 (Y : YT) (k : Nat) : List va_E := (.inr (5, [.int 0, Rf Y (k + 1)])) :: ([] ++ O_2 Y (k + 1) 40)
theorem ct_X5 {Y : YT} {P : List va_E} {k : Nat} (hP : P.length = k) (hk : k + 3 ≤ 112) : Ct FC Y yX5_init cX5_init 1 none 2 2 42 [Rf Y k] (RepL Y (P ++ [.inr (5, [.int 0, .null])])) none (RepL Y (P ++ O_5 Y k)) := by
  refine Ct.ofGi (em := emL Y (P ++ O_5 Y k)) (o := some ()) (by decide) rfl (Nat.le_of_ble_eq_true rfl) (fun X C0 => ?_) () rfl
  have C : CxI FC Y X cX5_init 1 RX5 2 (2, 42) := C0
  show G FC Y X 1 (emL Y (P ++ O_5 Y k)) (2, 42) (0, 0) 0 [(0, Rf Y k)] [] (RepL Y (P ++ (.inr (5, [.int 0, .null])) :: [])) (some ())
  refine q_aload_n C.1 0 dX5_init_0 rfl ?_
  refine c_obj C (TB_of (List.mem_of_getElem? (i := 372) (by decide +kernel)) rfl) (TB_of (List.mem_of_getElem? (i := 94) (by decide +kernel)) rfl) (TB_of (List.mem_of_getElem? (i := 95) (by decide +kernel)) rfl) (Nat.le_of_ble_eq_true rfl) (Nat.le_of_ble_eq_true rfl) dX5_init_1 ?_
  refine q_aload_n C.1 0 dX5_init_4 rfl ?_
  refine q_iconst C.1 (v := 0) dX5_init_5 (by decide) ?_
  refine c_put (P := P) (Q := []) (fs := [.int 0, .null]) (v := .int 0) (ty := .int) C hP (ci := 5) (T := TX5) (N := 2) rfl in_X5 tyX5 tyX5_ok nmX5 0 (by decide) (TB_of (List.mem_of_getElem? (i := 375) (by decide +kernel)) rfl) rfl (by decide +kernel) rfl rfl (Nat.le_of_ble_eq_true rfl) (show k < 112 by omega) dX5_init_6 ?_
  show G FC Y X 1 _ _ _ _ _ _ (RepL Y (P ++ (.inr (5, [.int 0, .null])) :: [])) _
  refine q_aload_n C.1 0 dX5_init_9 rfl ?_
  refine c_new (z := (0, 0)) (l := P ++ (.inr (5, [.int 0, .null])) :: []) C (ci := 2) (RC := RX2) (T := TX2) (N := 2) (fs := [.null, .int 0]) rfl in_X2 tyX2 tyX2_ok (TB_of (List.mem_of_getElem? (i := 373) (by decide +kernel)) rfl) (TB_of (List.mem_of_getElem? (i := 109) (by decide +kernel)) rfl) (TB_of (List.mem_of_getElem? (i := 72) (by decide +kernel)) rfl) (dflt_2) (n := k + 1) (len_ap hP rfl) (show k + 1 < 112 by omega) (by decide) dX5_init_10 ?_
  refine q_dup C.1 dX5_init_13 rfl ?_
  refine q_bipush C.1 (v := 40) dX5_init_14 (by decide) ?_
  refine q_callI (z := (1, 2)) C.1 lk_X5_17 (ct_X2 (P := P ++ (.inr (5, [.int 0, .null])) :: []) (k := k + 1) (a := 40) (m := 40) (len_ap hP rfl) (show k + 1 + 2 ≤ 112 by omega) (by decide) (by decide)) (Nat.le_of_ble_eq_true rfl) rfl (rest := [Rf Y (k + 1), Rf Y k]) rfl rfl (Nat.le_of_ble_eq_true rfl) dX5_init_16 (by decide) ?_
  refine G.cast (app3 P _ ([]) (O_2 Y (k + 1) 40)) ?_
  refine c_put (P := P) (Q := ([] ++ O_2 Y (k + 1) 40)) (fs := [.int 0, .null]) (v := Rf Y (k + 1)) (ty := .object "WellTold$Row") C hP (ci := 5) (T := TX5) (N := 2) rfl in_X5 tyX5 tyX5_ok nmX5 1 (by decide) (TB_of (List.mem_of_getElem? (i := 377) (by decide +kernel)) rfl) rfl (by decide +kernel) rfl rfl (Nat.le_of_ble_eq_true rfl) (show k < 112 by omega) dX5_init_19 ?_
  show G FC Y X 1 _ _ _ _ _ _ (RepL Y (P ++ (.inr (5, [.int 0, Rf Y (k + 1)])) :: ([] ++ O_2 Y (k + 1) 40))) _
  exact q_vret C.1 rfl dX5_init_22
theorem lk_X6_11 : LkI RX6 11 yX2_init cX2_init 2 1 := ⟨TB_p [206, 111, 72, 112] (by decide +kernel) (by decide +kernel), rfl, by decide +kernel, by decide +kernel, by decide +kernel⟩
def O_6 (Y : YT) (k : Nat) (a : Int32) : List va_E := (.inr (6, [Rf Y (k + 1), Rf Y (k + 3), .int a])) :: (([] ++ O_2 Y (k + 1) 50) ++ O_2 Y (k + 3) 50)
theorem ct_X6 {Y : YT} {P : List va_E} {k : Nat} {a : Int32} (hP : P.length = k) (hk : k + 5 ≤ 112) : Ct FC Y yX6_init cX6_init 2 none 2 4 104 [Rf Y k, .int a] (RepL Y (P ++ [.inr (6, [.null, .null, .int 0])])) none (RepL Y (P ++ O_6 Y k a)) := by
  refine Ct.ofGi (em := emL Y (P ++ O_6 Y k a)) (o := some ()) (by decide) rfl (Nat.le_of_ble_eq_true rfl) (fun X C0 => ?_) () rfl
  have C : CxI FC Y X cX6_init 2 RX6 2 (4, 104) := C0
  show G FC Y X 2 (emL Y (P ++ O_6 Y k a)) (4, 104) (0, 0) 0 [(0, Rf Y k), (1, .int a)] [] (RepL Y (P ++ (.inr (6, [.null, .null, .int 0])) :: [])) (some ())
  refine q_aload_n C.1 0 dX6_init_0 rfl ?_
  refine c_obj C (TB_of (List.mem_of_getElem? (i := 204) (by decide +kernel)) rfl) (TB_of (List.mem_of_getElem? (i := 94) (by decide +kernel)) rfl) (TB_of (List.mem_of_getElem? (i := 95) (by decide +kernel)) rfl) (Nat.le_of_ble_eq_true rfl) (Nat.le_of_ble_eq_true rfl) dX6_init_1 ?_
  refine q_aload_n C.1 0 dX6_init_4 rfl ?_
  refine c_new (z := (0, 0)) (l := P ++ (.inr (6, [.null, .null, .int 0])) :: []) C (ci := 2) (RC := RX2) (T := TX2) (N := 2) (fs := [.null, .int 0]) rfl in_X2 tyX2 tyX2_ok (TB_of (List.mem_of_getElem? (i := 205) (by decide +kernel)) rfl) (TB_of (List.mem_of_getElem? (i := 109) (by decide +kernel)) rfl) (TB_of (List.mem_of_getElem? (i := 72) (by decide +kernel)) rfl) (dflt_2) (n := k + 1) (len_ap hP rfl) (show k + 1 < 112 by omega) (by decide) dX6_init_5 ?_
  refine q_dup C.1 dX6_init_8 rfl ?_
  refine q_bipush C.1 (v := 50) dX6_init_9 (by decide) ?_
  refine q_callI (z := (1, 2)) C.1 lk_X6_11 (ct_X2 (P := P ++ (.inr (6, [.null, .null, .int 0])) :: []) (k := k + 1) (a := 50) (m := 50) (len_ap hP rfl) (show k + 1 + 2 ≤ 112 by omega) (by decide) (by decide)) (Nat.le_of_ble_eq_true rfl) rfl (rest := [Rf Y (k + 1), Rf Y k]) rfl rfl (Nat.le_of_ble_eq_true rfl) dX6_init_11 (by decide) ?_
  refine G.cast (app3 P _ ([]) (O_2 Y (k + 1) 50)) ?_
  refine c_put (P := P) (Q := ([] ++ O_2 Y (k + 1) 50)) (fs := [.null, .null, .int 0]) (v := Rf Y (k + 1)) (ty := .object "WellTold$Row") C hP (ci := 6) (T := TX6) (N := 3) rfl in_X6 tyX6 tyX6_ok nmX6 0 (by decide) (TB_of (List.mem_of_getElem? (i := 207) (by decide +kernel)) rfl) rfl (by decide +kernel) rfl rfl (Nat.le_of_ble_eq_true rfl) (show k < 112 by omega) dX6_init_14 ?_
  show G FC Y X 2 _ _ _ _ _ _ (RepL Y (P ++ (.inr (6, [Rf Y (k + 1), .null, .int 0])) :: ([] ++ O_2 Y (k + 1) 50))) _
  refine q_aload_n C.1 0 dX6_init_17 rfl ?_
  refine c_new (z := (2, 52)) (l := P ++ (.inr (6, [Rf Y (k + 1), .null, .int 0])) :: ([] ++ O_2 Y (k + 1) 50)) C (ci := 2) (RC := RX2) (T := TX2) (N := 2) (fs := [.null, .int 0]) rfl in_X2 tyX2 tyX2_ok (TB_of (List.mem_of_getElem? (i := 205) (by decide +kernel)) rfl) (TB_of (List.mem_of_getElem? (i := 109) (by decide +kernel)) rfl) (TB_of (List.mem_of_getElem? (i := 72) (by decide +kernel)) rfl) (dflt_2) (n := k + 3) (len_ap hP rfl) (show k + 3 < 112 by omega) (by decide) dX6_init_18 ?_
  refine q_dup C.1 dX6_init_21 rfl ?_
  refine q_bipush C.1 (v := 50) dX6_init_22 (by decide) ?_
  refine q_callI (z := (3, 54)) C.1 lk_X6_11 (ct_X2 (P := P ++ (.inr (6, [Rf Y (k + 1), .null, .int 0])) :: ([] ++ O_2 Y (k + 1) 50)) (k := k + 3) (a := 50) (m := 50) (len_ap hP rfl) (show k + 3 + 2 ≤ 112 by omega) (by decide) (by decide)) (Nat.le_of_ble_eq_true rfl) rfl (rest := [Rf Y (k + 3), Rf Y k]) rfl rfl (Nat.le_of_ble_eq_true rfl) dX6_init_24 (by decide) ?_
  refine G.cast (app3 P _ (([] ++ O_2 Y (k + 1) 50)) (O_2 Y (k + 3) 50)) ?_
  refine c_put (P := P) (Q := (([] ++ O_2 Y (k + 1) 50) ++ O_2 Y (k + 3) 50)) (fs := [Rf Y (k + 1), .null, .int 0]) (v := Rf Y (k + 3)) (ty := .object "WellTold$Row") C hP (ci := 6) (T := TX6) (N := 3) rfl in_X6 tyX6 tyX6_ok nmX6 1 (by decide) (TB_of (List.mem_of_getElem? (i := 210) (by decide +kernel)) rfl) rfl (by decide +kernel) rfl rfl (Nat.le_of_ble_eq_true rfl) (show k < 112 by omega) dX6_init_27 ?_
  show G FC Y X 2 _ _ _ _ _ _ (RepL Y (P ++ (.inr (6, [Rf Y (k + 1), Rf Y (k + 3), .int 0])) :: (([] ++ O_2 Y (k + 1) 50) ++ O_2 Y (k + 3) 50))) _
  refine q_aload_n C.1 0 dX6_init_30 rfl ?_
  refine q_iload_n C.1 1 dX6_init_31 rfl ?_
  refine c_put (P := P) (Q := (([] ++ O_2 Y (k + 1) 50) ++ O_2 Y (k + 3) 50)) (fs := [Rf Y (k + 1), Rf Y (k + 3), .int 0]) (v := .int a) (ty := .int) C hP (ci := 6) (T := TX6) (N := 3) rfl in_X6 tyX6 tyX6_ok nmX6 2 (by decide) (TB_of (List.mem_of_getElem? (i := 211) (by decide +kernel)) rfl) rfl (by decide +kernel) rfl rfl (Nat.le_of_ble_eq_true rfl) (show k < 112 by omega) dX6_init_32 ?_
  show G FC Y X 2 _ _ _ _ _ _ (RepL Y (P ++ (.inr (6, [Rf Y (k + 1), Rf Y (k + 3), .int a])) :: (([] ++ O_2 Y (k + 1) 50) ++ O_2 Y (k + 3) 50))) _
  exact q_vret C.1 rfl dX6_init_35
theorem lk_X8_11 : LkI RX8 11 yX2_init cX2_init 2 1 := ⟨TB_p [349, 111, 72, 112] (by decide +kernel) (by decide +kernel), rfl, by decide +kernel, by decide +kernel, by decide +kernel⟩
def O_8 (Y : YT) (k : Nat) : List va_E := (.inr (8, [Rf Y (k + 1), .int 0, .int 0, .int 0])) :: ([] ++ O_2 Y (k + 1) 40)
theorem ct_X8 {Y : YT} {P : List va_E} {k : Nat} (hP : P.length = k) (hk : k + 3 ≤ 112) : Ct FC Y yX8_init cX8_init 1 none 2 2 42 [Rf Y k] (RepL Y (P ++ [.inr (8, [.null, .int 0, .int 0, .int 0])])) none (RepL Y (P ++ O_8 Y k)) := by
  refine Ct.ofGi (em := emL Y (P ++ O_8 Y k)) (o := some ()) (by decide) rfl (Nat.le_of_ble_eq_true rfl) (fun X C0 => ?_) () rfl
  have C : CxI FC Y X cX8_init 1 RX8 2 (2, 42) := C0
  show G FC Y X 1 (emL Y (P ++ O_8 Y k)) (2, 42) (0, 0) 0 [(0, Rf Y k)] [] (RepL Y (P ++ (.inr (8, [.null, .int 0, .int 0, .int 0])) :: [])) (some ())
  refine q_aload_n C.1 0 dX8_init_0 rfl ?_
  refine c_obj C (TB_of (List.mem_of_getElem? (i := 347) (by decide +kernel)) rfl) (TB_of (List.mem_of_getElem? (i := 94) (by decide +kernel)) rfl) (TB_of (List.mem_of_getElem? (i := 95) (by decide +kernel)) rfl) (Nat.le_of_ble_eq_true rfl) (Nat.le_of_ble_eq_true rfl) dX8_init_1 ?_
  refine q_aload_n C.1 0 dX8_init_4 rfl ?_
  refine c_new (z := (0, 0)) (l := P ++ (.inr (8, [.null, .int 0, .int 0, .int 0])) :: []) C (ci := 2) (RC := RX2) (T := TX2) (N := 2) (fs := [.null, .int 0]) rfl in_X2 tyX2 tyX2_ok (TB_of (List.mem_of_getElem? (i := 348) (by decide +kernel)) rfl) (TB_of (List.mem_of_getElem? (i := 109) (by decide +kernel)) rfl) (TB_of (List.mem_of_getElem? (i := 72) (by decide +kernel)) rfl) (dflt_2) (n := k + 1) (len_ap hP rfl) (show k + 1 < 112 by omega) (by decide) dX8_init_5 ?_
  refine q_dup C.1 dX8_init_8 rfl ?_
  refine q_bipush C.1 (v := 40) dX8_init_9 (by decide) ?_
  refine q_callI (z := (1, 2)) C.1 lk_X8_11 (ct_X2 (P := P ++ (.inr (8, [.null, .int 0, .int 0, .int 0])) :: []) (k := k + 1) (a := 40) (m := 40) (len_ap hP rfl) (show k + 1 + 2 ≤ 112 by omega) (by decide) (by decide)) (Nat.le_of_ble_eq_true rfl) rfl (rest := [Rf Y (k + 1), Rf Y k]) rfl rfl (Nat.le_of_ble_eq_true rfl) dX8_init_11 (by decide) ?_
  refine G.cast (app3 P _ ([]) (O_2 Y (k + 1) 40)) ?_
  refine c_put (P := P) (Q := ([] ++ O_2 Y (k + 1) 40)) (fs := [.null, .int 0, .int 0, .int 0]) (v := Rf Y (k + 1)) (ty := .object "WellTold$Row") C hP (ci := 8) (T := TX8) (N := 4) rfl in_X8 tyX8 tyX8_ok nmX8 0 (by decide) (TB_of (List.mem_of_getElem? (i := 350) (by decide +kernel)) rfl) rfl (by decide +kernel) rfl rfl (Nat.le_of_ble_eq_true rfl) (show k < 112 by omega) dX8_init_14 ?_
  show G FC Y X 1 _ _ _ _ _ _ (RepL Y (P ++ (.inr (8, [Rf Y (k + 1), .int 0, .int 0, .int 0])) :: ([] ++ O_2 Y (k + 1) 40))) _
  refine q_aload_n C.1 0 dX8_init_17 rfl ?_
  refine q_iconst C.1 (v := 0) dX8_init_18 (by decide) ?_
  refine c_put (P := P) (Q := ([] ++ O_2 Y (k + 1) 40)) (fs := [Rf Y (k + 1), .int 0, .int 0, .int 0]) (v := .int 0) (ty := .int) C hP (ci := 8) (T := TX8) (N := 4) rfl in_X8 tyX8 tyX8_ok nmX8 1 (by decide) (TB_of (List.mem_of_getElem? (i := 352) (by decide +kernel)) rfl) rfl (by decide +kernel) rfl rfl (Nat.le_of_ble_eq_true rfl) (show k < 112 by omega) dX8_init_19 ?_
  show G FC Y X 1 _ _ _ _ _ _ (RepL Y (P ++ (.inr (8, [Rf Y (k + 1), .int 0, .int 0, .int 0])) :: ([] ++ O_2 Y (k + 1) 40))) _
  refine q_aload_n C.1 0 dX8_init_22 rfl ?_
  refine q_iconst C.1 (v := 0) dX8_init_23 (by decide) ?_
  refine c_put (P := P) (Q := ([] ++ O_2 Y (k + 1) 40)) (fs := [Rf Y (k + 1), .int 0, .int 0, .int 0]) (v := .int 0) (ty := .int) C hP (ci := 8) (T := TX8) (N := 4) rfl in_X8 tyX8 tyX8_ok nmX8 2 (by decide) (TB_of (List.mem_of_getElem? (i := 353) (by decide +kernel)) rfl) rfl (by decide +kernel) rfl rfl (Nat.le_of_ble_eq_true rfl) (show k < 112 by omega) dX8_init_24 ?_
  show G FC Y X 1 _ _ _ _ _ _ (RepL Y (P ++ (.inr (8, [Rf Y (k + 1), .int 0, .int 0, .int 0])) :: ([] ++ O_2 Y (k + 1) 40))) _
  refine q_aload_n C.1 0 dX8_init_27 rfl ?_
  refine q_iconst C.1 (v := 0) dX8_init_28 (by decide) ?_
  refine c_put (P := P) (Q := ([] ++ O_2 Y (k + 1) 40)) (fs := [Rf Y (k + 1), .int 0, .int 0, .int 0]) (v := .int 0) (ty := .int) C hP (ci := 8) (T := TX8) (N := 4) rfl in_X8 tyX8 tyX8_ok nmX8 3 (by decide) (TB_of (List.mem_of_getElem? (i := 354) (by decide +kernel)) rfl) rfl (by decide +kernel) rfl rfl (Nat.le_of_ble_eq_true rfl) (show k < 112 by omega) dX8_init_29 ?_
  show G FC Y X 1 _ _ _ _ _ _ (RepL Y (P ++ (.inr (8, [Rf Y (k + 1), .int 0, .int 0, .int 0])) :: ([] ++ O_2 Y (k + 1) 40))) _
  exact q_vret C.1 rfl dX8_init_32
theorem lk_X1_11 : LkI RX1 11 yX2_init cX2_init 2 1 := ⟨TB_p [325, 111, 72, 112] (by decide +kernel) (by decide +kernel), rfl, by decide +kernel, by decide +kernel, by decide +kernel⟩
def O_1 (Y : YT) (k : Nat) : List va_E := (.inr (1, [Rf Y (k + 1), Rf Y (k + 3), .ref (Y.2.2.1 0), .int 0])) :: (([] ++ O_2 Y (k + 1) 50) ++ O_2 Y (k + 3) 50)
theorem ct_X1 {Y : YT} {P : List va_E} {k : Nat} (hP : P.length = k) (hk : k + 5 ≤ 112) : Ct FC Y yX1_init cX1_init 1 none 2 4 104 [Rf Y k] (RepL Y (P ++ [.inr (1, [.null, .null, .null, .int 0])])) none (RepL Y (P ++ O_1 Y k)) := by
  refine Ct.ofGi (em := emL Y (P ++ O_1 Y k)) (o := some ()) (by decide) rfl (Nat.le_of_ble_eq_true rfl) (fun X C0 => ?_) () rfl
  have C : CxI FC Y X cX1_init 1 RX1 2 (4, 104) := C0
  show G FC Y X 1 (emL Y (P ++ O_1 Y k)) (4, 104) (0, 0) 0 [(0, Rf Y k)] [] (RepL Y (P ++ (.inr (1, [.null, .null, .null, .int 0])) :: [])) (some ())
  refine q_aload_n C.1 0 dX1_init_0 rfl ?_
  refine c_obj C (TB_of (List.mem_of_getElem? (i := 323) (by decide +kernel)) rfl) (TB_of (List.mem_of_getElem? (i := 94) (by decide +kernel)) rfl) (TB_of (List.mem_of_getElem? (i := 95) (by decide +kernel)) rfl) (Nat.le_of_ble_eq_true rfl) (Nat.le_of_ble_eq_true rfl) dX1_init_1 ?_
  refine q_aload_n C.1 0 dX1_init_4 rfl ?_
  refine c_new (z := (0, 0)) (l := P ++ (.inr (1, [.null, .null, .null, .int 0])) :: []) C (ci := 2) (RC := RX2) (T := TX2) (N := 2) (fs := [.null, .int 0]) rfl in_X2 tyX2 tyX2_ok (TB_of (List.mem_of_getElem? (i := 324) (by decide +kernel)) rfl) (TB_of (List.mem_of_getElem? (i := 109) (by decide +kernel)) rfl) (TB_of (List.mem_of_getElem? (i := 72) (by decide +kernel)) rfl) (dflt_2) (n := k + 1) (len_ap hP rfl) (show k + 1 < 112 by omega) (by decide) dX1_init_5 ?_
  refine q_dup C.1 dX1_init_8 rfl ?_
  refine q_bipush C.1 (v := 50) dX1_init_9 (by decide) ?_
  refine q_callI (z := (1, 2)) C.1 lk_X1_11 (ct_X2 (P := P ++ (.inr (1, [.null, .null, .null, .int 0])) :: []) (k := k + 1) (a := 50) (m := 50) (len_ap hP rfl) (show k + 1 + 2 ≤ 112 by omega) (by decide) (by decide)) (Nat.le_of_ble_eq_true rfl) rfl (rest := [Rf Y (k + 1), Rf Y k]) rfl rfl (Nat.le_of_ble_eq_true rfl) dX1_init_11 (by decide) ?_
  refine G.cast (app3 P _ ([]) (O_2 Y (k + 1) 50)) ?_
  refine c_put (P := P) (Q := ([] ++ O_2 Y (k + 1) 50)) (fs := [.null, .null, .null, .int 0]) (v := Rf Y (k + 1)) (ty := .object "WellTold$Row") C hP (ci := 1) (T := TX1) (N := 4) rfl in_X1 tyX1 tyX1_ok nmX1 0 (by decide) (TB_of (List.mem_of_getElem? (i := 327) (by decide +kernel)) rfl) rfl (by decide +kernel) rfl rfl (Nat.le_of_ble_eq_true rfl) (show k < 112 by omega) dX1_init_14 ?_
  show G FC Y X 1 _ _ _ _ _ _ (RepL Y (P ++ (.inr (1, [Rf Y (k + 1), .null, .null, .int 0])) :: ([] ++ O_2 Y (k + 1) 50))) _
  refine q_aload_n C.1 0 dX1_init_17 rfl ?_
  refine c_new (z := (2, 52)) (l := P ++ (.inr (1, [Rf Y (k + 1), .null, .null, .int 0])) :: ([] ++ O_2 Y (k + 1) 50)) C (ci := 2) (RC := RX2) (T := TX2) (N := 2) (fs := [.null, .int 0]) rfl in_X2 tyX2 tyX2_ok (TB_of (List.mem_of_getElem? (i := 324) (by decide +kernel)) rfl) (TB_of (List.mem_of_getElem? (i := 109) (by decide +kernel)) rfl) (TB_of (List.mem_of_getElem? (i := 72) (by decide +kernel)) rfl) (dflt_2) (n := k + 3) (len_ap hP rfl) (show k + 3 < 112 by omega) (by decide) dX1_init_18 ?_
  refine q_dup C.1 dX1_init_21 rfl ?_
  refine q_bipush C.1 (v := 50) dX1_init_22 (by decide) ?_
  refine q_callI (z := (3, 54)) C.1 lk_X1_11 (ct_X2 (P := P ++ (.inr (1, [Rf Y (k + 1), .null, .null, .int 0])) :: ([] ++ O_2 Y (k + 1) 50)) (k := k + 3) (a := 50) (m := 50) (len_ap hP rfl) (show k + 3 + 2 ≤ 112 by omega) (by decide) (by decide)) (Nat.le_of_ble_eq_true rfl) rfl (rest := [Rf Y (k + 3), Rf Y k]) rfl rfl (Nat.le_of_ble_eq_true rfl) dX1_init_24 (by decide) ?_
  refine G.cast (app3 P _ (([] ++ O_2 Y (k + 1) 50)) (O_2 Y (k + 3) 50)) ?_
  refine c_put (P := P) (Q := (([] ++ O_2 Y (k + 1) 50) ++ O_2 Y (k + 3) 50)) (fs := [Rf Y (k + 1), .null, .null, .int 0]) (v := Rf Y (k + 3)) (ty := .object "WellTold$Row") C hP (ci := 1) (T := TX1) (N := 4) rfl in_X1 tyX1 tyX1_ok nmX1 1 (by decide) (TB_of (List.mem_of_getElem? (i := 329) (by decide +kernel)) rfl) rfl (by decide +kernel) rfl rfl (Nat.le_of_ble_eq_true rfl) (show k < 112 by omega) dX1_init_27 ?_
  show G FC Y X 1 _ _ _ _ _ _ (RepL Y (P ++ (.inr (1, [Rf Y (k + 1), Rf Y (k + 3), .null, .int 0])) :: (([] ++ O_2 Y (k + 1) 50) ++ O_2 Y (k + 3) 50))) _
  refine q_aload_n C.1 0 dX1_init_30 rfl ?_
  refine q_ldcS C.1 (tx := "") (e := 0) (by decide +kernel) dX1_init_31 ?_
  refine c_put (P := P) (Q := (([] ++ O_2 Y (k + 1) 50) ++ O_2 Y (k + 3) 50)) (fs := [Rf Y (k + 1), Rf Y (k + 3), .null, .int 0]) (v := .ref (Y.2.2.1 0)) (ty := .object "java/lang/String") C hP (ci := 1) (T := TX1) (N := 4) rfl in_X1 tyX1 tyX1_ok nmX1 2 (by decide) (TB_of (List.mem_of_getElem? (i := 330) (by decide +kernel)) rfl) rfl (by decide +kernel) rfl rfl (Nat.le_of_ble_eq_true rfl) (show k < 112 by omega) dX1_init_33 ?_
  show G FC Y X 1 _ _ _ _ _ _ (RepL Y (P ++ (.inr (1, [Rf Y (k + 1), Rf Y (k + 3), .ref (Y.2.2.1 0), .int 0])) :: (([] ++ O_2 Y (k + 1) 50) ++ O_2 Y (k + 3) 50))) _
  refine q_aload_n C.1 0 dX1_init_36 rfl ?_
  refine q_iconst C.1 (v := 0) dX1_init_37 (by decide) ?_
  refine c_put (P := P) (Q := (([] ++ O_2 Y (k + 1) 50) ++ O_2 Y (k + 3) 50)) (fs := [Rf Y (k + 1), Rf Y (k + 3), .ref (Y.2.2.1 0), .int 0]) (v := .int 0) (ty := .int) C hP (ci := 1) (T := TX1) (N := 4) rfl in_X1 tyX1 tyX1_ok nmX1 3 (by decide) (TB_of (List.mem_of_getElem? (i := 331) (by decide +kernel)) rfl) rfl (by decide +kernel) rfl rfl (Nat.le_of_ble_eq_true rfl) (show k < 112 by omega) dX1_init_38 ?_
  show G FC Y X 1 _ _ _ _ _ _ (RepL Y (P ++ (.inr (1, [Rf Y (k + 1), Rf Y (k + 3), .ref (Y.2.2.1 0), .int 0])) :: (([] ++ O_2 Y (k + 1) 50) ++ O_2 Y (k + 3) 50))) _
  exact q_vret C.1 rfl dX1_init_41
theorem lk_X7_26 : LkIN RX7 26 yX9_init "WellTold" cX9_init 1 0 := ⟨TB_p [105, 71, 106] (by decide +kernel) (by decide +kernel), by decide +kernel, rfl, by decide +kernel, by decide +kernel, by decide +kernel⟩
theorem lk_X7_33 : LkIN RX7 33 yX4_init "WellTold" cX4_init 1 0 := ⟨TB_p [148, 74, 149] (by decide +kernel) (by decide +kernel), by decide +kernel, rfl, by decide +kernel, by decide +kernel, by decide +kernel⟩
theorem lk_X7_40 : LkIN RX7 40 yX0_init "WellTold" cX0_init 1 0 := ⟨TB_p [181, 75, 182] (by decide +kernel) (by decide +kernel), by decide +kernel, rfl, by decide +kernel, by decide +kernel, by decide +kernel⟩
theorem lk_X7_47 : LkI RX7 47 yX2_init cX2_init 2 1 := ⟨TB_p [198, 111, 72, 112] (by decide +kernel) (by decide +kernel), rfl, by decide +kernel, by decide +kernel, by decide +kernel⟩
theorem lk_X7_59 : LkI RX7 59 yX6_init cX6_init 2 1 := ⟨TB_p [201, 202, 76, 203] (by decide +kernel) (by decide +kernel), rfl, by decide +kernel, by decide +kernel, by decide +kernel⟩
theorem lk_X7_69 : LkIN RX7 69 yX3_init "WellTold" cX3_init 1 0 := ⟨TB_p [222, 77, 223] (by decide +kernel) (by decide +kernel), by decide +kernel, rfl, by decide +kernel, by decide +kernel, by decide +kernel⟩
def O_7 (Y : YT) (k : Nat) : List va_E := (.inr (7, [.int 4, .int 0, .int 0, .int 1, Rf Y (k + 1), Rf Y (k + 8), Rf Y (k + 21), Rf Y (k + 26), Rf Y (k + 28), Rf Y (k + 30), Rf Y (k + 35), Rf Y (k + 40), Rf Y (k + 41), .int 0])) :: ((((((((([] ++ O_9 Y (k + 1)) ++ O_4 Y (k + 8)) ++ O_0 Y (k + 21)) ++ O_2 Y (k + 26) 50) ++ O_2 Y (k + 28) 20) ++ O_6 Y (k + 30) 0) ++ O_6 Y (k + 35) 1) ++ O_3 Y (k + 40)) ++ O_2 Y (k + 41) 8)
theorem ct_X7 {Y : YT} {P : List va_E} {k : Nat} (hP : P.length = k) (hk : k + 43 ≤ 112) : Ct FC Y yX7_init cX7_init 1 none 3 42 422 [Rf Y k] (RepL Y (P ++ [.inr (7, [.int 0, .int 0, .int 0, .int 0, .null, .null, .null, .null, .null, .null, .null, .null, .null, .int 0])])) none (RepL Y (P ++ O_7 Y k)) := by
  refine Ct.ofGi (em := emL Y (P ++ O_7 Y k)) (o := some ()) (by decide) rfl (Nat.le_of_ble_eq_true rfl) (fun X C0 => ?_) () rfl
  have C : CxI FC Y X cX7_init 1 RX7 3 (42, 422) := C0
  show G FC Y X 1 (emL Y (P ++ O_7 Y k)) (42, 422) (0, 0) 0 [(0, Rf Y k)] [] (RepL Y (P ++ (.inr (7, [.int 0, .int 0, .int 0, .int 0, .null, .null, .null, .null, .null, .null, .null, .null, .null, .int 0])) :: [])) (some ())
  refine q_aload_n C.1 0 dX7_init_0 rfl ?_
  refine c_obj C (TB_of (List.mem_of_getElem? (i := 101) (by decide +kernel)) rfl) (TB_of (List.mem_of_getElem? (i := 94) (by decide +kernel)) rfl) (TB_of (List.mem_of_getElem? (i := 95) (by decide +kernel)) rfl) (Nat.le_of_ble_eq_true rfl) (Nat.le_of_ble_eq_true rfl) dX7_init_1 ?_
  refine q_aload_n C.1 0 dX7_init_4 rfl ?_
  refine q_iconst C.1 (v := 4) dX7_init_5 (by decide) ?_
  refine c_put (P := P) (Q := []) (fs := [.int 0, .int 0, .int 0, .int 0, .null, .null, .null, .null, .null, .null, .null, .null, .null, .int 0]) (v := .int 4) (ty := .int) C hP (ci := 7) (T := TX7) (N := 14) rfl in_X7 tyX7 tyX7_ok nmX7 0 (by decide) (TB_of (List.mem_of_getElem? (i := 264) (by decide +kernel)) rfl) rfl (by decide +kernel) rfl rfl (Nat.le_of_ble_eq_true rfl) (show k < 112 by omega) dX7_init_6 ?_
  show G FC Y X 1 _ _ _ _ _ _ (RepL Y (P ++ (.inr (7, [.int 4, .int 0, .int 0, .int 0, .null, .null, .null, .null, .null, .null, .null, .null, .null, .int 0])) :: [])) _
  refine q_aload_n C.1 0 dX7_init_9 rfl ?_
  refine q_iconst C.1 (v := 0) dX7_init_10 (by decide) ?_
  refine c_put (P := P) (Q := []) (fs := [.int 4, .int 0, .int 0, .int 0, .null, .null, .null, .null, .null, .null, .null, .null, .null, .int 0]) (v := .int 0) (ty := .int) C hP (ci := 7) (T := TX7) (N := 14) rfl in_X7 tyX7 tyX7_ok nmX7 1 (by decide) (TB_of (List.mem_of_getElem? (i := 266) (by decide +kernel)) rfl) rfl (by decide +kernel) rfl rfl (Nat.le_of_ble_eq_true rfl) (show k < 112 by omega) dX7_init_11 ?_
  show G FC Y X 1 _ _ _ _ _ _ (RepL Y (P ++ (.inr (7, [.int 4, .int 0, .int 0, .int 0, .null, .null, .null, .null, .null, .null, .null, .null, .null, .int 0])) :: [])) _
  refine q_aload_n C.1 0 dX7_init_14 rfl ?_
  refine q_iconst C.1 (v := 0) dX7_init_15 (by decide) ?_
  refine c_put (P := P) (Q := []) (fs := [.int 4, .int 0, .int 0, .int 0, .null, .null, .null, .null, .null, .null, .null, .null, .null, .int 0]) (v := .int 0) (ty := .int) C hP (ci := 7) (T := TX7) (N := 14) rfl in_X7 tyX7 tyX7_ok nmX7 2 (by decide) (TB_of (List.mem_of_getElem? (i := 268) (by decide +kernel)) rfl) rfl (by decide +kernel) rfl rfl (Nat.le_of_ble_eq_true rfl) (show k < 112 by omega) dX7_init_16 ?_
  show G FC Y X 1 _ _ _ _ _ _ (RepL Y (P ++ (.inr (7, [.int 4, .int 0, .int 0, .int 0, .null, .null, .null, .null, .null, .null, .null, .null, .null, .int 0])) :: [])) _
  refine q_aload_n C.1 0 dX7_init_19 rfl ?_
  refine q_iconst C.1 (v := 1) dX7_init_20 (by decide) ?_
  refine c_put (P := P) (Q := []) (fs := [.int 4, .int 0, .int 0, .int 0, .null, .null, .null, .null, .null, .null, .null, .null, .null, .int 0]) (v := .int 1) (ty := .int) C hP (ci := 7) (T := TX7) (N := 14) rfl in_X7 tyX7 tyX7_ok nmX7 3 (by decide) (TB_of (List.mem_of_getElem? (i := 270) (by decide +kernel)) rfl) rfl (by decide +kernel) rfl rfl (Nat.le_of_ble_eq_true rfl) (show k < 112 by omega) dX7_init_21 ?_
  show G FC Y X 1 _ _ _ _ _ _ (RepL Y (P ++ (.inr (7, [.int 4, .int 0, .int 0, .int 1, .null, .null, .null, .null, .null, .null, .null, .null, .null, .int 0])) :: [])) _
  refine q_aload_n C.1 0 dX7_init_24 rfl ?_
  refine c_new (z := (0, 0)) (l := P ++ (.inr (7, [.int 4, .int 0, .int 0, .int 1, .null, .null, .null, .null, .null, .null, .null, .null, .null, .int 0])) :: []) C (ci := 9) (RC := RX9) (T := TX9) (N := 4) (fs := [.null, .null, .null, .int 0]) rfl in_X9 tyX9 tyX9_ok (TB_of (List.mem_of_getElem? (i := 102) (by decide +kernel)) rfl) (TB_of (List.mem_of_getElem? (i := 103) (by decide +kernel)) rfl) (TB_of (List.mem_of_getElem? (i := 71) (by decide +kernel)) rfl) (dflt_9) (n := k + 1) (len_ap hP rfl) (show k + 1 < 112 by omega) (by decide) dX7_init_25 ?_
  refine q_dup C.1 dX7_init_28 rfl ?_
  refine q_callIN (z := (1, 4)) C.1 lk_X7_26 (ct_X9 (P := P ++ (.inr (7, [.int 4, .int 0, .int 0, .int 1, .null, .null, .null, .null, .null, .null, .null, .null, .null, .int 0])) :: []) (k := k + 1) (len_ap hP rfl) (show k + 1 + 7 ≤ 112 by omega)) (Nat.le_of_ble_eq_true rfl) rfl (rest := [Rf Y (k + 1), Rf Y k]) rfl rfl (Nat.le_of_ble_eq_true rfl) dX7_init_29 (by decide) ?_
  refine G.cast (app3 P _ ([]) (O_9 Y (k + 1))) ?_
  refine c_put (P := P) (Q := ([] ++ O_9 Y (k + 1))) (fs := [.int 4, .int 0, .int 0, .int 1, .null, .null, .null, .null, .null, .null, .null, .null, .null, .int 0]) (v := Rf Y (k + 1)) (ty := .object "WellTold$Ways") C hP (ci := 7) (T := TX7) (N := 14) rfl in_X7 tyX7 tyX7_ok nmX7 4 (by decide) (TB_of (List.mem_of_getElem? (i := 272) (by decide +kernel)) rfl) rfl (by decide +kernel) rfl rfl (Nat.le_of_ble_eq_true rfl) (show k < 112 by omega) dX7_init_32 ?_
  show G FC Y X 1 _ _ _ _ _ _ (RepL Y (P ++ (.inr (7, [.int 4, .int 0, .int 0, .int 1, Rf Y (k + 1), .null, .null, .null, .null, .null, .null, .null, .null, .int 0])) :: ([] ++ O_9 Y (k + 1)))) _
  refine q_aload_n C.1 0 dX7_init_35 rfl ?_
  refine c_new (z := (7, 34)) (l := P ++ (.inr (7, [.int 4, .int 0, .int 0, .int 1, Rf Y (k + 1), .null, .null, .null, .null, .null, .null, .null, .null, .int 0])) :: ([] ++ O_9 Y (k + 1))) C (ci := 4) (RC := RX4) (T := TX4) (N := 6) (fs := [.null, .null, .null, .null, .null, .null]) rfl in_X4 tyX4 tyX4_ok (TB_of (List.mem_of_getElem? (i := 145) (by decide +kernel)) rfl) (TB_of (List.mem_of_getElem? (i := 146) (by decide +kernel)) rfl) (TB_of (List.mem_of_getElem? (i := 74) (by decide +kernel)) rfl) (dflt_4) (n := k + 8) (len_ap hP rfl) (show k + 8 < 112 by omega) (by decide) dX7_init_36 ?_
  refine q_dup C.1 dX7_init_39 rfl ?_
  refine q_callIN (z := (8, 40)) C.1 lk_X7_33 (ct_X4 (P := P ++ (.inr (7, [.int 4, .int 0, .int 0, .int 1, Rf Y (k + 1), .null, .null, .null, .null, .null, .null, .null, .null, .int 0])) :: ([] ++ O_9 Y (k + 1))) (k := k + 8) (len_ap hP rfl) (show k + 8 + 13 ≤ 112 by omega)) (Nat.le_of_ble_eq_true rfl) rfl (rest := [Rf Y (k + 8), Rf Y k]) rfl rfl (Nat.le_of_ble_eq_true rfl) dX7_init_40 (by decide) ?_
  refine G.cast (app3 P _ (([] ++ O_9 Y (k + 1))) (O_4 Y (k + 8))) ?_
  refine c_put (P := P) (Q := (([] ++ O_9 Y (k + 1)) ++ O_4 Y (k + 8))) (fs := [.int 4, .int 0, .int 0, .int 1, Rf Y (k + 1), .null, .null, .null, .null, .null, .null, .null, .null, .int 0]) (v := Rf Y (k + 8)) (ty := .object "WellTold$Sayings") C hP (ci := 7) (T := TX7) (N := 14) rfl in_X7 tyX7 tyX7_ok nmX7 5 (by decide) (TB_of (List.mem_of_getElem? (i := 274) (by decide +kernel)) rfl) rfl (by decide +kernel) rfl rfl (Nat.le_of_ble_eq_true rfl) (show k < 112 by omega) dX7_init_43 ?_
  show G FC Y X 1 _ _ _ _ _ _ (RepL Y (P ++ (.inr (7, [.int 4, .int 0, .int 0, .int 1, Rf Y (k + 1), Rf Y (k + 8), .null, .null, .null, .null, .null, .null, .null, .int 0])) :: (([] ++ O_9 Y (k + 1)) ++ O_4 Y (k + 8)))) _
  refine q_aload_n C.1 0 dX7_init_46 rfl ?_
  refine c_new (z := (20, 100)) (l := P ++ (.inr (7, [.int 4, .int 0, .int 0, .int 1, Rf Y (k + 1), Rf Y (k + 8), .null, .null, .null, .null, .null, .null, .null, .int 0])) :: (([] ++ O_9 Y (k + 1)) ++ O_4 Y (k + 8))) C (ci := 0) (RC := RX0) (T := TX0) (N := 2) (fs := [.null, .null]) rfl in_X0 tyX0 tyX0_ok (TB_of (List.mem_of_getElem? (i := 178) (by decide +kernel)) rfl) (TB_of (List.mem_of_getElem? (i := 179) (by decide +kernel)) rfl) (TB_of (List.mem_of_getElem? (i := 75) (by decide +kernel)) rfl) (dflt_0) (n := k + 21) (len_ap hP rfl) (show k + 21 < 112 by omega) (by decide) dX7_init_47 ?_
  refine q_dup C.1 dX7_init_50 rfl ?_
  refine q_callIN (z := (21, 102)) C.1 lk_X7_40 (ct_X0 (P := P ++ (.inr (7, [.int 4, .int 0, .int 0, .int 1, Rf Y (k + 1), Rf Y (k + 8), .null, .null, .null, .null, .null, .null, .null, .int 0])) :: (([] ++ O_9 Y (k + 1)) ++ O_4 Y (k + 8))) (k := k + 21) (len_ap hP rfl) (show k + 21 + 5 ≤ 112 by omega)) (Nat.le_of_ble_eq_true rfl) rfl (rest := [Rf Y (k + 21), Rf Y k]) rfl rfl (Nat.le_of_ble_eq_true rfl) dX7_init_51 (by decide) ?_
  refine G.cast (app3 P _ ((([] ++ O_9 Y (k + 1)) ++ O_4 Y (k + 8))) (O_0 Y (k + 21))) ?_
  refine c_put (P := P) (Q := ((([] ++ O_9 Y (k + 1)) ++ O_4 Y (k + 8)) ++ O_0 Y (k + 21))) (fs := [.int 4, .int 0, .int 0, .int 1, Rf Y (k + 1), Rf Y (k + 8), .null, .null, .null, .null, .null, .null, .null, .int 0]) (v := Rf Y (k + 21)) (ty := .object "WellTold$Folk") C hP (ci := 7) (T := TX7) (N := 14) rfl in_X7 tyX7 tyX7_ok nmX7 6 (by decide) (TB_of (List.mem_of_getElem? (i := 276) (by decide +kernel)) rfl) rfl (by decide +kernel) rfl rfl (Nat.le_of_ble_eq_true rfl) (show k < 112 by omega) dX7_init_54 ?_
  show G FC Y X 1 _ _ _ _ _ _ (RepL Y (P ++ (.inr (7, [.int 4, .int 0, .int 0, .int 1, Rf Y (k + 1), Rf Y (k + 8), Rf Y (k + 21), .null, .null, .null, .null, .null, .null, .int 0])) :: ((([] ++ O_9 Y (k + 1)) ++ O_4 Y (k + 8)) ++ O_0 Y (k + 21)))) _
  refine q_aload_n C.1 0 dX7_init_57 rfl ?_
  refine c_new (z := (25, 118)) (l := P ++ (.inr (7, [.int 4, .int 0, .int 0, .int 1, Rf Y (k + 1), Rf Y (k + 8), Rf Y (k + 21), .null, .null, .null, .null, .null, .null, .int 0])) :: ((([] ++ O_9 Y (k + 1)) ++ O_4 Y (k + 8)) ++ O_0 Y (k + 21))) C (ci := 2) (RC := RX2) (T := TX2) (N := 2) (fs := [.null, .int 0]) rfl in_X2 tyX2 tyX2_ok (TB_of (List.mem_of_getElem? (i := 197) (by decide +kernel)) rfl) (TB_of (List.mem_of_getElem? (i := 109) (by decide +kernel)) rfl) (TB_of (List.mem_of_getElem? (i := 72) (by decide +kernel)) rfl) (dflt_2) (n := k + 26) (len_ap hP rfl) (show k + 26 < 112 by omega) (by decide) dX7_init_58 ?_
  refine q_dup C.1 dX7_init_61 rfl ?_
  refine q_bipush C.1 (v := 50) dX7_init_62 (by decide) ?_
  refine q_callI (z := (26, 120)) C.1 lk_X7_47 (ct_X2 (P := P ++ (.inr (7, [.int 4, .int 0, .int 0, .int 1, Rf Y (k + 1), Rf Y (k + 8), Rf Y (k + 21), .null, .null, .null, .null, .null, .null, .int 0])) :: ((([] ++ O_9 Y (k + 1)) ++ O_4 Y (k + 8)) ++ O_0 Y (k + 21))) (k := k + 26) (a := 50) (m := 50) (len_ap hP rfl) (show k + 26 + 2 ≤ 112 by omega) (by decide) (by decide)) (Nat.le_of_ble_eq_true rfl) rfl (rest := [Rf Y (k + 26), Rf Y k]) rfl rfl (Nat.le_of_ble_eq_true rfl) dX7_init_64 (by decide) ?_
  refine G.cast (app3 P _ (((([] ++ O_9 Y (k + 1)) ++ O_4 Y (k + 8)) ++ O_0 Y (k + 21))) (O_2 Y (k + 26) 50)) ?_
  refine c_put (P := P) (Q := (((([] ++ O_9 Y (k + 1)) ++ O_4 Y (k + 8)) ++ O_0 Y (k + 21)) ++ O_2 Y (k + 26) 50)) (fs := [.int 4, .int 0, .int 0, .int 1, Rf Y (k + 1), Rf Y (k + 8), Rf Y (k + 21), .null, .null, .null, .null, .null, .null, .int 0]) (v := Rf Y (k + 26)) (ty := .object "WellTold$Row") C hP (ci := 7) (T := TX7) (N := 14) rfl in_X7 tyX7 tyX7_ok nmX7 7 (by decide) (TB_of (List.mem_of_getElem? (i := 278) (by decide +kernel)) rfl) rfl (by decide +kernel) rfl rfl (Nat.le_of_ble_eq_true rfl) (show k < 112 by omega) dX7_init_67 ?_
  show G FC Y X 1 _ _ _ _ _ _ (RepL Y (P ++ (.inr (7, [.int 4, .int 0, .int 0, .int 1, Rf Y (k + 1), Rf Y (k + 8), Rf Y (k + 21), Rf Y (k + 26), .null, .null, .null, .null, .null, .int 0])) :: (((([] ++ O_9 Y (k + 1)) ++ O_4 Y (k + 8)) ++ O_0 Y (k + 21)) ++ O_2 Y (k + 26) 50))) _
  refine q_aload_n C.1 0 dX7_init_70 rfl ?_
  refine c_new (z := (27, 170)) (l := P ++ (.inr (7, [.int 4, .int 0, .int 0, .int 1, Rf Y (k + 1), Rf Y (k + 8), Rf Y (k + 21), Rf Y (k + 26), .null, .null, .null, .null, .null, .int 0])) :: (((([] ++ O_9 Y (k + 1)) ++ O_4 Y (k + 8)) ++ O_0 Y (k + 21)) ++ O_2 Y (k + 26) 50)) C (ci := 2) (RC := RX2) (T := TX2) (N := 2) (fs := [.null, .int 0]) rfl in_X2 tyX2 tyX2_ok (TB_of (List.mem_of_getElem? (i := 197) (by decide +kernel)) rfl) (TB_of (List.mem_of_getElem? (i := 109) (by decide +kernel)) rfl) (TB_of (List.mem_of_getElem? (i := 72) (by decide +kernel)) rfl) (dflt_2) (n := k + 28) (len_ap hP rfl) (show k + 28 < 112 by omega) (by decide) dX7_init_71 ?_
  refine q_dup C.1 dX7_init_74 rfl ?_
  refine q_bipush C.1 (v := 20) dX7_init_75 (by decide) ?_
  refine q_callI (z := (28, 172)) C.1 lk_X7_47 (ct_X2 (P := P ++ (.inr (7, [.int 4, .int 0, .int 0, .int 1, Rf Y (k + 1), Rf Y (k + 8), Rf Y (k + 21), Rf Y (k + 26), .null, .null, .null, .null, .null, .int 0])) :: (((([] ++ O_9 Y (k + 1)) ++ O_4 Y (k + 8)) ++ O_0 Y (k + 21)) ++ O_2 Y (k + 26) 50)) (k := k + 28) (a := 20) (m := 20) (len_ap hP rfl) (show k + 28 + 2 ≤ 112 by omega) (by decide) (by decide)) (Nat.le_of_ble_eq_true rfl) rfl (rest := [Rf Y (k + 28), Rf Y k]) rfl rfl (Nat.le_of_ble_eq_true rfl) dX7_init_77 (by decide) ?_
  refine G.cast (app3 P _ ((((([] ++ O_9 Y (k + 1)) ++ O_4 Y (k + 8)) ++ O_0 Y (k + 21)) ++ O_2 Y (k + 26) 50)) (O_2 Y (k + 28) 20)) ?_
  refine c_put (P := P) (Q := ((((([] ++ O_9 Y (k + 1)) ++ O_4 Y (k + 8)) ++ O_0 Y (k + 21)) ++ O_2 Y (k + 26) 50) ++ O_2 Y (k + 28) 20)) (fs := [.int 4, .int 0, .int 0, .int 1, Rf Y (k + 1), Rf Y (k + 8), Rf Y (k + 21), Rf Y (k + 26), .null, .null, .null, .null, .null, .int 0]) (v := Rf Y (k + 28)) (ty := .object "WellTold$Row") C hP (ci := 7) (T := TX7) (N := 14) rfl in_X7 tyX7 tyX7_ok nmX7 8 (by decide) (TB_of (List.mem_of_getElem? (i := 280) (by decide +kernel)) rfl) rfl (by decide +kernel) rfl rfl (Nat.le_of_ble_eq_true rfl) (show k < 112 by omega) dX7_init_80 ?_
  show G FC Y X 1 _ _ _ _ _ _ (RepL Y (P ++ (.inr (7, [.int 4, .int 0, .int 0, .int 1, Rf Y (k + 1), Rf Y (k + 8), Rf Y (k + 21), Rf Y (k + 26), Rf Y (k + 28), .null, .null, .null, .null, .int 0])) :: ((((([] ++ O_9 Y (k + 1)) ++ O_4 Y (k + 8)) ++ O_0 Y (k + 21)) ++ O_2 Y (k + 26) 50) ++ O_2 Y (k + 28) 20))) _
  refine q_aload_n C.1 0 dX7_init_83 rfl ?_
  refine c_new (z := (29, 192)) (l := P ++ (.inr (7, [.int 4, .int 0, .int 0, .int 1, Rf Y (k + 1), Rf Y (k + 8), Rf Y (k + 21), Rf Y (k + 26), Rf Y (k + 28), .null, .null, .null, .null, .int 0])) :: ((((([] ++ O_9 Y (k + 1)) ++ O_4 Y (k + 8)) ++ O_0 Y (k + 21)) ++ O_2 Y (k + 26) 50) ++ O_2 Y (k + 28) 20)) C (ci := 6) (RC := RX6) (T := TX6) (N := 3) (fs := [.null, .null, .int 0]) rfl in_X6 tyX6 tyX6_ok (TB_of (List.mem_of_getElem? (i := 199) (by decide +kernel)) rfl) (TB_of (List.mem_of_getElem? (i := 200) (by decide +kernel)) rfl) (TB_of (List.mem_of_getElem? (i := 76) (by decide +kernel)) rfl) (dflt_6) (n := k + 30) (len_ap hP rfl) (show k + 30 < 112 by omega) (by decide) dX7_init_84 ?_
  refine q_dup C.1 dX7_init_87 rfl ?_
  refine q_iconst C.1 (v := 0) dX7_init_88 (by decide) ?_
  refine q_callI (z := (30, 195)) C.1 lk_X7_59 (ct_X6 (P := P ++ (.inr (7, [.int 4, .int 0, .int 0, .int 1, Rf Y (k + 1), Rf Y (k + 8), Rf Y (k + 21), Rf Y (k + 26), Rf Y (k + 28), .null, .null, .null, .null, .int 0])) :: ((((([] ++ O_9 Y (k + 1)) ++ O_4 Y (k + 8)) ++ O_0 Y (k + 21)) ++ O_2 Y (k + 26) 50) ++ O_2 Y (k + 28) 20)) (k := k + 30) (a := 0) (len_ap hP rfl) (show k + 30 + 5 ≤ 112 by omega)) (Nat.le_of_ble_eq_true rfl) rfl (rest := [Rf Y (k + 30), Rf Y k]) rfl rfl (Nat.le_of_ble_eq_true rfl) dX7_init_89 (by decide) ?_
  refine G.cast (app3 P _ (((((([] ++ O_9 Y (k + 1)) ++ O_4 Y (k + 8)) ++ O_0 Y (k + 21)) ++ O_2 Y (k + 26) 50) ++ O_2 Y (k + 28) 20)) (O_6 Y (k + 30) 0)) ?_
  refine c_put (P := P) (Q := (((((([] ++ O_9 Y (k + 1)) ++ O_4 Y (k + 8)) ++ O_0 Y (k + 21)) ++ O_2 Y (k + 26) 50) ++ O_2 Y (k + 28) 20) ++ O_6 Y (k + 30) 0)) (fs := [.int 4, .int 0, .int 0, .int 1, Rf Y (k + 1), Rf Y (k + 8), Rf Y (k + 21), Rf Y (k + 26), Rf Y (k + 28), .null, .null, .null, .null, .int 0]) (v := Rf Y (k + 30)) (ty := .object "WellTold$Text") C hP (ci := 7) (T := TX7) (N := 14) rfl in_X7 tyX7 tyX7_ok nmX7 9 (by decide) (TB_of (List.mem_of_getElem? (i := 282) (by decide +kernel)) rfl) rfl (by decide +kernel) rfl rfl (Nat.le_of_ble_eq_true rfl) (show k < 112 by omega) dX7_init_92 ?_
  show G FC Y X 1 _ _ _ _ _ _ (RepL Y (P ++ (.inr (7, [.int 4, .int 0, .int 0, .int 1, Rf Y (k + 1), Rf Y (k + 8), Rf Y (k + 21), Rf Y (k + 26), Rf Y (k + 28), Rf Y (k + 30), .null, .null, .null, .int 0])) :: (((((([] ++ O_9 Y (k + 1)) ++ O_4 Y (k + 8)) ++ O_0 Y (k + 21)) ++ O_2 Y (k + 26) 50) ++ O_2 Y (k + 28) 20) ++ O_6 Y (k + 30) 0))) _
  refine q_aload_n C.1 0 dX7_init_95 rfl ?_
  refine c_new (z := (34, 299)) (l := P ++ (.inr (7, [.int 4, .int 0, .int 0, .int 1, Rf Y (k + 1), Rf Y (k + 8), Rf Y (k + 21), Rf Y (k + 26), Rf Y (k + 28), Rf Y (k + 30), .null, .null, .null, .int 0])) :: (((((([] ++ O_9 Y (k + 1)) ++ O_4 Y (k + 8)) ++ O_0 Y (k + 21)) ++ O_2 Y (k + 26) 50) ++ O_2 Y (k + 28) 20) ++ O_6 Y (k + 30) 0)) C (ci := 6) (RC := RX6) (T := TX6) (N := 3) (fs := [.null, .null, .int 0]) rfl in_X6 tyX6 tyX6_ok (TB_of (List.mem_of_getElem? (i := 199) (by decide +kernel)) rfl) (TB_of (List.mem_of_getElem? (i := 200) (by decide +kernel)) rfl) (TB_of (List.mem_of_getElem? (i := 76) (by decide +kernel)) rfl) (dflt_6) (n := k + 35) (len_ap hP rfl) (show k + 35 < 112 by omega) (by decide) dX7_init_96 ?_
  refine q_dup C.1 dX7_init_99 rfl ?_
  refine q_iconst C.1 (v := 1) dX7_init_100 (by decide) ?_
  refine q_callI (z := (35, 302)) C.1 lk_X7_59 (ct_X6 (P := P ++ (.inr (7, [.int 4, .int 0, .int 0, .int 1, Rf Y (k + 1), Rf Y (k + 8), Rf Y (k + 21), Rf Y (k + 26), Rf Y (k + 28), Rf Y (k + 30), .null, .null, .null, .int 0])) :: (((((([] ++ O_9 Y (k + 1)) ++ O_4 Y (k + 8)) ++ O_0 Y (k + 21)) ++ O_2 Y (k + 26) 50) ++ O_2 Y (k + 28) 20) ++ O_6 Y (k + 30) 0)) (k := k + 35) (a := 1) (len_ap hP rfl) (show k + 35 + 5 ≤ 112 by omega)) (Nat.le_of_ble_eq_true rfl) rfl (rest := [Rf Y (k + 35), Rf Y k]) rfl rfl (Nat.le_of_ble_eq_true rfl) dX7_init_101 (by decide) ?_
  refine G.cast (app3 P _ ((((((([] ++ O_9 Y (k + 1)) ++ O_4 Y (k + 8)) ++ O_0 Y (k + 21)) ++ O_2 Y (k + 26) 50) ++ O_2 Y (k + 28) 20) ++ O_6 Y (k + 30) 0)) (O_6 Y (k + 35) 1)) ?_
  refine c_put (P := P) (Q := ((((((([] ++ O_9 Y (k + 1)) ++ O_4 Y (k + 8)) ++ O_0 Y (k + 21)) ++ O_2 Y (k + 26) 50) ++ O_2 Y (k + 28) 20) ++ O_6 Y (k + 30) 0) ++ O_6 Y (k + 35) 1)) (fs := [.int 4, .int 0, .int 0, .int 1, Rf Y (k + 1), Rf Y (k + 8), Rf Y (k + 21), Rf Y (k + 26), Rf Y (k + 28), Rf Y (k + 30), .null, .null, .null, .int 0]) (v := Rf Y (k + 35)) (ty := .object "WellTold$Text") C hP (ci := 7) (T := TX7) (N := 14) rfl in_X7 tyX7 tyX7_ok nmX7 10 (by decide) (TB_of (List.mem_of_getElem? (i := 283) (by decide +kernel)) rfl) rfl (by decide +kernel) rfl rfl (Nat.le_of_ble_eq_true rfl) (show k < 112 by omega) dX7_init_104 ?_
  show G FC Y X 1 _ _ _ _ _ _ (RepL Y (P ++ (.inr (7, [.int 4, .int 0, .int 0, .int 1, Rf Y (k + 1), Rf Y (k + 8), Rf Y (k + 21), Rf Y (k + 26), Rf Y (k + 28), Rf Y (k + 30), Rf Y (k + 35), .null, .null, .int 0])) :: ((((((([] ++ O_9 Y (k + 1)) ++ O_4 Y (k + 8)) ++ O_0 Y (k + 21)) ++ O_2 Y (k + 26) 50) ++ O_2 Y (k + 28) 20) ++ O_6 Y (k + 30) 0) ++ O_6 Y (k + 35) 1))) _
  refine q_aload_n C.1 0 dX7_init_107 rfl ?_
  refine c_new (z := (39, 406)) (l := P ++ (.inr (7, [.int 4, .int 0, .int 0, .int 1, Rf Y (k + 1), Rf Y (k + 8), Rf Y (k + 21), Rf Y (k + 26), Rf Y (k + 28), Rf Y (k + 30), Rf Y (k + 35), .null, .null, .int 0])) :: ((((((([] ++ O_9 Y (k + 1)) ++ O_4 Y (k + 8)) ++ O_0 Y (k + 21)) ++ O_2 Y (k + 26) 50) ++ O_2 Y (k + 28) 20) ++ O_6 Y (k + 30) 0) ++ O_6 Y (k + 35) 1)) C (ci := 3) (RC := RX3) (T := TX3) (N := 6) (fs := [.int 0, .int 0, .int 0, .int 0, .int 0, .int 0]) rfl in_X3 tyX3 tyX3_ok (TB_of (List.mem_of_getElem? (i := 219) (by decide +kernel)) rfl) (TB_of (List.mem_of_getElem? (i := 220) (by decide +kernel)) rfl) (TB_of (List.mem_of_getElem? (i := 77) (by decide +kernel)) rfl) (dflt_3) (n := k + 40) (len_ap hP rfl) (show k + 40 < 112 by omega) (by decide) dX7_init_108 ?_
  refine q_dup C.1 dX7_init_111 rfl ?_
  refine q_callIN (z := (40, 412)) C.1 lk_X7_69 (ct_X3 (P := P ++ (.inr (7, [.int 4, .int 0, .int 0, .int 1, Rf Y (k + 1), Rf Y (k + 8), Rf Y (k + 21), Rf Y (k + 26), Rf Y (k + 28), Rf Y (k + 30), Rf Y (k + 35), .null, .null, .int 0])) :: ((((((([] ++ O_9 Y (k + 1)) ++ O_4 Y (k + 8)) ++ O_0 Y (k + 21)) ++ O_2 Y (k + 26) 50) ++ O_2 Y (k + 28) 20) ++ O_6 Y (k + 30) 0) ++ O_6 Y (k + 35) 1)) (k := k + 40) (len_ap hP rfl) (show k + 40 + 1 ≤ 112 by omega)) (Nat.le_of_ble_eq_true rfl) rfl (rest := [Rf Y (k + 40), Rf Y k]) rfl rfl (Nat.le_of_ble_eq_true rfl) dX7_init_112 (by decide) ?_
  refine G.cast (app3 P _ (((((((([] ++ O_9 Y (k + 1)) ++ O_4 Y (k + 8)) ++ O_0 Y (k + 21)) ++ O_2 Y (k + 26) 50) ++ O_2 Y (k + 28) 20) ++ O_6 Y (k + 30) 0) ++ O_6 Y (k + 35) 1)) (O_3 Y (k + 40))) ?_
  refine c_put (P := P) (Q := (((((((([] ++ O_9 Y (k + 1)) ++ O_4 Y (k + 8)) ++ O_0 Y (k + 21)) ++ O_2 Y (k + 26) 50) ++ O_2 Y (k + 28) 20) ++ O_6 Y (k + 30) 0) ++ O_6 Y (k + 35) 1) ++ O_3 Y (k + 40))) (fs := [.int 4, .int 0, .int 0, .int 1, Rf Y (k + 1), Rf Y (k + 8), Rf Y (k + 21), Rf Y (k + 26), Rf Y (k + 28), Rf Y (k + 30), Rf Y (k + 35), .null, .null, .int 0]) (v := Rf Y (k + 40)) (ty := .object "WellTold$Saying") C hP (ci := 7) (T := TX7) (N := 14) rfl in_X7 tyX7 tyX7_ok nmX7 11 (by decide) (TB_of (List.mem_of_getElem? (i := 284) (by decide +kernel)) rfl) rfl (by decide +kernel) rfl rfl (Nat.le_of_ble_eq_true rfl) (show k < 112 by omega) dX7_init_115 ?_
  show G FC Y X 1 _ _ _ _ _ _ (RepL Y (P ++ (.inr (7, [.int 4, .int 0, .int 0, .int 1, Rf Y (k + 1), Rf Y (k + 8), Rf Y (k + 21), Rf Y (k + 26), Rf Y (k + 28), Rf Y (k + 30), Rf Y (k + 35), Rf Y (k + 40), .null, .int 0])) :: (((((((([] ++ O_9 Y (k + 1)) ++ O_4 Y (k + 8)) ++ O_0 Y (k + 21)) ++ O_2 Y (k + 26) 50) ++ O_2 Y (k + 28) 20) ++ O_6 Y (k + 30) 0) ++ O_6 Y (k + 35) 1) ++ O_3 Y (k + 40)))) _
  refine q_aload_n C.1 0 dX7_init_118 rfl ?_
  refine c_new (z := (40, 412)) (l := P ++ (.inr (7, [.int 4, .int 0, .int 0, .int 1, Rf Y (k + 1), Rf Y (k + 8), Rf Y (k + 21), Rf Y (k + 26), Rf Y (k + 28), Rf Y (k + 30), Rf Y (k + 35), Rf Y (k + 40), .null, .int 0])) :: (((((((([] ++ O_9 Y (k + 1)) ++ O_4 Y (k + 8)) ++ O_0 Y (k + 21)) ++ O_2 Y (k + 26) 50) ++ O_2 Y (k + 28) 20) ++ O_6 Y (k + 30) 0) ++ O_6 Y (k + 35) 1) ++ O_3 Y (k + 40))) C (ci := 2) (RC := RX2) (T := TX2) (N := 2) (fs := [.null, .int 0]) rfl in_X2 tyX2 tyX2_ok (TB_of (List.mem_of_getElem? (i := 197) (by decide +kernel)) rfl) (TB_of (List.mem_of_getElem? (i := 109) (by decide +kernel)) rfl) (TB_of (List.mem_of_getElem? (i := 72) (by decide +kernel)) rfl) (dflt_2) (n := k + 41) (len_ap hP rfl) (show k + 41 < 112 by omega) (by decide) dX7_init_119 ?_
  refine q_dup C.1 dX7_init_122 rfl ?_
  refine q_bipush C.1 (v := 8) dX7_init_123 (by decide) ?_
  refine q_callI (z := (41, 414)) C.1 lk_X7_47 (ct_X2 (P := P ++ (.inr (7, [.int 4, .int 0, .int 0, .int 1, Rf Y (k + 1), Rf Y (k + 8), Rf Y (k + 21), Rf Y (k + 26), Rf Y (k + 28), Rf Y (k + 30), Rf Y (k + 35), Rf Y (k + 40), .null, .int 0])) :: (((((((([] ++ O_9 Y (k + 1)) ++ O_4 Y (k + 8)) ++ O_0 Y (k + 21)) ++ O_2 Y (k + 26) 50) ++ O_2 Y (k + 28) 20) ++ O_6 Y (k + 30) 0) ++ O_6 Y (k + 35) 1) ++ O_3 Y (k + 40))) (k := k + 41) (a := 8) (m := 8) (len_ap hP rfl) (show k + 41 + 2 ≤ 112 by omega) (by decide) (by decide)) (Nat.le_of_ble_eq_true rfl) rfl (rest := [Rf Y (k + 41), Rf Y k]) rfl rfl (Nat.le_of_ble_eq_true rfl) dX7_init_125 (by decide) ?_
  refine G.cast (app3 P _ ((((((((([] ++ O_9 Y (k + 1)) ++ O_4 Y (k + 8)) ++ O_0 Y (k + 21)) ++ O_2 Y (k + 26) 50) ++ O_2 Y (k + 28) 20) ++ O_6 Y (k + 30) 0) ++ O_6 Y (k + 35) 1) ++ O_3 Y (k + 40))) (O_2 Y (k + 41) 8)) ?_
  refine c_put (P := P) (Q := ((((((((([] ++ O_9 Y (k + 1)) ++ O_4 Y (k + 8)) ++ O_0 Y (k + 21)) ++ O_2 Y (k + 26) 50) ++ O_2 Y (k + 28) 20) ++ O_6 Y (k + 30) 0) ++ O_6 Y (k + 35) 1) ++ O_3 Y (k + 40)) ++ O_2 Y (k + 41) 8)) (fs := [.int 4, .int 0, .int 0, .int 1, Rf Y (k + 1), Rf Y (k + 8), Rf Y (k + 21), Rf Y (k + 26), Rf Y (k + 28), Rf Y (k + 30), Rf Y (k + 35), Rf Y (k + 40), .null, .int 0]) (v := Rf Y (k + 41)) (ty := .object "WellTold$Row") C hP (ci := 7) (T := TX7) (N := 14) rfl in_X7 tyX7 tyX7_ok nmX7 12 (by decide) (TB_of (List.mem_of_getElem? (i := 285) (by decide +kernel)) rfl) rfl (by decide +kernel) rfl rfl (Nat.le_of_ble_eq_true rfl) (show k < 112 by omega) dX7_init_128 ?_
  show G FC Y X 1 _ _ _ _ _ _ (RepL Y (P ++ (.inr (7, [.int 4, .int 0, .int 0, .int 1, Rf Y (k + 1), Rf Y (k + 8), Rf Y (k + 21), Rf Y (k + 26), Rf Y (k + 28), Rf Y (k + 30), Rf Y (k + 35), Rf Y (k + 40), Rf Y (k + 41), .int 0])) :: ((((((((([] ++ O_9 Y (k + 1)) ++ O_4 Y (k + 8)) ++ O_0 Y (k + 21)) ++ O_2 Y (k + 26) 50) ++ O_2 Y (k + 28) 20) ++ O_6 Y (k + 30) 0) ++ O_6 Y (k + 35) 1) ++ O_3 Y (k + 40)) ++ O_2 Y (k + 41) 8))) _
  refine q_aload_n C.1 0 dX7_init_131 rfl ?_
  refine q_iconst C.1 (v := 0) dX7_init_132 (by decide) ?_
  refine c_put (P := P) (Q := ((((((((([] ++ O_9 Y (k + 1)) ++ O_4 Y (k + 8)) ++ O_0 Y (k + 21)) ++ O_2 Y (k + 26) 50) ++ O_2 Y (k + 28) 20) ++ O_6 Y (k + 30) 0) ++ O_6 Y (k + 35) 1) ++ O_3 Y (k + 40)) ++ O_2 Y (k + 41) 8)) (fs := [.int 4, .int 0, .int 0, .int 1, Rf Y (k + 1), Rf Y (k + 8), Rf Y (k + 21), Rf Y (k + 26), Rf Y (k + 28), Rf Y (k + 30), Rf Y (k + 35), Rf Y (k + 40), Rf Y (k + 41), .int 0]) (v := .int 0) (ty := .int) C hP (ci := 7) (T := TX7) (N := 14) rfl in_X7 tyX7 tyX7_ok nmX7 13 (by decide) (TB_of (List.mem_of_getElem? (i := 287) (by decide +kernel)) rfl) rfl (by decide +kernel) rfl rfl (Nat.le_of_ble_eq_true rfl) (show k < 112 by omega) dX7_init_133 ?_
  show G FC Y X 1 _ _ _ _ _ _ (RepL Y (P ++ (.inr (7, [.int 4, .int 0, .int 0, .int 1, Rf Y (k + 1), Rf Y (k + 8), Rf Y (k + 21), Rf Y (k + 26), Rf Y (k + 28), Rf Y (k + 30), Rf Y (k + 35), Rf Y (k + 40), Rf Y (k + 41), .int 0])) :: ((((((((([] ++ O_9 Y (k + 1)) ++ O_4 Y (k + 8)) ++ O_0 Y (k + 21)) ++ O_2 Y (k + 26) 50) ++ O_2 Y (k + 28) 20) ++ O_6 Y (k + 30) 0) ++ O_6 Y (k + 35) 1) ++ O_3 Y (k + 40)) ++ O_2 Y (k + 41) 8))) _
  exact q_vret C.1 rfl dX7_init_136
