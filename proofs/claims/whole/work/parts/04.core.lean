/-! The judgement G: from a place in a method's body, with these locals, this stack and this picture of the heap, the method ends as 'o' says (if it says something). -/
abbrev St : Type := Nat → Nat → Int32
def up (σ : St) (k j : Nat) (v : Int32) : St := fun a i => if a = k then (if i = j then v else σ a i) else σ a i
def Bst {α : Type} (s : St) (f : St → Option α) : Option α := f s
def Lt {α : Type} (x : Int32) (f : Int32 → Option α) : Option α := f x
abbrev FT : Type := (Nat → Nat) × Nat
abbrev YT : Type := va_G × (ClassId × ClassId × ClassId) × (Nat → Nat) × (Nat → Nat) × Nat
abbrev XT : Type := Program × Launch × Env × Room × State × MethodId × Array Value × List Frame × Method × Code
abbrev sX (X : XT) : State := X.2.2.2.2.1
abbrev bY (Y : YT) : Nat := Y.2.2.2.2
abbrev Rf (Y : YT) (k : Nat) : Value := .ref (bY Y + k)
abbrev tysY (Y : YT) : List (ClassId × FieldType) := [(Y.2.1.1, .int), (Y.2.1.2.1, .object "WellTold$Sheet"), (Y.2.1.2.2, .object "java/lang/String")]
def TB : List Cond := lw_tbl.filter goodWord
def AF (F : FT) (Y : YT) : Nat → Prop := fun q => bY Y ≤ q ∧ q < bY Y + F.2
def NW : List (String × Nat × MethodName × String) := NWL
def strL : List (String × Nat × String × Nat) := strRefs
/-- what a method knows of the world outside: the classes, the links between nest mates, the text constants, the tables -/
def Ex (F : FT) (Y : YT) (U : State) : Prop :=
  va_K Y.1 vwCl (tysY Y) U ∧ (∀ q ∈ NW, va_Nw (.methodLinkNest q.1 q.2.1 q.2.2.1 q.2.2.2) U) ∧
  vk_S nS lenS bytS Y.2.2.1 Y.2.2.2.1 (AF F Y) U U.heap ∧ (∀ q ∈ strL, vk_R q.1 q.2.1 q.2.2.1 (Y.2.2.1 q.2.2.2) U) ∧
  (∃ t0 t1 : Nat, va_Z "WellTold$Voices" "ABOVE" "[I" (.ref t0) (AF F Y) U U.heap ∧ va_Z "WellTold$Voices" "BODIES" "[I" (.ref t1) (AF F Y) U U.heap ∧ va_T .int t0 7 (fun j => .int (tabA.getD j 0)) (AF F Y) U U.heap ∧ va_T .int t1 28 (fun j => .int (tabB.getD j 0)) (AF F Y) U U.heap) ∧
  va_Z "java/lang/String" "COMPACT_STRINGS" "Z" (.int 1) (AF F Y) U U.heap ∧
  (∃ v : Value, v.category = 1 ∧ va_Z "jdk/internal/util/Preconditions" "SIOOBE_FORMATTER" "Ljava/util/function/BiFunction;" v (AF F Y) U U.heap) ∧
  va_AO "WellTold$Sheet" U ∧ va_AO "java/lang/String" U
theorem Ex.moved {F : FT} {Y : YT} {s U : State} (h : Ex F Y s) (hW : s.WarmedH U.vm) (hq : ∀ a : Nat, a < s.heap.size → ¬ AF F Y a → U.heap[a]? = s.heap[a]?) : Ex F Y U := by
  obtain ⟨h1, h2, h3, h4, ⟨t0, t1, a1, a2, a3, a4⟩, h6, ⟨v7, h7, h8⟩, h9, h10⟩ := h
  have hv := hW.alike
  exact ⟨va_K.moved hv h1, fun q hq => va_Nw.warmM hW (h2 q hq), (vk_S.moved hv h3).kept hq, fun q hq => (h4 q hq).warm hW, ⟨t0, t1, (va_Z.moved hv a1).kept hq, (va_Z.moved hv a2).kept hq, (va_T.moved hv a3).kept hq, (va_T.moved hv a4).kept hq⟩, (va_Z.moved hv h6).kept hq, ⟨v7, h7, (va_Z.moved hv h8).kept hq⟩, va_AO.moved hv h9, va_AO.moved hv h10⟩
def Qof (A : Nat → Prop) (v : Option Value) (hp : Heap → Prop) : Array Value → State → Outcome → State → Prop := fun _ st o t => o = .returned v ∧ hp t.heap ∧ va_F A st t
def PcG (F : FT) (Y : YT) (as : List Value) (hp : Heap → Prop) : Array Value → State → Prop := fun v U => v = as.toArray ∧ hp U.heap ∧ Ex F Y U
abbrev rmD (d mc ms : Nat) : Room := { frames := d, cells := mc, slots := ms, locals := 64 * d }
def Ct (F : FT) (Y : YT) (y : MethodName) (cc : ByteArray) (maxL : Nat) (ret : Option FieldType) (d mc ms : Nat) (as : List Value) (hp : Heap → Prop) (v : Option Value) (hp' : Heap → Prop) : Prop :=
  ∀ l : Launch, Met l y (.code y cc maxL ret :: TB) (rmD d mc ms) (PcG F Y as hp) (Qof (AF F Y) v hp') mc ms (AF F Y)
def Cx (F : FT) (Y : YT) (X : XT) (cc : ByteArray) (nL : Nat) (own : String) (ret : Option FieldType) (d : Nat) (zf : Nat × Nat) : Prop :=
  X.1.tables.exec = Jvm.exec ∧ X.2.2.2.2.2.2.2.2.2.code = cc ∧ X.2.2.2.2.2.2.2.2.2.maxLocals = nL ∧ (sX X).vm.findClass own = some X.2.2.2.2.2.1.cls ∧ (∀ w ∈ TB, w.before X.2.2.2.2.2.2.1 (sX X) = true) ∧ Ex F Y (sX X) ∧ X.2.2.2.2.2.2.2.2.1.locks = false ∧ X.2.2.2.2.2.2.2.2.1.sig.returnType = ret ∧ X.2.2.2.1 = rmD d zf.1 zf.2
def G {ρ : Type} (F : FT) (Y : YT) (X : XT) (nL : Nat) (em : ρ → Option Value × (Heap → Prop)) (zf z : Nat × Nat) (pc : Nat) (lv : List (Nat × Value)) (st : List Value) (hp : Heap → Prop) (o : Option ρ) : Prop :=
  ∀ r : ρ, o = some r → ∀ (ls : Array Slot) (H : Heap) (locs : List Loc), lv_has ls nL lv → hp H → va_S (AF F Y) (sX X).heap H locs →
    W X.1 X.2.1 X.2.2.1 X.2.2.2.1 (sX X) X.2.2.2.2.2.1 X.2.2.2.2.2.2.1 X.2.2.2.2.2.2.2.1 X.2.2.2.2.2.2.2.2.1 X.2.2.2.2.2.2.2.2.2 H locs z.1 z.2 (MQ X.2.2.2.2.2.2.2.1 (Qof (AF F Y) (em r).1 (em r).2) X.2.2.2.2.2.2.1 (sX X) zf.1 zf.2 (AF F Y)) (F0 X.2.2.2.2.2.1 pc ls st)
theorem TB_good : GoodIn TB TB := fun w h => ⟨h, good_of_word (List.mem_filter.mp h).2⟩
theorem TB_of {w : Cond} (h : w ∈ lw_tbl) (g : goodWord w = true) : w ∈ TB := List.mem_filter.mpr ⟨h, g⟩
theorem TB_sub {ws : List Cond} (h : ∀ w ∈ ws, w ∈ lw_tbl) (g : ws.all goodWord = true) : ∀ w ∈ ws, w ∈ TB := fun w hw => TB_of (h w hw) (List.all_eq_true.mp g w hw)
theorem TB_p {ws : List Cond} (ps : List Nat) (hp : ws = ps.filterMap (fun i => lw_tbl[i]?)) (g : ws.all goodWord = true) : ∀ w ∈ ws, w ∈ TB := by
  refine TB_sub (fun w hw => ?_) g
  rw [hp] at hw
  obtain ⟨i, -, hi⟩ := List.mem_filterMap.mp hw
  exact List.mem_of_getElem? hi
/-- from the walk to the contract -/
theorem Ct.ofG {ρ : Type} {F : FT} {Y : YT} {y : MethodName} {cc : ByteArray} {maxL : Nat} {ret : Option FieldType} {d mc ms : Nat} {as : List Value} {hp : Heap → Prop} {em : ρ → Option Value × (Heap → Prop)} {o : Option ρ}
    (hy : plainName y.cls = true) (hlen : (lg_sl as).length ≤ maxL)
    (body : ∀ X : XT, Cx F Y X cc maxL y.cls ret d (mc, ms) → G F Y X maxL em (mc, ms) (0, 0) 0 (lv_args 0 as) [] hp o) : ∀ r, o = some r → Ct F Y y cc maxL ret d mc ms as hp (em r).1 (em r).2 := by
  intro r hr l
  refine Met.ofW (cc := cc) (maxL := maxL) (ret := ret) hy rfl ?_
  intro p e s m args below meth c s₁ B hml hv
  obtain ⟨rfl, hh, hE⟩ := hv
  have hts := atoms_spec (ws := Cond.code y cc maxL ret :: TB) B.pre
  have k := body (p, l, e, rmD d mc ms, s, m, as.toArray, below, meth, c) ⟨B.exec, B.bytes, hml, findClass_of_methodNamed B.named, fun w hw => hts w (List.mem_cons_of_mem _ hw), hE, B.notSynchronized, B.returns, rfl⟩
  rw [lg_entry_eq]
  exact k r hr _ _ _ (lv_entry as hlen) hh va_S.rf
section ROWS
variable {ρ : Type} {F : FT} {Y : YT} {X : XT} {cc : ByteArray} {nL : Nat} {own : String} {ret : Option FieldType} {d : Nat} {zf z : Nat × Nat} {em : ρ → Option Value × (Heap → Prop)} {pc : Nat} {lv : List (Nat × Value)} {rest : List Value} {hp : Heap → Prop} {o o1 o2 : Option ρ}
theorem G.none {st : List Value} : G F Y X nL em zf z pc lv st hp (none : Option ρ) := fun r h => by cases h
theorem G.ite {c : Prop} [Decidable c] {st : List Value} (a : c → G F Y X nL em zf z pc lv st hp o1) (b : ¬ c → G F Y X nL em zf z pc lv st hp o2) : G F Y X nL em zf z pc lv st hp (if c then o1 else o2) := by
  by_cases h : c
  · rw [if_pos h]; exact a h
  · rw [if_neg h]; exact b h
theorem G.stp {s : St} {f : St → Option ρ} {st : List Value} {g : St → Heap → Prop} (k : ∀ s1 : St, s1 = s → G F Y X nL em zf z pc lv st (g s1) (f s1)) : G F Y X nL em zf z pc lv st (g s) (Bst s f) := k s rfl
theorem G.sub {lv' : List (Nat × Value)} {st : List Value} (ks : List Nat) (hl : lv_pick lv ks = lv') (k : G F Y X nL em zf z pc lv' st hp o) : G F Y X nL em zf z pc lv st hp o := fun r hr ls H locs h => k r hr ls H locs (lv_sub h ks hl)
theorem G.at {pc' : Nat} {st : List Value} (e : pc = pc') (k : G F Y X nL em zf z pc' lv st hp o) : G F Y X nL em zf z pc lv st hp o := e ▸ k
theorem q_iconst (C : Cx F Y X cc nL own ret d zf) {n : Int} {v : Int32} (dd : decode cc pc = .ok (.iconst n, 1)) (hv : Int32.ofInt n = v) (k : G F Y X nL em zf z (pc + 1) lv (.int v :: rest) hp o) : G F Y X nL em zf z pc lv rest hp o :=
  fun r hr ls H locs h1 h2 h3 => lv_iconst C.1 C.2.1 dd hv (k r hr ls H locs h1 h2 h3)
theorem q_bipush (C : Cx F Y X cc nL own ret d zf) {n : Int} {v : Int32} (dd : decode cc pc = .ok (.bipush n, 2)) (hv : (Int8.ofInt n).toInt32 = v) (k : G F Y X nL em zf z (pc + 2) lv (.int v :: rest) hp o) : G F Y X nL em zf z pc lv rest hp o :=
  fun r hr ls H locs h1 h2 h3 => lv_bipush C.1 C.2.1 dd hv (k r hr ls H locs h1 h2 h3)
theorem q_sipush (C : Cx F Y X cc nL own ret d zf) {n : Int} {v : Int32} (dd : decode cc pc = .ok (.sipush n, 3)) (hv : (Int16.ofInt n).toInt32 = v) (k : G F Y X nL em zf z (pc + 3) lv (.int v :: rest) hp o) : G F Y X nL em zf z pc lv rest hp o :=
  fun r hr ls H locs h1 h2 h3 => lv_sipush C.1 C.2.1 dd hv (k r hr ls H locs h1 h2 h3)
theorem q_lconst (C : Cx F Y X cc nL own ret d zf) {n : Fin 2} {v : Int64} (dd : decode cc pc = .ok (.lconst n, 1)) (hv : Int64.ofNat (n : Nat) = v) (k : G F Y X nL em zf z (pc + 1) lv (.long v :: rest) hp o) : G F Y X nL em zf z pc lv rest hp o :=
  fun r hr ls H locs h1 h2 h3 => lv_lconst C.1 C.2.1 dd hv (k r hr ls H locs h1 h2 h3)
theorem q_ldc (C : Cx F Y X cc nL own ret d zf) {index : Nat} {v : Int32} (hw : Cond.constant own index v ∈ TB) (dd : decode cc pc = .ok (.ldc index, 2)) (k : G F Y X nL em zf z (pc + 2) lv (.int v :: rest) hp o) : G F Y X nL em zf z pc lv rest hp o :=
  fun r hr ls H locs h1 h2 h3 => lv_ldc C.1 C.2.1 C.2.2.2.1 (C.2.2.2.2.1 _ hw) dd (k r hr ls H locs h1 h2 h3)
theorem q_ldcw (C : Cx F Y X cc nL own ret d zf) {index : Nat} {v : Int32} (hw : Cond.constant own index v ∈ TB) (dd : decode cc pc = .ok (.ldc_w index, 3)) (k : G F Y X nL em zf z (pc + 3) lv (.int v :: rest) hp o) : G F Y X nL em zf z pc lv rest hp o :=
  fun r hr ls H locs h1 h2 h3 => lv_ldcw C.1 C.2.1 C.2.2.2.1 (C.2.2.2.2.1 _ hw) dd (k r hr ls H locs h1 h2 h3)
theorem q_ldc2 (C : Cx F Y X cc nL own ret d zf) {index : Nat} {v : Int64} (hw : Cond.constantLong own index v ∈ TB) (dd : decode cc pc = .ok (.ldc2_w index, 3)) (k : G F Y X nL em zf z (pc + 3) lv (.long v :: rest) hp o) : G F Y X nL em zf z pc lv rest hp o :=
  fun r hr ls H locs h1 h2 h3 => lv_ldc2 C.1 C.2.1 C.2.2.2.1 (C.2.2.2.2.1 _ hw) dd (k r hr ls H locs h1 h2 h3)
theorem q_iload (C : Cx F Y X cc nL own ret d zf) (q : Nat) {i : Nat} {x : Int32} (dd : decode cc pc = .ok (.iload i, 2)) (hl : lv[q]? = some (i, .int x)) (k : G F Y X nL em zf z (pc + 2) lv (.int x :: rest) hp o) : G F Y X nL em zf z pc lv rest hp o :=
  fun r hr ls H locs h1 h2 h3 => lv_iload C.1 C.2.1 dd (lv_at h1 q hl) (k r hr ls H locs h1 h2 h3)
theorem q_iload_n (C : Cx F Y X cc nL own ret d zf) (q : Nat) {i : Fin 4} {x : Int32} (dd : decode cc pc = .ok (.iload_n i, 1)) (hl : lv[q]? = some ((i : Nat), .int x)) (k : G F Y X nL em zf z (pc + 1) lv (.int x :: rest) hp o) : G F Y X nL em zf z pc lv rest hp o :=
  fun r hr ls H locs h1 h2 h3 => lv_iload_n C.1 C.2.1 dd rfl (lv_at h1 q hl) (k r hr ls H locs h1 h2 h3)
theorem q_lload_n (C : Cx F Y X cc nL own ret d zf) (q : Nat) {i : Fin 4} {x : Int64} (dd : decode cc pc = .ok (.lload_n i, 1)) (hl : lv[q]? = some ((i : Nat), .long x)) (k : G F Y X nL em zf z (pc + 1) lv (.long x :: rest) hp o) : G F Y X nL em zf z pc lv rest hp o :=
  fun r hr ls H locs h1 h2 h3 => lv_lload_n C.1 C.2.1 dd rfl (lv_at h1 q hl) (k r hr ls H locs h1 h2 h3)
theorem q_aload (C : Cx F Y X cc nL own ret d zf) (q : Nat) {i a : Nat} (dd : decode cc pc = .ok (.aload i, 2)) (hl : lv[q]? = some (i, .ref a)) (k : G F Y X nL em zf z (pc + 2) lv (.ref a :: rest) hp o) : G F Y X nL em zf z pc lv rest hp o :=
  fun r hr ls H locs h1 h2 h3 => lv_aload C.1 C.2.1 dd (lv_at h1 q hl) (k r hr ls H locs h1 h2 h3)
theorem q_aload_n (C : Cx F Y X cc nL own ret d zf) (q : Nat) {i : Fin 4} {a : Nat} (dd : decode cc pc = .ok (.aload_n i, 1)) (hl : lv[q]? = some ((i : Nat), .ref a)) (k : G F Y X nL em zf z (pc + 1) lv (.ref a :: rest) hp o) : G F Y X nL em zf z pc lv rest hp o :=
  fun r hr ls H locs h1 h2 h3 => lv_aload_n C.1 C.2.1 dd rfl (lv_at h1 q hl) (k r hr ls H locs h1 h2 h3)
/-- a reference that may be null: 0 is null -/
def nrf (Y : YT) (n : Nat) : Value := if n = 0 then .null else Rf Y n
theorem q_aloadz (C : Cx F Y X cc nL own ret d zf) (q : Nat) {i n : Nat} (dd : decode cc pc = .ok (.aload i, 2)) (hl : lv[q]? = some (i, nrf Y n)) (k : G F Y X nL em zf z (pc + 2) lv (nrf Y n :: rest) hp o) : G F Y X nL em zf z pc lv rest hp o := by
  intro r hr ls H locs h1 h2 h3
  have k' := k r hr ls H locs h1 h2 h3
  unfold nrf at hl k'
  by_cases h : n = 0
  · rw [if_pos h] at hl k'
    exact lv_aloadN C.1 C.2.1 dd (lv_at h1 q hl) k'
  · rw [if_neg h] at hl k'
    exact lv_aload C.1 C.2.1 dd (lv_at h1 q hl) k'
theorem q_aloadz_n (C : Cx F Y X cc nL own ret d zf) (q : Nat) {i : Fin 4} {n : Nat} (dd : decode cc pc = .ok (.aload_n i, 1)) (hl : lv[q]? = some ((i : Nat), nrf Y n)) (k : G F Y X nL em zf z (pc + 1) lv (nrf Y n :: rest) hp o) : G F Y X nL em zf z pc lv rest hp o := by
  intro r hr ls H locs h1 h2 h3
  have k' := k r hr ls H locs h1 h2 h3
  unfold nrf at hl k'
  by_cases h : n = 0
  · rw [if_pos h] at hl k'
    exact lv_aload_nN C.1 C.2.1 dd rfl (lv_at h1 q hl) k'
  · rw [if_neg h] at hl k'
    exact lv_aload_n C.1 C.2.1 dd rfl (lv_at h1 q hl) k'
abbrev fil1 (i : Nat) (lv : List (Nat × Value)) : List (Nat × Value) := lv.filter (fun q => !(q.1 == i) && !(q.1 + 1 == i && q.2.category == 2))
theorem q_istore (C : Cx F Y X cc nL own ret d zf) {i : Nat} {x : Int32} (lv' : List (Nat × Value)) (dd : decode cc pc = .ok (.istore i, 2)) (hn : Nat.blt i nL = true) (hl : (i, Value.int x) :: fil1 i lv = lv') (k : G F Y X nL em zf z (pc + 2) lv' rest hp o) : G F Y X nL em zf z pc lv (.int x :: rest) hp o :=
  fun r hr ls H locs h1 h2 h3 => lv_istore C.1 C.2.1 dd h1 (Nat.le_of_ble_eq_true hn) hl (fun ls' h' => k r hr ls' H locs h' h2 h3)
theorem q_istore_n (C : Cx F Y X cc nL own ret d zf) {i : Fin 4} {x : Int32} (lv' : List (Nat × Value)) (dd : decode cc pc = .ok (.istore_n i, 1)) (hn : Nat.blt (i : Nat) nL = true) (hl : ((i : Nat), Value.int x) :: fil1 (i : Nat) lv = lv') (k : G F Y X nL em zf z (pc + 1) lv' rest hp o) : G F Y X nL em zf z pc lv (.int x :: rest) hp o :=
  fun r hr ls H locs h1 h2 h3 => lv_istore_n C.1 C.2.1 dd rfl h1 (Nat.le_of_ble_eq_true hn) hl (fun ls' h' => k r hr ls' H locs h' h2 h3)
theorem q_astore (C : Cx F Y X cc nL own ret d zf) {i a : Nat} (lv' : List (Nat × Value)) (dd : decode cc pc = .ok (.astore i, 2)) (hn : Nat.blt i nL = true) (hl : (i, Value.ref a) :: fil1 i lv = lv') (k : G F Y X nL em zf z (pc + 2) lv' rest hp o) : G F Y X nL em zf z pc lv (.ref a :: rest) hp o :=
  fun r hr ls H locs h1 h2 h3 => lv_astore C.1 C.2.1 dd h1 (Nat.le_of_ble_eq_true hn) hl (fun ls' h' => k r hr ls' H locs h' h2 h3)
theorem q_astore_n (C : Cx F Y X cc nL own ret d zf) {i : Fin 4} {a : Nat} (lv' : List (Nat × Value)) (dd : decode cc pc = .ok (.astore_n i, 1)) (hn : Nat.blt (i : Nat) nL = true) (hl : ((i : Nat), Value.ref a) :: fil1 (i : Nat) lv = lv') (k : G F Y X nL em zf z (pc + 1) lv' rest hp o) : G F Y X nL em zf z pc lv (.ref a :: rest) hp o :=
  fun r hr ls H locs h1 h2 h3 => lv_astore_n C.1 C.2.1 dd rfl h1 (Nat.le_of_ble_eq_true hn) hl (fun ls' h' => k r hr ls' H locs h' h2 h3)
theorem fil_n {i n : Nat} {Y : YT} (lv : List (Nat × Value)) : (if n = 0 then ((i, Value.null) :: fil1 i lv) else ((i, Rf Y n) :: fil1 i lv)) = (i, nrf Y n) :: fil1 i lv := by
  unfold nrf; split <;> rfl
theorem q_astorez (C : Cx F Y X cc nL own ret d zf) {i n : Nat} (lv' : List (Nat × Value)) (dd : decode cc pc = .ok (.astore i, 2)) (hn : Nat.blt i nL = true) (hl : (i, nrf Y n) :: fil1 i lv = lv') (k : G F Y X nL em zf z (pc + 2) lv' rest hp o) : G F Y X nL em zf z pc lv (nrf Y n :: rest) hp o := by
  intro r hr ls H locs h1 h2 h3
  have e := fil_n (i := i) (n := n) (Y := Y) lv
  by_cases h : n = 0
  · rw [if_pos h] at e
    rw [show nrf Y n = .null by unfold nrf; rw [if_pos h]]
    exact lv_astoreN C.1 C.2.1 dd h1 (Nat.le_of_ble_eq_true hn) (e.trans hl) (fun ls' h' => k r hr ls' H locs h' h2 h3)
  · rw [if_neg h] at e
    rw [show nrf Y n = Rf Y n by unfold nrf; rw [if_neg h]]
    exact lv_astore C.1 C.2.1 dd h1 (Nat.le_of_ble_eq_true hn) (e.trans hl) (fun ls' h' => k r hr ls' H locs h' h2 h3)
theorem q_astorez_n (C : Cx F Y X cc nL own ret d zf) {i : Fin 4} {n : Nat} (lv' : List (Nat × Value)) (dd : decode cc pc = .ok (.astore_n i, 1)) (hn : Nat.blt (i : Nat) nL = true) (hl : ((i : Nat), nrf Y n) :: fil1 (i : Nat) lv = lv') (k : G F Y X nL em zf z (pc + 1) lv' rest hp o) : G F Y X nL em zf z pc lv (nrf Y n :: rest) hp o := by
  intro r hr ls H locs h1 h2 h3
  have e := fil_n (i := (i : Nat)) (n := n) (Y := Y) lv
  by_cases h : n = 0
  · rw [if_pos h] at e
    rw [show nrf Y n = .null by unfold nrf; rw [if_pos h]]
    exact lv_astore_nN C.1 C.2.1 dd rfl h1 (Nat.le_of_ble_eq_true hn) (e.trans hl) (fun ls' h' => k r hr ls' H locs h' h2 h3)
  · rw [if_neg h] at e
    rw [show nrf Y n = Rf Y n by unfold nrf; rw [if_neg h]]
    exact lv_astore_n C.1 C.2.1 dd rfl h1 (Nat.le_of_ble_eq_true hn) (e.trans hl) (fun ls' h' => k r hr ls' H locs h' h2 h3)
theorem q_iinc (C : Cx F Y X cc nL own ret d zf) (q : Nat) {i : Nat} {n : Int} {x v : Int32} (lv' : List (Nat × Value)) (dd : decode cc pc = .ok (.iinc i n, 3)) (hk : lv[q]? = some (i, .int x)) (hv : x + Int32.ofInt n = v) (hn : Nat.blt i nL = true) (hl : (i, Value.int v) :: fil1 i lv = lv') (k : G F Y X nL em zf z (pc + 3) lv' rest hp o) : G F Y X nL em zf z pc lv rest hp o :=
  fun r hr ls H locs h1 h2 h3 => lv_iinc C.1 C.2.1 dd h1 hk hv (Nat.le_of_ble_eq_true hn) hl (fun ls' h' => k r hr ls' H locs h' h2 h3)
theorem q_iadd (C : Cx F Y X cc nL own ret d zf) {x y : Int32} (dd : decode cc pc = .ok (.iadd, 1)) (k : G F Y X nL em zf z (pc + 1) lv (.int (x + y) :: rest) hp o) : G F Y X nL em zf z pc lv (.int y :: .int x :: rest) hp o := fun r hr ls H locs h1 h2 h3 => lv_iadd C.1 C.2.1 dd (k r hr ls H locs h1 h2 h3)
theorem q_isub (C : Cx F Y X cc nL own ret d zf) {x y : Int32} (dd : decode cc pc = .ok (.isub, 1)) (k : G F Y X nL em zf z (pc + 1) lv (.int (x - y) :: rest) hp o) : G F Y X nL em zf z pc lv (.int y :: .int x :: rest) hp o := fun r hr ls H locs h1 h2 h3 => lv_isub C.1 C.2.1 dd (k r hr ls H locs h1 h2 h3)
theorem q_imul (C : Cx F Y X cc nL own ret d zf) {x y : Int32} (dd : decode cc pc = .ok (.imul, 1)) (k : G F Y X nL em zf z (pc + 1) lv (.int (x * y) :: rest) hp o) : G F Y X nL em zf z pc lv (.int y :: .int x :: rest) hp o := fun r hr ls H locs h1 h2 h3 => lv_imul C.1 C.2.1 dd (k r hr ls H locs h1 h2 h3)
theorem q_iand (C : Cx F Y X cc nL own ret d zf) {x y : Int32} (dd : decode cc pc = .ok (.iand, 1)) (k : G F Y X nL em zf z (pc + 1) lv (.int (x &&& y) :: rest) hp o) : G F Y X nL em zf z pc lv (.int y :: .int x :: rest) hp o := fun r hr ls H locs h1 h2 h3 => lv_iand C.1 C.2.1 dd (k r hr ls H locs h1 h2 h3)
theorem q_ior (C : Cx F Y X cc nL own ret d zf) {x y : Int32} (dd : decode cc pc = .ok (.ior, 1)) (k : G F Y X nL em zf z (pc + 1) lv (.int (x ||| y) :: rest) hp o) : G F Y X nL em zf z pc lv (.int y :: .int x :: rest) hp o := fun r hr ls H locs h1 h2 h3 => lv_ior C.1 C.2.1 dd (k r hr ls H locs h1 h2 h3)
theorem q_ixor (C : Cx F Y X cc nL own ret d zf) {x y : Int32} (dd : decode cc pc = .ok (.ixor, 1)) (k : G F Y X nL em zf z (pc + 1) lv (.int (x ^^^ y) :: rest) hp o) : G F Y X nL em zf z pc lv (.int y :: .int x :: rest) hp o := fun r hr ls H locs h1 h2 h3 => lv_ixor C.1 C.2.1 dd (k r hr ls H locs h1 h2 h3)
theorem q_ishl (C : Cx F Y X cc nL own ret d zf) {x y : Int32} (dd : decode cc pc = .ok (.ishl, 1)) (k : G F Y X nL em zf z (pc + 1) lv (.int (x <<< (y &&& 31)) :: rest) hp o) : G F Y X nL em zf z pc lv (.int y :: .int x :: rest) hp o := fun r hr ls H locs h1 h2 h3 => lv_ishl C.1 C.2.1 dd (k r hr ls H locs h1 h2 h3)
theorem q_ishr (C : Cx F Y X cc nL own ret d zf) {x y : Int32} (dd : decode cc pc = .ok (.ishr, 1)) (k : G F Y X nL em zf z (pc + 1) lv (.int (x >>> (y &&& 31)) :: rest) hp o) : G F Y X nL em zf z pc lv (.int y :: .int x :: rest) hp o := fun r hr ls H locs h1 h2 h3 => lv_ishr C.1 C.2.1 dd (k r hr ls H locs h1 h2 h3)
def iush (x y : Int32) : Int32 := (x.toUInt32 >>> (y.toUInt32 &&& Int32.toUInt32 31)).toInt32
theorem q_iushr (C : Cx F Y X cc nL own ret d zf) {x y : Int32} (dd : decode cc pc = .ok (.iushr, 1)) (k : G F Y X nL em zf z (pc + 1) lv (.int (iush x y) :: rest) hp o) : G F Y X nL em zf z pc lv (.int y :: .int x :: rest) hp o := fun r hr ls H locs h1 h2 h3 => lv_iushr C.1 C.2.1 dd rfl (k r hr ls H locs h1 h2 h3)
theorem q_ineg (C : Cx F Y X cc nL own ret d zf) {x : Int32} (dd : decode cc pc = .ok (.ineg, 1)) (k : G F Y X nL em zf z (pc + 1) lv (.int (-x) :: rest) hp o) : G F Y X nL em zf z pc lv (.int x :: rest) hp o := fun r hr ls H locs h1 h2 h3 => lv_ineg C.1 C.2.1 dd (k r hr ls H locs h1 h2 h3)
def irm (x y : Int32) : Int32 := x - x / y * y
theorem q_idiv (C : Cx F Y X cc nL own ret d zf) {x y : Int32} (dd : decode cc pc = .ok (.idiv, 1)) (hne : ¬ y = 0) (k : G F Y X nL em zf z (pc + 1) lv (.int (x / y) :: rest) hp o) : G F Y X nL em zf z pc lv (.int y :: .int x :: rest) hp o := fun r hr ls H locs h1 h2 h3 => lv_idiv C.1 C.2.1 dd hne (k r hr ls H locs h1 h2 h3)
theorem q_irem (C : Cx F Y X cc nL own ret d zf) {x y : Int32} (dd : decode cc pc = .ok (.irem, 1)) (hne : ¬ y = 0) (k : G F Y X nL em zf z (pc + 1) lv (.int (irm x y) :: rest) hp o) : G F Y X nL em zf z pc lv (.int y :: .int x :: rest) hp o := fun r hr ls H locs h1 h2 h3 => lv_irem C.1 C.2.1 dd hne (k r hr ls H locs h1 h2 h3)
theorem q_idivz (C : Cx F Y X cc nL own ret d zf) {x y : Int32} (dd : decode cc pc = .ok (.idiv, 1)) (k : ¬ y = 0 → G F Y X nL em zf z (pc + 1) lv (.int (x / y) :: rest) hp o) : G F Y X nL em zf z pc lv (.int y :: .int x :: rest) hp (if y = 0 then none else o) := G.ite (fun _ => G.none) (fun h => q_idiv C dd h (k h))
theorem q_iremz (C : Cx F Y X cc nL own ret d zf) {x y : Int32} (dd : decode cc pc = .ok (.irem, 1)) (k : ¬ y = 0 → G F Y X nL em zf z (pc + 1) lv (.int (irm x y) :: rest) hp o) : G F Y X nL em zf z pc lv (.int y :: .int x :: rest) hp (if y = 0 then none else o) := G.ite (fun _ => G.none) (fun h => q_irem C dd h (k h))
theorem q_land (C : Cx F Y X cc nL own ret d zf) {x y : Int64} (dd : decode cc pc = .ok (.land, 1)) (k : G F Y X nL em zf z (pc + 1) lv (.long (x &&& y) :: rest) hp o) : G F Y X nL em zf z pc lv (.long y :: .long x :: rest) hp o := fun r hr ls H locs h1 h2 h3 => lv_land C.1 C.2.1 dd (k r hr ls H locs h1 h2 h3)
theorem q_lor (C : Cx F Y X cc nL own ret d zf) {x y : Int64} (dd : decode cc pc = .ok (.lor, 1)) (k : G F Y X nL em zf z (pc + 1) lv (.long (x ||| y) :: rest) hp o) : G F Y X nL em zf z pc lv (.long y :: .long x :: rest) hp o := fun r hr ls H locs h1 h2 h3 => lv_lor C.1 C.2.1 dd (k r hr ls H locs h1 h2 h3)
theorem q_ladd (C : Cx F Y X cc nL own ret d zf) {x y : Int64} (dd : decode cc pc = .ok (.ladd, 1)) (k : G F Y X nL em zf z (pc + 1) lv (.long (x + y) :: rest) hp o) : G F Y X nL em zf z pc lv (.long y :: .long x :: rest) hp o := fun r hr ls H locs h1 h2 h3 => lv_ladd C.1 C.2.1 dd (k r hr ls H locs h1 h2 h3)
def lush (x : Int64) (y : Int32) : Int64 := (x.toUInt64 >>> (y.toInt64.toUInt64 &&& Int64.toUInt64 63)).toInt64
theorem q_lushr (C : Cx F Y X cc nL own ret d zf) {x : Int64} {y : Int32} (dd : decode cc pc = .ok (.lushr, 1)) (k : G F Y X nL em zf z (pc + 1) lv (.long (lush x y) :: rest) hp o) : G F Y X nL em zf z pc lv (.int y :: .long x :: rest) hp o := fun r hr ls H locs h1 h2 h3 => lv_lushr C.1 C.2.1 dd rfl (k r hr ls H locs h1 h2 h3)
theorem q_lshr (C : Cx F Y X cc nL own ret d zf) {x : Int64} {y : Int32} (dd : decode cc pc = .ok (.lshr, 1)) (k : G F Y X nL em zf z (pc + 1) lv (.long (x >>> (y.toInt64 &&& 63)) :: rest) hp o) : G F Y X nL em zf z pc lv (.int y :: .long x :: rest) hp o := fun r hr ls H locs h1 h2 h3 => lv_lshr C.1 C.2.1 dd rfl (k r hr ls H locs h1 h2 h3)
theorem q_lshl (C : Cx F Y X cc nL own ret d zf) {x : Int64} {y : Int32} (dd : decode cc pc = .ok (.lshl, 1)) (k : G F Y X nL em zf z (pc + 1) lv (.long (x <<< (y.toInt64 &&& 63)) :: rest) hp o) : G F Y X nL em zf z pc lv (.int y :: .long x :: rest) hp o := fun r hr ls H locs h1 h2 h3 => lv_lshl C.1 C.2.1 dd rfl (k r hr ls H locs h1 h2 h3)
theorem q_i2l (C : Cx F Y X cc nL own ret d zf) {x : Int32} (dd : decode cc pc = .ok (.i2l, 1)) (k : G F Y X nL em zf z (pc + 1) lv (.long x.toInt64 :: rest) hp o) : G F Y X nL em zf z pc lv (.int x :: rest) hp o := fun r hr ls H locs h1 h2 h3 => lv_i2l C.1 C.2.1 dd rfl (k r hr ls H locs h1 h2 h3)
theorem q_l2i (C : Cx F Y X cc nL own ret d zf) {x : Int64} (dd : decode cc pc = .ok (.l2i, 1)) (k : G F Y X nL em zf z (pc + 1) lv (.int x.toInt32 :: rest) hp o) : G F Y X nL em zf z pc lv (.long x :: rest) hp o := fun r hr ls H locs h1 h2 h3 => lv_l2i C.1 C.2.1 dd rfl (k r hr ls H locs h1 h2 h3)
def toB (x : Int32) : Int32 := x.toInt8.toInt32
def toS (x : Int32) : Int32 := x.toInt16.toInt32
def toC (x : Int32) : Int32 := (x.toUInt32 % 65536).toInt32
theorem q_i2b (C : Cx F Y X cc nL own ret d zf) {x : Int32} (dd : decode cc pc = .ok (.i2b, 1)) (k : G F Y X nL em zf z (pc + 1) lv (.int (toB x) :: rest) hp o) : G F Y X nL em zf z pc lv (.int x :: rest) hp o := fun r hr ls H locs h1 h2 h3 => lv_i2b C.1 C.2.1 dd rfl (k r hr ls H locs h1 h2 h3)
theorem q_i2s (C : Cx F Y X cc nL own ret d zf) {x : Int32} (dd : decode cc pc = .ok (.i2s, 1)) (k : G F Y X nL em zf z (pc + 1) lv (.int (toS x) :: rest) hp o) : G F Y X nL em zf z pc lv (.int x :: rest) hp o := fun r hr ls H locs h1 h2 h3 => lv_i2s C.1 C.2.1 dd rfl (k r hr ls H locs h1 h2 h3)
theorem q_i2c (C : Cx F Y X cc nL own ret d zf) {x : Int32} (dd : decode cc pc = .ok (.i2c, 1)) (k : G F Y X nL em zf z (pc + 1) lv (.int (toC x) :: rest) hp o) : G F Y X nL em zf z pc lv (.int x :: rest) hp o := fun r hr ls H locs h1 h2 h3 => lv_i2c C.1 C.2.1 dd rfl (k r hr ls H locs h1 h2 h3)
theorem q_lcmp (C : Cx F Y X cc nL own ret d zf) {x y : Int64} (dd : decode cc pc = .ok (.lcmp, 1)) (k : G F Y X nL em zf z (pc + 1) lv (.int (lg_cmp x y) :: rest) hp o) : G F Y X nL em zf z pc lv (.long y :: .long x :: rest) hp o := fun r hr ls H locs h1 h2 h3 => W.lcmp C.1 C.2.1 dd (k r hr ls H locs h1 h2 h3)
theorem q_dup (C : Cx F Y X cc nL own ret d zf) {v : Value} (dd : decode cc pc = .ok (.dup, 1)) (hv : v.category = 1) (k : G F Y X nL em zf z (pc + 1) lv (v :: v :: rest) hp o) : G F Y X nL em zf z pc lv (v :: rest) hp o := fun r hr ls H locs h1 h2 h3 => lv_dup C.1 C.2.1 dd hv (k r hr ls H locs h1 h2 h3)
theorem q_pop (C : Cx F Y X cc nL own ret d zf) {v : Value} (dd : decode cc pc = .ok (.pop, 1)) (hv : v.category = 1) (k : G F Y X nL em zf z (pc + 1) lv rest hp o) : G F Y X nL em zf z pc lv (v :: rest) hp o := fun r hr ls H locs h1 h2 h3 => lv_pop C.1 C.2.1 dd hv (k r hr ls H locs h1 h2 h3)
theorem q_dup_x1 (C : Cx F Y X cc nL own ret d zf) {va vb : Value} (dd : decode cc pc = .ok (.dup_x1, 1)) (hva : va.category = 1) (hvb : vb.category = 1) (k : G F Y X nL em zf z (pc + 1) lv (va :: vb :: va :: rest) hp o) : G F Y X nL em zf z pc lv (va :: vb :: rest) hp o := fun r hr ls H locs h1 h2 h3 => lv_dup_x1 C.1 C.2.1 dd hva hvb (k r hr ls H locs h1 h2 h3)
theorem q_dup_x2 (C : Cx F Y X cc nL own ret d zf) {va vb vd : Value} (dd : decode cc pc = .ok (.dup_x2, 1)) (hva : va.category = 1) (hvb : vb.category = 1) (hvd : vd.category = 1) (k : G F Y X nL em zf z (pc + 1) lv (va :: vb :: vd :: va :: rest) hp o) : G F Y X nL em zf z pc lv (va :: vb :: vd :: rest) hp o := fun r hr ls H locs h1 h2 h3 => lv_dup_x2 C.1 C.2.1 dd hva hvb hvd (k r hr ls H locs h1 h2 h3)
theorem q_dup2 (C : Cx F Y X cc nL own ret d zf) {va vb : Value} (dd : decode cc pc = .ok (.dup2, 1)) (hva : va.category = 1) (hvb : vb.category = 1) (k : G F Y X nL em zf z (pc + 1) lv (va :: vb :: va :: vb :: rest) hp o) : G F Y X nL em zf z pc lv (va :: vb :: rest) hp o := fun r hr ls H locs h1 h2 h3 => lv_dup2_11 C.1 C.2.1 dd hva hvb (k r hr ls H locs h1 h2 h3)
theorem q_goto (C : Cx F Y X cc nL own ret d zf) {off : Int} (tgt : Nat) (dd : decode cc pc = .ok (.goto off, 3)) (ht : (pc : Int) + off = (tgt : Int)) (k : G F Y X nL em zf z tgt lv rest hp o) : G F Y X nL em zf z pc lv rest hp o := fun r hr ls H locs h1 h2 h3 => lv_goto C.1 C.2.1 dd ht (k r hr ls H locs h1 h2 h3)
theorem q_icmp_eq (C : Cx F Y X cc nL own ret d zf) {x y : Int32} {off : Int} {ot of : Option ρ} (tgt : Nat) (dd : decode cc pc = .ok (.if_icmp .eq off, 3)) (ht : (pc : Int) + off = (tgt : Int)) (kt : x = y → G F Y X nL em zf z tgt lv rest hp ot) (kf : ¬ x = y → G F Y X nL em zf z (pc + 3) lv rest hp of) : G F Y X nL em zf z pc lv (.int y :: .int x :: rest) hp (if x = y then ot else of) :=
  fun r hr ls H locs h1 h2 h3 => lv_icmp_eq C.1 C.2.1 dd ht (fun h => kt h r (by rw [if_pos h] at hr; exact hr) ls H locs h1 h2 h3) (fun h => kf h r (by rw [if_neg h] at hr; exact hr) ls H locs h1 h2 h3)
theorem q_icmp_ne (C : Cx F Y X cc nL own ret d zf) {x y : Int32} {off : Int} {ot of : Option ρ} (tgt : Nat) (dd : decode cc pc = .ok (.if_icmp .ne off, 3)) (ht : (pc : Int) + off = (tgt : Int)) (kt : ¬ x = y → G F Y X nL em zf z tgt lv rest hp ot) (kf : x = y → G F Y X nL em zf z (pc + 3) lv rest hp of) : G F Y X nL em zf z pc lv (.int y :: .int x :: rest) hp (if x = y then of else ot) :=
  fun r hr ls H locs h1 h2 h3 => lv_icmp_ne C.1 C.2.1 dd ht (fun h => kt h r (by rw [if_neg h] at hr; exact hr) ls H locs h1 h2 h3) (fun h => kf h r (by rw [if_pos h] at hr; exact hr) ls H locs h1 h2 h3)
theorem q_icmp_lt (C : Cx F Y X cc nL own ret d zf) {x y : Int32} {off : Int} {ot of : Option ρ} (tgt : Nat) (dd : decode cc pc = .ok (.if_icmp .lt off, 3)) (ht : (pc : Int) + off = (tgt : Int)) (kt : x < y → G F Y X nL em zf z tgt lv rest hp ot) (kf : ¬ x < y → G F Y X nL em zf z (pc + 3) lv rest hp of) : G F Y X nL em zf z pc lv (.int y :: .int x :: rest) hp (if x < y then ot else of) :=
  fun r hr ls H locs h1 h2 h3 => lv_icmp_lt C.1 C.2.1 dd ht (fun h => kt h r (by rw [if_pos h] at hr; exact hr) ls H locs h1 h2 h3) (fun h => kf h r (by rw [if_neg h] at hr; exact hr) ls H locs h1 h2 h3)
theorem q_icmp_ge (C : Cx F Y X cc nL own ret d zf) {x y : Int32} {off : Int} {ot of : Option ρ} (tgt : Nat) (dd : decode cc pc = .ok (.if_icmp .ge off, 3)) (ht : (pc : Int) + off = (tgt : Int)) (kt : y ≤ x → G F Y X nL em zf z tgt lv rest hp ot) (kf : ¬ y ≤ x → G F Y X nL em zf z (pc + 3) lv rest hp of) : G F Y X nL em zf z pc lv (.int y :: .int x :: rest) hp (if y ≤ x then ot else of) :=
  fun r hr ls H locs h1 h2 h3 => lv_icmp_ge C.1 C.2.1 dd ht (fun h => kt h r (by rw [if_pos h] at hr; exact hr) ls H locs h1 h2 h3) (fun h => kf h r (by rw [if_neg h] at hr; exact hr) ls H locs h1 h2 h3)
theorem q_icmp_gt (C : Cx F Y X cc nL own ret d zf) {x y : Int32} {off : Int} {ot of : Option ρ} (tgt : Nat) (dd : decode cc pc = .ok (.if_icmp .gt off, 3)) (ht : (pc : Int) + off = (tgt : Int)) (kt : y < x → G F Y X nL em zf z tgt lv rest hp ot) (kf : ¬ y < x → G F Y X nL em zf z (pc + 3) lv rest hp of) : G F Y X nL em zf z pc lv (.int y :: .int x :: rest) hp (if y < x then ot else of) :=
  fun r hr ls H locs h1 h2 h3 => lv_icmp_gt C.1 C.2.1 dd ht (fun h => kt h r (by rw [if_pos h] at hr; exact hr) ls H locs h1 h2 h3) (fun h => kf h r (by rw [if_neg h] at hr; exact hr) ls H locs h1 h2 h3)
theorem q_icmp_le (C : Cx F Y X cc nL own ret d zf) {x y : Int32} {off : Int} {ot of : Option ρ} (tgt : Nat) (dd : decode cc pc = .ok (.if_icmp .le off, 3)) (ht : (pc : Int) + off = (tgt : Int)) (kt : x ≤ y → G F Y X nL em zf z tgt lv rest hp ot) (kf : ¬ x ≤ y → G F Y X nL em zf z (pc + 3) lv rest hp of) : G F Y X nL em zf z pc lv (.int y :: .int x :: rest) hp (if x ≤ y then ot else of) :=
  fun r hr ls H locs h1 h2 h3 => lv_icmp_le C.1 C.2.1 dd ht (fun h => kt h r (by rw [if_pos h] at hr; exact hr) ls H locs h1 h2 h3) (fun h => kf h r (by rw [if_neg h] at hr; exact hr) ls H locs h1 h2 h3)
theorem q_if_eq (C : Cx F Y X cc nL own ret d zf) {x : Int32} {off : Int} {ot of : Option ρ} (tgt : Nat) (dd : decode cc pc = .ok (.ifCond .eq off, 3)) (ht : (pc : Int) + off = (tgt : Int)) (kt : x = 0 → G F Y X nL em zf z tgt lv rest hp ot) (kf : ¬ x = 0 → G F Y X nL em zf z (pc + 3) lv rest hp of) : G F Y X nL em zf z pc lv (.int x :: rest) hp (if x = 0 then ot else of) :=
  fun r hr ls H locs h1 h2 h3 => lv_if_eq C.1 C.2.1 dd ht (fun h => kt h r (by rw [if_pos h] at hr; exact hr) ls H locs h1 h2 h3) (fun h => kf h r (by rw [if_neg h] at hr; exact hr) ls H locs h1 h2 h3)
theorem q_if_ne (C : Cx F Y X cc nL own ret d zf) {x : Int32} {off : Int} {ot of : Option ρ} (tgt : Nat) (dd : decode cc pc = .ok (.ifCond .ne off, 3)) (ht : (pc : Int) + off = (tgt : Int)) (kt : ¬ x = 0 → G F Y X nL em zf z tgt lv rest hp ot) (kf : x = 0 → G F Y X nL em zf z (pc + 3) lv rest hp of) : G F Y X nL em zf z pc lv (.int x :: rest) hp (if x = 0 then of else ot) :=
  fun r hr ls H locs h1 h2 h3 => lv_if_ne C.1 C.2.1 dd ht (fun h => kt h r (by rw [if_neg h] at hr; exact hr) ls H locs h1 h2 h3) (fun h => kf h r (by rw [if_pos h] at hr; exact hr) ls H locs h1 h2 h3)
theorem q_if_lt (C : Cx F Y X cc nL own ret d zf) {x : Int32} {off : Int} {ot of : Option ρ} (tgt : Nat) (dd : decode cc pc = .ok (.ifCond .lt off, 3)) (ht : (pc : Int) + off = (tgt : Int)) (kt : x < 0 → G F Y X nL em zf z tgt lv rest hp ot) (kf : ¬ x < 0 → G F Y X nL em zf z (pc + 3) lv rest hp of) : G F Y X nL em zf z pc lv (.int x :: rest) hp (if x < 0 then ot else of) :=
  fun r hr ls H locs h1 h2 h3 => lv_if_lt C.1 C.2.1 dd ht (fun h => kt h r (by rw [if_pos h] at hr; exact hr) ls H locs h1 h2 h3) (fun h => kf h r (by rw [if_neg h] at hr; exact hr) ls H locs h1 h2 h3)
theorem q_if_ge (C : Cx F Y X cc nL own ret d zf) {x : Int32} {off : Int} {ot of : Option ρ} (tgt : Nat) (dd : decode cc pc = .ok (.ifCond .ge off, 3)) (ht : (pc : Int) + off = (tgt : Int)) (kt : 0 ≤ x → G F Y X nL em zf z tgt lv rest hp ot) (kf : ¬ 0 ≤ x → G F Y X nL em zf z (pc + 3) lv rest hp of) : G F Y X nL em zf z pc lv (.int x :: rest) hp (if 0 ≤ x then ot else of) :=
  fun r hr ls H locs h1 h2 h3 => lv_if_ge C.1 C.2.1 dd ht (fun h => kt h r (by rw [if_pos h] at hr; exact hr) ls H locs h1 h2 h3) (fun h => kf h r (by rw [if_neg h] at hr; exact hr) ls H locs h1 h2 h3)
theorem q_if_gt (C : Cx F Y X cc nL own ret d zf) {x : Int32} {off : Int} {ot of : Option ρ} (tgt : Nat) (dd : decode cc pc = .ok (.ifCond .gt off, 3)) (ht : (pc : Int) + off = (tgt : Int)) (kt : 0 < x → G F Y X nL em zf z tgt lv rest hp ot) (kf : ¬ 0 < x → G F Y X nL em zf z (pc + 3) lv rest hp of) : G F Y X nL em zf z pc lv (.int x :: rest) hp (if 0 < x then ot else of) :=
  fun r hr ls H locs h1 h2 h3 => lv_if_gt C.1 C.2.1 dd ht (fun h => kt h r (by rw [if_pos h] at hr; exact hr) ls H locs h1 h2 h3) (fun h => kf h r (by rw [if_neg h] at hr; exact hr) ls H locs h1 h2 h3)
theorem q_if_le (C : Cx F Y X cc nL own ret d zf) {x : Int32} {off : Int} {ot of : Option ρ} (tgt : Nat) (dd : decode cc pc = .ok (.ifCond .le off, 3)) (ht : (pc : Int) + off = (tgt : Int)) (kt : x ≤ 0 → G F Y X nL em zf z tgt lv rest hp ot) (kf : ¬ x ≤ 0 → G F Y X nL em zf z (pc + 3) lv rest hp of) : G F Y X nL em zf z pc lv (.int x :: rest) hp (if x ≤ 0 then ot else of) :=
  fun r hr ls H locs h1 h2 h3 => lv_if_le C.1 C.2.1 dd ht (fun h => kt h r (by rw [if_pos h] at hr; exact hr) ls H locs h1 h2 h3) (fun h => kf h r (by rw [if_neg h] at hr; exact hr) ls H locs h1 h2 h3)
theorem q_ifnull (C : Cx F Y X cc nL own ret d zf) {n : Nat} {off : Int} {ot of : Option ρ} (tgt : Nat) (dd : decode cc pc = .ok (.ifnull off, 3)) (ht : (pc : Int) + off = (tgt : Int)) (kt : n = 0 → G F Y X nL em zf z tgt lv rest hp ot) (kf : ¬ n = 0 → G F Y X nL em zf z (pc + 3) lv rest hp of) : G F Y X nL em zf z pc lv (nrf Y n :: rest) hp (if n = 0 then ot else of) := by
  intro r hr ls H locs h1 h2 h3
  by_cases h : n = 0
  · rw [show nrf Y n = .null by unfold nrf; rw [if_pos h]]
    exact lv_ifnullN C.1 C.2.1 dd ht (kt h r (by rw [if_pos h] at hr; exact hr) ls H locs h1 h2 h3)
  · rw [show nrf Y n = Rf Y n by unfold nrf; rw [if_neg h]]
    exact lv_ifnull C.1 C.2.1 dd (kf h r (by rw [if_neg h] at hr; exact hr) ls H locs h1 h2 h3)
theorem q_ifnonnull (C : Cx F Y X cc nL own ret d zf) {n : Nat} {off : Int} {ot of : Option ρ} (tgt : Nat) (dd : decode cc pc = .ok (.ifnonnull off, 3)) (ht : (pc : Int) + off = (tgt : Int)) (kt : ¬ n = 0 → G F Y X nL em zf z tgt lv rest hp ot) (kf : n = 0 → G F Y X nL em zf z (pc + 3) lv rest hp of) : G F Y X nL em zf z pc lv (nrf Y n :: rest) hp (if n = 0 then of else ot) := by
  intro r hr ls H locs h1 h2 h3
  by_cases h : n = 0
  · rw [show nrf Y n = .null by unfold nrf; rw [if_pos h]]
    exact lv_ifnonnullN C.1 C.2.1 dd (kf h r (by rw [if_pos h] at hr; exact hr) ls H locs h1 h2 h3)
  · rw [show nrf Y n = Rf Y n by unfold nrf; rw [if_neg h]]
    exact lv_ifnonnull C.1 C.2.1 dd ht (kt h r (by rw [if_neg h] at hr; exact hr) ls H locs h1 h2 h3)
theorem q_null (C : Cx F Y X cc nL own ret d zf) (dd : decode cc pc = .ok (.aconst_null, 1)) (k : G F Y X nL em zf z (pc + 1) lv (nrf Y 0 :: rest) hp o) : G F Y X nL em zf z pc lv rest hp o :=
  fun r hr ls H locs h1 h2 h3 => lv_null C.1 C.2.1 dd (k r hr ls H locs h1 h2 h3)
/-- a nullable reference that is known not to be null -/
theorem G.nonnull {n : Nat} (h : ¬ n = 0) (k : G F Y X nL em zf z pc lv (Rf Y n :: rest) hp o) : G F Y X nL em zf z pc lv (nrf Y n :: rest) hp o := by
  rw [show nrf Y n = Rf Y n by unfold nrf; rw [if_neg h]]; exact k
theorem q_tsw_in (C : Cx F Y X cc nL own ret d zf) {dflt lo hi : Int} {offs : Array Int} {len : Nat} {x : Int32} {off : Int} (tgt : Nat) (dd : decode cc pc = .ok (.tableswitch dflt lo hi offs, len)) {v : Int32} (hx : x = v) (h1 : ¬ v.toInt < lo) (h2 : ¬ hi < v.toInt) (ho : offs[(v.toInt - lo).toNat]? = some off) (ht : (pc : Int) + off = (tgt : Int)) (k : G F Y X nL em zf z tgt lv rest hp o) : G F Y X nL em zf z pc lv (.int x :: rest) hp o := by
  subst hx
  exact fun r hr ls H locs a1 a2 a3 => lv_tableIn C.1 C.2.1 dd h1 h2 ho ht (k r hr ls H locs a1 a2 a3)
theorem q_tsw_out (C : Cx F Y X cc nL own ret d zf) {dflt lo hi : Int} {offs : Array Int} {len : Nat} {x : Int32} (tgt : Nat) (dd : decode cc pc = .ok (.tableswitch dflt lo hi offs, len)) (h : x.toInt < lo ∨ hi < x.toInt) (ht : (pc : Int) + dflt = (tgt : Int)) (k : G F Y X nL em zf z tgt lv rest hp o) : G F Y X nL em zf z pc lv (.int x :: rest) hp o :=
  fun r hr ls H locs a1 a2 a3 => lv_tableOut C.1 C.2.1 dd h ht (k r hr ls H locs a1 a2 a3)
theorem q_lsw (C : Cx F Y X cc nL own ret d zf) {dflt : Int} {ps : Array (Int × Int)} {len : Nat} {x : Int32} {off : Int} (tgt : Nat) (dd : decode cc pc = .ok (.lookupswitch dflt ps, len)) (hp0 : (ps.toList.zip (ps.toList.drop 1)).all (fun (a, next) => a.1 < next.1) = true) (ho : Op.lookupswitch.offset ps.toList dflt x.toInt = off) (ht : (pc : Int) + off = (tgt : Int)) (k : G F Y X nL em zf z tgt lv rest hp o) : G F Y X nL em zf z pc lv (.int x :: rest) hp o :=
  fun r hr ls H locs a1 a2 a3 => lv_lookup C.1 C.2.1 dd hp0 ho ht (k r hr ls H locs a1 a2 a3)
/-- returns -/
theorem q_ireti {F : FT} {Y : YT} {X : XT} {cc : ByteArray} {nL : Nat} {own : String} {d : Nat} {z : Nat × Nat} {em : ρ → Option Value × (Heap → Prop)} {pc : Nat} {lv : List (Nat × Value)} {hp : Heap → Prop} (C : Cx F Y X cc nL own (some .int) d z) {v : Int32} {r0 : ρ} (he : em r0 = (some (.int v), hp)) (dd : decode cc pc = .ok (.ireturn, 1)) : G F Y X nL em z z pc lv [.int v] hp (some r0) := by
  intro r hr ls H locs h1 h2 h3
  cases hr
  exact W.iret (v := v) C.1 C.2.1 C.2.2.2.2.2.2.2.1 (fun t ht hW => ⟨by rw [he], by rw [he, ht]; exact h2, h3.F ht⟩) h3.2.2 dd (hlocks := C.2.2.2.2.2.2.1)
theorem q_iretz {F : FT} {Y : YT} {X : XT} {cc : ByteArray} {nL : Nat} {own : String} {d : Nat} {z : Nat × Nat} {em : ρ → Option Value × (Heap → Prop)} {pc : Nat} {lv : List (Nat × Value)} {hp : Heap → Prop} (C : Cx F Y X cc nL own (some .boolean) d z) {v : Int32} {r0 : ρ} (hv : v = 0 ∨ v = 1) (he : em r0 = (some (.int v), hp)) (dd : decode cc pc = .ok (.ireturn, 1)) : G F Y X nL em z z pc lv [.int v] hp (some r0) := by
  intro r hr ls H locs h1 h2 h3
  cases hr
  exact W.zret (v := v) C.1 C.2.1 C.2.2.2.2.2.2.2.1 (by rcases hv with rfl | rfl <;> rfl) (fun t ht hW => ⟨by rw [he], by rw [he, ht]; exact h2, h3.F ht⟩) h3.2.2 dd (hlocks := C.2.2.2.2.2.2.1)
theorem q_vret {F : FT} {Y : YT} {X : XT} {cc : ByteArray} {nL : Nat} {own : String} {d : Nat} {z : Nat × Nat} {em : ρ → Option Value × (Heap → Prop)} {pc : Nat} {lv : List (Nat × Value)} {hp : Heap → Prop} (C : Cx F Y X cc nL own none d z) {r0 : ρ} (he : em r0 = (none, hp)) (dd : decode cc pc = .ok (.return_, 1)) : G F Y X nL em z z pc lv [] hp (some r0) := by
  intro r hr ls H locs h1 h2 h3
  cases hr
  exact W.vret C.1 C.2.1 C.2.2.2.2.2.2.2.1 (fun t ht hW => ⟨by rw [he], by rw [he, ht]; exact h2, h3.F ht⟩) h3.2.2 dd (hlocks := C.2.2.2.2.2.2.1)
theorem q_aret {F : FT} {Y : YT} {X : XT} {cc : ByteArray} {nL : Nat} {own nm : String} {d : Nat} {z : Nat × Nat} {em : ρ → Option Value × (Heap → Prop)} {pc : Nat} {lv : List (Nat × Value)} {hp : Heap → Prop} (C : Cx F Y X cc nL own (some (.object nm)) d z) {v : Value} {r0 : ρ} (hv : v = .null ∨ ∃ a, v = .ref a) (he : em r0 = (some v, hp)) (dd : decode cc pc = .ok (.areturn, 1)) : G F Y X nL em z z pc lv [v] hp (some r0) := by
  intro r hr ls H locs h1 h2 h3
  cases hr
  exact W.aret (v := v) C.1 C.2.1 C.2.2.2.2.2.2.2.1 (Or.inl ⟨nm, rfl⟩) hv (fun t ht hW => ⟨by rw [he], by rw [he, ht]; exact h2, h3.F ht⟩) h3.2.2 dd (hlocks := C.2.2.2.2.2.2.1)
theorem nrf_ref (Y : YT) (n : Nat) : nrf Y n = .null ∨ ∃ a, nrf Y n = .ref a := by
  unfold nrf
  split
  · exact Or.inl rfl
  · exact Or.inr ⟨_, rfl⟩
end ROWS
/-! calls -/
theorem Ex.same {F : FT} {Y : YT} {s U : State} (h : Ex F Y s) (hv : s.vm = U.vm) (hh : U.heap = s.heap) : Ex F Y U := by
  obtain ⟨h1, h2, h3, h4, ⟨t0, t1, a1, a2, a3, a4⟩, h6, ⟨v7, h7, h8⟩, h9, h10⟩ := h
  have ha : s.vm.Alike U.vm := by rw [← hv]; exact Vm.Alike.refl _
  rw [← hh] at h3 a1 a2 a3 a4 h6 h8
  exact ⟨va_K.moved ha h1, fun q hq => va_Nw.same rfl hv (h2 q hq), vk_S.moved ha h3, fun q hq => vk_R.same hv.symm (h4 q hq), ⟨t0, t1, va_Z.moved ha a1, va_Z.moved ha a2, va_T.moved ha a3, va_T.moved ha a4⟩, va_Z.moved ha h6, ⟨v7, h7, va_Z.moved ha h8⟩, va_AO.moved ha h9, va_AO.moved ha h10⟩
theorem PcG.blind {F : FT} {Y : YT} {as : List Value} {hp : Heap → Prop} : FrameBlind (PcG F Y as hp) := fun a U g mk q => ⟨q.1, q.2.1, q.2.2.same rfl rfl⟩
def LkV (own : String) (idx : Nat) (y : MethodName) (bytes : ByteArray) (maxL : Nat) (ret : Option FieldType) (n : Nat) : Prop :=
  (∀ w ∈ [Cond.methodLink own idx y, .instanceMethod y, .selects y.cls y y, .initialized y.cls, .code y bytes maxL ret], w ∈ TB) ∧ y.cls ≠ "java/lang/invoke/MethodHandle" ∧ y.cls ≠ "java/lang/invoke/VarHandle" ∧ (parseMethodDescriptor y.desc).map (fun d => d.parameters.length) = some n
def LkS (own : String) (idx : Nat) (y : MethodName) (bytes : ByteArray) (maxL : Nat) (ret : Option FieldType) (n : Nat) : Prop :=
  (∀ w ∈ [Cond.methodLink own idx y, .static y, .initialized y.cls, .code y bytes maxL ret], w ∈ TB) ∧ y.cls ≠ "java/lang/invoke/MethodHandle" ∧ y.cls ≠ "java/lang/invoke/VarHandle" ∧ (parseMethodDescriptor y.desc).map (fun d => d.parameters.length) = some n
def LkSN (own : String) (idx : Nat) (y : MethodName) (host : String) (bytes : ByteArray) (maxL : Nat) (ret : Option FieldType) (n : Nat) : Prop :=
  (∀ w ∈ [Cond.static y, .initialized y.cls, .code y bytes maxL ret], w ∈ TB) ∧ (own, idx, y, host) ∈ NW ∧ y.cls ≠ "java/lang/invoke/MethodHandle" ∧ y.cls ≠ "java/lang/invoke/VarHandle" ∧ (parseMethodDescriptor y.desc).map (fun d => d.parameters.length) = some n
def LkI (own : String) (idx : Nat) (y : MethodName) (bytes : ByteArray) (maxL : Nat) (n : Nat) : Prop :=
  (∀ w ∈ [Cond.methodLink own idx y, .instanceMethod y, .initialized y.cls, .code y bytes maxL none], w ∈ TB) ∧ y.name = "<init>" ∧ y.cls ≠ "java/lang/invoke/MethodHandle" ∧ y.cls ≠ "java/lang/invoke/VarHandle" ∧ (parseMethodDescriptor y.desc).map (fun d => d.parameters.length) = some n
def LkIN (own : String) (idx : Nat) (y : MethodName) (host : String) (bytes : ByteArray) (maxL : Nat) (n : Nat) : Prop :=
  (∀ w ∈ [Cond.instanceMethod y, .initialized y.cls, .code y bytes maxL none], w ∈ TB) ∧ (own, idx, y, host) ∈ NW ∧ y.name = "<init>" ∧ y.cls ≠ "java/lang/invoke/MethodHandle" ∧ y.cls ≠ "java/lang/invoke/VarHandle" ∧ (parseMethodDescriptor y.desc).map (fun d => d.parameters.length) = some n
theorem good_w {w : Cond} (h : w ∈ TB) : w ∈ TB ∧ ((w.onTables && w.keeps) = true ∨ ∃ ty, w = .arrayClass ty) := TB_good w h
theorem good_ws {w : Cond} {l : List Cond} (hc : w ∈ TB) (hl : ∀ x ∈ l, x ∈ TB) : GoodIn TB (l ++ w :: TB) := by
  intro x hx
  rcases List.mem_append.mp hx with h | h
  · exact good_w (hl x h)
  · rcases List.mem_cons.mp h with h | h
    · exact h ▸ good_w hc
    · exact good_w h
section CALLS
variable {ρ : Type} {F : FT} {Y : YT} {X : XT} {cc : ByteArray} {nL : Nat} {own : String} {ret : Option FieldType} {d : Nat} {zf z : Nat × Nat} {em : ρ → Option Value × (Heap → Prop)} {pc : Nat} {lv : List (Nat × Value)} {rest st : List Value} {hp hp' : Heap → Prop} {o : Option ρ}
variable {idx : Nat} {y : MethodName} {host : String} {bytes : ByteArray} {maxL n d' mc ms b : Nat} {ret' : Option FieldType} {As : List Value} {v : Option Value}
theorem q_back {ls : Array Slot} {H : Heap} {locs : List Loc} {Q : State → Prop} (h3 : va_S (AF F Y) (sX X).heap H locs) {a : Array Value}
    (run : va_Run X.1 X.2.1 X.2.2.1 X.2.2.2.1 (sX X) X.2.2.2.2.2.1 X.2.2.2.2.2.2.1 X.2.2.2.2.2.2.2.1 X.2.2.2.2.2.2.2.2.1 X.2.2.2.2.2.2.2.2.2 H locs z.1 z.2 mc ms (F0 X.2.2.2.2.2.1 pc ls st) rest (Qof (AF F Y) v hp' a) (AF F Y))
    (k : ∀ (H1 : Heap) (locs1 : List Loc), hp' H1 → va_S (AF F Y) (sX X).heap H1 locs1 → W X.1 X.2.1 X.2.2.1 X.2.2.2.1 (sX X) X.2.2.2.2.2.1 X.2.2.2.2.2.2.1 X.2.2.2.2.2.2.2.1 X.2.2.2.2.2.2.2.2.1 X.2.2.2.2.2.2.2.2.2 H1 locs1 (z.1 + mc) (z.2 + ms) Q (F0 X.2.2.2.2.2.1 (pc + 3) ls (v.toList ++ rest))) :
    W X.1 X.2.1 X.2.2.1 X.2.2.2.1 (sX X) X.2.2.2.2.2.1 X.2.2.2.2.2.2.1 X.2.2.2.2.2.2.2.1 X.2.2.2.2.2.2.2.2.1 X.2.2.2.2.2.2.2.2.2 H locs z.1 z.2 Q (F0 X.2.2.2.2.2.1 pc ls st) := by
  intro T hT X0
  obtain ⟨v', st₀, t, T', L, h0, X', hL, e1, e2, ⟨hv', hh', hz1, hk1⟩, stp⟩ := run T hT X0
  cases hv'
  rw [h0] at hz1 hk1
  obtain ⟨t2, a1, b1⟩ := k T'.heap (locs ++ L) (by rw [e1]; exact hh')
    ⟨Nat.le_trans h3.1 (by rw [e1]; exact hz1), fun q h1 h2 => by rw [e1, hk1 q (Nat.lt_of_lt_of_le h1 h3.1) h2]; exact h3.2.1 q h1 h2, fun q hq => by
      rcases List.mem_append.mp hq with h | h
      · exact h3.2.2 q h
      · exact hL q h⟩ T' rfl X'
  exact ⟨t2, stp t2 a1, b1⟩
theorem rm_ok {R : Room} (hR : R = rmD d zf.1 zf.2) (hd : d' + 1 ≤ d) (hm : Nat.ble maxL 45 = true) : (rmD d' mc ms).frames + 1 ≤ R.frames ∧ 8 + (maxL + 11) + (rmD d' mc ms).locals ≤ R.locals := by
  have hm' := Nat.le_of_ble_eq_true hm
  subst hR
  refine ⟨hd, ?_⟩
  show 8 + (maxL + 11) + 64 * d' ≤ 64 * d
  omega
theorem q_callV (C : Cx F Y X cc nL own ret d zf) (lk : LkV own idx y bytes maxL ret' n) (hct : Ct F Y y bytes maxL ret' d' mc ms (.ref b :: As) hp v hp') (hd : d' + 1 ≤ d) (hm : Nat.ble maxL 45 = true)
    (hrcv : ∀ (H : Heap) (locs : List Loc), hp H → va_S (AF F Y) (sX X).heap H locs → ∃ cell : Cell, H[b]? = some cell ∧ cell.vm.isStatics = false ∧ (sX X).vm.findClass y.cls = some cell.cls)
    (hn : As.length = n) (hst : st = As.reverse ++ .ref b :: rest) (hW : (rest.map fun v => v.category).sum ≤ 8) (dd : decode cc pc = .ok (.invokevirtual idx, 3)) (hz : z.1 + mc ≤ zf.1 ∧ z.2 + ms ≤ zf.2)
    (k : G F Y X nL em zf (z.1 + mc, z.2 + ms) (pc + 3) lv (v.toList ++ rest) hp' o) : G F Y X nL em zf z pc lv st hp o := by
  intro r hr ls H locs h1 h2 h3
  obtain ⟨hx, hb, hml, hown, hts, hE, hlocks, hret, hR⟩ := C
  obtain ⟨lw, c1, c2, c3⟩ := lk
  have hG : GoodIn TB (wsV own idx y.cls y (.code y bytes maxL ret' :: TB)) := good_ws (l := [Cond.methodLink own idx y, .instanceMethod y, .selects y.cls y y, .initialized y.cls]) (lw _ (by simp)) (fun x hx => lw x (by simp at hx ⊢; rcases hx with h | h | h | h <;> simp [h]))
  have cw := cwV (R := X.2.2.2.1) (args := X.2.2.2.2.2.2.1) (rm := rmD d' mc ms) n hts hG rfl rfl rfl ⟨rfl, c1, c2, c3⟩ (rm_ok hR hd hm)
  exact q_back h3 (va_runV ⟨hx, hb, hml, hown, hts⟩ (hct X.2.1) cw ⟨PcG.blind, hrcv H locs h2 h3, fun U hU hW => ⟨rfl, by rw [hU]; exact h2, hE.moved hW (by rw [hU]; exact h3.2.1)⟩⟩ rfl hn h1.1 hst (lv_room hW) dd (by rw [hR]; exact hz)) (fun H1 locs1 a1 a2 => k r hr ls H1 locs1 h1 a1 a2)
theorem q_callS (C : Cx F Y X cc nL own ret d zf) (lk : LkS own idx y bytes maxL ret' n) (hct : Ct F Y y bytes maxL ret' d' mc ms As hp v hp') (hd : d' + 1 ≤ d) (hm : Nat.ble maxL 45 = true)
    (hn : As.length = n) (hst : st = As.reverse ++ rest) (hW : (rest.map fun v => v.category).sum ≤ 8) (dd : decode cc pc = .ok (.invokestatic idx, 3)) (hz : z.1 + mc ≤ zf.1 ∧ z.2 + ms ≤ zf.2)
    (k : G F Y X nL em zf (z.1 + mc, z.2 + ms) (pc + 3) lv (v.toList ++ rest) hp' o) : G F Y X nL em zf z pc lv st hp o := by
  intro r hr ls H locs h1 h2 h3
  obtain ⟨hx, hb, hml, hown, hts, hE, hlocks, hret, hR⟩ := C
  obtain ⟨lw, c1, c2, c3⟩ := lk
  have hG : GoodIn TB (va_wsS own idx y (.code y bytes maxL ret' :: TB)) := good_ws (l := [Cond.methodLink own idx y, .static y, .initialized y.cls]) (lw _ (by simp)) (fun x hx => lw x (by simp at hx ⊢; rcases hx with h | h | h <;> simp [h]))
  have cw := va_cwS (R := X.2.2.2.1) (args := X.2.2.2.2.2.2.1) (rm := rmD d' mc ms) n hts hG rfl rfl rfl ⟨c1, c2, c3⟩ (rm_ok hR hd hm)
  exact q_back h3 (va_runS ⟨hx, hb, hml, hown, hts⟩ (hct X.2.1) cw ⟨PcG.blind, fun U hU hW => ⟨rfl, by rw [hU]; exact h2, hE.moved hW (by rw [hU]; exact h3.2.1)⟩⟩ rfl hn h1.1 hst (lv_room hW) dd (by rw [hR]; exact hz)) (fun H1 locs1 a1 a2 => k r hr ls H1 locs1 h1 a1 a2)
theorem q_callSN (C : Cx F Y X cc nL own ret d zf) (lk : LkSN own idx y host bytes maxL ret' n) (hct : Ct F Y y bytes maxL ret' d' mc ms As hp v hp') (hd : d' + 1 ≤ d) (hm : Nat.ble maxL 45 = true)
    (hn : As.length = n) (hst : st = As.reverse ++ rest) (hW : (rest.map fun v => v.category).sum ≤ 8) (dd : decode cc pc = .ok (.invokestatic idx, 3)) (hz : z.1 + mc ≤ zf.1 ∧ z.2 + ms ≤ zf.2)
    (k : G F Y X nL em zf (z.1 + mc, z.2 + ms) (pc + 3) lv (v.toList ++ rest) hp' o) : G F Y X nL em zf z pc lv st hp o := by
  intro r hr ls H locs h1 h2 h3
  obtain ⟨hx, hb, hml, hown, hts, hE, hlocks, hret, hR⟩ := C
  obtain ⟨lw, hnw, c1, c2, c3⟩ := lk
  have hG : GoodIn TB (.code y bytes maxL ret' :: TB) := good_ws (l := []) (lw _ (by simp)) (fun x hx => by cases hx)
  have cw := va_cnB (R := X.2.2.2.1) (args := X.2.2.2.2.2.2.1) (rm := rmD d' mc ms) n hts hG rfl rfl rfl (hE.2.1 _ hnw) (hts _ (lw _ (by simp))) ⟨c1, c2, c3⟩ (rm_ok hR hd hm)
  exact q_back h3 (va_runSN ⟨hx, hb, hml, hown, hts⟩ (hct X.2.1) ⟨cw, hts _ (lw _ (by simp)), trivial⟩ ⟨PcG.blind, fun U hU hW => ⟨rfl, by rw [hU]; exact h2, hE.moved hW (by rw [hU]; exact h3.2.1)⟩⟩ rfl hn h1.1 hst (lv_room hW) dd (by rw [hR]; exact hz)) (fun H1 locs1 a1 a2 => k r hr ls H1 locs1 h1 a1 a2)
theorem q_callI (C : Cx F Y X cc nL own ret d zf) (lk : LkI own idx y bytes maxL n) (hct : Ct F Y y bytes maxL none d' mc ms (.ref b :: As) hp none hp') (hd : d' + 1 ≤ d) (hm : Nat.ble maxL 45 = true)
    (hn : As.length = n) (hst : st = As.reverse ++ .ref b :: rest) (hW : (rest.map fun v => v.category).sum ≤ 8) (dd : decode cc pc = .ok (.invokespecial idx, 3)) (hz : z.1 + mc ≤ zf.1 ∧ z.2 + ms ≤ zf.2)
    (k : G F Y X nL em zf (z.1 + mc, z.2 + ms) (pc + 3) lv rest hp' o) : G F Y X nL em zf z pc lv st hp o := by
  intro r hr ls H locs h1 h2 h3
  obtain ⟨hx, hb, hml, hown, hts, hE, hlocks, hret, hR⟩ := C
  obtain ⟨lw, hi, c1, c2, c3⟩ := lk
  have hG : GoodIn TB (.code y bytes maxL none :: TB) := good_ws (l := []) (lw _ (by simp)) (fun x hx => by cases hx)
  have cw := cwI (R := X.2.2.2.1) (args := X.2.2.2.2.2.2.1) (rm := rmD d' mc ms) n hts hG rfl rfl rfl (hts _ (lw (.initialized y.cls) (by simp))) (hts _ (lw (.methodLink own idx y) (by simp))) (hts _ (lw (.instanceMethod y) (by simp))) hi ⟨c1, c2, c3⟩ (rm_ok hR hd hm)
  exact q_back (v := none) h3 (va_runI ⟨hx, hb, hml, hown, hts⟩ (hct X.2.1) cw ⟨PcG.blind, fun U hU hW => ⟨rfl, by rw [hU]; exact h2, hE.moved hW (by rw [hU]; exact h3.2.1)⟩⟩ rfl hn h1.1 hst (lv_room hW) dd (by rw [hR]; exact hz)) (fun H1 locs1 a1 a2 => k r hr ls H1 locs1 h1 a1 a2)
theorem q_callIN (C : Cx F Y X cc nL own ret d zf) (lk : LkIN own idx y host bytes maxL n) (hct : Ct F Y y bytes maxL none d' mc ms (.ref b :: As) hp none hp') (hd : d' + 1 ≤ d) (hm : Nat.ble maxL 45 = true)
    (hn : As.length = n) (hst : st = As.reverse ++ .ref b :: rest) (hW : (rest.map fun v => v.category).sum ≤ 8) (dd : decode cc pc = .ok (.invokespecial idx, 3)) (hz : z.1 + mc ≤ zf.1 ∧ z.2 + ms ≤ zf.2)
    (k : G F Y X nL em zf (z.1 + mc, z.2 + ms) (pc + 3) lv rest hp' o) : G F Y X nL em zf z pc lv st hp o := by
  intro r hr ls H locs h1 h2 h3
  obtain ⟨hx, hb, hml, hown, hts, hE, hlocks, hret, hR⟩ := C
  obtain ⟨lw, hnw, hi, c1, c2, c3⟩ := lk
  have hG : GoodIn TB (.code y bytes maxL none :: TB) := good_ws (l := []) (lw _ (by simp)) (fun x hx => by cases hx)
  have cw := va_cnB (R := X.2.2.2.1) (args := X.2.2.2.2.2.2.1) (rm := rmD d' mc ms) n hts hG rfl rfl rfl (hE.2.1 _ hnw) (hts _ (lw _ (by simp))) ⟨c1, c2, c3⟩ (rm_ok hR hd hm)
  exact q_back (v := none) h3 (va_runIN ⟨hx, hb, hml, hown, hts⟩ (hct X.2.1) ⟨cw, hi, hts _ (lw _ (by simp))⟩ ⟨PcG.blind, fun U hU hW => ⟨rfl, by rw [hU]; exact h2, hE.moved hW (by rw [hU]; exact h3.2.1)⟩⟩ rfl hn h1.1 hst (lv_room hW) dd (by rw [hR]; exact hz)) (fun H1 locs1 a1 a2 => k r hr ls H1 locs1 h1 a1 a2)
end CALLS
