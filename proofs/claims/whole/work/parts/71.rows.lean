/-! the law's own body: the judgement LJ, its rows, the calls of the class and of the reference -/
def R_law : String := "WellToldLaw"
def lw_P (b : Addr) (xs : List Int32) (args : Array Value) (s : State) : Prop := args = #[.ref b] ∧ s.IntsAt b xs ∧ xs.length ≤ 3072 ∧ (Jvm.Cond.and given_1 narrow_1).before args s = true
def lw_Q (_ : Array Value) (s : State) (o : Outcome) (t : State) : Prop := o = .returned (some (.int 1)) ∧ Framed s o t [] 600000 7302250
def lw_Z (below : List Frame) (a : Array Value) (s : State) : State → Prop := fun t => ∃ o, t.status = .running ∧ Ended t below o ∧ lw_Q a s o t
/-- the law's own end, with 1 on the stack, nothing written that was there before, its room as the claim has it -/
theorem lw_ret {p : Program} {l : Launch} {e : Env} {s : State} {m : MethodId} {below : List Frame} {meth : Method} {c : Code} {b : Nat} (hx : p.tables.exec = Jvm.exec) (hb : c.code = code) (hr : meth.sig.returnType = ret) (hlocks : meth.locks = false) {pc : Nat} {H : Heap} {ls : Array Slot} (hdg : decode code pc = .ok (.ireturn, 1)) : W p l e room_1 s m #[Value.ref b] below meth c H [] 600000 7302250 (lw_Z below #[Value.ref b] s) (F0 m pc ls [.int 1]) := by
  intro T hT X
  obtain ⟨fs, hret, hrun, hended, hW, hframe⟩ := X.leave (v := some (.int 1)) (hlocks := hlocks) (fun h => by rw [hr] at h; cases h)
  have hmeth' : T.vm.method? m = some meth := X.method'
  refine ⟨T.setFrames fs, ?_, .returned (some (.int 1)), hrun, hended, rfl, ⟨_, rfl⟩, hW, hframe⟩
  jvm_step X.here [X.here.top, hx, hb, hdg, hmeth', hr, ret, narrow_b1]
  (try refine ⟨rfl, ?_⟩); (try refine ⟨rfl, ?_⟩)
  first | (intro acts; rw [hret _ acts rfl rfl rfl]) | rw [hret _ _ rfl rfl rfl]
  exact Steps.refl _
/-- what holds at the law's entry: the machine, the code, the tables' words (any of lw_tbl by 'hts w (by decide +kernel)'), the script of L ints xs at the cell b, what the Statement gives of the start (any of its parts by flat_of_before) -/
def lw_At (p : Program) (s : State) (m : MethodId) (meth : Method) (c : Code) (b L : Nat) (xs : Nat → Int32) : Prop :=
  p.tables.exec = Jvm.exec ∧ c.code = code ∧ meth.sig.returnType = ret ∧ c.maxLocals = 4 ∧ s.vm.findClass R_law = some m.cls ∧ (∀ w ∈ lw_tbl, w.before #[Value.ref b] s = true) ∧ va_X b L xs s s.heap ∧ b < s.heap.size ∧ meth.locks = false ∧ (Jvm.Cond.and given_1 narrow_1).before #[Value.ref b] s = true
abbrev LV : Type := Program × Launch × Env × State × MethodId × List Frame × Method × Code × Nat × Nat × (Nat → Int32)
abbrev sL (V : LV) : State := V.2.2.2.1
abbrev bL (V : LV) : Nat := V.2.2.2.2.2.2.2.2.1
abbrev LL (V : LV) : Nat := V.2.2.2.2.2.2.2.2.2.1
abbrev xL (V : LV) : Nat → Int32 := V.2.2.2.2.2.2.2.2.2.2
abbrev LAt (V : LV) : Prop := lw_At V.1 (sL V) V.2.2.2.2.1 V.2.2.2.2.2.2.1 V.2.2.2.2.2.2.2.1 (bL V) (LL V) (xL V)
/-- the law writes nothing that was there -/
abbrev NA (V : LV) : Nat → Prop := fun q => (sL V).heap.size ≤ q
def LW (V : LV) (z : Nat × Nat) (H : Heap) (locs : List Loc) (g : JFrame) : Prop := W V.1 V.2.1 V.2.2.1 room_1 (sL V) V.2.2.2.2.1 #[Value.ref (bL V)] V.2.2.2.2.2.1 V.2.2.2.2.2.2.1 V.2.2.2.2.2.2.2.1 H locs z.1 z.2 (lw_Z V.2.2.2.2.2.1 #[Value.ref (bL V)] (sL V)) g
def LJ (V : LV) (z : Nat × Nat) (pc : Nat) (lv : List (Nat × Value)) (st : List Value) (hp : Heap → Prop) : Prop :=
  ∀ (ls : Array Slot) (H : Heap) (locs : List Loc), lv_has ls 4 lv → hp H → va_S (NA V) (sL V).heap H locs → LW V z H locs (F0 V.2.2.2.2.1 pc ls st)
section LROWS
variable {V : LV} {z : Nat × Nat} {pc : Nat} {lv : List (Nat × Value)} {rest st : List Value} {hp hp' : Heap → Prop}
theorem l_imp (h : ∀ H, hp H → hp' H) (k : LJ V z pc lv st hp') : LJ V z pc lv st hp := fun ls H locs h1 h2 h3 => k ls H locs h1 (h H h2) h3
theorem l_sub {lv' : List (Nat × Value)} (ks : List Nat) (hl : lv_pick lv ks = lv') (k : LJ V z pc lv' st hp) : LJ V z pc lv st hp := fun ls H locs h1 h2 h3 => k ls H locs (lv_sub h1 ks hl) h2 h3
theorem l_widen {z' : Nat × Nat} (h : z.1 ≤ z'.1 ∧ z.2 ≤ z'.2) (k : LJ V z' pc lv st hp) : LJ V z pc lv st hp := fun ls H locs h1 h2 h3 => W.widen h.1 h.2 (k ls H locs h1 h2 h3)
theorem l_iconst (C : LAt V) {n : Int} {v : Int32} (dd : decode code pc = .ok (.iconst n, 1)) (hv : Int32.ofInt n = v) (k : LJ V z (pc + 1) lv (.int v :: rest) hp) : LJ V z pc lv rest hp :=
  fun ls H locs h1 h2 h3 => lv_iconst C.1 C.2.1 dd hv (k ls H locs h1 h2 h3)
theorem l_bipush (C : LAt V) {n : Int} {v : Int32} (dd : decode code pc = .ok (.bipush n, 2)) (hv : (Int8.ofInt n).toInt32 = v) (k : LJ V z (pc + 2) lv (.int v :: rest) hp) : LJ V z pc lv rest hp :=
  fun ls H locs h1 h2 h3 => lv_bipush C.1 C.2.1 dd hv (k ls H locs h1 h2 h3)
theorem l_ldc2 (C : LAt V) {index : Nat} {v : Int64} (hw : Cond.constantLong R_law index v ∈ lw_tbl) (dd : decode code pc = .ok (.ldc2_w index, 3)) (k : LJ V z (pc + 3) lv (.long v :: rest) hp) : LJ V z pc lv rest hp :=
  fun ls H locs h1 h2 h3 => lv_ldc2 C.1 C.2.1 C.2.2.2.2.1 (C.2.2.2.2.2.1 _ hw) dd (k ls H locs h1 h2 h3)
theorem l_iload_n (C : LAt V) (q : Nat) {i : Fin 4} {x : Int32} (dd : decode code pc = .ok (.iload_n i, 1)) (hl : lv[q]? = some ((i : Nat), .int x)) (k : LJ V z (pc + 1) lv (.int x :: rest) hp) : LJ V z pc lv rest hp :=
  fun ls H locs h1 h2 h3 => lv_iload_n C.1 C.2.1 dd rfl (lv_at h1 q hl) (k ls H locs h1 h2 h3)
theorem l_aload_n (C : LAt V) (q : Nat) {i : Fin 4} {a : Nat} (dd : decode code pc = .ok (.aload_n i, 1)) (hl : lv[q]? = some ((i : Nat), .ref a)) (k : LJ V z (pc + 1) lv (.ref a :: rest) hp) : LJ V z pc lv rest hp :=
  fun ls H locs h1 h2 h3 => lv_aload_n C.1 C.2.1 dd rfl (lv_at h1 q hl) (k ls H locs h1 h2 h3)
theorem l_istore_n (C : LAt V) {i : Fin 4} {x : Int32} (lv' : List (Nat × Value)) (dd : decode code pc = .ok (.istore_n i, 1)) (hn : Nat.blt (i : Nat) 4 = true) (hl : ((i : Nat), Value.int x) :: fil1 (i : Nat) lv = lv') (k : LJ V z (pc + 1) lv' rest hp) : LJ V z pc lv (.int x :: rest) hp :=
  fun ls H locs h1 h2 h3 => lv_istore_n C.1 C.2.1 dd rfl h1 (Nat.le_of_ble_eq_true hn) hl (fun ls' h' => k ls' H locs h' h2 h3)
theorem l_astore_n (C : LAt V) {i : Fin 4} {a : Nat} (lv' : List (Nat × Value)) (dd : decode code pc = .ok (.astore_n i, 1)) (hn : Nat.blt (i : Nat) 4 = true) (hl : ((i : Nat), Value.ref a) :: fil1 (i : Nat) lv = lv') (k : LJ V z (pc + 1) lv' rest hp) : LJ V z pc lv (.ref a :: rest) hp :=
  fun ls H locs h1 h2 h3 => lv_astore_n C.1 C.2.1 dd rfl h1 (Nat.le_of_ble_eq_true hn) hl (fun ls' h' => k ls' H locs h' h2 h3)
theorem l_iinc (C : LAt V) (q : Nat) {i : Nat} {n : Int} {x v : Int32} (lv' : List (Nat × Value)) (dd : decode code pc = .ok (.iinc i n, 3)) (hk : lv[q]? = some (i, .int x)) (hv : x + Int32.ofInt n = v) (hn : Nat.blt i 4 = true) (hl : (i, Value.int v) :: fil1 i lv = lv') (k : LJ V z (pc + 3) lv' rest hp) : LJ V z pc lv rest hp :=
  fun ls H locs h1 h2 h3 => lv_iinc C.1 C.2.1 dd h1 hk hv (Nat.le_of_ble_eq_true hn) hl (fun ls' h' => k ls' H locs h' h2 h3)
theorem l_iadd (C : LAt V) {x y : Int32} (dd : decode code pc = .ok (.iadd, 1)) (k : LJ V z (pc + 1) lv (.int (x + y) :: rest) hp) : LJ V z pc lv (.int y :: .int x :: rest) hp := fun ls H locs h1 h2 h3 => lv_iadd C.1 C.2.1 dd (k ls H locs h1 h2 h3)
theorem l_isub (C : LAt V) {x y : Int32} (dd : decode code pc = .ok (.isub, 1)) (k : LJ V z (pc + 1) lv (.int (x - y) :: rest) hp) : LJ V z pc lv (.int y :: .int x :: rest) hp := fun ls H locs h1 h2 h3 => lv_isub C.1 C.2.1 dd (k ls H locs h1 h2 h3)
theorem l_iand (C : LAt V) {x y : Int32} (dd : decode code pc = .ok (.iand, 1)) (k : LJ V z (pc + 1) lv (.int (x &&& y) :: rest) hp) : LJ V z pc lv (.int y :: .int x :: rest) hp := fun ls H locs h1 h2 h3 => lv_iand C.1 C.2.1 dd (k ls H locs h1 h2 h3)
theorem l_land (C : LAt V) {x y : Int64} (dd : decode code pc = .ok (.land, 1)) (k : LJ V z (pc + 1) lv (.long (x &&& y) :: rest) hp) : LJ V z pc lv (.long y :: .long x :: rest) hp := fun ls H locs h1 h2 h3 => lv_land C.1 C.2.1 dd (k ls H locs h1 h2 h3)
theorem l_lor (C : LAt V) {x y : Int64} (dd : decode code pc = .ok (.lor, 1)) (k : LJ V z (pc + 1) lv (.long (x ||| y) :: rest) hp) : LJ V z pc lv (.long y :: .long x :: rest) hp := fun ls H locs h1 h2 h3 => lv_lor C.1 C.2.1 dd (k ls H locs h1 h2 h3)
theorem l_lshl (C : LAt V) {x : Int64} {y : Int32} (dd : decode code pc = .ok (.lshl, 1)) (k : LJ V z (pc + 1) lv (.long (x <<< (y.toInt64 &&& 63)) :: rest) hp) : LJ V z pc lv (.int y :: .long x :: rest) hp := fun ls H locs h1 h2 h3 => lv_lshl C.1 C.2.1 dd rfl (k ls H locs h1 h2 h3)
theorem l_i2l (C : LAt V) {x : Int32} (dd : decode code pc = .ok (.i2l, 1)) (k : LJ V z (pc + 1) lv (.long x.toInt64 :: rest) hp) : LJ V z pc lv (.int x :: rest) hp := fun ls H locs h1 h2 h3 => lv_i2l C.1 C.2.1 dd rfl (k ls H locs h1 h2 h3)
theorem l_dup (C : LAt V) {v : Value} (dd : decode code pc = .ok (.dup, 1)) (hv : v.category = 1) (k : LJ V z (pc + 1) lv (v :: v :: rest) hp) : LJ V z pc lv (v :: rest) hp := fun ls H locs h1 h2 h3 => lv_dup C.1 C.2.1 dd hv (k ls H locs h1 h2 h3)
theorem l_goto (C : LAt V) {off : Int} (tgt : Nat) (dd : decode code pc = .ok (.goto off, 3)) (ht : (pc : Int) + off = (tgt : Int)) (k : LJ V z tgt lv rest hp) : LJ V z pc lv rest hp := fun ls H locs h1 h2 h3 => lv_goto C.1 C.2.1 dd ht (k ls H locs h1 h2 h3)
theorem l_eq (C : LAt V) {x : Int32} {off : Int} (tgt : Nat) (dd : decode code pc = .ok (.if_icmp .eq off, 3)) (ht : (pc : Int) + off = (tgt : Int)) (kt : LJ V z tgt lv rest hp) : LJ V z pc lv (.int x :: .int x :: rest) hp :=
  fun ls H locs h1 h2 h3 => lv_icmp_eq C.1 C.2.1 dd ht (fun _ => kt ls H locs h1 h2 h3) (fun h => absurd rfl h)
theorem l_gt (C : LAt V) {x y : Int32} {off : Int} (tgt : Nat) (dd : decode code pc = .ok (.if_icmp .gt off, 3)) (ht : (pc : Int) + off = (tgt : Int)) (kt : y < x → LJ V z tgt lv rest hp) (kf : ¬ y < x → LJ V z (pc + 3) lv rest hp) : LJ V z pc lv (.int y :: .int x :: rest) hp :=
  fun ls H locs h1 h2 h3 => lv_icmp_gt C.1 C.2.1 dd ht (fun h => kt h ls H locs h1 h2 h3) (fun h => kf h ls H locs h1 h2 h3)
theorem l_tin (C : LAt V) {dflt lo hi : Int} {offs : Array Int} {len : Nat} {x : Int32} {off : Int} (tgt : Nat) (dd : decode code pc = .ok (.tableswitch dflt lo hi offs, len)) (h1 : ¬ x.toInt < lo) (h2 : ¬ hi < x.toInt) (ho : offs[(x.toInt - lo).toNat]? = some off) (ht : (pc : Int) + off = (tgt : Int)) (k : LJ V z tgt lv rest hp) : LJ V z pc lv (.int x :: rest) hp :=
  fun ls H locs a1 a2 a3 => lv_tableIn C.1 C.2.1 dd h1 h2 ho ht (k ls H locs a1 a2 a3)
theorem l_tout (C : LAt V) {dflt lo hi : Int} {offs : Array Int} {len : Nat} {x : Int32} (tgt : Nat) (dd : decode code pc = .ok (.tableswitch dflt lo hi offs, len)) (h : x.toInt < lo ∨ hi < x.toInt) (ht : (pc : Int) + dflt = (tgt : Int)) (k : LJ V z tgt lv rest hp) : LJ V z pc lv (.int x :: rest) hp :=
  fun ls H locs a1 a2 a3 => lv_tableOut C.1 C.2.1 dd h ht (k ls H locs a1 a2 a3)
theorem l_len (C : LAt V) (dd : decode code pc = .ok (.arraylength, 1)) (k : LJ V z (pc + 1) lv (.int (nI (LL V)) :: rest) hp) : LJ V z pc lv (.ref (bL V) :: rest) hp :=
  fun ls H locs h1 h2 h3 => va_slen C.1 C.2.1 C.2.2.2.2.2.2.1 C.2.2.2.2.2.2.2.1 (Nat.not_le.mpr C.2.2.2.2.2.2.2.1) h3 dd (k ls H locs h1 h2 h3)
theorem l_at (C : LAt V) {j : Nat} (hj : j < LL V) (hL : LL V < 2 ^ 31) (dd : decode code pc = .ok (.iaload, 1)) (k : LJ V z (pc + 1) lv (.int (xL V j) :: rest) hp) : LJ V z pc lv (.int (nI j) :: .ref (bL V) :: rest) hp := by
  intro ls H locs h1 h2 h3
  refine va_sld C.1 C.2.1 C.2.2.2.2.2.2.1 C.2.2.2.2.2.2.2.1 (Nat.not_le.mpr C.2.2.2.2.2.2.2.1) h3 (vp_in_nI hj hL) dd ?_
  rw [nI_clamp (Nat.lt_trans hj hL)]
  exact k ls H locs h1 h2 h3
theorem l_ret (C : LAt V) (dd : decode code pc = .ok (.ireturn, 1)) : LJ V (600000, 7302250) pc lv [.int 1] hp :=
  fun ls H locs h1 h2 h3 => va_forget h3.2.2 (lw_ret C.1 C.2.1 C.2.2.1 C.2.2.2.2.2.2.2.2.1 dd)
/-- behind a call -/
theorem l_back {F : FT} {Y : YT} {mc ms : Nat} {v : Option Value} {hpost : Heap → Prop} {a : Array Value} {ls : Array Slot} {H : Heap} {locs : List Loc} (hY : (sL V).heap.size ≤ bY Y) (h3 : va_S (NA V) (sL V).heap H locs)
    (run : va_Run V.1 V.2.1 V.2.2.1 room_1 (sL V) V.2.2.2.2.1 #[Value.ref (bL V)] V.2.2.2.2.2.1 V.2.2.2.2.2.2.1 V.2.2.2.2.2.2.2.1 H locs z.1 z.2 mc ms (F0 V.2.2.2.2.1 pc ls st) rest (Qof (AF F Y) v hpost a) (AF F Y))
    (k : ∀ (H1 : Heap) (locs1 : List Loc), hpost H1 → (H.size ≤ H1.size ∧ ∀ q, q < H.size → ¬ AF F Y q → H1[q]? = H[q]?) → va_S (NA V) (sL V).heap H1 locs1 → LW V (z.1 + mc, z.2 + ms) H1 locs1 (F0 V.2.2.2.2.1 (pc + 3) ls (v.toList ++ rest))) : LW V z H locs (F0 V.2.2.2.2.1 pc ls st) := by
  intro T hT X0
  obtain ⟨v', st₀, t, T', L, h0, X', hL, e1, e2, ⟨hv', hh', hz1, hk1⟩, stp⟩ := run T hT X0
  cases hv'
  rw [h0] at hz1 hk1
  obtain ⟨t2, a1, b1⟩ := k T'.heap (locs ++ L) (by rw [e1]; exact hh') ⟨by rw [e1]; exact hz1, fun q h1 h2 => by rw [e1]; exact hk1 q h1 h2⟩
    ⟨Nat.le_trans h3.1 (by rw [e1]; exact hz1), fun q h1 h2 => by rw [e1, hk1 q (Nat.lt_of_lt_of_le h1 h3.1) (fun h => absurd h1 (Nat.not_lt.mpr (Nat.le_trans hY h.1)))]; exact h3.2.1 q h1 h2, fun q hq => by
      rcases List.mem_append.mp hq with h | h
      · exact h3.2.2 q h
      · exact Nat.le_trans hY (hL q h).1⟩ T' rfl X'
  exact ⟨t2, stp t2 a1, b1⟩
theorem l_rm {d mc ms maxL : Nat} (hd : Nat.ble d 200 = true) (hm : Nat.ble maxL 45 = true) : (rmD d mc ms).frames + 1 ≤ room_1.frames ∧ 8 + (maxL + 11) + (rmD d mc ms).locals ≤ room_1.locals := by
  have hd' := Nat.le_of_ble_eq_true hd
  have hm' := Nat.le_of_ble_eq_true hm
  refine ⟨?_, ?_⟩
  · show d + 1 ≤ 2048
    omega
  · show 8 + (maxL + 11) + 64 * d ≤ 84000
    omega
theorem l_ex {F : FT} {Y : YT} {H : Heap} {locs : List Loc} {U : State} (hE : Ex F Y (sL V)) (h3 : va_S (NA V) (sL V).heap H locs) (hU : U.heap = H) (hW : (sL V).WarmedH U.vm) : Ex F Y U :=
  hE.moved hW (fun q h1 _ => by rw [hU]; exact h3.2.1 q h1 (Nat.not_le.mpr h1))
theorem l_rcv {F : FT} {Y : YT} {σ : St} {H : Heap} {kk kd : Nat} {c : String} (hE : Ex F Y (sL V)) (hk : F.1 kk = kd) (hlt : kk < F.2) (hc : recvOK kd c = true) (h : RepS F Y σ H) : ∃ cell : Cell, H[bY Y + kk]? = some cell ∧ cell.vm.isStatics = false ∧ (sL V).vm.findClass c = some cell.cls := by
  obtain ⟨h1, h2⟩ := (Bool.and_eq_true _ _).mp hc |> fun q => (⟨of_decide_eq_true q.1, of_decide_eq_true q.2⟩ : kd < 12 ∧ _)
  have ha := h.at hk hlt
  obtain ⟨fs, e⟩ := entK_obj (Y := Y) (k := kk) (f := σ kk) h1
  rw [e] at ha
  cases hq : vwCl[kd]? with
  | none => rw [hq] at h2; cases h2
  | some q =>
    rw [hq] at h2
    have hqc : q.1 = c := Option.some.inj h2
    have hr := va_recv hE.1 (va_P1 ha) hq (q0 := 0) rfl
    rw [hqc] at hr
    exact hr
theorem l_tb (C : LAt V) : ∀ w ∈ TB, w.before #[Value.ref (bL V)] (sL V) = true := fun w hw => C.2.2.2.2.2.1 w (List.mem_filter.mp hw).1
theorem l_callV (C : LAt V) {F : FT} {Y : YT} (hE : Ex F Y (sL V)) (hY : (sL V).heap.size ≤ bY Y) {idx d n maxL kd : Nat} {y : MethodName} {bytes : ByteArray} {As : List Value} {o : Option (Int32 × St)} {r : Int32} {σ σ' : St} (lk : LkV R_law idx y bytes maxL (some .int) n) (hct : CtE (emI F Y) F Y y bytes maxL (some .int) d (Rf Y 0 :: As) σ o) (ho : o = some (r, σ')) (hd : Nat.ble d 200 = true) (hm : Nat.ble maxL 45 = true)
    (hk0 : F.1 0 = kd) (hlt : 0 < F.2) (hc : recvOK kd y.cls = true) (hn : As.length = n) (hst : st = As.reverse ++ Rf Y 0 :: rest) (hW : (rest.map fun v => v.category).sum ≤ 8) (dd : decode code pc = .ok (.invokevirtual idx, 3)) (hzz : z.1 ≤ 600000 ∧ z.2 ≤ 7302250)
    (hh : ∀ H, hp H → RepS F Y σ H) (hkeep : ∀ H H1 : Heap, hp H → RepS F Y σ' H1 → (∀ q, q < H.size → ¬ AF F Y q → H1[q]? = H[q]?) → hp' H1) (k : LJ V z (pc + 3) lv (.int r :: rest) hp') : LJ V z pc lv st hp := by
  subst ho
  intro ls H locs h1 h2 h3
  obtain ⟨lw, c1, c2, c3⟩ := lk
  have hG : GoodIn TB (wsV R_law idx y.cls y (.code y bytes maxL (some .int) :: TB)) := good_ws (l := [Cond.methodLink R_law idx y, .instanceMethod y, .selects y.cls y y, .initialized y.cls]) (lw _ (by simp)) (fun x hx => lw x (by simp at hx ⊢; rcases hx with h | h | h | h <;> simp [h]))
  have cw := cwV (R := room_1) (args := #[Value.ref (bL V)]) (rm := rmD d 0 0) n (l_tb C) hG rfl rfl rfl ⟨rfl, c1, c2, c3⟩ (l_rm hd hm)
  refine l_back hY h3 (va_runV ⟨C.1, C.2.1, C.2.2.2.1, C.2.2.2.2.1, l_tb C⟩ (hct (r, σ') rfl V.2.1) cw ⟨PcG.blind, l_rcv hE hk0 hlt hc (hh H h2), fun U hU hW => ⟨rfl, by rw [hU]; exact hh H h2, l_ex hE h3 hU hW⟩⟩ rfl hn h1.1 hst (lv_room hW) dd hzz) (fun H1 locs1 a1 a2 a3 => k ls H1 locs1 h1 (hkeep H H1 h2 a1 a2.2) a3)
theorem l_callI (C : LAt V) {F : FT} {Y : YT} (hE : Ex F Y (sL V)) (hY : (sL V).heap.size ≤ bY Y) {idx d n maxL mc ms : Nat} {y : MethodName} {bytes : ByteArray} {As : List Value} {hpre hpost : Heap → Prop} (lk : LkI R_law idx y bytes maxL n) (hct : Ct F Y y bytes maxL none d mc ms (Rf Y 0 :: As) hpre none hpost) (hd : Nat.ble d 200 = true) (hm : Nat.ble maxL 45 = true)
    (hn : As.length = n) (hst : st = As.reverse ++ Rf Y 0 :: rest) (hW : (rest.map fun v => v.category).sum ≤ 8) (dd : decode code pc = .ok (.invokespecial idx, 3)) (hzz : z.1 + mc ≤ 600000 ∧ z.2 + ms ≤ 7302250)
    (hh : ∀ H, hp H → hpre H) (hkeep : ∀ H H1 : Heap, hp H → hpost H1 → (∀ q, q < H.size → ¬ AF F Y q → H1[q]? = H[q]?) → hp' H1) (k : LJ V (z.1 + mc, z.2 + ms) (pc + 3) lv rest hp') : LJ V z pc lv st hp := by
  intro ls H locs h1 h2 h3
  obtain ⟨lw, hi, c1, c2, c3⟩ := lk
  have hG : GoodIn TB (.code y bytes maxL none :: TB) := good_ws (l := []) (lw _ (by simp)) (fun x hx => by cases hx)
  have hts := l_tb C
  have cw := cwI (R := room_1) (args := #[Value.ref (bL V)]) (rm := rmD d mc ms) n hts hG rfl rfl rfl (hts _ (lw (.initialized y.cls) (by simp))) (hts _ (lw (.methodLink R_law idx y) (by simp))) (hts _ (lw (.instanceMethod y) (by simp))) hi ⟨c1, c2, c3⟩ (l_rm hd hm)
  refine l_back (v := none) hY h3 (va_runI ⟨C.1, C.2.1, C.2.2.2.1, C.2.2.2.2.1, hts⟩ (hct V.2.1) cw ⟨PcG.blind, fun U hU hW => ⟨rfl, by rw [hU]; exact hh H h2, l_ex hE h3 hU hW⟩⟩ rfl hn h1.1 hst (lv_room hW) dd hzz) (fun H1 locs1 a1 a2 a3 => k ls H1 locs1 h1 (hkeep H H1 h2 a1 a2.2) a3)
theorem l_new (C : LAt V) {F : FT} {Y : YT} (hE : Ex F Y (sL V)) {idx ci N : Nat} {RC : String} {T : u_T} (hc : vwCl[ci]? = some (RC, T, N)) (hin : ∀ w ∈ u_ws RC T N, w ∈ TB) (ty : Nat → FieldType) (hty : ∀ k, k < N → parseFieldDescriptor (T k).2.2.1 = some (ty k)) (hcl : Cond.classLink R_law idx RC ∈ lw_tbl) (hinst : Cond.instantiable RC N ∈ lw_tbl) (hini : Cond.initialized RC ∈ lw_tbl)
    {fs : List Value} (hfs : ∀ j, j < N → defaultValue (ty j) = vp_V fs j) (hsz : ∀ H, hp H → H.size = bY Y) (hkeep : ∀ H H1 : Heap, hp H → RepL Y [.inr (ci, fs)] H1 → (∀ q, q < H.size → H1[q]? = H[q]?) → hp' H1) (hz : z.1 + 1 ≤ 600000 ∧ z.2 + N ≤ 7302250) (dd : decode code pc = .ok (.new idx, 3)) (k : LJ V (z.1 + 1, z.2 + N) (pc + 3) lv (Rf Y 0 :: rest) hp') : LJ V z pc lv rest hp := by
  intro ls H locs h1 h2 h3
  have hts := C.2.2.2.2.2.1
  have hKn := hE.1.1 ci _ hc
  have hs := hsz H h2
  refine W.newcK (h := bY Y) C.1 C.2.1 C.2.2.2.2.1 (hts _ hcl) (hts _ hinst) (hts _ hini) rfl dd hz.1 hz.2 hKn.2.1 hs fun H1 kC hkC e1 z1 o1 => ?_
  refine k ls H1 locs h1 (hkeep H H1 h2 ⟨z1, fun j x hx => ?_⟩ (fun q hq => o1 q (by rw [← hs]; exact hq))) ⟨Nat.le_trans h3.1 (by rw [hs, z1]; omega), fun q a1 a2 => ?_, h3.2.2⟩
  · cases j with
    | zero => cases hx; exact ⟨_, hc, (u_born ty (l_tb C) hin hKn hkC e1 hty).to hfs⟩
    | succ j => cases hx
  · rw [o1 q (by have := Nat.lt_of_lt_of_le a1 h3.1; rw [hs] at this; exact this)]
    exact h3.2.1 q a1 a2
end LROWS
