def recvOK (kd : Nat) (c : String) : Bool := decide (kd < 12) && decide ((vwCl[kd]?).map (fun q => q.1) = some c)
theorem entK_obj {Y : YT} {k kd : Nat} {f : Nat → Int32} (h : kd < 12) : ∃ fs, entK Y k kd f = .inr (kd, fs) := by
  have : kd = 0 ∨ kd = 1 ∨ kd = 2 ∨ kd = 3 ∨ kd = 4 ∨ kd = 5 ∨ kd = 6 ∨ kd = 7 ∨ kd = 8 ∨ kd = 9 ∨ kd = 10 ∨ kd = 11 := by omega
  rcases this with h | h | h | h | h | h | h | h | h | h | h | h <;> subst h <;> exact ⟨_, rfl⟩
theorem recv_0 : recvOK 0 RX0 = true := by decide +kernel
theorem recv_1 : recvOK 1 RX1 = true := by decide +kernel
theorem recv_2 : recvOK 2 RX2 = true := by decide +kernel
theorem recv_3 : recvOK 3 RX3 = true := by decide +kernel
theorem recv_4 : recvOK 4 RX4 = true := by decide +kernel
theorem recv_5 : recvOK 5 RX5 = true := by decide +kernel
theorem recv_6 : recvOK 6 RX6 = true := by decide +kernel
theorem recv_7 : recvOK 7 RX7 = true := by decide +kernel
theorem recv_8 : recvOK 8 RX8 = true := by decide +kernel
theorem recv_9 : recvOK 9 RX9 = true := by decide +kernel
theorem recv_10 : recvOK 10 RX10 = true := by decide +kernel
theorem recv_11 : recvOK 11 RX11 = true := by decide +kernel
section CROWS
variable {ρ : Type} {F : FT} {Y : YT} {X : XT} {cc : ByteArray} {nL : Nat} {own : String} {ret : Option FieldType} {d : Nat} {em : ρ → Option Value × (Heap → Prop)} {pc : Nat} {lv : List (Nat × Value)} {rest st : List Value} {o : Option ρ} {σ : St} {zf z : Nat × Nat} {hp : Heap → Prop}
variable {idx : Nat} {y : MethodName} {host : String} {bytes : ByteArray} {maxL n d' : Nat} {ret' : Option FieldType} {As : List Value}
theorem rcv_of (C : Cx F Y X cc nL own ret d zf) {kk kd : Nat} {c : String} (hk : F.1 kk = kd) (hlt : kk < F.2) (hc : recvOK kd c = true) (H : Heap) (locs : List Loc) (h : RepS F Y σ H) (_ : va_S (AF F Y) (sX X).heap H locs) : ∃ cell : Cell, H[bY Y + kk]? = some cell ∧ cell.vm.isStatics = false ∧ (sX X).vm.findClass c = some cell.cls := by
  obtain ⟨h1, h2⟩ := (Bool.and_eq_true _ _).mp hc |> fun q => (⟨of_decide_eq_true q.1, of_decide_eq_true q.2⟩ : kd < 12 ∧ _)
  have ha := h.at hk hlt
  obtain ⟨fs, e⟩ := entK_obj (Y := Y) (k := kk) (f := σ kk) h1
  rw [e] at ha
  cases hq : vwCl[kd]? with
  | none => rw [hq] at h2; cases h2
  | some q =>
    rw [hq] at h2
    have hqc : q.1 = c := Option.some.inj h2
    have hr := va_recv C.2.2.2.2.2.1.1 (va_P1 ha) hq (q0 := 0) rfl
    rw [hqc] at hr
    exact hr
theorem q_cVI (C : Cx F Y X cc nL own ret d (0, 0)) (lk : LkV own idx y bytes maxL ret' n) {kk : Nat} {o' : Option (Int32 × St)} (hct : CtE (emI F Y) F Y y bytes maxL ret' d' (Rf Y kk :: As) σ o') (hd : d' + 1 ≤ d) (hm : Nat.ble maxL 45 = true) {kd : Nat} (hk : F.1 kk = kd) (hlt : kk < F.2) (hc : recvOK kd y.cls = true) {rest : List Value} (hn : As.length = n) (hst : st = As.reverse ++ Rf Y kk :: rest) (hW : (rest.map fun v => v.category).sum ≤ 8) (dd : decode cc pc = .ok (.invokevirtual idx, 3)) {f : Int32 × St → Option ρ} (k : ∀ r : Int32 × St, G F Y X nL em (0, 0) (0, 0) (pc + 3) lv (.int r.1 :: rest) (RepS F Y r.2) (f r)) : G F Y X nL em (0, 0) (0, 0) pc lv st (RepS F Y σ) (Option.bind o' f) := by
  cases o' with
  | none => exact G.none
  | some r => exact q_callV C lk (hct r rfl) hd hm (rcv_of C hk hlt hc) hn hst hW dd ⟨Nat.le_refl _, Nat.le_refl _⟩ (k r)
theorem q_cVV (C : Cx F Y X cc nL own ret d (0, 0)) (lk : LkV own idx y bytes maxL ret' n) {kk : Nat} {o' : Option (St)} (hct : CtE (emV F Y) F Y y bytes maxL ret' d' (Rf Y kk :: As) σ o') (hd : d' + 1 ≤ d) (hm : Nat.ble maxL 45 = true) {kd : Nat} (hk : F.1 kk = kd) (hlt : kk < F.2) (hc : recvOK kd y.cls = true) {rest : List Value} (hn : As.length = n) (hst : st = As.reverse ++ Rf Y kk :: rest) (hW : (rest.map fun v => v.category).sum ≤ 8) (dd : decode cc pc = .ok (.invokevirtual idx, 3)) {f : St → Option ρ} (k : ∀ r : St, G F Y X nL em (0, 0) (0, 0) (pc + 3) lv (rest) (RepS F Y r) (f r)) : G F Y X nL em (0, 0) (0, 0) pc lv st (RepS F Y σ) (Option.bind o' f) := by
  cases o' with
  | none => exact G.none
  | some r => exact q_callV C lk (hct r rfl) hd hm (rcv_of C hk hlt hc) hn hst hW dd ⟨Nat.le_refl _, Nat.le_refl _⟩ (k r)
theorem q_cVR (C : Cx F Y X cc nL own ret d (0, 0)) (lk : LkV own idx y bytes maxL ret' n) {kk : Nat} {o' : Option (Nat × St)} (hct : CtE (emR F Y) F Y y bytes maxL ret' d' (Rf Y kk :: As) σ o') (hd : d' + 1 ≤ d) (hm : Nat.ble maxL 45 = true) {kd : Nat} (hk : F.1 kk = kd) (hlt : kk < F.2) (hc : recvOK kd y.cls = true) {rest : List Value} (hn : As.length = n) (hst : st = As.reverse ++ Rf Y kk :: rest) (hW : (rest.map fun v => v.category).sum ≤ 8) (dd : decode cc pc = .ok (.invokevirtual idx, 3)) {f : Nat × St → Option ρ} (k : ∀ r : Nat × St, G F Y X nL em (0, 0) (0, 0) (pc + 3) lv (Rf Y r.1 :: rest) (RepS F Y r.2) (f r)) : G F Y X nL em (0, 0) (0, 0) pc lv st (RepS F Y σ) (Option.bind o' f) := by
  cases o' with
  | none => exact G.none
  | some r => exact q_callV C lk (hct r rfl) hd hm (rcv_of C hk hlt hc) hn hst hW dd ⟨Nat.le_refl _, Nat.le_refl _⟩ (k r)
theorem q_cVN (C : Cx F Y X cc nL own ret d (0, 0)) (lk : LkV own idx y bytes maxL ret' n) {kk : Nat} {o' : Option (Nat × St)} (hct : CtE (emN F Y) F Y y bytes maxL ret' d' (Rf Y kk :: As) σ o') (hd : d' + 1 ≤ d) (hm : Nat.ble maxL 45 = true) {kd : Nat} (hk : F.1 kk = kd) (hlt : kk < F.2) (hc : recvOK kd y.cls = true) {rest : List Value} (hn : As.length = n) (hst : st = As.reverse ++ Rf Y kk :: rest) (hW : (rest.map fun v => v.category).sum ≤ 8) (dd : decode cc pc = .ok (.invokevirtual idx, 3)) {f : Nat × St → Option ρ} (k : ∀ r : Nat × St, G F Y X nL em (0, 0) (0, 0) (pc + 3) lv (nrf Y r.1 :: rest) (RepS F Y r.2) (f r)) : G F Y X nL em (0, 0) (0, 0) pc lv st (RepS F Y σ) (Option.bind o' f) := by
  cases o' with
  | none => exact G.none
  | some r => exact q_callV C lk (hct r rfl) hd hm (rcv_of C hk hlt hc) hn hst hW dd ⟨Nat.le_refl _, Nat.le_refl _⟩ (k r)
theorem q_cVS (C : Cx F Y X cc nL own ret d (0, 0)) (lk : LkV own idx y bytes maxL ret' n) {kk : Nat} {o' : Option (Nat × St)} (hct : CtE (emS F Y) F Y y bytes maxL ret' d' (Rf Y kk :: As) σ o') (hd : d' + 1 ≤ d) (hm : Nat.ble maxL 45 = true) {kd : Nat} (hk : F.1 kk = kd) (hlt : kk < F.2) (hc : recvOK kd y.cls = true) {rest : List Value} (hn : As.length = n) (hst : st = As.reverse ++ Rf Y kk :: rest) (hW : (rest.map fun v => v.category).sum ≤ 8) (dd : decode cc pc = .ok (.invokevirtual idx, 3)) {f : Nat × St → Option ρ} (k : ∀ r : Nat × St, G F Y X nL em (0, 0) (0, 0) (pc + 3) lv (.ref (Y.2.2.1 r.1) :: rest) (RepS F Y r.2) (f r)) : G F Y X nL em (0, 0) (0, 0) pc lv st (RepS F Y σ) (Option.bind o' f) := by
  cases o' with
  | none => exact G.none
  | some r => exact q_callV C lk (hct r rfl) hd hm (rcv_of C hk hlt hc) hn hst hW dd ⟨Nat.le_refl _, Nat.le_refl _⟩ (k r)
theorem q_cSI (C : Cx F Y X cc nL own ret d (0, 0)) (lk : LkS own idx y bytes maxL ret' n) {o' : Option (Int32 × St)} (hct : CtE (emI F Y) F Y y bytes maxL ret' d' As σ o') (hd : d' + 1 ≤ d) (hm : Nat.ble maxL 45 = true) {rest : List Value} (hn : As.length = n) (hst : st = As.reverse ++ rest) (hW : (rest.map fun v => v.category).sum ≤ 8) (dd : decode cc pc = .ok (.invokestatic idx, 3)) {f : Int32 × St → Option ρ} (k : ∀ r : Int32 × St, G F Y X nL em (0, 0) (0, 0) (pc + 3) lv (.int r.1 :: rest) (RepS F Y r.2) (f r)) : G F Y X nL em (0, 0) (0, 0) pc lv st (RepS F Y σ) (Option.bind o' f) := by
  cases o' with
  | none => exact G.none
  | some r => exact q_callS C lk (hct r rfl) hd hm hn hst hW dd ⟨Nat.le_refl _, Nat.le_refl _⟩ (k r)
theorem q_cSV (C : Cx F Y X cc nL own ret d (0, 0)) (lk : LkS own idx y bytes maxL ret' n) {o' : Option (St)} (hct : CtE (emV F Y) F Y y bytes maxL ret' d' As σ o') (hd : d' + 1 ≤ d) (hm : Nat.ble maxL 45 = true) {rest : List Value} (hn : As.length = n) (hst : st = As.reverse ++ rest) (hW : (rest.map fun v => v.category).sum ≤ 8) (dd : decode cc pc = .ok (.invokestatic idx, 3)) {f : St → Option ρ} (k : ∀ r : St, G F Y X nL em (0, 0) (0, 0) (pc + 3) lv (rest) (RepS F Y r) (f r)) : G F Y X nL em (0, 0) (0, 0) pc lv st (RepS F Y σ) (Option.bind o' f) := by
  cases o' with
  | none => exact G.none
  | some r => exact q_callS C lk (hct r rfl) hd hm hn hst hW dd ⟨Nat.le_refl _, Nat.le_refl _⟩ (k r)
theorem q_cSR (C : Cx F Y X cc nL own ret d (0, 0)) (lk : LkS own idx y bytes maxL ret' n) {o' : Option (Nat × St)} (hct : CtE (emR F Y) F Y y bytes maxL ret' d' As σ o') (hd : d' + 1 ≤ d) (hm : Nat.ble maxL 45 = true) {rest : List Value} (hn : As.length = n) (hst : st = As.reverse ++ rest) (hW : (rest.map fun v => v.category).sum ≤ 8) (dd : decode cc pc = .ok (.invokestatic idx, 3)) {f : Nat × St → Option ρ} (k : ∀ r : Nat × St, G F Y X nL em (0, 0) (0, 0) (pc + 3) lv (Rf Y r.1 :: rest) (RepS F Y r.2) (f r)) : G F Y X nL em (0, 0) (0, 0) pc lv st (RepS F Y σ) (Option.bind o' f) := by
  cases o' with
  | none => exact G.none
  | some r => exact q_callS C lk (hct r rfl) hd hm hn hst hW dd ⟨Nat.le_refl _, Nat.le_refl _⟩ (k r)
theorem q_cSN (C : Cx F Y X cc nL own ret d (0, 0)) (lk : LkS own idx y bytes maxL ret' n) {o' : Option (Nat × St)} (hct : CtE (emN F Y) F Y y bytes maxL ret' d' As σ o') (hd : d' + 1 ≤ d) (hm : Nat.ble maxL 45 = true) {rest : List Value} (hn : As.length = n) (hst : st = As.reverse ++ rest) (hW : (rest.map fun v => v.category).sum ≤ 8) (dd : decode cc pc = .ok (.invokestatic idx, 3)) {f : Nat × St → Option ρ} (k : ∀ r : Nat × St, G F Y X nL em (0, 0) (0, 0) (pc + 3) lv (nrf Y r.1 :: rest) (RepS F Y r.2) (f r)) : G F Y X nL em (0, 0) (0, 0) pc lv st (RepS F Y σ) (Option.bind o' f) := by
  cases o' with
  | none => exact G.none
  | some r => exact q_callS C lk (hct r rfl) hd hm hn hst hW dd ⟨Nat.le_refl _, Nat.le_refl _⟩ (k r)
theorem q_cSS (C : Cx F Y X cc nL own ret d (0, 0)) (lk : LkS own idx y bytes maxL ret' n) {o' : Option (Nat × St)} (hct : CtE (emS F Y) F Y y bytes maxL ret' d' As σ o') (hd : d' + 1 ≤ d) (hm : Nat.ble maxL 45 = true) {rest : List Value} (hn : As.length = n) (hst : st = As.reverse ++ rest) (hW : (rest.map fun v => v.category).sum ≤ 8) (dd : decode cc pc = .ok (.invokestatic idx, 3)) {f : Nat × St → Option ρ} (k : ∀ r : Nat × St, G F Y X nL em (0, 0) (0, 0) (pc + 3) lv (.ref (Y.2.2.1 r.1) :: rest) (RepS F Y r.2) (f r)) : G F Y X nL em (0, 0) (0, 0) pc lv st (RepS F Y σ) (Option.bind o' f) := by
  cases o' with
  | none => exact G.none
  | some r => exact q_callS C lk (hct r rfl) hd hm hn hst hW dd ⟨Nat.le_refl _, Nat.le_refl _⟩ (k r)
theorem q_cSNI (C : Cx F Y X cc nL own ret d (0, 0)) (lk : LkSN own idx y host bytes maxL ret' n) {o' : Option (Int32 × St)} (hct : CtE (emI F Y) F Y y bytes maxL ret' d' As σ o') (hd : d' + 1 ≤ d) (hm : Nat.ble maxL 45 = true) {rest : List Value} (hn : As.length = n) (hst : st = As.reverse ++ rest) (hW : (rest.map fun v => v.category).sum ≤ 8) (dd : decode cc pc = .ok (.invokestatic idx, 3)) {f : Int32 × St → Option ρ} (k : ∀ r : Int32 × St, G F Y X nL em (0, 0) (0, 0) (pc + 3) lv (.int r.1 :: rest) (RepS F Y r.2) (f r)) : G F Y X nL em (0, 0) (0, 0) pc lv st (RepS F Y σ) (Option.bind o' f) := by
  cases o' with
  | none => exact G.none
  | some r => exact q_callSN C lk (hct r rfl) hd hm hn hst hW dd ⟨Nat.le_refl _, Nat.le_refl _⟩ (k r)
theorem q_cSNV (C : Cx F Y X cc nL own ret d (0, 0)) (lk : LkSN own idx y host bytes maxL ret' n) {o' : Option (St)} (hct : CtE (emV F Y) F Y y bytes maxL ret' d' As σ o') (hd : d' + 1 ≤ d) (hm : Nat.ble maxL 45 = true) {rest : List Value} (hn : As.length = n) (hst : st = As.reverse ++ rest) (hW : (rest.map fun v => v.category).sum ≤ 8) (dd : decode cc pc = .ok (.invokestatic idx, 3)) {f : St → Option ρ} (k : ∀ r : St, G F Y X nL em (0, 0) (0, 0) (pc + 3) lv (rest) (RepS F Y r) (f r)) : G F Y X nL em (0, 0) (0, 0) pc lv st (RepS F Y σ) (Option.bind o' f) := by
  cases o' with
  | none => exact G.none
  | some r => exact q_callSN C lk (hct r rfl) hd hm hn hst hW dd ⟨Nat.le_refl _, Nat.le_refl _⟩ (k r)
theorem q_cSNR (C : Cx F Y X cc nL own ret d (0, 0)) (lk : LkSN own idx y host bytes maxL ret' n) {o' : Option (Nat × St)} (hct : CtE (emR F Y) F Y y bytes maxL ret' d' As σ o') (hd : d' + 1 ≤ d) (hm : Nat.ble maxL 45 = true) {rest : List Value} (hn : As.length = n) (hst : st = As.reverse ++ rest) (hW : (rest.map fun v => v.category).sum ≤ 8) (dd : decode cc pc = .ok (.invokestatic idx, 3)) {f : Nat × St → Option ρ} (k : ∀ r : Nat × St, G F Y X nL em (0, 0) (0, 0) (pc + 3) lv (Rf Y r.1 :: rest) (RepS F Y r.2) (f r)) : G F Y X nL em (0, 0) (0, 0) pc lv st (RepS F Y σ) (Option.bind o' f) := by
  cases o' with
  | none => exact G.none
  | some r => exact q_callSN C lk (hct r rfl) hd hm hn hst hW dd ⟨Nat.le_refl _, Nat.le_refl _⟩ (k r)
theorem q_cSNN (C : Cx F Y X cc nL own ret d (0, 0)) (lk : LkSN own idx y host bytes maxL ret' n) {o' : Option (Nat × St)} (hct : CtE (emN F Y) F Y y bytes maxL ret' d' As σ o') (hd : d' + 1 ≤ d) (hm : Nat.ble maxL 45 = true) {rest : List Value} (hn : As.length = n) (hst : st = As.reverse ++ rest) (hW : (rest.map fun v => v.category).sum ≤ 8) (dd : decode cc pc = .ok (.invokestatic idx, 3)) {f : Nat × St → Option ρ} (k : ∀ r : Nat × St, G F Y X nL em (0, 0) (0, 0) (pc + 3) lv (nrf Y r.1 :: rest) (RepS F Y r.2) (f r)) : G F Y X nL em (0, 0) (0, 0) pc lv st (RepS F Y σ) (Option.bind o' f) := by
  cases o' with
  | none => exact G.none
  | some r => exact q_callSN C lk (hct r rfl) hd hm hn hst hW dd ⟨Nat.le_refl _, Nat.le_refl _⟩ (k r)
theorem q_cSNS (C : Cx F Y X cc nL own ret d (0, 0)) (lk : LkSN own idx y host bytes maxL ret' n) {o' : Option (Nat × St)} (hct : CtE (emS F Y) F Y y bytes maxL ret' d' As σ o') (hd : d' + 1 ≤ d) (hm : Nat.ble maxL 45 = true) {rest : List Value} (hn : As.length = n) (hst : st = As.reverse ++ rest) (hW : (rest.map fun v => v.category).sum ≤ 8) (dd : decode cc pc = .ok (.invokestatic idx, 3)) {f : Nat × St → Option ρ} (k : ∀ r : Nat × St, G F Y X nL em (0, 0) (0, 0) (pc + 3) lv (.ref (Y.2.2.1 r.1) :: rest) (RepS F Y r.2) (f r)) : G F Y X nL em (0, 0) (0, 0) pc lv st (RepS F Y σ) (Option.bind o' f) := by
  cases o' with
  | none => exact G.none
  | some r => exact q_callSN C lk (hct r rfl) hd hm hn hst hW dd ⟨Nat.le_refl _, Nat.le_refl _⟩ (k r)
theorem q_aret_nz {F : FT} {Y : YT} {X : XT} {cc : ByteArray} {nL : Nat} {own nm : String} {d : Nat} {z : Nat × Nat} {pc : Nat} {lv : List (Nat × Value)} {σ : St} {e : Nat} (C : Cx F Y X cc nL own (some (.object nm)) d z) (h : ¬ e = 0) {r0 : Nat × St} (he : r0 = (e, σ)) (dd : decode cc pc = .ok (.areturn, 1)) : G F Y X nL (emN F Y) z z pc lv [Rf Y e] (RepS F Y σ) (some r0) := by
  subst he
  refine q_aret C (v := Rf Y e) (Or.inr ⟨_, rfl⟩) ?_ dd
  show (some (nrf Y e), RepS F Y σ) = _
  unfold nrf
  rw [if_neg h]
theorem two_lt {i : Int32} (h : inb i 2 = true) : i.toNatClampNeg + 1 < 9 := by
  obtain ⟨j, hj, rfl⟩ := vp_in_of (inb_in h) (by decide)
  rw [nI_clamp (by omega)]
  omega
theorem q_aald4 {F : FT} {Y : YT} {X : XT} {cc : ByteArray} {nL : Nat} {own : String} {ret : Option FieldType} {d : Nat} {zf z : Nat × Nat} {em : ρ → Option Value × (Heap → Prop)} {pc : Nat} {lv : List (Nat × Value)} {rest : List Value} {o : Option ρ} {σ : St} (C : Cx F Y X cc nL own ret d zf) {i : Int32} (hk : F.1 95 = 12) (hlt : 95 < F.2) (dd : decode cc pc = .ok (.aaload, 1)) (k : inb i 4 = true → G F Y X nL em zf z (pc + 1) lv (Rf Y (100 + 3 * i.toNatClampNeg) :: rest) (RepS F Y σ) o) : G F Y X nL em zf z pc lv (.int i :: Rf Y 95 :: rest) (RepS F Y σ) (if inb i 4 = true then o else none) :=
  G.ite (fun h r hr ls H locs h1 h2 h3 => va_aldq C.1 C.2.1 C.2.2.2.2.2.1.1 (va_P1 (h2.at hk hlt)) 0 1 rfl rfl (inb_in h) dd (k h r hr ls H locs h1 h2 h3)) (fun _ => G.none)
theorem q_aald2 {F : FT} {Y : YT} {X : XT} {cc : ByteArray} {nL : Nat} {own : String} {ret : Option FieldType} {d : Nat} {zf z : Nat × Nat} {em : ρ → Option Value × (Heap → Prop)} {pc : Nat} {lv : List (Nat × Value)} {rest : List Value} {o : Option ρ} {σ : St} (C : Cx F Y X cc nL own ret d zf) {i : Int32} {e : Nat} (hk : F.1 e = 13) (hlt : e < F.2) (dd : decode cc pc = .ok (.aaload, 1)) (k : inb i 2 = true → G F Y X nL em zf z (pc + 1) lv (.ref (Y.2.2.1 (i.toNatClampNeg + 1)) :: rest) (RepS F Y σ) o) : G F Y X nL em zf z pc lv (.int i :: Rf Y e :: rest) (RepS F Y σ) (if inb i 2 = true then o else none) :=
  G.ite (fun h r hr ls H locs h1 h2 h3 => va_aldq C.1 C.2.1 C.2.2.2.2.2.1.1 (va_P1 (h2.at hk hlt)) 0 2 rfl rfl (inb_in h) dd (k h r hr ls H locs h1 h2 h3)) (fun _ => G.none)
theorem q_alen4 {F : FT} {Y : YT} {X : XT} {cc : ByteArray} {nL : Nat} {own : String} {ret : Option FieldType} {d : Nat} {zf z : Nat × Nat} {em : ρ → Option Value × (Heap → Prop)} {pc : Nat} {lv : List (Nat × Value)} {rest : List Value} {o : Option ρ} {σ : St} (C : Cx F Y X cc nL own ret d zf) {e : Nat} (hk : F.1 e = 12) (hlt : e < F.2) (dd : decode cc pc = .ok (.arraylength, 1)) (k : G F Y X nL em zf z (pc + 1) lv (.int 4 :: rest) (RepS F Y σ) o) : G F Y X nL em zf z pc lv (Rf Y e :: rest) (RepS F Y σ) o := q_alen C (x := (4, .inr (.inr (.inr (.inr (fun i => some (bY Y + (e + 5 + 3 * i)))))))) (fun H h2 => RepS.at h2 hk hlt) 1 rfl (v := 4) rfl dd k
theorem nrf_cat (Y : YT) (n : Nat) : (nrf Y n).category = 1 := by unfold nrf; split <;> rfl
theorem q_ldcS (C : Cx F Y X cc nL own ret d zf) {tx : String} {e : Nat} (hm : (own, idx, tx, e) ∈ strL) (dd : decode cc pc = .ok (.ldc idx, 2)) (k : G F Y X nL em zf z (pc + 2) lv (.ref (Y.2.2.1 e) :: rest) hp o) : G F Y X nL em zf z pc lv rest hp o :=
  fun r hr ls H locs h1 h2 h3 => va_ldcS C.1 C.2.1 C.2.2.2.1 (C.2.2.2.2.2.1.2.2.2.1 _ hm) dd (k r hr ls H locs h1 h2 h3)
/-- a table of the class that nobody writes, at t -/
def tabOK (F : FT) (Y : YT) (X : XT) (t N : Nat) (l : List Int32) : Prop := va_T .int t N (fun j => .int (l.getD j 0)) (AF F Y) (sX X) (sX X).heap
theorem q_gs0 (C : Cx F Y X cc nL own ret d zf) (hl : Cond.fieldLink own idx "WellTold$Voices" "ABOVE" "[I" ∈ TB) (dd : decode cc pc = .ok (.getstatic idx, 3)) (k : ∀ t, tabOK F Y X t 7 tabA → G F Y X nL em zf z (pc + 3) lv (.ref t :: rest) hp o) : G F Y X nL em zf z pc lv rest hp o := by
  intro r hr ls H locs h1 h2 h3
  obtain ⟨t0, t1, a1, a2, a3, a4⟩ := C.2.2.2.2.2.1.2.2.2.2.1
  exact va_gets C.1 C.2.1 a1 h3 C.2.2.2.1 (C.2.2.2.2.1 _ hl) (fun _ h => h) dd (k t0 a3 r hr ls H locs h1 h2 h3)
theorem q_gs1 (C : Cx F Y X cc nL own ret d zf) (hl : Cond.fieldLink own idx "WellTold$Voices" "BODIES" "[I" ∈ TB) (dd : decode cc pc = .ok (.getstatic idx, 3)) (k : ∀ t, tabOK F Y X t 28 tabB → G F Y X nL em zf z (pc + 3) lv (.ref t :: rest) hp o) : G F Y X nL em zf z pc lv rest hp o := by
  intro r hr ls H locs h1 h2 h3
  obtain ⟨t0, t1, a1, a2, a3, a4⟩ := C.2.2.2.2.2.1.2.2.2.2.1
  exact va_gets C.1 C.2.1 a2 h3 C.2.2.2.1 (C.2.2.2.2.1 _ hl) (fun _ h => h) dd (k t1 a4 r hr ls H locs h1 h2 h3)
theorem q_tlen (C : Cx F Y X cc nL own ret d zf) {t N : Nat} {l : List Int32} (ht : tabOK F Y X t N l) {v : Int32} (hv : Int32.ofNat N = v) (dd : decode cc pc = .ok (.arraylength, 1)) (k : G F Y X nL em zf z (pc + 1) lv (.int v :: rest) hp o) : G F Y X nL em zf z pc lv (.ref t :: rest) hp o := by
  intro r hr ls H locs h1 h2 h3
  obtain ⟨cell, e1, e2, e3, e4, e5, e6, e7⟩ := ht.kept h3.2.1
  exact W.alen C.1 C.2.1 e1 e2 (e5.trans hv) rfl rfl dd (k r hr ls H locs h1 h2 h3)
theorem q_tld (C : Cx F Y X cc nL own ret d zf) {t N : Nat} {l : List Int32} (ht : tabOK F Y X t N l) {i : Int32} (dd : decode cc pc = .ok (.iaload, 1)) (k : inb i N = true → G F Y X nL em zf z (pc + 1) lv (.int (l.getD i.toNatClampNeg 0) :: rest) hp o) : G F Y X nL em zf z pc lv (.int i :: .ref t :: rest) hp (if inb i N = true then o else none) := by
  refine G.ite (fun h => ?_) (fun _ => G.none)
  intro r hr ls H locs h1 h2 h3
  obtain ⟨cell, e1, e2, e3, e4, e5, e6, e7⟩ := ht.kept h3.2.1
  have hv := inb_in h
  have hlt : i.toNatClampNeg < N := Nat.not_le.mp fun q => hv (Or.inr q)
  exact W.iald C.1 C.2.1 e1 e2 e3 (fun q => q.elim (fun a => hv (Or.inl a)) (fun a => hv (Or.inr (Nat.le_trans e4 a)))) (e6 _ hlt) rfl rfl dd (k h r hr ls H locs h1 h2 h3)
def imax (x y : Int32) : Int32 := if x < y then y else x
def imin (x y : Int32) : Int32 := if y < x then y else x
theorem math_ws : (∀ w ∈ [Cond.static Lib.Math.max.name, .initialized "java/lang/Math", .code Lib.Math.max.name Lib.Math.max.code 2 (some .int)], w ∈ TB) ∧ (∀ w ∈ [Cond.static Lib.Math.min.name, .initialized "java/lang/Math", .code Lib.Math.min.name Lib.Math.min.code 2 (some .int)], w ∈ TB) := ⟨TB_p [115, 73, 116] (by decide +kernel) (by decide +kernel), TB_p [713, 73, 714] (by decide +kernel) (by decide +kernel)⟩
theorem q_mmaxz (C : Cx F Y X cc nL own ret d zf) (hz : z.1 ≤ zf.1 ∧ z.2 ≤ zf.2) (hl : Cond.methodLink own idx Lib.Math.max.name ∈ TB) (hd : 1 ≤ d) (hW : (rest.map fun v => v.category).sum ≤ 8) {x y : Int32} (dd : decode cc pc = .ok (.invokestatic idx, 3)) (k : G F Y X nL em zf z (pc + 3) lv (.int (imax x y) :: rest) hp o) : G F Y X nL em zf z pc lv (.int y :: .int x :: rest) hp o := by
  intro r hr ls H locs h1 h2 h3
  have hR := C.2.2.2.2.2.2.2.2
  refine va_mmax C.1 C.2.1 (C.2.2.1.trans h1.1.symm) C.2.2.2.1 (C.2.2.2.2.1 _ hl) (C.2.2.2.2.1 _ (math_ws.1 _ (by simp))) (C.2.2.2.2.1 _ (math_ws.1 _ (by simp))) (C.2.2.2.2.1 _ (math_ws.1 _ (by simp))) ?_ ?_ ?_ ?_ dd (k r hr ls H locs h1 h2 h3)
  · rw [hR]; exact hd
  · rw [hR]
    show _ ≤ 64 * d
    omega
  · rw [hR]; exact hz.1
  · rw [hR]; exact hz.2
theorem q_mminz (C : Cx F Y X cc nL own ret d zf) (hz : z.1 ≤ zf.1 ∧ z.2 ≤ zf.2) (hl : Cond.methodLink own idx Lib.Math.min.name ∈ TB) (hd : 1 ≤ d) (hW : (rest.map fun v => v.category).sum ≤ 8) {x y : Int32} (dd : decode cc pc = .ok (.invokestatic idx, 3)) (k : G F Y X nL em zf z (pc + 3) lv (.int (imin x y) :: rest) hp o) : G F Y X nL em zf z pc lv (.int y :: .int x :: rest) hp o := by
  intro r hr ls H locs h1 h2 h3
  have hR := C.2.2.2.2.2.2.2.2
  refine va_mmin C.1 C.2.1 (C.2.2.1.trans h1.1.symm) C.2.2.2.1 (C.2.2.2.2.1 _ hl) (C.2.2.2.2.1 _ (math_ws.2 _ (by simp))) (C.2.2.2.2.1 _ (math_ws.2 _ (by simp))) (C.2.2.2.2.1 _ (math_ws.2 _ (by simp))) ?_ ?_ ?_ ?_ dd (k r hr ls H locs h1 h2 h3)
  · rw [hR]; exact hd
  · rw [hR]
    show _ ≤ 64 * d
    omega
  · rw [hR]; exact hz.1
  · rw [hR]; exact hz.2
theorem q_mmax (C : Cx F Y X cc nL own ret d (0, 0)) (hl : Cond.methodLink own idx Lib.Math.max.name ∈ TB) (hd : 1 ≤ d) (hW : (rest.map fun v => v.category).sum ≤ 8) {x y : Int32} (dd : decode cc pc = .ok (.invokestatic idx, 3)) (k : G F Y X nL em (0, 0) (0, 0) (pc + 3) lv (.int (imax x y) :: rest) hp o) : G F Y X nL em (0, 0) (0, 0) pc lv (.int y :: .int x :: rest) hp o := q_mmaxz C ⟨Nat.le_refl _, Nat.le_refl _⟩ hl hd hW dd k
theorem q_mmin (C : Cx F Y X cc nL own ret d (0, 0)) (hl : Cond.methodLink own idx Lib.Math.min.name ∈ TB) (hd : 1 ≤ d) (hW : (rest.map fun v => v.category).sum ≤ 8) {x y : Int32} (dd : decode cc pc = .ok (.invokestatic idx, 3)) (k : G F Y X nL em (0, 0) (0, 0) (pc + 3) lv (.int (imin x y) :: rest) hp o) : G F Y X nL em (0, 0) (0, 0) pc lv (.int y :: .int x :: rest) hp o := q_mminz C ⟨Nat.le_refl _, Nat.le_refl _⟩ hl hd hW dd k
/-- a switch's number that is none of its places -/
def swAll (x : Int32) : Nat → Int → Prop
  | 0, _ => True
  | n + 1, lo => ¬ x = Int32.ofInt lo ∧ swAll x n (lo + 1)
theorem sw_out {x : Int32} : ∀ (lo : Int) (n : Nat), -2147483648 ≤ lo → lo + n ≤ 2147483648 → swAll x n lo → x.toInt < lo ∨ lo + n ≤ x.toInt := by
  intro lo n
  induction n generalizing lo with
  | zero => intro _ _ _; omega
  | succ n ih =>
    intro h1 h2 h
    have h3 : ¬ x.toInt = lo := fun e => h.1 (by rw [← e, Int32.ofInt_toInt])
    rcases ih (lo + 1) (by omega) (by omega) h.2 with a | a
    · left; omega
    · right; omega
end CROWS
