def bitc (a1 : Int32) : Int32 := ((((((((a1 - ((iush a1 1) &&& 1431655765)) &&& 858993459) + ((iush (a1 - ((iush a1 1) &&& 1431655765)) 2) &&& 858993459)) + (iush (((a1 - ((iush a1 1) &&& 1431655765)) &&& 858993459) + ((iush (a1 - ((iush a1 1) &&& 1431655765)) 2) &&& 858993459)) 4)) &&& 252645135) + (iush (((((a1 - ((iush a1 1) &&& 1431655765)) &&& 858993459) + ((iush (a1 - ((iush a1 1) &&& 1431655765)) 2) &&& 858993459)) + (iush (((a1 - ((iush a1 1) &&& 1431655765)) &&& 858993459) + ((iush (a1 - ((iush a1 1) &&& 1431655765)) 2) &&& 858993459)) 4)) &&& 252645135) 8)) + (iush ((((((a1 - ((iush a1 1) &&& 1431655765)) &&& 858993459) + ((iush (a1 - ((iush a1 1) &&& 1431655765)) 2) &&& 858993459)) + (iush (((a1 - ((iush a1 1) &&& 1431655765)) &&& 858993459) + ((iush (a1 - ((iush a1 1) &&& 1431655765)) 2) &&& 858993459)) 4)) &&& 252645135) + (iush (((((a1 - ((iush a1 1) &&& 1431655765)) &&& 858993459) + ((iush (a1 - ((iush a1 1) &&& 1431655765)) 2) &&& 858993459)) + (iush (((a1 - ((iush a1 1) &&& 1431655765)) &&& 858993459) + ((iush (a1 - ((iush a1 1) &&& 1431655765)) 2) &&& 858993459)) 4)) &&& 252645135) 8)) 16)) &&& 63)
theorem w_J6 {F : FT} {Y : YT} (a1 : Int32) (σ : St) : CtE (emI F Y) F Y yJ6_bitCount_0f7a4 cJ6_bitCount_0f7a4 1 (some .int) 0 [.int a1] σ (some (bitc a1, σ)) := by
  refine Ct.ofG (by decide) (Nat.le_of_ble_eq_true rfl) (fun X C0 => ?_)
  have C : Cx F Y X cJ6_bitCount_0f7a4 1 RJ6 (some .int) 0 (0, 0) := C0
  show G F Y X 1 (emI F Y) (0, 0) (0, 0) 0 [(0, .int a1)] [] (RepS F Y σ) (some (bitc a1, σ))
  rw [bitc]
  refine q_iload_n C 0 dJ6_bitCount_0f7a4_0 rfl ?_
  refine q_iload_n C 0 dJ6_bitCount_0f7a4_1 rfl ?_
  refine q_iconst C (v := 1) dJ6_bitCount_0f7a4_2 (by decide) ?_
  refine q_iushr C dJ6_bitCount_0f7a4_3 ?_
  refine q_ldcw C (v := 1431655765) (TB_of (List.mem_of_getElem? (i := 834) (by decide +kernel)) rfl) dJ6_bitCount_0f7a4_4 ?_
  refine q_iand C dJ6_bitCount_0f7a4_7 ?_
  refine q_isub C dJ6_bitCount_0f7a4_8 ?_
  refine q_istore_n C [(0, .int (a1 - ((iush a1 1) &&& 1431655765)))] dJ6_bitCount_0f7a4_9 rfl rfl ?_
  refine q_iload_n C 0 dJ6_bitCount_0f7a4_10 rfl ?_
  refine q_ldcw C (v := 858993459) (TB_of (List.mem_of_getElem? (i := 835) (by decide +kernel)) rfl) dJ6_bitCount_0f7a4_11 ?_
  refine q_iand C dJ6_bitCount_0f7a4_14 ?_
  refine q_iload_n C 0 dJ6_bitCount_0f7a4_15 rfl ?_
  refine q_iconst C (v := 2) dJ6_bitCount_0f7a4_16 (by decide) ?_
  refine q_iushr C dJ6_bitCount_0f7a4_17 ?_
  refine q_ldcw C (v := 858993459) (TB_of (List.mem_of_getElem? (i := 835) (by decide +kernel)) rfl) dJ6_bitCount_0f7a4_18 ?_
  refine q_iand C dJ6_bitCount_0f7a4_21 ?_
  refine q_iadd C dJ6_bitCount_0f7a4_22 ?_
  refine q_istore_n C [(0, .int (((a1 - ((iush a1 1) &&& 1431655765)) &&& 858993459) + ((iush (a1 - ((iush a1 1) &&& 1431655765)) 2) &&& 858993459)))] dJ6_bitCount_0f7a4_23 rfl rfl ?_
  refine q_iload_n C 0 dJ6_bitCount_0f7a4_24 rfl ?_
  refine q_iload_n C 0 dJ6_bitCount_0f7a4_25 rfl ?_
  refine q_iconst C (v := 4) dJ6_bitCount_0f7a4_26 (by decide) ?_
  refine q_iushr C dJ6_bitCount_0f7a4_27 ?_
  refine q_iadd C dJ6_bitCount_0f7a4_28 ?_
  refine q_ldcw C (v := 252645135) (TB_of (List.mem_of_getElem? (i := 836) (by decide +kernel)) rfl) dJ6_bitCount_0f7a4_29 ?_
  refine q_iand C dJ6_bitCount_0f7a4_32 ?_
  refine q_istore_n C [(0, .int (((((a1 - ((iush a1 1) &&& 1431655765)) &&& 858993459) + ((iush (a1 - ((iush a1 1) &&& 1431655765)) 2) &&& 858993459)) + (iush (((a1 - ((iush a1 1) &&& 1431655765)) &&& 858993459) + ((iush (a1 - ((iush a1 1) &&& 1431655765)) 2) &&& 858993459)) 4)) &&& 252645135))] dJ6_bitCount_0f7a4_33 rfl rfl ?_
  refine q_iload_n C 0 dJ6_bitCount_0f7a4_34 rfl ?_
  refine q_iload_n C 0 dJ6_bitCount_0f7a4_35 rfl ?_
  refine q_bipush C (v := 8) dJ6_bitCount_0f7a4_36 (by decide) ?_
  refine q_iushr C dJ6_bitCount_0f7a4_38 ?_
  refine q_iadd C dJ6_bitCount_0f7a4_39 ?_
  refine q_istore_n C [(0, .int ((((((a1 - ((iush a1 1) &&& 1431655765)) &&& 858993459) + ((iush (a1 - ((iush a1 1) &&& 1431655765)) 2) &&& 858993459)) + (iush (((a1 - ((iush a1 1) &&& 1431655765)) &&& 858993459) + ((iush (a1 - ((iush a1 1) &&& 1431655765)) 2) &&& 858993459)) 4)) &&& 252645135) + (iush (((((a1 - ((iush a1 1) &&& 1431655765)) &&& 858993459) + ((iush (a1 - ((iush a1 1) &&& 1431655765)) 2) &&& 858993459)) + (iush (((a1 - ((iush a1 1) &&& 1431655765)) &&& 858993459) + ((iush (a1 - ((iush a1 1) &&& 1431655765)) 2) &&& 858993459)) 4)) &&& 252645135) 8)))] dJ6_bitCount_0f7a4_40 rfl rfl ?_
  refine q_iload_n C 0 dJ6_bitCount_0f7a4_41 rfl ?_
  refine q_iload_n C 0 dJ6_bitCount_0f7a4_42 rfl ?_
  refine q_bipush C (v := 16) dJ6_bitCount_0f7a4_43 (by decide) ?_
  refine q_iushr C dJ6_bitCount_0f7a4_45 ?_
  refine q_iadd C dJ6_bitCount_0f7a4_46 ?_
  refine q_istore_n C [(0, .int (((((((a1 - ((iush a1 1) &&& 1431655765)) &&& 858993459) + ((iush (a1 - ((iush a1 1) &&& 1431655765)) 2) &&& 858993459)) + (iush (((a1 - ((iush a1 1) &&& 1431655765)) &&& 858993459) + ((iush (a1 - ((iush a1 1) &&& 1431655765)) 2) &&& 858993459)) 4)) &&& 252645135) + (iush (((((a1 - ((iush a1 1) &&& 1431655765)) &&& 858993459) + ((iush (a1 - ((iush a1 1) &&& 1431655765)) 2) &&& 858993459)) + (iush (((a1 - ((iush a1 1) &&& 1431655765)) &&& 858993459) + ((iush (a1 - ((iush a1 1) &&& 1431655765)) 2) &&& 858993459)) 4)) &&& 252645135) 8)) + (iush ((((((a1 - ((iush a1 1) &&& 1431655765)) &&& 858993459) + ((iush (a1 - ((iush a1 1) &&& 1431655765)) 2) &&& 858993459)) + (iush (((a1 - ((iush a1 1) &&& 1431655765)) &&& 858993459) + ((iush (a1 - ((iush a1 1) &&& 1431655765)) 2) &&& 858993459)) 4)) &&& 252645135) + (iush (((((a1 - ((iush a1 1) &&& 1431655765)) &&& 858993459) + ((iush (a1 - ((iush a1 1) &&& 1431655765)) 2) &&& 858993459)) + (iush (((a1 - ((iush a1 1) &&& 1431655765)) &&& 858993459) + ((iush (a1 - ((iush a1 1) &&& 1431655765)) 2) &&& 858993459)) 4)) &&& 252645135) 8)) 16)))] dJ6_bitCount_0f7a4_47 rfl rfl ?_
  refine q_iload_n C 0 dJ6_bitCount_0f7a4_48 rfl ?_
  refine q_bipush C (v := 63) dJ6_bitCount_0f7a4_49 (by decide) ?_
  refine q_iand C dJ6_bitCount_0f7a4_51 ?_
  exact q_ireti C rfl dJ6_bitCount_0f7a4_52
theorem q_bitc {ρ : Type} {F : FT} {Y : YT} {X : XT} {cc : ByteArray} {nL : Nat} {own : String} {ret : Option FieldType} {d : Nat} {em : ρ → Option Value × (Heap → Prop)} {pc : Nat} {lv : List (Nat × Value)} {rest : List Value} {o : Option ρ} {σ : St} {idx : Nat} (C : Cx F Y X cc nL own ret d (0, 0)) (lk : LkS own idx yJ6_bitCount_0f7a4 cJ6_bitCount_0f7a4 1 (some .int) 1) (hW : (rest.map fun v => v.category).sum ≤ 8) (hd : 1 ≤ d) {x : Int32} (dd : decode cc pc = .ok (.invokestatic idx, 3)) (k : G F Y X nL em (0, 0) (0, 0) (pc + 3) lv (.int (bitc x) :: rest) (RepS F Y σ) o) : G F Y X nL em (0, 0) (0, 0) pc lv (.int x :: rest) (RepS F Y σ) o :=
  q_callS C lk (w_J6 x σ _ rfl) hd rfl rfl rfl hW dd ⟨Nat.le_refl _, Nat.le_refl _⟩ k
def schr (e : Nat) (i : Int32) : Int32 := (bytS.getD e []).getD i.toNatClampNeg 0
section JROWS
variable {ρ : Type} {F : FT} {Y : YT} {X : XT} {cc : ByteArray} {nL : Nat} {own : String} {ret : Option FieldType} {d : Nat} {em : ρ → Option Value × (Heap → Prop)} {pc : Nat} {lv : List (Nat × Value)} {rest st : List Value} {o : Option ρ} {σ : St} {idx : Nat} {zf z : Nat × Nat} {hp : Heap → Prop}
theorem q_sval (C : Cx F Y X cc nL own ret d zf) {e : Nat} (he : e < 9) (hl : Cond.fieldLink own idx "java/lang/String" "value" "[B" ∈ TB) (dd : decode cc pc = .ok (.getfield idx, 3)) (k : G F Y X nL em zf z (pc + 3) lv (.ref (Y.2.2.2.1 e) :: rest) hp o) : G F Y X nL em zf z pc lv (.ref (Y.2.2.1 e) :: rest) hp o :=
  fun r hr ls H locs h1 h2 h3 => vk_getf C.1 C.2.1 (C.2.2.2.2.2.1.2.2.1.1 e he).2.2.1 h3 C.2.2.2.1 (C.2.2.2.2.1 _ hl) (fun _ h => h) dd (k r hr ls H locs h1 h2 h3)
theorem q_scod (C : Cx F Y X cc nL own ret d zf) {e : Nat} (he : e < 9) (hl : Cond.fieldLink own idx "java/lang/String" "coder" "B" ∈ TB) (dd : decode cc pc = .ok (.getfield idx, 3)) (k : G F Y X nL em zf z (pc + 3) lv (.int 0 :: rest) hp o) : G F Y X nL em zf z pc lv (.ref (Y.2.2.1 e) :: rest) hp o :=
  fun r hr ls H locs h1 h2 h3 => vk_getf C.1 C.2.1 (C.2.2.2.2.2.1.2.2.1.1 e he).2.1 h3 C.2.2.2.1 (C.2.2.2.2.1 _ hl) (fun _ h => h) dd (k r hr ls H locs h1 h2 h3)
theorem q_blen (C : Cx F Y X cc nL own ret d zf) {e : Nat} (he : e < 9) (dd : decode cc pc = .ok (.arraylength, 1)) (k : G F Y X nL em zf z (pc + 1) lv (.int (nI (lenS.getD e 0)) :: rest) hp o) : G F Y X nL em zf z pc lv (.ref (Y.2.2.2.1 e) :: rest) hp o := by
  intro r hr ls H locs h1 h2 h3
  obtain ⟨cell, e1, e2, e3, e4, e5, e6, e7⟩ := (C.2.2.2.2.2.1.2.2.1.1 e he).2.2.2.kept h3.2.1
  exact W.alen C.1 C.2.1 e1 e2 e5 rfl rfl dd (k r hr ls H locs h1 h2 h3)
theorem q_bald (C : Cx F Y X cc nL own ret d zf) {e : Nat} (he : e < 9) {i : Int32} (dd : decode cc pc = .ok (.baload, 1)) (k : inb i (lenS.getD e 0) = true → G F Y X nL em zf z (pc + 1) lv (.int (schr e i) :: rest) hp o) : G F Y X nL em zf z pc lv (.int i :: .ref (Y.2.2.2.1 e) :: rest) hp (if inb i (lenS.getD e 0) = true then o else none) := by
  refine G.ite (fun h => ?_) (fun _ => G.none)
  intro r hr ls H locs h1 h2 h3
  obtain ⟨cell, e1, e2, e3, e4, e5, e6, e7⟩ := (C.2.2.2.2.2.1.2.2.1.1 e he).2.2.2.kept h3.2.1
  have hv := inb_in h
  have hlt : i.toNatClampNeg < lenS.getD e 0 := Nat.not_le.mp fun q => hv (Or.inr q)
  exact W.bald C.1 C.2.1 e1 e2 e3 (fun q => q.elim (fun a => hv (Or.inl a)) (fun a => hv (Or.inr (Nat.le_trans e4 a)))) (e6 _ hlt) rfl rfl dd (k h r hr ls H locs h1 h2 h3)
theorem q_gsCS (C : Cx F Y X cc nL own ret d zf) (hl : Cond.fieldLink own idx "java/lang/String" "COMPACT_STRINGS" "Z" ∈ TB) (dd : decode cc pc = .ok (.getstatic idx, 3)) (k : G F Y X nL em zf z (pc + 3) lv (.int 1 :: rest) hp o) : G F Y X nL em zf z pc lv rest hp o :=
  fun r hr ls H locs h1 h2 h3 => va_gets C.1 C.2.1 C.2.2.2.2.2.1.2.2.2.2.2.1 h3 C.2.2.2.1 (C.2.2.2.2.1 _ hl) (fun _ h => h) dd (k r hr ls H locs h1 h2 h3)
theorem q_gsF (C : Cx F Y X cc nL own ret d zf) (hl : Cond.fieldLink own idx "jdk/internal/util/Preconditions" "SIOOBE_FORMATTER" "Ljava/util/function/BiFunction;" ∈ TB) (dd : decode cc pc = .ok (.getstatic idx, 3)) (k : ∀ v : Value, v.category = 1 → G F Y X nL em zf z (pc + 3) lv (v :: rest) hp o) : G F Y X nL em zf z pc lv rest hp o := by
  obtain ⟨v, hv, hZ⟩ := C.2.2.2.2.2.1.2.2.2.2.2.2.1
  exact fun r hr ls H locs h1 h2 h3 => va_gets C.1 C.2.1 hZ h3 C.2.2.2.1 (C.2.2.2.2.1 _ hl) (fun _ h => h) dd (k v hv r hr ls H locs h1 h2 h3)
theorem q_iretC {F : FT} {Y : YT} {X : XT} {cc : ByteArray} {nL : Nat} {own : String} {d : Nat} {z : Nat × Nat} {em : ρ → Option Value × (Heap → Prop)} {pc : Nat} {lv : List (Nat × Value)} {hp : Heap → Prop} (C : Cx F Y X cc nL own (some .char) d z) {v : Int32} {r0 : ρ} (hv : toC v = v) (he : em r0 = (some (.int v), hp)) (dd : decode cc pc = .ok (.ireturn, 1)) : G F Y X nL em z z pc lv [.int v] hp (some r0) := by
  intro r hr ls H locs h1 h2 h3
  cases hr
  exact W.zret (v := v) C.1 C.2.1 C.2.2.2.2.2.2.2.1 (by rw [← hv]; exact pk_nc v) (fun t ht hW => ⟨by rw [he], by rw [he, ht]; exact h2, h3.F ht⟩) h3.2.2 dd (hlocks := C.2.2.2.2.2.2.1)
theorem q_iretB {F : FT} {Y : YT} {X : XT} {cc : ByteArray} {nL : Nat} {own : String} {d : Nat} {z : Nat × Nat} {em : ρ → Option Value × (Heap → Prop)} {pc : Nat} {lv : List (Nat × Value)} {hp : Heap → Prop} (C : Cx F Y X cc nL own (some .byte) d z) {v : Int32} {r0 : ρ} (hv : toB v = v) (he : em r0 = (some (.int v), hp)) (dd : decode cc pc = .ok (.ireturn, 1)) : G F Y X nL em z z pc lv [.int v] hp (some r0) := by
  intro r hr ls H locs h1 h2 h3
  cases hr
  exact W.zret (v := v) C.1 C.2.1 C.2.2.2.2.2.2.2.1 (by rw [← hv]; exact pk_nb v) (fun t ht hW => ⟨by rw [he], by rw [he, ht]; exact h2, h3.F ht⟩) h3.2.2 dd (hlocks := C.2.2.2.2.2.2.1)
theorem q_cVsI {y : MethodName} {bytes : ByteArray} {maxL n d' : Nat} {ret' : Option FieldType} {As : List Value} (C : Cx F Y X cc nL own ret d (0, 0)) (lk : LkV own idx y bytes maxL ret' n) {e : Nat} {o' : Option (Int32 × St)} (hct : CtE (emI F Y) F Y y bytes maxL ret' d' (.ref (Y.2.2.1 e) :: As) σ o') (hd : d' + 1 ≤ d) (hm : Nat.ble maxL 45 = true) (he : e < 9) (hc : y.cls = "java/lang/String") {rest : List Value} (hn : As.length = n) (hst : st = As.reverse ++ .ref (Y.2.2.1 e) :: rest) (hW : (rest.map fun v => v.category).sum ≤ 8) (dd : decode cc pc = .ok (.invokevirtual idx, 3)) {f : Int32 × St → Option ρ} (k : ∀ r : Int32 × St, G F Y X nL em (0, 0) (0, 0) (pc + 3) lv (.int r.1 :: rest) (RepS F Y r.2) (f r)) : G F Y X nL em (0, 0) (0, 0) pc lv st (RepS F Y σ) (Option.bind o' f) := by
  cases o' with
  | none => exact G.none
  | some r => exact q_callV C lk (hct r rfl) hd hm (fun H locs h2 h3 => by rw [hc]; exact vk_recv C.2.2.2.2.2.1.2.2.1 he h3) hn hst hW dd ⟨Nat.le_refl _, Nat.le_refl _⟩ (k r)
end JROWS
def f_J0_coder_7d493 (e : Nat) (σ : St) : Option (Int32 × St) := (if (1 : Int32) = 0 then none else (if toB 0 = 0 then (some (0, σ)) else none))
theorem w_J0_coder_7d493 {F : FT} {Y : YT} (e : Nat)  (he : e < 9) (σ : St) : CtE (emI F Y) F Y yJ0_coder_7d493 cJ0_coder_7d493 1 (some .byte) 0 [.ref (Y.2.2.1 e)] σ (f_J0_coder_7d493 e σ) := by
  refine Ct.ofG (by decide) (Nat.le_of_ble_eq_true rfl) (fun X C0 => ?_)
  have C : Cx F Y X cJ0_coder_7d493 1 RJ0 (some .byte) 0 (0, 0) := C0
  show G F Y X 1 (emI F Y) (0, 0) (0, 0) 0 [(0, .ref (Y.2.2.1 e))] [] (RepS F Y σ) (f_J0_coder_7d493 e σ)
  rw [f_J0_coder_7d493]
  refine q_gsCS C (TB_of (List.mem_of_getElem? (i := 695) (by decide +kernel)) rfl) dJ0_coder_7d493_0 ?_
  refine q_if_eq C 13 dJ0_coder_7d493_3 rfl (fun _ => ?_) (fun _ => ?_)
  · exact G.none
  refine q_aload_n C 0 dJ0_coder_7d493_6 rfl ?_
  refine q_scod C he (TB_of (List.mem_of_getElem? (i := 1565) (by decide +kernel)) rfl) dJ0_coder_7d493_7 ?_
  refine q_goto C 14 dJ0_coder_7d493_10 rfl ?_
  exact G.ite (fun h => q_iretB C h rfl dJ0_coder_7d493_14) (fun _ => G.none)
def f_J0_isLatin1_aae02 (e : Nat) (σ : St) : Option (Int32 × St) := (if (1 : Int32) = 0 then (some (0, σ)) else (if (0 : Int32) = 0 then (some (1, σ)) else (some (0, σ))))
theorem w_J0_isLatin1_aae02 {F : FT} {Y : YT} (e : Nat)  (he : e < 9) (σ : St) : CtE (emI F Y) F Y yJ0_isLatin1_aae02 cJ0_isLatin1_aae02 1 (some .boolean) 0 [.ref (Y.2.2.1 e)] σ (f_J0_isLatin1_aae02 e σ) := by
  refine Ct.ofG (by decide) (Nat.le_of_ble_eq_true rfl) (fun X C0 => ?_)
  have C : Cx F Y X cJ0_isLatin1_aae02 1 RJ0 (some .boolean) 0 (0, 0) := C0
  show G F Y X 1 (emI F Y) (0, 0) (0, 0) 0 [(0, .ref (Y.2.2.1 e))] [] (RepS F Y σ) (f_J0_isLatin1_aae02 e σ)
  rw [f_J0_isLatin1_aae02]
  refine q_gsCS C (TB_of (List.mem_of_getElem? (i := 695) (by decide +kernel)) rfl) dJ0_isLatin1_aae02_0 ?_
  refine q_if_eq C 17 dJ0_isLatin1_aae02_3 rfl (fun _ => ?_) (fun _ => ?_)
  · refine q_iconst C (v := 0) dJ0_isLatin1_aae02_17 (by decide) ?_
    exact q_iretz C (by decide) rfl dJ0_isLatin1_aae02_18
  refine q_aload_n C 0 dJ0_isLatin1_aae02_6 rfl ?_
  refine q_scod C he (TB_of (List.mem_of_getElem? (i := 1565) (by decide +kernel)) rfl) dJ0_isLatin1_aae02_7 ?_
  refine q_if_ne C 17 dJ0_isLatin1_aae02_10 rfl (fun _ => ?_) (fun _ => ?_)
  · refine q_iconst C (v := 0) dJ0_isLatin1_aae02_17 (by decide) ?_
    exact q_iretz C (by decide) rfl dJ0_isLatin1_aae02_18
  refine q_iconst C (v := 1) dJ0_isLatin1_aae02_13 (by decide) ?_
  refine q_goto C 18 dJ0_isLatin1_aae02_14 rfl ?_
  exact q_iretz C (by decide) rfl dJ0_isLatin1_aae02_18
theorem lk_J0_335 : LkV RJ0 335 yJ0_coder_7d493 cJ0_coder_7d493 1 (some .byte) 0 := ⟨TB_p [701, 702, 703, 82, 704] (by decide +kernel) (by decide +kernel), by decide +kernel, by decide +kernel, by decide +kernel⟩
def f_J0_length_8abf5 (e : Nat) (σ : St) : Option (Int32 × St) := (Option.bind (f_J0_coder_7d493 e σ) fun r1 => (some (((nI (lenS.getD e 0)) >>> (r1.1 &&& 31)), r1.2)))
theorem w_J0_length_8abf5 {F : FT} {Y : YT} (e : Nat)  (he : e < 9) (σ : St) : CtE (emI F Y) F Y yJ0_length_8abf5 cJ0_length_8abf5 1 (some .int) 1 [.ref (Y.2.2.1 e)] σ (f_J0_length_8abf5 e σ) := by
  refine Ct.ofG (by decide) (Nat.le_of_ble_eq_true rfl) (fun X C0 => ?_)
  have C : Cx F Y X cJ0_length_8abf5 1 RJ0 (some .int) 1 (0, 0) := C0
  show G F Y X 1 (emI F Y) (0, 0) (0, 0) 0 [(0, .ref (Y.2.2.1 e))] [] (RepS F Y σ) (f_J0_length_8abf5 e σ)
  rw [f_J0_length_8abf5]
  refine q_aload_n C 0 dJ0_length_8abf5_0 rfl ?_
  refine q_sval C he (TB_of (List.mem_of_getElem? (i := 1566) (by decide +kernel)) rfl) dJ0_length_8abf5_1 ?_
  refine q_blen C he dJ0_length_8abf5_4 ?_
  refine q_aload_n C 0 dJ0_length_8abf5_5 rfl ?_
  refine q_cVsI C lk_J0_335 (w_J0_coder_7d493 (Y := Y) e he σ) (Nat.le_of_ble_eq_true rfl) rfl he rfl (rest := [.int (nI (lenS.getD e 0))]) rfl rfl (Nat.le_of_ble_eq_true rfl) dJ0_length_8abf5_6 (fun r1 => ?_)
  refine q_ishr C dJ0_length_8abf5_9 ?_
  exact q_ireti C rfl dJ0_length_8abf5_10
def f_J1_canEncode_9a6ad (a1 : Int32) (σ : St) : Option (Int32 × St) := (if a1 < 0 then (some (0, σ)) else (if 255 < a1 then (some (0, σ)) else (some (1, σ))))
theorem w_J1_canEncode_9a6ad {F : FT} {Y : YT} (a1 : Int32)   (σ : St) : CtE (emI F Y) F Y yJ1_canEncode_9a6ad cJ1_canEncode_9a6ad 1 (some .boolean) 0 [.int a1] σ (f_J1_canEncode_9a6ad a1 σ) := by
  refine Ct.ofG (by decide) (Nat.le_of_ble_eq_true rfl) (fun X C0 => ?_)
  have C : Cx F Y X cJ1_canEncode_9a6ad 1 RJ1 (some .boolean) 0 (0, 0) := C0
  show G F Y X 1 (emI F Y) (0, 0) (0, 0) 0 [(0, .int a1)] [] (RepS F Y σ) (f_J1_canEncode_9a6ad a1 σ)
  rw [f_J1_canEncode_9a6ad]
  refine q_iload_n C 0 dJ1_canEncode_9a6ad_0 rfl ?_
  refine q_if_lt C 15 dJ1_canEncode_9a6ad_1 rfl (fun _ => ?_) (fun _ => ?_)
  · refine q_iconst C (v := 0) dJ1_canEncode_9a6ad_15 (by decide) ?_
    exact q_iretz C (by decide) rfl dJ1_canEncode_9a6ad_16
  refine q_iload_n C 0 dJ1_canEncode_9a6ad_4 rfl ?_
  refine q_sipush C (v := 255) dJ1_canEncode_9a6ad_5 (by decide) ?_
  refine q_icmp_gt C 15 dJ1_canEncode_9a6ad_8 rfl (fun _ => ?_) (fun _ => ?_)
  · refine q_iconst C (v := 0) dJ1_canEncode_9a6ad_15 (by decide) ?_
    exact q_iretz C (by decide) rfl dJ1_canEncode_9a6ad_16
  refine q_iconst C (v := 1) dJ1_canEncode_9a6ad_11 (by decide) ?_
  refine q_goto C 16 dJ1_canEncode_9a6ad_12 rfl ?_
  exact q_iretz C (by decide) rfl dJ1_canEncode_9a6ad_16
def f_J1_indexOfChar_4cfef_L7 : Nat → Nat → Int32 → Int32 → Int32 → St → Option (Int32 × St)
  | 0, _, _, _, _, _ => none
  | n + 1, v0, v3, v4, v5, σ => (if v3 ≤ v5 then (some ((-1), σ)) else (if inb v5 (lenS.getD v0 0) = true then (if (schr v0 v5) = v4 then (some (v5, σ)) else ((f_J1_indexOfChar_4cfef_L7 n) v0 v3 v4 (v5 + 1) σ)) else none))
theorem w_J1_indexOfChar_4cfef_L7 {F : FT} {Y : YT} {X : XT} (C : Cx F Y X cJ1_indexOfChar_4cfef 6 RJ1 (some .int) 0 (0, 0)) : ∀ (n : Nat), ∀ (v0 : Nat), ∀ (v3 : Int32), ∀ (v4 : Int32), ∀ (v5 : Int32), v0 < 9 → ∀ (σ : St), G F Y X 6 (emI F Y) (0, 0) (0, 0) 7 [(0, .ref (Y.2.2.2.1 v0)), (3, .int v3), (4, .int v4), (5, .int v5)] [] (RepS F Y σ) (f_J1_indexOfChar_4cfef_L7 n v0 v3 v4 v5 σ) := by
  intro n
  induction n with
  | zero =>
    intro v0 v3 v4 v5 hv0 σ
    rw [f_J1_indexOfChar_4cfef_L7]; exact G.none
  | succ n ih =>
    intro v0 v3 v4 v5 hv0 σ
    rw [f_J1_indexOfChar_4cfef_L7]
    refine q_iload C 3 dJ1_indexOfChar_4cfef_7 rfl ?_
    refine q_iload_n C 1 dJ1_indexOfChar_4cfef_9 rfl ?_
    refine q_icmp_ge C 31 dJ1_indexOfChar_4cfef_10 rfl (fun _ => ?_) (fun _ => ?_)
    · refine q_iconst C (v := (-1)) dJ1_indexOfChar_4cfef_31 (by decide) ?_
      exact q_ireti C rfl dJ1_indexOfChar_4cfef_32
    refine q_aload_n C 0 dJ1_indexOfChar_4cfef_13 rfl ?_
    refine q_iload C 3 dJ1_indexOfChar_4cfef_14 rfl ?_
    refine q_bald C hv0 dJ1_indexOfChar_4cfef_16 (fun _ => ?_)
    refine q_iload C 2 dJ1_indexOfChar_4cfef_17 rfl ?_
    refine q_icmp_ne C 25 dJ1_indexOfChar_4cfef_19 rfl (fun _ => ?_) (fun _ => ?_)
    · refine q_iinc C 3 [(5, .int (v5 + 1)), (0, .ref (Y.2.2.2.1 v0)), (3, .int v3), (4, .int v4)] dJ1_indexOfChar_4cfef_25 rfl rfl rfl rfl ?_
      refine q_goto C 7 dJ1_indexOfChar_4cfef_28 rfl ?_
      refine G.sub [1, 2, 3, 0] (lv' := [(0, .ref (Y.2.2.2.1 v0)), (3, .int v3), (4, .int v4), (5, .int (v5 + 1))]) rfl ?_
      exact ih v0 v3 v4 (v5 + 1) hv0 σ
    refine q_iload C 3 dJ1_indexOfChar_4cfef_22 rfl ?_
    exact q_ireti C rfl dJ1_indexOfChar_4cfef_24
def f_J1_indexOfChar_4cfef (a1 : Nat) (a2 : Int32) (a3 : Int32) (a4 : Int32) (σ : St) : Option (Int32 × St) := (f_J1_indexOfChar_4cfef_L7 400 a1 a4 (toB a2) a3 σ)
theorem w_J1_indexOfChar_4cfef {F : FT} {Y : YT} (a1 : Nat) (a2 : Int32) (a3 : Int32) (a4 : Int32)  (ha1 : a1 < 9) (σ : St) : CtE (emI F Y) F Y yJ1_indexOfChar_4cfef cJ1_indexOfChar_4cfef 6 (some .int) 0 [.ref (Y.2.2.2.1 a1), .int a2, .int a3, .int a4] σ (f_J1_indexOfChar_4cfef a1 a2 a3 a4 σ) := by
  refine Ct.ofG (by decide) (Nat.le_of_ble_eq_true rfl) (fun X C0 => ?_)
  have C : Cx F Y X cJ1_indexOfChar_4cfef 6 RJ1 (some .int) 0 (0, 0) := C0
  show G F Y X 6 (emI F Y) (0, 0) (0, 0) 0 [(0, .ref (Y.2.2.2.1 a1)), (1, .int a2), (2, .int a3), (3, .int a4)] [] (RepS F Y σ) (f_J1_indexOfChar_4cfef a1 a2 a3 a4 σ)
  rw [f_J1_indexOfChar_4cfef]
  refine q_iload_n C 1 dJ1_indexOfChar_4cfef_0 rfl ?_
  refine q_i2b C dJ1_indexOfChar_4cfef_1 ?_
  refine q_istore C [(4, .int (toB a2)), (0, .ref (Y.2.2.2.1 a1)), (1, .int a2), (2, .int a3), (3, .int a4)] dJ1_indexOfChar_4cfef_2 rfl rfl ?_
  refine q_iload_n C 3 dJ1_indexOfChar_4cfef_4 rfl ?_
  refine q_istore C [(5, .int a3), (4, .int (toB a2)), (0, .ref (Y.2.2.2.1 a1)), (1, .int a2), (2, .int a3), (3, .int a4)] dJ1_indexOfChar_4cfef_5 rfl rfl ?_
  refine G.sub [2, 5, 1, 0] (lv' := [(0, .ref (Y.2.2.2.1 a1)), (3, .int a4), (4, .int (toB a2)), (5, .int a3)]) rfl ?_
  exact w_J1_indexOfChar_4cfef_L7 C 400 a1 a4 (toB a2) a3 ha1 σ
theorem lk_J1_88 : LkS RJ1 88 yJ1_canEncode_9a6ad cJ1_canEncode_9a6ad 1 (some .boolean) 1 := ⟨TB_p [708, 709, 83, 710] (by decide +kernel) (by decide +kernel), by decide +kernel, by decide +kernel, by decide +kernel⟩
theorem lk_J1_95 : LkS RJ1 95 yJ1_indexOfChar_4cfef cJ1_indexOfChar_4cfef 6 (some .int) 4 := ⟨TB_p [715, 716, 83, 717] (by decide +kernel) (by decide +kernel), by decide +kernel, by decide +kernel, by decide +kernel⟩
def f_J1_indexOf_4cfef (a1 : Nat) (a2 : Int32) (a3 : Int32) (a4 : Int32) (σ : St) : Option (Int32 × St) := (Option.bind (f_J1_canEncode_9a6ad a2 σ) fun r1 => (if r1.1 = 0 then (some ((-1), r1.2)) else (if (imax a3 0) < (imin a4 (nI (lenS.getD a1 0))) then (Option.bind (f_J1_indexOfChar_4cfef a1 a2 (imax a3 0) (imin a4 (nI (lenS.getD a1 0))) r1.2) fun r2 => (some (r2.1, r2.2))) else (some ((-1), r1.2)))))
theorem w_J1_indexOf_4cfef {F : FT} {Y : YT} (a1 : Nat) (a2 : Int32) (a3 : Int32) (a4 : Int32)  (ha1 : a1 < 9) (σ : St) : CtE (emI F Y) F Y yJ1_indexOf_4cfef cJ1_indexOf_4cfef 4 (some .int) 1 [.ref (Y.2.2.2.1 a1), .int a2, .int a3, .int a4] σ (f_J1_indexOf_4cfef a1 a2 a3 a4 σ) := by
  refine Ct.ofG (by decide) (Nat.le_of_ble_eq_true rfl) (fun X C0 => ?_)
  have C : Cx F Y X cJ1_indexOf_4cfef 4 RJ1 (some .int) 1 (0, 0) := C0
  show G F Y X 4 (emI F Y) (0, 0) (0, 0) 0 [(0, .ref (Y.2.2.2.1 a1)), (1, .int a2), (2, .int a3), (3, .int a4)] [] (RepS F Y σ) (f_J1_indexOf_4cfef a1 a2 a3 a4 σ)
  rw [f_J1_indexOf_4cfef]
  refine q_iload_n C 1 dJ1_indexOf_4cfef_0 rfl ?_
  refine q_cSI C lk_J1_88 (w_J1_canEncode_9a6ad (Y := Y) a2 σ) (Nat.le_of_ble_eq_true rfl) rfl (rest := []) rfl rfl (Nat.le_of_ble_eq_true rfl) dJ1_indexOf_4cfef_1 (fun r1 => ?_)
  refine q_if_ne C 9 dJ1_indexOf_4cfef_4 rfl (fun _ => ?_) (fun _ => ?_)
  · refine q_iload_n C 2 dJ1_indexOf_4cfef_9 rfl ?_
    refine q_iconst C (v := 0) dJ1_indexOf_4cfef_10 (by decide) ?_
    refine q_mmax C (idx := 92) (TB_of (List.mem_of_getElem? (i := 711) (by decide +kernel)) rfl) (Nat.le_of_ble_eq_true rfl) (Nat.le_of_ble_eq_true rfl) dJ1_indexOf_4cfef_11 ?_
    refine q_istore_n C [(2, .int (imax a3 0)), (0, .ref (Y.2.2.2.1 a1)), (1, .int a2), (3, .int a4)] dJ1_indexOf_4cfef_14 rfl rfl ?_
    refine q_iload_n C 3 dJ1_indexOf_4cfef_15 rfl ?_
    refine q_aload_n C 1 dJ1_indexOf_4cfef_16 rfl ?_
    refine q_blen C ha1 dJ1_indexOf_4cfef_17 ?_
    refine q_mmin C (idx := 38) (TB_of (List.mem_of_getElem? (i := 712) (by decide +kernel)) rfl) (Nat.le_of_ble_eq_true rfl) (Nat.le_of_ble_eq_true rfl) dJ1_indexOf_4cfef_18 ?_
    refine q_istore_n C [(3, .int (imin a4 (nI (lenS.getD a1 0)))), (2, .int (imax a3 0)), (0, .ref (Y.2.2.2.1 a1)), (1, .int a2)] dJ1_indexOf_4cfef_21 rfl rfl ?_
    refine q_iload_n C 1 dJ1_indexOf_4cfef_22 rfl ?_
    refine q_iload_n C 0 dJ1_indexOf_4cfef_23 rfl ?_
    refine q_icmp_lt C 29 dJ1_indexOf_4cfef_24 rfl (fun _ => ?_) (fun _ => ?_)
    · refine q_aload_n C 2 dJ1_indexOf_4cfef_29 rfl ?_
      refine q_iload_n C 3 dJ1_indexOf_4cfef_30 rfl ?_
      refine q_iload_n C 1 dJ1_indexOf_4cfef_31 rfl ?_
      refine q_iload_n C 0 dJ1_indexOf_4cfef_32 rfl ?_
      refine q_cSI C lk_J1_95 (w_J1_indexOfChar_4cfef (Y := Y) a1 a2 (imax a3 0) (imin a4 (nI (lenS.getD a1 0))) ha1 r1.2) (Nat.le_of_ble_eq_true rfl) rfl (rest := []) rfl rfl (Nat.le_of_ble_eq_true rfl) dJ1_indexOf_4cfef_33 (fun r2 => ?_)
      exact q_ireti C rfl dJ1_indexOf_4cfef_36
    refine q_iconst C (v := (-1)) dJ1_indexOf_4cfef_27 (by decide) ?_
    exact q_ireti C rfl dJ1_indexOf_4cfef_28
  refine q_iconst C (v := (-1)) dJ1_indexOf_4cfef_7 (by decide) ?_
  exact q_ireti C rfl dJ1_indexOf_4cfef_8
theorem lk_J0_492 : LkV RJ0 492 yJ0_isLatin1_aae02 cJ0_isLatin1_aae02 1 (some .boolean) 0 := ⟨TB_p [691, 692, 693, 82, 694] (by decide +kernel) (by decide +kernel), by decide +kernel, by decide +kernel, by decide +kernel⟩
theorem lk_J0_505 : LkV RJ0 505 yJ0_length_8abf5 cJ0_length_8abf5 1 (some .int) 0 := ⟨TB_p [697, 698, 699, 82, 700] (by decide +kernel) (by decide +kernel), by decide +kernel, by decide +kernel, by decide +kernel⟩
theorem lk_J0_637 : LkS RJ0 637 yJ1_indexOf_4cfef cJ1_indexOf_4cfef 4 (some .int) 4 := ⟨TB_p [705, 706, 83, 707] (by decide +kernel) (by decide +kernel), by decide +kernel, by decide +kernel, by decide +kernel⟩
def f_J0_indexOf_7cf53 (e : Nat) (a1 : Int32) (a2 : Int32) (σ : St) : Option (Int32 × St) := (Option.bind (f_J0_isLatin1_aae02 e σ) fun r1 => (if r1.1 = 0 then none else (Option.bind (f_J0_length_8abf5 e r1.2) fun r2 => (Option.bind (f_J1_indexOf_4cfef e a1 a2 r2.1 r2.2) fun r3 => (some (r3.1, r3.2))))))
theorem w_J0_indexOf_7cf53 {F : FT} {Y : YT} (e : Nat) (a1 : Int32) (a2 : Int32)  (he : e < 9) (σ : St) : CtE (emI F Y) F Y yJ0_indexOf_7cf53 cJ0_indexOf_7cf53 3 (some .int) 2 [.ref (Y.2.2.1 e), .int a1, .int a2] σ (f_J0_indexOf_7cf53 e a1 a2 σ) := by
  refine Ct.ofG (by decide) (Nat.le_of_ble_eq_true rfl) (fun X C0 => ?_)
  have C : Cx F Y X cJ0_indexOf_7cf53 3 RJ0 (some .int) 2 (0, 0) := C0
  show G F Y X 3 (emI F Y) (0, 0) (0, 0) 0 [(0, .ref (Y.2.2.1 e)), (1, .int a1), (2, .int a2)] [] (RepS F Y σ) (f_J0_indexOf_7cf53 e a1 a2 σ)
  rw [f_J0_indexOf_7cf53]
  refine q_aload_n C 0 dJ0_indexOf_7cf53_0 rfl ?_
  refine q_cVsI C lk_J0_492 (w_J0_isLatin1_aae02 (Y := Y) e he σ) (Nat.le_of_ble_eq_true rfl) rfl he rfl (rest := []) rfl rfl (Nat.le_of_ble_eq_true rfl) dJ0_indexOf_7cf53_1 (fun r1 => ?_)
  refine q_if_eq C 23 dJ0_indexOf_7cf53_4 rfl (fun _ => ?_) (fun _ => ?_)
  · exact G.none
  refine q_aload_n C 0 dJ0_indexOf_7cf53_7 rfl ?_
  refine q_sval C he (TB_of (List.mem_of_getElem? (i := 1566) (by decide +kernel)) rfl) dJ0_indexOf_7cf53_8 ?_
  refine q_iload_n C 1 dJ0_indexOf_7cf53_11 rfl ?_
  refine q_iload_n C 2 dJ0_indexOf_7cf53_12 rfl ?_
  refine q_aload_n C 0 dJ0_indexOf_7cf53_13 rfl ?_
  refine q_cVsI C lk_J0_505 (w_J0_length_8abf5 (Y := Y) e he r1.2) (Nat.le_of_ble_eq_true rfl) rfl he rfl (rest := [.int a2, .int a1, .ref (Y.2.2.2.1 e)]) rfl rfl (Nat.le_of_ble_eq_true rfl) dJ0_indexOf_7cf53_14 (fun r2 => ?_)
  refine q_cSI C lk_J0_637 (w_J1_indexOf_4cfef (Y := Y) e a1 a2 r2.1 he r2.2) (Nat.le_of_ble_eq_true rfl) rfl (rest := []) rfl rfl (Nat.le_of_ble_eq_true rfl) dJ0_indexOf_7cf53_17 (fun r3 => ?_)
  refine q_goto C 36 dJ0_indexOf_7cf53_20 rfl ?_
  exact q_ireti C rfl dJ0_indexOf_7cf53_36
theorem lk_J0_633 : LkV RJ0 633 yJ0_indexOf_7cf53 cJ0_indexOf_7cf53 3 (some .int) 2 := ⟨TB_p [687, 688, 689, 82, 690] (by decide +kernel) (by decide +kernel), by decide +kernel, by decide +kernel, by decide +kernel⟩
def f_J0_indexOf_0f7a4 (e : Nat) (a1 : Int32) (σ : St) : Option (Int32 × St) := (Option.bind (f_J0_indexOf_7cf53 e a1 0 σ) fun r1 => (some (r1.1, r1.2)))
theorem w_J0_indexOf_0f7a4 {F : FT} {Y : YT} (e : Nat) (a1 : Int32)  (he : e < 9) (σ : St) : CtE (emI F Y) F Y yJ0_indexOf_0f7a4 cJ0_indexOf_0f7a4 2 (some .int) 3 [.ref (Y.2.2.1 e), .int a1] σ (f_J0_indexOf_0f7a4 e a1 σ) := by
  refine Ct.ofG (by decide) (Nat.le_of_ble_eq_true rfl) (fun X C0 => ?_)
  have C : Cx F Y X cJ0_indexOf_0f7a4 2 RJ0 (some .int) 3 (0, 0) := C0
  show G F Y X 2 (emI F Y) (0, 0) (0, 0) 0 [(0, .ref (Y.2.2.1 e)), (1, .int a1)] [] (RepS F Y σ) (f_J0_indexOf_0f7a4 e a1 σ)
  rw [f_J0_indexOf_0f7a4]
  refine q_aload_n C 0 dJ0_indexOf_0f7a4_0 rfl ?_
  refine q_iload_n C 1 dJ0_indexOf_0f7a4_1 rfl ?_
  refine q_iconst C (v := 0) dJ0_indexOf_0f7a4_2 (by decide) ?_
  refine q_cVsI C lk_J0_633 (w_J0_indexOf_7cf53 (Y := Y) e a1 0 he σ) (Nat.le_of_ble_eq_true rfl) rfl he rfl (rest := []) rfl rfl (Nat.le_of_ble_eq_true rfl) dJ0_indexOf_0f7a4_3 (fun r1 => ?_)
  exact q_ireti C rfl dJ0_indexOf_0f7a4_6
def f_J3_checkIndex_8e157 (a1 : Int32) (a2 : Int32) (σ : St) : Option (Int32 × St) := (if a1 < 0 then none else (if a1 < a2 then (some (a1, σ)) else none))
theorem w_J3_checkIndex_8e157 {F : FT} {Y : YT} (a1 : Int32) (a2 : Int32) (a3 : Value) (ha3 : a3.category = 1) (σ : St) : CtE (emI F Y) F Y yJ3_checkIndex_8e157 cJ3_checkIndex_8e157 3 (some .int) 0 [.int a1, .int a2, a3] σ (f_J3_checkIndex_8e157 a1 a2 σ) := by
  refine Ct.ofG (by decide) (by have h1 : (Value.int a1).category = 1 := rfl; have h2 : (Value.int a2).category = 1 := rfl; simp [lg_sl, ha3, h1, h2]) (fun X C0 => ?_)
  have C : Cx F Y X cJ3_checkIndex_8e157 3 RJ3 (some .int) 0 (0, 0) := C0
  show G F Y X 3 (emI F Y) (0, 0) (0, 0) 0 [(0, .int a1), (1, .int a2), (2, a3)] [] (RepS F Y σ) (f_J3_checkIndex_8e157 a1 a2 σ)
  rw [f_J3_checkIndex_8e157]
  refine q_iload_n C 0 dJ3_checkIndex_8e157_0 rfl ?_
  refine q_if_lt C 9 dJ3_checkIndex_8e157_1 rfl (fun _ => ?_) (fun _ => ?_)
  · exact G.none
  refine q_iload_n C 0 dJ3_checkIndex_8e157_4 rfl ?_
  refine q_iload_n C 1 dJ3_checkIndex_8e157_5 rfl ?_
  refine q_icmp_lt C 16 dJ3_checkIndex_8e157_6 rfl (fun _ => ?_) (fun _ => ?_)
  · refine q_iload_n C 0 dJ3_checkIndex_8e157_16 rfl ?_
    exact q_ireti C rfl dJ3_checkIndex_8e157_17
  exact G.none
theorem lk_J0_1059 : LkS RJ0 1059 yJ3_checkIndex_8e157 cJ3_checkIndex_8e157 3 (some .int) 3 := ⟨TB_p [1182, 1183, 85, 1184] (by decide +kernel) (by decide +kernel), by decide +kernel, by decide +kernel, by decide +kernel⟩
def f_J0_checkIndex_df160 (a1 : Int32) (a2 : Int32) (σ : St) : Option (St) := (Option.bind (f_J3_checkIndex_8e157 a1 a2 σ) fun r3 => (some r3.2))
theorem w_J0_checkIndex_df160 {F : FT} {Y : YT} (a1 : Int32) (a2 : Int32)   (σ : St) : CtE (emV F Y) F Y yJ0_checkIndex_df160 cJ0_checkIndex_df160 2 none 1 [.int a1, .int a2] σ (f_J0_checkIndex_df160 a1 a2 σ) := by
  refine Ct.ofG (by decide) (Nat.le_of_ble_eq_true rfl) (fun X C0 => ?_)
  have C : Cx F Y X cJ0_checkIndex_df160 2 RJ0 none 1 (0, 0) := C0
  show G F Y X 2 (emV F Y) (0, 0) (0, 0) 0 [(0, .int a1), (1, .int a2)] [] (RepS F Y σ) (f_J0_checkIndex_df160 a1 a2 σ)
  rw [f_J0_checkIndex_df160]
  refine q_iload_n C 0 dJ0_checkIndex_df160_0 rfl ?_
  refine q_iload_n C 1 dJ0_checkIndex_df160_1 rfl ?_
  refine q_gsF C (TB_of (List.mem_of_getElem? (i := 736) (by decide +kernel)) rfl) dJ0_checkIndex_df160_2 (fun t1 h2 => ?_)
  refine q_cSI C lk_J0_1059 (w_J3_checkIndex_8e157 (Y := Y) a1 a2 t1 h2 σ) (Nat.le_of_ble_eq_true rfl) rfl (rest := []) rfl rfl (Nat.le_of_ble_eq_true rfl) dJ0_checkIndex_df160_5 (fun r3 => ?_)
  refine q_pop C dJ0_checkIndex_df160_8 rfl ?_
  exact q_vret C rfl dJ0_checkIndex_df160_9
theorem lk_J1_9 : LkS RJ1 9 yJ0_checkIndex_df160 cJ0_checkIndex_df160 2 none 2 := ⟨TB_p [1179, 1180, 82, 1181] (by decide +kernel) (by decide +kernel), by decide +kernel, by decide +kernel, by decide +kernel⟩
def f_J1_charAt_3b067 (a1 : Nat) (a2 : Int32) (σ : St) : Option (Int32 × St) := (Option.bind (f_J0_checkIndex_df160 a2 (nI (lenS.getD a1 0)) σ) fun r1 => (if inb a2 (lenS.getD a1 0) = true then (if toC (toC ((schr a1 a2) &&& 255)) = (toC ((schr a1 a2) &&& 255)) then (some ((toC ((schr a1 a2) &&& 255)), r1)) else none) else none))
theorem w_J1_charAt_3b067 {F : FT} {Y : YT} (a1 : Nat) (a2 : Int32)  (ha1 : a1 < 9) (σ : St) : CtE (emI F Y) F Y yJ1_charAt_3b067 cJ1_charAt_3b067 2 (some .char) 2 [.ref (Y.2.2.2.1 a1), .int a2] σ (f_J1_charAt_3b067 a1 a2 σ) := by
  refine Ct.ofG (by decide) (Nat.le_of_ble_eq_true rfl) (fun X C0 => ?_)
  have C : Cx F Y X cJ1_charAt_3b067 2 RJ1 (some .char) 2 (0, 0) := C0
  show G F Y X 2 (emI F Y) (0, 0) (0, 0) 0 [(0, .ref (Y.2.2.2.1 a1)), (1, .int a2)] [] (RepS F Y σ) (f_J1_charAt_3b067 a1 a2 σ)
  rw [f_J1_charAt_3b067]
  refine q_iload_n C 1 dJ1_charAt_3b067_0 rfl ?_
  refine q_aload_n C 0 dJ1_charAt_3b067_1 rfl ?_
  refine q_blen C ha1 dJ1_charAt_3b067_2 ?_
  refine q_cSV C lk_J1_9 (w_J0_checkIndex_df160 (Y := Y) a2 (nI (lenS.getD a1 0)) σ) (Nat.le_of_ble_eq_true rfl) rfl (rest := []) rfl rfl (Nat.le_of_ble_eq_true rfl) dJ1_charAt_3b067_3 (fun r1 => ?_)
  refine q_aload_n C 0 dJ1_charAt_3b067_6 rfl ?_
  refine q_iload_n C 1 dJ1_charAt_3b067_7 rfl ?_
  refine q_bald C ha1 dJ1_charAt_3b067_8 (fun _ => ?_)
  refine q_sipush C (v := 255) dJ1_charAt_3b067_9 (by decide) ?_
  refine q_iand C dJ1_charAt_3b067_12 ?_
  refine q_i2c C dJ1_charAt_3b067_13 ?_
  exact G.ite (fun h => q_iretC C h rfl dJ1_charAt_3b067_14) (fun _ => G.none)
theorem lk_J0_495 : LkS RJ0 495 yJ1_charAt_3b067 cJ1_charAt_3b067 2 (some .char) 2 := ⟨TB_p [1176, 1177, 83, 1178] (by decide +kernel) (by decide +kernel), by decide +kernel, by decide +kernel, by decide +kernel⟩
def f_J0_charAt_5068e (e : Nat) (a1 : Int32) (σ : St) : Option (Int32 × St) := (Option.bind (f_J0_isLatin1_aae02 e σ) fun r1 => (if r1.1 = 0 then none else (Option.bind (f_J1_charAt_3b067 e a1 r1.2) fun r2 => (if toC r2.1 = r2.1 then (some (r2.1, r2.2)) else none))))
theorem w_J0_charAt_5068e {F : FT} {Y : YT} (e : Nat) (a1 : Int32)  (he : e < 9) (σ : St) : CtE (emI F Y) F Y yJ0_charAt_5068e cJ0_charAt_5068e 2 (some .char) 3 [.ref (Y.2.2.1 e), .int a1] σ (f_J0_charAt_5068e e a1 σ) := by
  refine Ct.ofG (by decide) (Nat.le_of_ble_eq_true rfl) (fun X C0 => ?_)
  have C : Cx F Y X cJ0_charAt_5068e 2 RJ0 (some .char) 3 (0, 0) := C0
  show G F Y X 2 (emI F Y) (0, 0) (0, 0) 0 [(0, .ref (Y.2.2.1 e)), (1, .int a1)] [] (RepS F Y σ) (f_J0_charAt_5068e e a1 σ)
  rw [f_J0_charAt_5068e]
  refine q_aload_n C 0 dJ0_charAt_5068e_0 rfl ?_
  refine q_cVsI C lk_J0_492 (w_J0_isLatin1_aae02 (Y := Y) e he σ) (Nat.le_of_ble_eq_true rfl) rfl he rfl (rest := []) rfl rfl (Nat.le_of_ble_eq_true rfl) dJ0_charAt_5068e_1 (fun r1 => ?_)
  refine q_if_eq C 16 dJ0_charAt_5068e_4 rfl (fun _ => ?_) (fun _ => ?_)
  · exact G.none
  refine q_aload_n C 0 dJ0_charAt_5068e_7 rfl ?_
  refine q_sval C he (TB_of (List.mem_of_getElem? (i := 1566) (by decide +kernel)) rfl) dJ0_charAt_5068e_8 ?_
  refine q_iload_n C 1 dJ0_charAt_5068e_11 rfl ?_
  refine q_cSI C lk_J0_495 (w_J1_charAt_3b067 (Y := Y) e a1 he r1.2) (Nat.le_of_ble_eq_true rfl) rfl (rest := []) rfl rfl (Nat.le_of_ble_eq_true rfl) dJ0_charAt_5068e_12 (fun r2 => ?_)
  exact G.ite (fun h => q_iretC C h rfl dJ0_charAt_5068e_15) (fun _ => G.none)
/-! what the JDK's own text methods answer on the text constants -/
def sidxF (c : Int32) : List Int32 → Nat → Int32
  | [], _ => -1
  | b :: l, k => if b = c then nI k else sidxF c l (k + 1)
def sidx (e : Nat) (c : Int32) : Int32 := sidxF c (bytS.getD e []) 0
theorem s_all : ∀ e, e < 9 → lenS.getD e 0 = (bytS.getD e []).length ∧ (bytS.getD e []).length ≤ 10 ∧ ∀ b ∈ bytS.getD e [], b.toInt8.toInt32 = b ∧ b &&& 255 = b ∧ toC (b &&& 255) = b ∧ 0 ≤ b ∧ b ≤ 255 := by decide +kernel
theorem getD_mem {l : List Int32} {j : Nat} (h : j < l.length) : l.getD j 0 ∈ l := by
  rw [List.getD_eq_getElem?_getD, List.getElem?_eq_getElem h]
  exact List.getElem_mem h
theorem j_coder (e : Nat) (σ : St) : f_J0_coder_7d493 e σ = some (0, σ) := by rw [f_J0_coder_7d493, if_neg (by decide), if_pos (by decide)]
theorem j_lat (e : Nat) (σ : St) : f_J0_isLatin1_aae02 e σ = some (1, σ) := by rw [f_J0_isLatin1_aae02, if_neg (by decide), if_pos (by decide)]
theorem j_len (e : Nat) (σ : St) : f_J0_length_8abf5 e σ = some (nI (lenS.getD e 0), σ) := by
  rw [f_J0_length_8abf5, j_coder]
  show some (nI _ >>> ((0 : Int32) &&& 31), σ) = _
  rw [sb_shr0]
theorem inb_nI {i : Int32} {n : Nat} (h : inb i n = true) (hn : n < 2 ^ 31) : ∃ j : Nat, j < n ∧ i = nI j := vp_in_of (inb_in h) hn
theorem nI_inb {j n : Nat} (h : j < n) (hn : n < 2 ^ 31) : inb (nI j) n = true := decide_eq_true (vp_in_iff.mp (vp_in_nI h hn))
theorem j_chr {e : Nat} (he : e < 9) {i : Int32} (hi : inb i (lenS.getD e 0) = true) (σ : St) : f_J0_charAt_5068e e i σ = some (schr e i, σ) := by
  obtain ⟨hl, h10, hb⟩ := s_all e he
  obtain ⟨j, hj, rfl⟩ := inb_nI hi (by omega)
  have hm : schr e (nI j) ∈ bytS.getD e [] := by
    unfold schr
    rw [nI_clamp (by omega)]
    exact getD_mem (by omega)
  obtain ⟨-, hm2, hc, -⟩ := hb _ hm
  have e1 : f_J3_checkIndex_8e157 (nI j) (nI (lenS.getD e 0)) σ = some (nI j, σ) := by rw [f_J3_checkIndex_8e157, if_neg (nI_pos (by omega)), if_pos (nI_lt hj (by omega))]
  have e2 : f_J0_checkIndex_df160 (nI j) (nI (lenS.getD e 0)) σ = some σ := by rw [f_J0_checkIndex_df160, e1]; rfl
  have e0 : toC (schr e (nI j)) = schr e (nI j) := by rw [hm2] at hc; exact hc
  have e3 : f_J1_charAt_3b067 e (nI j) σ = some (schr e (nI j), σ) := by
    rw [f_J1_charAt_3b067, e2]
    show (if inb (nI j) (lenS.getD e 0) = true then (if toC (toC (schr e (nI j) &&& 255)) = toC (schr e (nI j) &&& 255) then some (toC (schr e (nI j) &&& 255), σ) else none) else none) = _
    rw [if_pos hi, hc, if_pos e0]
  rw [f_J0_charAt_5068e, j_lat]
  show (if (1 : Int32) = 0 then none else Option.bind (f_J1_charAt_3b067 e (nI j) σ) fun r2 => if toC r2.1 = r2.1 then some (r2.1, r2.2) else none) = _
  rw [if_neg (by decide), e3]
  show (if toC (schr e (nI j)) = schr e (nI j) then some (schr e (nI j), σ) else none) = _
  rw [if_pos e0]
theorem j_ixL {e : Nat} (he : e < 9) {q : Nat} (hq : q < 256) (σ : St) : ∀ (l : List Int32) (k n : Nat), (bytS.getD e []).drop k = l → l.length < n → k ≤ lenS.getD e 0 → f_J1_indexOfChar_4cfef_L7 n e (nI (lenS.getD e 0)) (toB (nI q)) (nI k) σ = some (sidxF (nI q) l k, σ) := by
  obtain ⟨hl, h10, hb⟩ := s_all e he
  intro l
  induction l with
  | nil =>
    intro k n hd hn hk
    have hk2 : (bytS.getD e []).length ≤ k := List.drop_eq_nil_iff.mp hd
    cases n with
    | zero => exact absurd hn (Nat.not_lt_zero _)
    | succ n =>
      rw [f_J1_indexOfChar_4cfef_L7, if_pos (nI_le (by omega) (by omega))]
      rfl
  | cons b l ih =>
    intro k n hd hn hk
    obtain ⟨h1, h2, h3, h4⟩ := sc_dropC hd
    cases n with
    | zero => exact absurd hn (Nat.not_lt_zero _)
    | succ n =>
      have hs : schr e (nI k) = b := by unfold schr; rw [nI_clamp (by omega)]; exact h2
      obtain ⟨b1, b2, -⟩ := hb b h4
      rw [f_J1_indexOfChar_4cfef_L7, if_neg (nI_ge (by omega) (by omega)), if_pos (nI_inb (by omega) (by omega)), hs, sidxF]
      by_cases hc : b = nI q
      · rw [if_pos hc, if_pos (show b = toB (nI q) from (sc_eq b1 hq).mpr (b2.trans hc))]
      · rw [if_neg hc, if_neg (show ¬ b = toB (nI q) from fun z => hc (b2.symm.trans ((sc_eq b1 hq).mp z)))]
        rw [nI_1]
        exact ih (k + 1) n h3 (by simpa using hn) (by omega)
theorem sidxF_no {c : Int32} : ∀ (l : List Int32) (k : Nat), (∀ b ∈ l, ¬ b = c) → sidxF c l k = -1 := by
  intro l
  induction l with
  | nil => intro k _; rfl
  | cons b l ih =>
    intro k h
    rw [sidxF, if_neg (h b List.mem_cons_self)]
    exact ih (k + 1) (fun x hx => h x (List.mem_cons_of_mem _ hx))
theorem j_can (c : Int32) (σ : St) : f_J1_canEncode_9a6ad c σ = some (if c < 0 then 0 else if 255 < c then 0 else 1, σ) := by
  rw [f_J1_canEncode_9a6ad]
  split
  · rfl
  · split <;> rfl
theorem j_idx {e : Nat} (he : e < 9) (c : Int32) (σ : St) : f_J0_indexOf_0f7a4 e c σ = some (sidx e c, σ) := by
  obtain ⟨hl, h10, hb⟩ := s_all e he
  have key : f_J1_indexOf_4cfef e c 0 (nI (lenS.getD e 0)) σ = some (sidx e c, σ) := by
    rw [f_J1_indexOf_4cfef, j_can]
    show (if (if c < 0 then (0 : Int32) else if 255 < c then 0 else 1) = 0 then _ else _) = _
    by_cases h0 : c < 0
    · rw [if_pos h0, if_pos rfl, sidx, sidxF_no _ _ (fun b hbm hbc => ?_)]
      obtain ⟨-, -, -, g1, -⟩ := hb b hbm
      rw [hbc] at g1
      exact Int32.not_lt.mpr g1 h0
    · rw [if_neg h0]
      by_cases h1 : 255 < c
      · rw [if_pos h1, if_pos rfl, sidx, sidxF_no _ _ (fun b hbm hbc => ?_)]
        obtain ⟨-, -, -, -, g2⟩ := hb b hbm
        rw [hbc] at g2
        exact Int32.not_lt.mpr g2 h1
      · rw [if_neg h1, if_neg (by decide)]
        obtain ⟨q, hq, rfl⟩ := nI_of2 (n := 255) (M := 255) (by decide) h0 (Int32.not_lt.mp h1)
        have em : imax 0 0 = 0 := by decide
        have en : imin (nI (lenS.getD e 0)) (nI (lenS.getD e 0)) = nI (lenS.getD e 0) := by unfold imin; split <;> rfl
        rw [em, en]
        by_cases hz : (0 : Int32) < nI (lenS.getD e 0)
        · rw [if_pos hz]
          have h7 := j_ixL he (q := q) (by omega) σ (bytS.getD e []) 0 400 rfl (by omega) (Nat.zero_le _)
          rw [f_J1_indexOfChar_4cfef, show (0 : Int32) = nI 0 from rfl, h7]
          rfl
        · rw [if_neg hz]
          have hz0 : lenS.getD e 0 = 0 := by
            rcases Nat.eq_zero_or_pos (lenS.getD e 0) with h | h
            · exact h
            · exact absurd (show nI 0 < nI (lenS.getD e 0) from nI_lt h (by omega)) hz
          have : bytS.getD e [] = [] := List.eq_nil_of_length_eq_zero (by omega)
          rw [sidx, this]
          rfl
  have k2 : f_J0_indexOf_7cf53 e c 0 σ = some (sidx e c, σ) := by
    rw [f_J0_indexOf_7cf53, j_lat]
    show (if (1 : Int32) = 0 then none else Option.bind (f_J0_length_8abf5 e σ) fun r2 => Option.bind (f_J1_indexOf_4cfef e c 0 r2.1 r2.2) fun r3 => some (r3.1, r3.2)) = _
    rw [if_neg (by decide), j_len]
    show (Option.bind (f_J1_indexOf_4cfef e c 0 (nI (lenS.getD e 0)) σ) fun r3 => some (r3.1, r3.2)) = _
    rw [key]
    rfl
  rw [f_J0_indexOf_0f7a4, k2]
  rfl
section JROWS2
variable {ρ : Type} {F : FT} {Y : YT} {X : XT} {cc : ByteArray} {nL : Nat} {own : String} {ret : Option FieldType} {d : Nat} {em : ρ → Option Value × (Heap → Prop)} {pc : Nat} {lv : List (Nat × Value)} {rest st : List Value} {o : Option ρ} {σ : St} {idx : Nat}
theorem q_sidx (C : Cx F Y X cc nL own ret d (0, 0)) (lk : LkV own idx yJ0_indexOf_0f7a4 cJ0_indexOf_0f7a4 2 (some .int) 1) {e : Nat} (he : e < 9) {c : Int32} (hW : (rest.map fun v => v.category).sum ≤ 8) (hd : 6 ≤ d) (dd : decode cc pc = .ok (.invokevirtual idx, 3)) (k : G F Y X nL em (0, 0) (0, 0) (pc + 3) lv (.int (sidx e c) :: rest) (RepS F Y σ) o) : G F Y X nL em (0, 0) (0, 0) pc lv (.int c :: .ref (Y.2.2.1 e) :: rest) (RepS F Y σ) o :=
  q_callV C lk (w_J0_indexOf_0f7a4 (F := F) (Y := Y) e c he σ _ (j_idx he c σ)) (by omega) rfl (fun H locs h2 h3 => vk_recv C.2.2.2.2.2.1.2.2.1 he h3) rfl rfl hW dd ⟨Nat.le_refl _, Nat.le_refl _⟩ k
theorem q_slen (C : Cx F Y X cc nL own ret d (0, 0)) (lk : LkV own idx yJ0_length_8abf5 cJ0_length_8abf5 1 (some .int) 0) {e : Nat} (he : e < 9) (hW : (rest.map fun v => v.category).sum ≤ 8) (hd : 6 ≤ d) (dd : decode cc pc = .ok (.invokevirtual idx, 3)) (k : G F Y X nL em (0, 0) (0, 0) (pc + 3) lv (.int (nI (lenS.getD e 0)) :: rest) (RepS F Y σ) o) : G F Y X nL em (0, 0) (0, 0) pc lv (.ref (Y.2.2.1 e) :: rest) (RepS F Y σ) o :=
  q_callV C lk (w_J0_length_8abf5 (F := F) (Y := Y) e he σ _ (j_len e σ)) (by omega) rfl (fun H locs h2 h3 => vk_recv C.2.2.2.2.2.1.2.2.1 he h3) rfl rfl hW dd ⟨Nat.le_refl _, Nat.le_refl _⟩ k
theorem q_schr (C : Cx F Y X cc nL own ret d (0, 0)) (lk : LkV own idx yJ0_charAt_5068e cJ0_charAt_5068e 2 (some .char) 1) {e : Nat} (he : e < 9) {i : Int32} (hi : inb i (lenS.getD e 0) = true) (hW : (rest.map fun v => v.category).sum ≤ 8) (hd : 6 ≤ d) (dd : decode cc pc = .ok (.invokevirtual idx, 3)) (k : G F Y X nL em (0, 0) (0, 0) (pc + 3) lv (.int (schr e i) :: rest) (RepS F Y σ) o) : G F Y X nL em (0, 0) (0, 0) pc lv (.int i :: .ref (Y.2.2.1 e) :: rest) (RepS F Y σ) o :=
  q_callV C lk (w_J0_charAt_5068e (F := F) (Y := Y) e i he σ _ (j_chr he hi σ)) (by omega) rfl (fun H locs h2 h3 => vk_recv C.2.2.2.2.2.1.2.2.1 he h3) rfl rfl hW dd ⟨Nat.le_refl _, Nat.le_refl _⟩ k
end JROWS2
