def bitc (a1 : Int32) : Int32 := ((((((((a1 - ((iush a1 1) &&& 1431655765)) &&& 858993459) + ((iush (a1 - ((iush a1 1) &&& 1431655765)) 2) &&& 858993459)) + (iush (((a1 - ((iush a1 1) &&& 1431655765)) &&& 858993459) + ((iush (a1 - ((iush a1 1) &&& 1431655765)) 2) &&& 858993459)) 4)) &&& 252645135) + (iush (((((a1 - ((iush a1 1) &&& 1431655765)) &&& 858993459) + ((iush (a1 - ((iush a1 1) &&& 1431655765)) 2) &&& 858993459)) + (iush (((a1 - ((iush a1 1) &&& 1431655765)) &&& 858993459) + ((iush (a1 - ((iush a1 1) &&& 1431655765)) 2) &&& 858993459)) 4)) &&& 252645135) 8)) + (iush ((((((a1 - ((iush a1 1) &&& 1431655765)) &&& 858993459) + ((iush (a1 - ((iush a1 1) &&& 1431655765)) 2) &&& 858993459)) + (iush (((a1 - ((iush a1 1) &&& 1431655765)) &&& 858993459) + ((iush (a1 - ((iush a1 1) &&& 1431655765)) 2) &&& 858993459)) 4)) &&& 252645135) + (iush (((((a1 - ((iush a1 1) &&& 1431655765)) &&& 858993459) + ((iush (a1 - ((iush a1 1) &&& 1431655765)) 2) &&& 858993459)) + (iush (((a1 - ((iush a1 1) &&& 1431655765)) &&& 858993459) + ((iush (a1 - ((iush a1 1) &&& 1431655765)) 2) &&& 858993459)) 4)) &&& 252645135) 8)) 16)) &&& 63)
theorem w_J6 {F : FT} {Y : YT} (a1 : Int32) (σ : St) : CtE (emI F Y) F Y yJ6_bitCount_0f7a4 cJ6_bitCount_0f7a4 1 (some .int) 0 [.int a1] σ (some (bitc a1, σ)) := by
  refine Ct.ofG (by decide) (Nat.le_of_ble_eq_true rfl) (fun X C0 => ?_)
  have C : Cx F Y X cJ6_bitCount_0f7a4 1 RJ6 (some .int) 0 (0, 0) := C0
  show G F Y X 1 (emI F Y) (0, 0) (0, 0) 0 [(0, .int a1)] [] (RepS F Y σ) (some (bitc a1, σ))
  rw [bitc]
  refine q_iload_n C 0 dJ6_bitCount_0f7a4_0 rfl ?_
  refine q_iload_n C 0 dJ6_bitCount_0f7a4_1 rfl ?_
  refine q_iconst C (v := 1) dJ6_bitCount_0f7a4_2 (by decide) ?_
  refine q_iushr C dJ6_bitCount_0f7a4_3 ?_
  refine q_ldcw C (v := 1431655765) (TB_of (List.mem_of_getElem? (i := 834) (by decide +kernel)) rfl) dJ6_bitCount_0f7a4_4 ?_
  refine q_iand C dJ6_bitCount_0f7a4_7 ?_
  refine q_isub C dJ6_bitCount_0f7a4_8 ?_
  refine q_istore_n C [(0, .int (a1 - ((iush a1 1) &&& 1431655765)))] dJ6_bitCount_0f7a4_9 rfl rfl ?_
  refine q_iload_n C 0 dJ6_bitCount_0f7a4_10 rfl ?_
  refine q_ldcw C (v := 858993459) (TB_of (List.mem_of_getElem? (i := 835) (by decide +kernel)) rfl) dJ6_bitCount_0f7a4_11 ?_
  refine q_iand C dJ6_bitCount_0f7a4_14 ?_
  refine q_iload_n C 0 dJ6_bitCount_0f7a4_15 rfl ?_
  refine q_iconst C (v := 2) dJ6_bitCount_0f7a4_16 (by decide) ?_
  refine q_iushr C dJ6_bitCount_0f7a4_17 ?_
  refine q_ldcw C (v := 858993459) (TB_of (List.mem_of_getElem? (i := 835) (by decide +kernel)) rfl) dJ6_bitCount_0f7a4_18 ?_
  refine q_iand C dJ6_bitCount_0f7a4_21 ?_
  refine q_iadd C dJ6_bitCount_0f7a4_22 ?_
  refine q_istore_n C [(0, .int (((a1 - ((iush a1 1) &&& 1431655765)) &&& 858993459) + ((iush (a1 - ((iush a1 1) &&& 1431655765)) 2) &&& 858993459)))] dJ6_bitCount_0f7a4_23 rfl rfl ?_
  refine q_iload_n C 0 dJ6_bitCount_0f7a4_24 rfl ?_
  refine q_iload_n C 0 dJ6_bitCount_0f7a4_25 rfl ?_
  refine q_iconst C (v := 4) dJ6_bitCount_0f7a4_26 (by decide) ?_
  refine q_iushr C dJ6_bitCount_0f7a4_27 ?_
  refine q_iadd C dJ6_bitCount_0f7a4_28 ?_
  refine q_ldcw C (v := 252645135) (TB_of (List.mem_of_getElem? (i := 836) (by decide +kernel)) rfl) dJ6_bitCount_0f7a4_29 ?_
  refine q_iand C dJ6_bitCount_0f7a4_32 ?_
  refine q_istore_n C [(0, .int (((((a1 - ((iush a1 1) &&& 1431655765)) &&& 858993459) + ((iush (a1 - ((iush a1 1) &&& 1431655765)) 2) &&& 858993459)) + (iush (((a1 - ((iush a1 1) &&& 1431655765)) &&& 858993459) + ((iush (a1 - ((iush a1 1) &&& 1431655765)) 2) &&& 858993459)) 4)) &&& 252645135))] dJ6_bitCount_0f7a4_33 rfl rfl ?_
  refine q_iload_n C 0 dJ6_bitCount_0f7a4_34 rfl ?_
  refine q_iload_n C 0 dJ6_bitCount_0f7a4_35 rfl ?_
  refine q_bipush C (v := 8) dJ6_bitCount_0f7a4_36 (by decide) ?_
  refine q_iushr C dJ6_bitCount_0f7a4_38 ?_
  refine q_iadd C dJ6_bitCount_0f7a4_39 ?_
  refine q_istore_n C [(0, .int ((((((a1 - ((iush a1 1) &&& 1431655765)) &&& 858993459) + ((iush (a1 - ((iush a1 1) &&& 1431655765)) 2) &&& 858993459)) + (iush (((a1 - ((iush a1 1) &&& 1431655765)) &&& 858993459) + ((iush (a1 - ((iush a1 1) &&& 1431655765)) 2) &&& 858993459)) 4)) &&& 252645135) + (iush (((((a1 - ((iush a1 1) &&& 1431655765)) &&& 858993459) + ((iush (a1 - ((iush a1 1) &&& 1431655765)) 2) &&& 858993459)) + (iush (((a1 - ((iush a1 1) &&& 1431655765)) &&& 858993459) + ((iush (a1 - ((iush a1 1) &&& 1431655765)) 2) &&& 858993459)) 4)) &&& 252645135) 8)))] dJ6_bitCount_0f7a4_40 rfl rfl ?_
  refine q_iload_n C 0 dJ6_bitCount_0f7a4_41 rfl ?_
  refine q_iload_n C 0 dJ6_bitCount_0f7a4_42 rfl ?_
  refine q_bipush C (v := 16) dJ6_bitCount_0f7a4_43 (by decide) ?_
  refine q_iushr C dJ6_bitCount_0f7a4_45 ?_
  refine q_iadd C dJ6_bitCount_0f7a4_46 ?_
  refine q_istore_n C [(0, .int (((((((a1 - ((iush a1 1) &&& 1431655765)) &&& 858993459) + ((iush (a1 - ((iush a1 1) &&& 1431655765)) 2) &&& 858993459)) + (iush (((a1 - ((iush a1 1) &&& 1431655765)) &&& 858993459) + ((iush (a1 - ((iush a1 1) &&& 1431655765)) 2) &&& 858993459)) 4)) &&& 252645135) + (iush (((((a1 - ((iush a1 1) &&& 1431655765)) &&& 858993459) + ((iush (a1 - ((iush a1 1) &&& 1431655765)) 2) &&& 858993459)) + (iush (((a1 - ((iush a1 1) &&& 1431655765)) &&& 858993459) + ((iush (a1 - ((iush a1 1) &&& 1431655765)) 2) &&& 858993459)) 4)) &&& 252645135) 8)) + (iush ((((((a1 - ((iush a1 1) &&& 1431655765)) &&& 858993459) + ((iush (a1 - ((iush a1 1) &&& 1431655765)) 2) &&& 858993459)) + (iush (((a1 - ((iush a1 1) &&& 1431655765)) &&& 858993459) + ((iush (a1 - ((iush a1 1) &&& 1431655765)) 2) &&& 858993459)) 4)) &&& 252645135) + (iush (((((a1 - ((iush a1 1) &&& 1431655765)) &&& 858993459) + ((iush (a1 - ((iush a1 1) &&& 1431655765)) 2) &&& 858993459)) + (iush (((a1 - ((iush a1 1) &&& 1431655765)) &&& 858993459) + ((iush (a1 - ((iush a1 1) &&& 1431655765)) 2) &&& 858993459)) 4)) &&& 252645135) 8)) 16)))] dJ6_bitCount_0f7a4_47 rfl rfl ?_
  refine q_iload_n C 0 dJ6_bitCount_0f7a4_48 rfl ?_
  refine q_bipush C (v := 63) dJ6_bitCount_0f7a4_49 (by decide) ?_
  refine q_iand C dJ6_bitCount_0f7a4_51 ?_
  exact q_ireti C rfl dJ6_bitCount_0f7a4_52
theorem q_bitc {ρ : Type} {F : FT} {Y : YT} {X : XT} {cc : ByteArray} {nL : Nat} {own : String} {ret : Option FieldType} {d : Nat} {em : ρ → Option Value × (Heap → Prop)} {pc : Nat} {lv : List (Nat × Value)} {rest : List Value} {o : Option ρ} {σ : St} {idx : Nat} (C : Cx F Y X cc nL own ret d (0, 0)) (lk : LkS own idx yJ6_bitCount_0f7a4 cJ6_bitCount_0f7a4 1 (some .int) 1) (hW : (rest.map fun v => v.category).sum ≤ 8) (hd : 1 ≤ d) {x : Int32} (dd : decode cc pc = .ok (.invokestatic idx, 3)) (k : G F Y X nL em (0, 0) (0, 0) (pc + 3) lv (.int (bitc x) :: rest) (RepS F Y σ) o) : G F Y X nL em (0, 0) (0, 0) pc lv (.int x :: rest) (RepS F Y σ) o :=
  q_callS C lk (w_J6 x σ _ rfl) hd rfl rfl rfl hW dd ⟨Nat.le_refl _, Nat.le_refl _⟩ k
def schr (e : Nat) (i : Int32) : Int32 := (bytS.getD e []).getD i.toNatClampNeg 0
def sidxF (c : Int32) : List Int32 → Nat → Int32
  | [], _ => -1
  | b :: l, k => if b = c then nI k else sidxF c l (k + 1)
def sidx (e : Nat) (c : Int32) : Int32 := sidxF c (bytS.getD e []) 0
section JROWS
variable {ρ : Type} {F : FT} {Y : YT} {X : XT} {cc : ByteArray} {nL : Nat} {own : String} {ret : Option FieldType} {d : Nat} {em : ρ → Option Value × (Heap → Prop)} {pc : Nat} {lv : List (Nat × Value)} {rest st : List Value} {o : Option ρ} {σ : St} {idx : Nat}
theorem q_sidx (C : Cx F Y X cc nL own ret d (0, 0)) (lk : LkV own idx yJ0_indexOf_0f7a4 cJ0_indexOf_0f7a4 2 (some .int) 1) {e : Nat} (he : e < 9) {c : Int32} (hW : (rest.map fun v => v.category).sum ≤ 8) (hd : 6 ≤ d) (dd : decode cc pc = .ok (.invokevirtual idx, 3)) (k : G F Y X nL em (0, 0) (0, 0) (pc + 3) lv (.int (sidx e c) :: rest) (RepS F Y σ) o) : G F Y X nL em (0, 0) (0, 0) pc lv (.int c :: .ref (Y.2.2.1 e) :: rest) (RepS F Y σ) o := sorry
theorem q_slen (C : Cx F Y X cc nL own ret d (0, 0)) (lk : LkV own idx yJ0_length_8abf5 cJ0_length_8abf5 1 (some .int) 0) {e : Nat} (he : e < 9) (hW : (rest.map fun v => v.category).sum ≤ 8) (hd : 6 ≤ d) (dd : decode cc pc = .ok (.invokevirtual idx, 3)) (k : G F Y X nL em (0, 0) (0, 0) (pc + 3) lv (.int (nI (lenS.getD e 0)) :: rest) (RepS F Y σ) o) : G F Y X nL em (0, 0) (0, 0) pc lv (.ref (Y.2.2.1 e) :: rest) (RepS F Y σ) o := sorry
theorem q_schr (C : Cx F Y X cc nL own ret d (0, 0)) (lk : LkV own idx yJ0_charAt_5068e cJ0_charAt_5068e 2 (some .char) 1) {e : Nat} (he : e < 9) {i : Int32} (hi : inb i (lenS.getD e 0) = true) (hW : (rest.map fun v => v.category).sum ≤ 8) (hd : 6 ≤ d) (dd : decode cc pc = .ok (.invokevirtual idx, 3)) (k : G F Y X nL em (0, 0) (0, 0) (pc + 3) lv (.int (schr e i) :: rest) (RepS F Y σ) o) : G F Y X nL em (0, 0) (0, 0) pc lv (.int i :: .ref (Y.2.2.1 e) :: rest) (RepS F Y σ) o := sorry
end JROWS
