/-! String.length and String.charAt on the one constant, walked -/
abbrev cJ0_coder_7d493 : ByteArray := prog_23_method_152_code
def yJ0_coder_7d493 : MethodName := ⟨RJ0, "coder", "()B"⟩
theorem dJ0_coder_7d493_0 : decode cJ0_coder_7d493 0 = .ok (.getstatic 38, 3) := by decide +kernel
theorem dJ0_coder_7d493_3 : decode cJ0_coder_7d493 3 = .ok (.ifCond .eq 10, 3) := by decide +kernel
theorem dJ0_coder_7d493_6 : decode cJ0_coder_7d493 6 = .ok (.aload_n 0, 1) := by decide +kernel
theorem dJ0_coder_7d493_7 : decode cJ0_coder_7d493 7 = .ok (.getfield 15, 3) := by decide +kernel
theorem dJ0_coder_7d493_10 : decode cJ0_coder_7d493 10 = .ok (.goto 4, 3) := by decide +kernel
theorem dJ0_coder_7d493_13 : decode cJ0_coder_7d493 13 = .ok (.iconst 1, 1) := by decide +kernel
theorem dJ0_coder_7d493_14 : decode cJ0_coder_7d493 14 = .ok (.ireturn, 1) := by decide +kernel
abbrev cJ0_isLatin1_aae02 : ByteArray := prog_23_method_154_code
def yJ0_isLatin1_aae02 : MethodName := ⟨RJ0, "isLatin1", "()Z"⟩
theorem dJ0_isLatin1_aae02_0 : decode cJ0_isLatin1_aae02 0 = .ok (.getstatic 38, 3) := by decide +kernel
theorem dJ0_isLatin1_aae02_3 : decode cJ0_isLatin1_aae02 3 = .ok (.ifCond .eq 14, 3) := by decide +kernel
theorem dJ0_isLatin1_aae02_6 : decode cJ0_isLatin1_aae02 6 = .ok (.aload_n 0, 1) := by decide +kernel
theorem dJ0_isLatin1_aae02_7 : decode cJ0_isLatin1_aae02 7 = .ok (.getfield 15, 3) := by decide +kernel
theorem dJ0_isLatin1_aae02_10 : decode cJ0_isLatin1_aae02 10 = .ok (.ifCond .ne 7, 3) := by decide +kernel
theorem dJ0_isLatin1_aae02_13 : decode cJ0_isLatin1_aae02 13 = .ok (.iconst 1, 1) := by decide +kernel
theorem dJ0_isLatin1_aae02_14 : decode cJ0_isLatin1_aae02 14 = .ok (.goto 4, 3) := by decide +kernel
theorem dJ0_isLatin1_aae02_17 : decode cJ0_isLatin1_aae02 17 = .ok (.iconst 0, 1) := by decide +kernel
theorem dJ0_isLatin1_aae02_18 : decode cJ0_isLatin1_aae02 18 = .ok (.ireturn, 1) := by decide +kernel
abbrev cJ3_checkIndex_8e157 : ByteArray := prog_31_method_11_code
def yJ3_checkIndex_8e157 : MethodName := ⟨RJ3, "checkIndex", "(IILjava/util/function/BiFunction;)I"⟩
theorem dJ3_checkIndex_8e157_0 : decode cJ3_checkIndex_8e157 0 = .ok (.iload_n 0, 1) := by decide +kernel
theorem dJ3_checkIndex_8e157_1 : decode cJ3_checkIndex_8e157 1 = .ok (.ifCond .lt 8, 3) := by decide +kernel
theorem dJ3_checkIndex_8e157_4 : decode cJ3_checkIndex_8e157 4 = .ok (.iload_n 0, 1) := by decide +kernel
theorem dJ3_checkIndex_8e157_5 : decode cJ3_checkIndex_8e157 5 = .ok (.iload_n 1, 1) := by decide +kernel
theorem dJ3_checkIndex_8e157_6 : decode cJ3_checkIndex_8e157 6 = .ok (.if_icmp .lt 10, 3) := by decide +kernel
theorem dJ3_checkIndex_8e157_9 : decode cJ3_checkIndex_8e157 9 = .ok (.aload_n 2, 1) := by decide +kernel
theorem dJ3_checkIndex_8e157_10 : decode cJ3_checkIndex_8e157 10 = .ok (.iload_n 0, 1) := by decide +kernel
theorem dJ3_checkIndex_8e157_11 : decode cJ3_checkIndex_8e157 11 = .ok (.iload_n 1, 1) := by decide +kernel
theorem dJ3_checkIndex_8e157_12 : decode cJ3_checkIndex_8e157 12 = .ok (.invokestatic 95, 3) := by decide +kernel
theorem dJ3_checkIndex_8e157_15 : decode cJ3_checkIndex_8e157 15 = .ok (.athrow, 1) := by decide +kernel
theorem dJ3_checkIndex_8e157_16 : decode cJ3_checkIndex_8e157 16 = .ok (.iload_n 0, 1) := by decide +kernel
theorem dJ3_checkIndex_8e157_17 : decode cJ3_checkIndex_8e157 17 = .ok (.ireturn, 1) := by decide +kernel
abbrev cJ0_checkIndex_df160 : ByteArray := prog_23_method_155_code
def yJ0_checkIndex_df160 : MethodName := ⟨RJ0, "checkIndex", "(II)V"⟩
theorem dJ0_checkIndex_df160_0 : decode cJ0_checkIndex_df160 0 = .ok (.iload_n 0, 1) := by decide +kernel
theorem dJ0_checkIndex_df160_1 : decode cJ0_checkIndex_df160 1 = .ok (.iload_n 1, 1) := by decide +kernel
theorem dJ0_checkIndex_df160_2 : decode cJ0_checkIndex_df160 2 = .ok (.getstatic 1053, 3) := by decide +kernel
theorem dJ0_checkIndex_df160_5 : decode cJ0_checkIndex_df160 5 = .ok (.invokestatic 1059, 3) := by decide +kernel
theorem dJ0_checkIndex_df160_8 : decode cJ0_checkIndex_df160 8 = .ok (.pop, 1) := by decide +kernel
theorem dJ0_checkIndex_df160_9 : decode cJ0_checkIndex_df160 9 = .ok (.return_, 1) := by decide +kernel
abbrev cJ1_charAt_3b067 : ByteArray := prog_24_method_2_code
def yJ1_charAt_3b067 : MethodName := ⟨RJ1, "charAt", "([BI)C"⟩
theorem dJ1_charAt_3b067_0 : decode cJ1_charAt_3b067 0 = .ok (.iload_n 1, 1) := by decide +kernel
theorem dJ1_charAt_3b067_1 : decode cJ1_charAt_3b067 1 = .ok (.aload_n 0, 1) := by decide +kernel
theorem dJ1_charAt_3b067_2 : decode cJ1_charAt_3b067 2 = .ok (.arraylength, 1) := by decide +kernel
theorem dJ1_charAt_3b067_3 : decode cJ1_charAt_3b067 3 = .ok (.invokestatic 9, 3) := by decide +kernel
theorem dJ1_charAt_3b067_6 : decode cJ1_charAt_3b067 6 = .ok (.aload_n 0, 1) := by decide +kernel
theorem dJ1_charAt_3b067_7 : decode cJ1_charAt_3b067 7 = .ok (.iload_n 1, 1) := by decide +kernel
theorem dJ1_charAt_3b067_8 : decode cJ1_charAt_3b067 8 = .ok (.baload, 1) := by decide +kernel
theorem dJ1_charAt_3b067_9 : decode cJ1_charAt_3b067 9 = .ok (.sipush 255, 3) := by decide +kernel
theorem dJ1_charAt_3b067_12 : decode cJ1_charAt_3b067 12 = .ok (.iand, 1) := by decide +kernel
theorem dJ1_charAt_3b067_13 : decode cJ1_charAt_3b067 13 = .ok (.i2c, 1) := by decide +kernel
theorem dJ1_charAt_3b067_14 : decode cJ1_charAt_3b067 14 = .ok (.ireturn, 1) := by decide +kernel
theorem dJ0_charAt_5068e_0 : decode cJ0_charAt_5068e 0 = .ok (.aload_n 0, 1) := by decide +kernel
theorem dJ0_charAt_5068e_1 : decode cJ0_charAt_5068e 1 = .ok (.invokevirtual 492, 3) := by decide +kernel
theorem dJ0_charAt_5068e_4 : decode cJ0_charAt_5068e 4 = .ok (.ifCond .eq 12, 3) := by decide +kernel
theorem dJ0_charAt_5068e_7 : decode cJ0_charAt_5068e 7 = .ok (.aload_n 0, 1) := by decide +kernel
theorem dJ0_charAt_5068e_8 : decode cJ0_charAt_5068e 8 = .ok (.getfield 9, 3) := by decide +kernel
theorem dJ0_charAt_5068e_11 : decode cJ0_charAt_5068e 11 = .ok (.iload_n 1, 1) := by decide +kernel
theorem dJ0_charAt_5068e_12 : decode cJ0_charAt_5068e 12 = .ok (.invokestatic 495, 3) := by decide +kernel
theorem dJ0_charAt_5068e_15 : decode cJ0_charAt_5068e 15 = .ok (.ireturn, 1) := by decide +kernel
theorem dJ0_charAt_5068e_16 : decode cJ0_charAt_5068e 16 = .ok (.aload_n 0, 1) := by decide +kernel
theorem dJ0_charAt_5068e_17 : decode cJ0_charAt_5068e 17 = .ok (.getfield 9, 3) := by decide +kernel
theorem dJ0_charAt_5068e_20 : decode cJ0_charAt_5068e 20 = .ok (.iload_n 1, 1) := by decide +kernel
theorem dJ0_charAt_5068e_21 : decode cJ0_charAt_5068e 21 = .ok (.invokestatic 498, 3) := by decide +kernel
theorem dJ0_charAt_5068e_24 : decode cJ0_charAt_5068e 24 = .ok (.ireturn, 1) := by decide +kernel
theorem dJ0_length_8abf5_0 : decode cJ0_length_8abf5 0 = .ok (.aload_n 0, 1) := by decide +kernel
theorem dJ0_length_8abf5_1 : decode cJ0_length_8abf5 1 = .ok (.getfield 9, 3) := by decide +kernel
theorem dJ0_length_8abf5_4 : decode cJ0_length_8abf5 4 = .ok (.arraylength, 1) := by decide +kernel
theorem dJ0_length_8abf5_5 : decode cJ0_length_8abf5 5 = .ok (.aload_n 0, 1) := by decide +kernel
theorem dJ0_length_8abf5_6 : decode cJ0_length_8abf5 6 = .ok (.invokevirtual 335, 3) := by decide +kernel
theorem dJ0_length_8abf5_9 : decode cJ0_length_8abf5 9 = .ok (.ishr, 1) := by decide +kernel
theorem dJ0_length_8abf5_10 : decode cJ0_length_8abf5 10 = .ok (.ireturn, 1) := by decide +kernel
theorem jw_code_co : Cond.code yJ0_coder_7d493 cJ0_coder_7d493 1 (some .byte) ∈ ww_ := hw_ok (i := 166) (by decide +kernel)
theorem jw_in_co : Cond.instanceMethod yJ0_coder_7d493 ∈ ww_ := hw_ok (i := 164) (by decide +kernel)
theorem jw_se_co : Cond.selects RJ0 yJ0_coder_7d493 yJ0_coder_7d493 ∈ ww_ := hw_ok (i := 165) (by decide +kernel)
theorem jw_code_la : Cond.code yJ0_isLatin1_aae02 cJ0_isLatin1_aae02 1 (some .boolean) ∈ ww_ := hw_ok (i := 176) (by decide +kernel)
theorem jw_in_la : Cond.instanceMethod yJ0_isLatin1_aae02 ∈ ww_ := hw_ok (i := 174) (by decide +kernel)
theorem jw_se_la : Cond.selects RJ0 yJ0_isLatin1_aae02 yJ0_isLatin1_aae02 ∈ ww_ := hw_ok (i := 175) (by decide +kernel)
theorem jw_code_k3 : Cond.code yJ3_checkIndex_8e157 cJ3_checkIndex_8e157 3 (some .int) ∈ ww_ := hw_ok (i := 187) (by decide +kernel)
theorem jw_st_k3 : Cond.static yJ3_checkIndex_8e157 ∈ ww_ := hw_ok (i := 186) (by decide +kernel)
theorem jw_code_k0 : Cond.code yJ0_checkIndex_df160 cJ0_checkIndex_df160 2 none ∈ ww_ := hw_ok (i := 182) (by decide +kernel)
theorem jw_st_k0 : Cond.static yJ0_checkIndex_df160 ∈ ww_ := hw_ok (i := 181) (by decide +kernel)
theorem jw_code_c1 : Cond.code yJ1_charAt_3b067 cJ1_charAt_3b067 2 (some .char) ∈ ww_ := hw_ok (i := 179) (by decide +kernel)
theorem jw_st_c1 : Cond.static yJ1_charAt_3b067 ∈ ww_ := hw_ok (i := 178) (by decide +kernel)
theorem jw_code_ca : Cond.code yJ0_charAt_5068e cJ0_charAt_5068e 2 (some .char) ∈ ww_ := hw_ok (i := 172) (by decide +kernel)
theorem jw_in_ca : Cond.instanceMethod yJ0_charAt_5068e ∈ ww_ := hw_ok (i := 170) (by decide +kernel)
theorem jw_se_ca : Cond.selects RJ0 yJ0_charAt_5068e yJ0_charAt_5068e ∈ ww_ := hw_ok (i := 171) (by decide +kernel)
theorem jw_code_le : Cond.code yJ0_length_8abf5 cJ0_length_8abf5 1 (some .int) ∈ ww_ := hw_ok (i := 162) (by decide +kernel)
theorem jw_in_le : Cond.instanceMethod yJ0_length_8abf5 ∈ ww_ := hw_ok (i := 160) (by decide +kernel)
theorem jw_se_le : Cond.selects RJ0 yJ0_length_8abf5 yJ0_length_8abf5 ∈ ww_ := hw_ok (i := 161) (by decide +kernel)
theorem jw_ini_RJ0 : Cond.initialized RJ0 ∈ ww_ := hw_ok (i := 4) (by decide +kernel)
theorem jw_ini_RJ1 : Cond.initialized RJ1 ∈ ww_ := hw_ok (i := 5) (by decide +kernel)
theorem jw_ini_RJ3 : Cond.initialized RJ3 ∈ ww_ := hw_ok (i := 6) (by decide +kernel)
theorem jw_cs : Cond.fieldLink RJ0 38 "java/lang/String" "COMPACT_STRINGS" "Z" ∈ ww_ := hw_ok (i := 167) (by decide +kernel)
theorem jw_cod : Cond.fieldLink RJ0 15 "java/lang/String" "coder" "B" ∈ ww_ := hw_ok (i := 1965) (by decide +kernel)
theorem jw_val : Cond.fieldLink RJ0 9 "java/lang/String" "value" "[B" ∈ ww_ := hw_ok (i := 1964) (by decide +kernel)
theorem jw_sio : Cond.fieldLink RJ0 1053 "jdk/internal/util/Preconditions" "SIOOBE_FORMATTER" "Ljava/util/function/BiFunction;" ∈ ww_ := hw_ok (i := 183) (by decide +kernel)
theorem jw_l_co : Cond.methodLink RJ0 335 yJ0_coder_7d493 ∈ ww_ := hw_ok (i := 163) (by decide +kernel)
theorem jw_l_la : Cond.methodLink RJ0 492 yJ0_isLatin1_aae02 ∈ ww_ := hw_ok (i := 173) (by decide +kernel)
theorem jw_l_c1 : Cond.methodLink RJ0 495 yJ1_charAt_3b067 ∈ ww_ := hw_ok (i := 177) (by decide +kernel)
theorem jw_l_k0 : Cond.methodLink RJ1 9 yJ0_checkIndex_df160 ∈ ww_ := hw_ok (i := 180) (by decide +kernel)
theorem jw_l_k3 : Cond.methodLink RJ0 1059 yJ3_checkIndex_8e157 ∈ ww_ := hw_ok (i := 185) (by decide +kernel)
theorem ch_i2c : ∀ k : Fin 48, (((Int32.ofInt (lng_ ((k : Nat) : Int))) &&& 255).toUInt32 % 65536).toInt32 = Int32.ofInt (lng_ ((k : Nat) : Int)) := by decide +kernel
theorem ch_nar : ∀ k : Fin 48, narrow .char (.int (Int32.ofInt (lng_ ((k : Nat) : Int)))) = .int (Int32.ofInt (lng_ ((k : Nat) : Int))) := by decide +kernel
/-- the contract's shape: the heap stays as it is -/
abbrev JQ (z : Nat) (Hf : Heap) (v : Int32) : Array Value → State → Outcome → State → Prop := va_Qi (fun r (_ : Unit) => r = v) (fun _ t => t.heap = Hf) (AAz z)
abbrev JP (z u v : Nat) (Hf : Heap) (As : List Value) : Array Value → State → Prop := va_Pc As (fun U => U.heap = Hf ∧ KS z u v U U.heap)
theorem jblind (z u v : Nat) (Hf : Heap) (As : List Value) : FrameBlind (JP z u v Hf As) := by
  intro a U g mk q
  obtain ⟨q0, q1, q2⟩ := q
  exact ⟨q0, q1, q2.moved (V := U.calling g mk a) (State.WarmedH.refl U) (fun _ _ _ => rfl)⟩
theorem jgood {y : MethodName} {cc : ByteArray} {n : Nat} {r : Option FieldType} (h : Cond.code y cc n r ∈ ww_) : GoodIn ww_ (Cond.code y cc n r :: ww_) := by
  intro w hw
  have hw2 : w ∈ ww_ := by
    rcases List.mem_cons.mp hw with q | q
    · rw [q]; exact h
    · exact q
  exact ⟨hw2, good_of_word (List.mem_filter.mp hw2).2⟩
set_option maxRecDepth 20000 in
theorem js_co (l : Launch) (z u v : Nat) (Hf : Heap) : Met l yJ0_coder_7d493 (.code yJ0_coder_7d493 cJ0_coder_7d493 1 (some .byte) :: ww_) { frames := 0, cells := 0, slots := 0, locals := 0 } (JP z u v Hf [.ref u]) (JQ z Hf 0) 0 0 (AAz z) := by
  refine Met.ofW (cc := cJ0_coder_7d493) (maxL := 1) (ret := (some .byte)) (by decide) rfl ?_
  intro p e s m args below meth c s₁ Bd hml hv
  obtain ⟨rfl, hH, hKS⟩ := hv
  have hx := Bd.exec
  have hb := Bd.bytes
  have hr := Bd.returns
  have hts0 := atoms_spec (ws := Cond.code yJ0_coder_7d493 cJ0_coder_7d493 1 (some .byte) :: ww_) Bd.pre
  have hts : ∀ w ∈ ww_, w.before ([.ref u] : List Value).toArray s = true := fun w hw => hts0 w (List.mem_cons_of_mem _ hw)
  have hown : s.vm.findClass RJ0 = some m.cls := findClass_of_methodNamed Bd.named
  have hlocks := Bd.notSynchronized
  subst hH
  have hS : va_S (AAz z) s.heap s.heap [] := va_S.rf
  have hl := lv_entry ([.ref u] : List Value) (n := 1) (Nat.le_of_ble_eq_true rfl)
  rw [lg_entry_eq]
  generalize (lg_sl ([.ref u] : List Value) ++ List.replicate (1 - (lg_sl ([.ref u] : List Value)).length) Slot.unset).toArray = ls at hl ⊢
  have hl : lv_has ls 1 [(0, .ref u)] := hl
  have hpc : ∀ (As : List Value) (U : State), U.heap = s.heap → s.WarmedH U.vm → JP z u v s.heap As As.toArray U := fun As U hU hW => ⟨rfl, hU, by rw [hU]; exact hKS.moved hW (fun _ _ _ => rfl)⟩
  refine va_gets hx hb hKS.1 hS hown (hts _ jw_cs) (fun _ h => h) dJ0_coder_7d493_0 ?_
  refine lv_if_eq (tgt := 13) hx hb dJ0_coder_7d493_3 rfl (fun q => absurd q (by decide)) (fun _ => ?_)
  refine lv_aload_n hx hb dJ0_coder_7d493_6 rfl (lv_at hl 0 rfl) ?_
  refine vk_getf hx hb hKS.2.2.2.1 hS hown (hts _ jw_cod) (fun _ h => h) dJ0_coder_7d493_7 ?_
  refine lv_goto (tgt := 14) hx hb dJ0_coder_7d493_10 rfl ?_
  exact W.zret hx hb hr rfl (fun t ht hW => ⟨⟨0, (), rfl, rfl, ht⟩, hS.F ht⟩) hS.2.2 dJ0_coder_7d493_14
set_option maxRecDepth 20000 in
theorem js_la (l : Launch) (z u v : Nat) (Hf : Heap) : Met l yJ0_isLatin1_aae02 (.code yJ0_isLatin1_aae02 cJ0_isLatin1_aae02 1 (some .boolean) :: ww_) { frames := 0, cells := 0, slots := 0, locals := 0 } (JP z u v Hf [.ref u]) (JQ z Hf 1) 0 0 (AAz z) := by
  refine Met.ofW (cc := cJ0_isLatin1_aae02) (maxL := 1) (ret := (some .boolean)) (by decide) rfl ?_
  intro p e s m args below meth c s₁ Bd hml hv
  obtain ⟨rfl, hH, hKS⟩ := hv
  have hx := Bd.exec
  have hb := Bd.bytes
  have hr := Bd.returns
  have hts0 := atoms_spec (ws := Cond.code yJ0_isLatin1_aae02 cJ0_isLatin1_aae02 1 (some .boolean) :: ww_) Bd.pre
  have hts : ∀ w ∈ ww_, w.before ([.ref u] : List Value).toArray s = true := fun w hw => hts0 w (List.mem_cons_of_mem _ hw)
  have hown : s.vm.findClass RJ0 = some m.cls := findClass_of_methodNamed Bd.named
  have hlocks := Bd.notSynchronized
  subst hH
  have hS : va_S (AAz z) s.heap s.heap [] := va_S.rf
  have hl := lv_entry ([.ref u] : List Value) (n := 1) (Nat.le_of_ble_eq_true rfl)
  rw [lg_entry_eq]
  generalize (lg_sl ([.ref u] : List Value) ++ List.replicate (1 - (lg_sl ([.ref u] : List Value)).length) Slot.unset).toArray = ls at hl ⊢
  have hl : lv_has ls 1 [(0, .ref u)] := hl
  have hpc : ∀ (As : List Value) (U : State), U.heap = s.heap → s.WarmedH U.vm → JP z u v s.heap As As.toArray U := fun As U hU hW => ⟨rfl, hU, by rw [hU]; exact hKS.moved hW (fun _ _ _ => rfl)⟩
  refine va_gets hx hb hKS.1 hS hown (hts _ jw_cs) (fun _ h => h) dJ0_isLatin1_aae02_0 ?_
  refine lv_if_eq (tgt := 17) hx hb dJ0_isLatin1_aae02_3 rfl (fun q => absurd q (by decide)) (fun _ => ?_)
  refine lv_aload_n hx hb dJ0_isLatin1_aae02_6 rfl (lv_at hl 0 rfl) ?_
  refine vk_getf hx hb hKS.2.2.2.1 hS hown (hts _ jw_cod) (fun _ h => h) dJ0_isLatin1_aae02_7 ?_
  refine lv_if_ne (tgt := 17) hx hb dJ0_isLatin1_aae02_10 rfl (fun q => absurd rfl q) (fun _ => ?_)
  refine lv_iconst hx hb dJ0_isLatin1_aae02_13 rfl ?_
  refine lv_goto (tgt := 18) hx hb dJ0_isLatin1_aae02_14 rfl ?_
  exact W.zret hx hb hr rfl (fun t ht hW => ⟨⟨1, (), rfl, rfl, ht⟩, hS.F ht⟩) hS.2.2 dJ0_isLatin1_aae02_18
set_option maxRecDepth 20000 in
theorem js_k3 (l : Launch) (z u v : Nat) (Hf : Heap) (q : Nat) (x y : Int32) (h1 : ¬ x < 0) (h2 : x < y) : Met l yJ3_checkIndex_8e157 (.code yJ3_checkIndex_8e157 cJ3_checkIndex_8e157 3 (some .int) :: ww_) { frames := 0, cells := 0, slots := 0, locals := 0 } (JP z u v Hf [.int x, .int y, .ref q]) (JQ z Hf x) 0 0 (AAz z) := by
  refine Met.ofW (cc := cJ3_checkIndex_8e157) (maxL := 3) (ret := (some .int)) (by decide) rfl ?_
  intro p e s m args below meth c s₁ Bd hml hv
  obtain ⟨rfl, hH, hKS⟩ := hv
  have hx := Bd.exec
  have hb := Bd.bytes
  have hr := Bd.returns
  have hts0 := atoms_spec (ws := Cond.code yJ3_checkIndex_8e157 cJ3_checkIndex_8e157 3 (some .int) :: ww_) Bd.pre
  have hts : ∀ w ∈ ww_, w.before ([.int x, .int y, .ref q] : List Value).toArray s = true := fun w hw => hts0 w (List.mem_cons_of_mem _ hw)
  have hown : s.vm.findClass RJ3 = some m.cls := findClass_of_methodNamed Bd.named
  have hlocks := Bd.notSynchronized
  subst hH
  have hS : va_S (AAz z) s.heap s.heap [] := va_S.rf
  have hl := lv_entry ([.int x, .int y, .ref q] : List Value) (n := 3) (Nat.le_of_ble_eq_true rfl)
  rw [lg_entry_eq]
  generalize (lg_sl ([.int x, .int y, .ref q] : List Value) ++ List.replicate (3 - (lg_sl ([.int x, .int y, .ref q] : List Value)).length) Slot.unset).toArray = ls at hl ⊢
  have hl : lv_has ls 3 [(0, .int x), (1, .int y), (2, .ref q)] := hl
  have hpc : ∀ (As : List Value) (U : State), U.heap = s.heap → s.WarmedH U.vm → JP z u v s.heap As As.toArray U := fun As U hU hW => ⟨rfl, hU, by rw [hU]; exact hKS.moved hW (fun _ _ _ => rfl)⟩
  refine lv_iload_n hx hb dJ3_checkIndex_8e157_0 rfl (lv_at hl 0 rfl) ?_
  refine lv_if_lt (tgt := 9) hx hb dJ3_checkIndex_8e157_1 rfl (fun w => absurd w h1) (fun _ => ?_)
  refine lv_iload_n hx hb dJ3_checkIndex_8e157_4 rfl (lv_at hl 0 rfl) ?_
  refine lv_iload_n hx hb dJ3_checkIndex_8e157_5 rfl (lv_at hl 1 rfl) ?_
  refine lv_icmp_lt (tgt := 16) hx hb dJ3_checkIndex_8e157_6 rfl (fun _ => ?_) (fun w => absurd h2 w)
  refine lv_iload_n hx hb dJ3_checkIndex_8e157_16 rfl (lv_at hl 0 rfl) ?_
  exact W.iret hx hb hr (fun t ht hW => ⟨⟨x, (), rfl, rfl, ht⟩, hS.F ht⟩) hS.2.2 dJ3_checkIndex_8e157_17
set_option maxRecDepth 20000 in
theorem js_k3n (l : Launch) (z u v : Nat) (Hf : Heap) (x y : Int32) (h1 : ¬ x < 0) (h2 : x < y) : Met l yJ3_checkIndex_8e157 (.code yJ3_checkIndex_8e157 cJ3_checkIndex_8e157 3 (some .int) :: ww_) { frames := 0, cells := 0, slots := 0, locals := 0 } (JP z u v Hf [.int x, .int y, .null]) (JQ z Hf x) 0 0 (AAz z) := by
  refine Met.ofW (cc := cJ3_checkIndex_8e157) (maxL := 3) (ret := (some .int)) (by decide) rfl ?_
  intro p e s m args below meth c s₁ Bd hml hv
  obtain ⟨rfl, hH, hKS⟩ := hv
  have hx := Bd.exec
  have hb := Bd.bytes
  have hr := Bd.returns
  have hts0 := atoms_spec (ws := Cond.code yJ3_checkIndex_8e157 cJ3_checkIndex_8e157 3 (some .int) :: ww_) Bd.pre
  have hts : ∀ w ∈ ww_, w.before ([.int x, .int y, .null] : List Value).toArray s = true := fun w hw => hts0 w (List.mem_cons_of_mem _ hw)
  have hown : s.vm.findClass RJ3 = some m.cls := findClass_of_methodNamed Bd.named
  have hlocks := Bd.notSynchronized
  subst hH
  have hS : va_S (AAz z) s.heap s.heap [] := va_S.rf
  have hl := lv_entry ([.int x, .int y, .null] : List Value) (n := 3) (Nat.le_of_ble_eq_true rfl)
  rw [lg_entry_eq]
  generalize (lg_sl ([.int x, .int y, .null] : List Value) ++ List.replicate (3 - (lg_sl ([.int x, .int y, .null] : List Value)).length) Slot.unset).toArray = ls at hl ⊢
  have hl : lv_has ls 3 [(0, .int x), (1, .int y), (2, .null)] := hl
  have hpc : ∀ (As : List Value) (U : State), U.heap = s.heap → s.WarmedH U.vm → JP z u v s.heap As As.toArray U := fun As U hU hW => ⟨rfl, hU, by rw [hU]; exact hKS.moved hW (fun _ _ _ => rfl)⟩
  refine lv_iload_n hx hb dJ3_checkIndex_8e157_0 rfl (lv_at hl 0 rfl) ?_
  refine lv_if_lt (tgt := 9) hx hb dJ3_checkIndex_8e157_1 rfl (fun w => absurd w h1) (fun _ => ?_)
  refine lv_iload_n hx hb dJ3_checkIndex_8e157_4 rfl (lv_at hl 0 rfl) ?_
  refine lv_iload_n hx hb dJ3_checkIndex_8e157_5 rfl (lv_at hl 1 rfl) ?_
  refine lv_icmp_lt (tgt := 16) hx hb dJ3_checkIndex_8e157_6 rfl (fun _ => ?_) (fun w => absurd h2 w)
  refine lv_iload_n hx hb dJ3_checkIndex_8e157_16 rfl (lv_at hl 0 rfl) ?_
  exact W.iret hx hb hr (fun t ht hW => ⟨⟨x, (), rfl, rfl, ht⟩, hS.F ht⟩) hS.2.2 dJ3_checkIndex_8e157_17
set_option maxRecDepth 20000 in
theorem js_k0 (l : Launch) (z u v : Nat) (Hf : Heap) (x y : Int32) (h1 : ¬ x < 0) (h2 : x < y) : Met l yJ0_checkIndex_df160 (.code yJ0_checkIndex_df160 cJ0_checkIndex_df160 2 none :: ww_) { frames := 1, cells := 0, slots := 0, locals := 22 } (JP z u v Hf [.int x, .int y]) (va_Qv (fun _ : Unit => True) (fun _ t => t.heap = Hf) (AAz z)) 0 0 (AAz z) := by
  refine Met.ofW (cc := cJ0_checkIndex_df160) (maxL := 2) (ret := none) (by decide) rfl ?_
  intro p e s m args below meth c s₁ Bd hml hv
  obtain ⟨rfl, hH, hKS⟩ := hv
  have hx := Bd.exec
  have hb := Bd.bytes
  have hr := Bd.returns
  have hts0 := atoms_spec (ws := Cond.code yJ0_checkIndex_df160 cJ0_checkIndex_df160 2 none :: ww_) Bd.pre
  have hts : ∀ w ∈ ww_, w.before ([.int x, .int y] : List Value).toArray s = true := fun w hw => hts0 w (List.mem_cons_of_mem _ hw)
  have hown : s.vm.findClass RJ0 = some m.cls := findClass_of_methodNamed Bd.named
  have hlocks := Bd.notSynchronized
  subst hH
  have hS : va_S (AAz z) s.heap s.heap [] := va_S.rf
  have hl := lv_entry ([.int x, .int y] : List Value) (n := 2) (Nat.le_of_ble_eq_true rfl)
  rw [lg_entry_eq]
  generalize (lg_sl ([.int x, .int y] : List Value) ++ List.replicate (2 - (lg_sl ([.int x, .int y] : List Value)).length) Slot.unset).toArray = ls at hl ⊢
  have hl : lv_has ls 2 [(0, .int x), (1, .int y)] := hl
  have hpc : ∀ (As : List Value) (U : State), U.heap = s.heap → s.WarmedH U.vm → JP z u v s.heap As As.toArray U := fun As U hU hW => ⟨rfl, hU, by rw [hU]; exact hKS.moved hW (fun _ _ _ => rfl)⟩
  obtain ⟨w, hw0, hq⟩ := hKS.2.1
  rcases hw0 with rfl | ⟨q, rfl⟩
  · skip
    refine lv_iload_n hx hb dJ0_checkIndex_df160_0 rfl (lv_at hl 0 rfl) ?_
    refine lv_iload_n hx hb dJ0_checkIndex_df160_1 rfl (lv_at hl 1 rfl) ?_
    refine va_gets hx hb hq hS hown (hts _ jw_sio) (fun _ h => h) dJ0_checkIndex_df160_2 ?_
    refine va_calli (a := ([.int x, .int y, .null] : List Value).toArray) (va_runS (As := [.int x, .int y, .null]) (rest := []) ⟨hx, hb, hml, hown, hts⟩ (js_k3n l z u v s.heap x y h1 h2) ⟨callB_of 3 hts (jgood jw_code_k3) rfl rfl rfl (hts _ jw_ini_RJ3) (hts _ jw_l_k3) (by decide) ⟨Nat.le_of_ble_eq_true rfl, Nat.le_of_ble_eq_true rfl⟩, hts _ jw_st_k3⟩ ⟨jblind z u v s.heap _, fun U => hpc _ U⟩ rfl rfl hl.1 rfl (lv_room (Nat.le_of_ble_eq_true rfl)) dJ0_checkIndex_df160_5 ⟨Nat.zero_le _, Nat.zero_le _⟩) hS (fun _ _ h => h) (fun _ h => h) (fun r _ t H1 locs ht _ hr1 hB _ _ hS => ?_)
    have hH1 : H1 = s.heap := ht.symm.trans hB
    subst hH1
    refine lv_pop hx hb dJ0_checkIndex_df160_8 rfl ?_
    exact W.vret hx hb hr (fun t ht hW => ⟨⟨(), rfl, trivial, ht⟩, hS.F ht⟩) hS.2.2 dJ0_checkIndex_df160_9
  · skip
    refine lv_iload_n hx hb dJ0_checkIndex_df160_0 rfl (lv_at hl 0 rfl) ?_
    refine lv_iload_n hx hb dJ0_checkIndex_df160_1 rfl (lv_at hl 1 rfl) ?_
    refine va_gets hx hb hq hS hown (hts _ jw_sio) (fun _ h => h) dJ0_checkIndex_df160_2 ?_
    refine va_calli (a := ([.int x, .int y, .ref q] : List Value).toArray) (va_runS (As := [.int x, .int y, .ref q]) (rest := []) ⟨hx, hb, hml, hown, hts⟩ (js_k3 l z u v s.heap q x y h1 h2) ⟨callB_of 3 hts (jgood jw_code_k3) rfl rfl rfl (hts _ jw_ini_RJ3) (hts _ jw_l_k3) (by decide) ⟨Nat.le_of_ble_eq_true rfl, Nat.le_of_ble_eq_true rfl⟩, hts _ jw_st_k3⟩ ⟨jblind z u v s.heap _, fun U => hpc _ U⟩ rfl rfl hl.1 rfl (lv_room (Nat.le_of_ble_eq_true rfl)) dJ0_checkIndex_df160_5 ⟨Nat.zero_le _, Nat.zero_le _⟩) hS (fun _ _ h => h) (fun _ h => h) (fun r _ t H1 locs ht _ hr1 hB _ _ hS => ?_)
    have hH1 : H1 = s.heap := ht.symm.trans hB
    subst hH1
    refine lv_pop hx hb dJ0_checkIndex_df160_8 rfl ?_
    exact W.vret hx hb hr (fun t ht hW => ⟨⟨(), rfl, trivial, ht⟩, hS.F ht⟩) hS.2.2 dJ0_checkIndex_df160_9
set_option maxRecDepth 20000 in
theorem js_c1 (l : Launch) (z u v : Nat) (Hf : Heap) (k : Nat) (hk : k < 48) : Met l yJ1_charAt_3b067 (.code yJ1_charAt_3b067 cJ1_charAt_3b067 2 (some .char) :: ww_) { frames := 2, cells := 0, slots := 0, locals := 43 } (JP z u v Hf [.ref v, .int (Int32.ofInt (k : Int))]) (JQ z Hf (Int32.ofInt (lng_ (k : Int)))) 0 0 (AAz z) := by
  refine Met.ofW (cc := cJ1_charAt_3b067) (maxL := 2) (ret := (some .char)) (by decide) rfl ?_
  intro p e s m args below meth c s₁ Bd hml hv
  obtain ⟨rfl, hH, hKS⟩ := hv
  have hx := Bd.exec
  have hb := Bd.bytes
  have hr := Bd.returns
  have hts0 := atoms_spec (ws := Cond.code yJ1_charAt_3b067 cJ1_charAt_3b067 2 (some .char) :: ww_) Bd.pre
  have hts : ∀ w ∈ ww_, w.before ([.ref v, .int (Int32.ofInt (k : Int))] : List Value).toArray s = true := fun w hw => hts0 w (List.mem_cons_of_mem _ hw)
  have hown : s.vm.findClass RJ1 = some m.cls := findClass_of_methodNamed Bd.named
  have hlocks := Bd.notSynchronized
  subst hH
  have hS : va_S (AAz z) s.heap s.heap [] := va_S.rf
  have hl := lv_entry ([.ref v, .int (Int32.ofInt (k : Int))] : List Value) (n := 2) (Nat.le_of_ble_eq_true rfl)
  rw [lg_entry_eq]
  generalize (lg_sl ([.ref v, .int (Int32.ofInt (k : Int))] : List Value) ++ List.replicate (2 - (lg_sl ([.ref v, .int (Int32.ofInt (k : Int))] : List Value)).length) Slot.unset).toArray = ls at hl ⊢
  have hl : lv_has ls 2 [(0, .ref v), (1, .int (Int32.ofInt (k : Int)))] := hl
  have hpc : ∀ (As : List Value) (U : State), U.heap = s.heap → s.WarmedH U.vm → JP z u v s.heap As As.toArray U := fun As U hU hW => ⟨rfl, hU, by rw [hU]; exact hKS.moved hW (fun _ _ _ => rfl)⟩
  have hix := i_ix (i := (k : Int)) (n := 48) (by omega) (by omega) (by decide)
  have hi : inI (k : Int) := ⟨by omega, by omega⟩
  have h1 : ¬ Int32.ofInt (k : Int) < 0 := fun w => by have := (i_lt hi i_0).mp w; omega
  have h2 : Int32.ofInt (k : Int) < 48 := (i_lt hi (y := 48) ⟨by omega, by omega⟩).mpr (by omega)
  refine lv_iload_n hx hb dJ1_charAt_3b067_0 rfl (lv_at hl 1 rfl) ?_
  refine lv_aload_n hx hb dJ1_charAt_3b067_1 rfl (lv_at hl 0 rfl) ?_
  refine va_tlen hx hb hKS.2.2.2.2.2 hS (v := 48) rfl dJ1_charAt_3b067_2 ?_
  refine va_callv (a := ([.int (Int32.ofInt (k : Int)), .int 48] : List Value).toArray) (va_runS (As := [.int (Int32.ofInt (k : Int)), .int 48]) (rest := []) ⟨hx, hb, hml, hown, hts⟩ (js_k0 l z u v s.heap (Int32.ofInt (k : Int)) 48 h1 h2) ⟨callB_of 2 hts (jgood jw_code_k0) rfl rfl rfl (hts _ jw_ini_RJ0) (hts _ jw_l_k0) (by decide) ⟨Nat.le_of_ble_eq_true rfl, Nat.le_of_ble_eq_true rfl⟩, hts _ jw_st_k0⟩ ⟨jblind z u v s.heap _, fun U => hpc _ U⟩ rfl rfl hl.1 rfl (lv_room (Nat.le_of_ble_eq_true rfl)) dJ1_charAt_3b067_3 ⟨Nat.zero_le _, Nat.zero_le _⟩) hS (fun _ _ h => h) (fun _ h => h) (fun _ t H1 locs ht _ _ hB _ _ hS => ?_)
  have hH1 : H1 = s.heap := ht.symm.trans hB
  subst hH1
  refine lv_aload_n hx hb dJ1_charAt_3b067_6 rfl (lv_at hl 0 rfl) ?_
  refine lv_iload_n hx hb dJ1_charAt_3b067_7 rfl (lv_at hl 1 rfl) ?_
  refine va_tb hx hb hKS.2.2.2.2.2 hS hix.1 (v := .int (Int32.ofInt (lng_ (k : Int)))) (by rw [hix.2, Int.toNat_natCast]) dJ1_charAt_3b067_8 ?_
  refine lv_sipush hx hb dJ1_charAt_3b067_9 (v := 255) rfl ?_
  refine lv_iand hx hb dJ1_charAt_3b067_12 ?_
  refine lv_i2c hx hb dJ1_charAt_3b067_13 (ch_i2c ⟨k, hk⟩) ?_
  exact W.zret hx hb hr (ch_nar ⟨k, hk⟩) (fun t ht hW => ⟨⟨_, (), rfl, rfl, ht⟩, hS.F ht⟩) hS.2.2 dJ1_charAt_3b067_14
set_option maxRecDepth 20000 in
theorem js_ca (l : Launch) (z u v : Nat) (Hf : Heap) (k : Nat) (hk : k < 48) : Met l yJ0_charAt_5068e (.code yJ0_charAt_5068e cJ0_charAt_5068e 2 (some .char) :: ww_) { frames := 3, cells := 0, slots := 0, locals := 64 } (JP z u v Hf [.ref u, .int (Int32.ofInt (k : Int))]) (JQ z Hf (Int32.ofInt (lng_ (k : Int)))) 0 0 (AAz z) := by
  refine Met.ofW (cc := cJ0_charAt_5068e) (maxL := 2) (ret := (some .char)) (by decide) rfl ?_
  intro p e s m args below meth c s₁ Bd hml hv
  obtain ⟨rfl, hH, hKS⟩ := hv
  have hx := Bd.exec
  have hb := Bd.bytes
  have hr := Bd.returns
  have hts0 := atoms_spec (ws := Cond.code yJ0_charAt_5068e cJ0_charAt_5068e 2 (some .char) :: ww_) Bd.pre
  have hts : ∀ w ∈ ww_, w.before ([.ref u, .int (Int32.ofInt (k : Int))] : List Value).toArray s = true := fun w hw => hts0 w (List.mem_cons_of_mem _ hw)
  have hown : s.vm.findClass RJ0 = some m.cls := findClass_of_methodNamed Bd.named
  have hlocks := Bd.notSynchronized
  subst hH
  have hS : va_S (AAz z) s.heap s.heap [] := va_S.rf
  have hl := lv_entry ([.ref u, .int (Int32.ofInt (k : Int))] : List Value) (n := 2) (Nat.le_of_ble_eq_true rfl)
  rw [lg_entry_eq]
  generalize (lg_sl ([.ref u, .int (Int32.ofInt (k : Int))] : List Value) ++ List.replicate (2 - (lg_sl ([.ref u, .int (Int32.ofInt (k : Int))] : List Value)).length) Slot.unset).toArray = ls at hl ⊢
  have hl : lv_has ls 2 [(0, .ref u), (1, .int (Int32.ofInt (k : Int)))] := hl
  have hpc : ∀ (As : List Value) (U : State), U.heap = s.heap → s.WarmedH U.vm → JP z u v s.heap As As.toArray U := fun As U hU hW => ⟨rfl, hU, by rw [hU]; exact hKS.moved hW (fun _ _ _ => rfl)⟩
  refine lv_aload_n hx hb dJ0_charAt_5068e_0 rfl (lv_at hl 0 rfl) ?_
  refine va_calli (a := ([.ref u] : List Value).toArray) (va_runV (As := []) (rest := []) (C := RJ0) (b := u) ⟨hx, hb, hml, hown, hts⟩ (js_la l z u v s.heap) ⟨callB_of 0 hts (jgood jw_code_la) rfl rfl rfl (hts _ jw_ini_RJ0) (hts _ jw_l_la) (by decide) ⟨Nat.le_of_ble_eq_true rfl, Nat.le_of_ble_eq_true rfl⟩, hts _ jw_in_la, hts _ jw_se_la⟩ ⟨jblind z u v s.heap _, hKS.recv, fun U => hpc _ U⟩ rfl rfl hl.1 rfl (lv_room (Nat.le_of_ble_eq_true rfl)) dJ0_charAt_5068e_1 ⟨Nat.zero_le _, Nat.zero_le _⟩) hS (fun _ _ h => h) (fun _ h => h) (fun r _ t H1 locs ht _ hr1 hB _ _ hS => ?_)
  have hH1 : H1 = s.heap := ht.symm.trans hB
  subst hH1
  subst hr1
  refine lv_if_eq (tgt := 16) hx hb dJ0_charAt_5068e_4 rfl (fun q => absurd q (by decide)) (fun _ => ?_)
  refine lv_aload_n hx hb dJ0_charAt_5068e_7 rfl (lv_at hl 0 rfl) ?_
  refine vk_getf hx hb hKS.2.2.2.2.1 hS hown (hts _ jw_val) (fun _ h => h) dJ0_charAt_5068e_8 ?_
  refine lv_iload_n hx hb dJ0_charAt_5068e_11 rfl (lv_at hl 1 rfl) ?_
  refine va_calli (a := ([.ref v, .int (Int32.ofInt (k : Int))] : List Value).toArray) (va_runS (As := [.ref v, .int (Int32.ofInt (k : Int))]) (rest := []) ⟨hx, hb, hml, hown, hts⟩ (js_c1 l z u v s.heap k hk) ⟨callB_of 2 hts (jgood jw_code_c1) rfl rfl rfl (hts _ jw_ini_RJ1) (hts _ jw_l_c1) (by decide) ⟨Nat.le_of_ble_eq_true rfl, Nat.le_of_ble_eq_true rfl⟩, hts _ jw_st_c1⟩ ⟨jblind z u v s.heap _, fun U => hpc _ U⟩ rfl rfl hl.1 rfl (lv_room (Nat.le_of_ble_eq_true rfl)) dJ0_charAt_5068e_12 ⟨Nat.zero_le _, Nat.zero_le _⟩) hS (fun _ _ h => h) (fun _ h => h) (fun r _ t H1 locs ht _ hr1 hB _ _ hS => ?_)
  have hH1 : H1 = s.heap := ht.symm.trans hB
  subst hH1
  subst hr1
  exact W.zret hx hb hr (ch_nar ⟨k, hk⟩) (fun t ht hW => ⟨⟨_, (), rfl, rfl, ht⟩, hS.F ht⟩) hS.2.2 dJ0_charAt_5068e_15
set_option maxRecDepth 20000 in
theorem js_le (l : Launch) (z u v : Nat) (Hf : Heap) : Met l yJ0_length_8abf5 (.code yJ0_length_8abf5 cJ0_length_8abf5 1 (some .int) :: ww_) { frames := 1, cells := 0, slots := 0, locals := 20 } (JP z u v Hf [.ref u]) (JQ z Hf 48) 0 0 (AAz z) := by
  refine Met.ofW (cc := cJ0_length_8abf5) (maxL := 1) (ret := (some .int)) (by decide) rfl ?_
  intro p e s m args below meth c s₁ Bd hml hv
  obtain ⟨rfl, hH, hKS⟩ := hv
  have hx := Bd.exec
  have hb := Bd.bytes
  have hr := Bd.returns
  have hts0 := atoms_spec (ws := Cond.code yJ0_length_8abf5 cJ0_length_8abf5 1 (some .int) :: ww_) Bd.pre
  have hts : ∀ w ∈ ww_, w.before ([.ref u] : List Value).toArray s = true := fun w hw => hts0 w (List.mem_cons_of_mem _ hw)
  have hown : s.vm.findClass RJ0 = some m.cls := findClass_of_methodNamed Bd.named
  have hlocks := Bd.notSynchronized
  subst hH
  have hS : va_S (AAz z) s.heap s.heap [] := va_S.rf
  have hl := lv_entry ([.ref u] : List Value) (n := 1) (Nat.le_of_ble_eq_true rfl)
  rw [lg_entry_eq]
  generalize (lg_sl ([.ref u] : List Value) ++ List.replicate (1 - (lg_sl ([.ref u] : List Value)).length) Slot.unset).toArray = ls at hl ⊢
  have hl : lv_has ls 1 [(0, .ref u)] := hl
  have hpc : ∀ (As : List Value) (U : State), U.heap = s.heap → s.WarmedH U.vm → JP z u v s.heap As As.toArray U := fun As U hU hW => ⟨rfl, hU, by rw [hU]; exact hKS.moved hW (fun _ _ _ => rfl)⟩
  refine lv_aload_n hx hb dJ0_length_8abf5_0 rfl (lv_at hl 0 rfl) ?_
  refine vk_getf hx hb hKS.2.2.2.2.1 hS hown (hts _ jw_val) (fun _ h => h) dJ0_length_8abf5_1 ?_
  refine va_tlen hx hb hKS.2.2.2.2.2 hS (v := 48) rfl dJ0_length_8abf5_4 ?_
  refine lv_aload_n hx hb dJ0_length_8abf5_5 rfl (lv_at hl 0 rfl) ?_
  refine va_calli (a := ([.ref u] : List Value).toArray) (va_runV (As := []) (rest := [.int 48]) (C := RJ0) (b := u) ⟨hx, hb, hml, hown, hts⟩ (js_co l z u v s.heap) ⟨callB_of 0 hts (jgood jw_code_co) rfl rfl rfl (hts _ jw_ini_RJ0) (hts _ jw_l_co) (by decide) ⟨Nat.le_of_ble_eq_true rfl, Nat.le_of_ble_eq_true rfl⟩, hts _ jw_in_co, hts _ jw_se_co⟩ ⟨jblind z u v s.heap _, hKS.recv, fun U => hpc _ U⟩ rfl rfl hl.1 rfl (lv_room (Nat.le_of_ble_eq_true rfl)) dJ0_length_8abf5_6 ⟨Nat.zero_le _, Nat.zero_le _⟩) hS (fun _ _ h => h) (fun _ h => h) (fun r _ t H1 locs ht _ hr1 hB _ _ hS => ?_)
  have hH1 : H1 = s.heap := ht.symm.trans hB
  subst hH1
  subst hr1
  refine lv_ishr hx hb dJ0_length_8abf5_9 ?_
  exact W.iret hx hb hr (fun t ht hW => ⟨⟨_, (), rfl, by decide, ht⟩, hS.F ht⟩) hS.2.2 dJ0_length_8abf5_10
