/-! THE LAW: what is known at its start -/
theorem tw_ (i : Nat) {w : Cond} (h : (ch_ (i / 240))[i % 240]? = some w) : w ∈ lw_tbl := ch_in (List.mem_of_getElem? h)
theorem arr_of {args : Array Value} {s : State} {ty : FieldType} (h : (Cond.arrayClass ty).before args s = true) : ∃ cA, ArrOfT s cA ty ∧ s.vm.findClass ("[" ++ ty.toString) = some cA := by
  obtain ⟨cA, kA, comp, h1, h2, h3⟩ := Cond.arrayClass_spec h
  exact ⟨cA, fun n z => ⟨fun k h => (by cases h), kA, h2, comp, h3⟩, h1⟩
theorem inst_ok : ∀ c < 13, hw_ (wins_ c) (.instantiable (cn_ c) (nC_ (c : Int)).toNat) = true := by decide +kernel
theorem cls_of {args : Array Value} {s : State} (hts : ∀ w ∈ lw_tbl, w.before args s = true) : ∃ D : va_G, ∀ (c : Nat) (q : vw_C), vwCl[c]? = some q → u_Kn s q.1 q.2.1 q.2.2 (D.1 c) (D.2 c) := by
  have hww : ∀ w ∈ ww_, w ∈ lw_tbl := fun w hw => (List.mem_filter.mp hw).1
  have key : ∀ c : Nat, ∃ r : ClassId × (Nat → Nat), ∀ q : vw_C, vwCl[c]? = some q → u_Kn s q.1 q.2.1 q.2.2 r.1 r.2 := by
    intro c
    by_cases hc : c < 13
    · obtain ⟨q, hq, hqn, hqf, hqz⟩ := cl_of hc
      obtain ⟨hin, -, -⟩ := clw_ok c hc q hq
      have hi := hts _ (hww _ (hw_ok (inst_ok c hc)))
      rw [← hqn] at hi
      obtain ⟨cC, iS, h⟩ := u_known (C := q.1) (T := q.2.1) (N := q.2.2) hts (fun w hw => hww w (hin w hw)) hi
      refine ⟨(cC, iS), fun q' hq' => ?_⟩
      rw [hq] at hq'
      cases hq'
      exact h
    · refine ⟨(0, fun _ => 0), fun q hq => ?_⟩
      have := (List.getElem?_eq_some_iff.mp hq).1
      exact absurd this hc
  obtain ⟨f, hf⟩ := Classical.axiomOfChoice key
  exact ⟨(fun c => (f c).1, fun c => (f c).2), fun c q hq => hf c q hq⟩
abbrev tmT : Term := .static "ShutPasses" "THREES" "[I"
abbrev tmS : Term := .string "ShutPasses$Reader" 38
abbrev tmV : Term := .field (.string "ShutPasses$Reader" 38) "java/lang/String" "value" "[B"
theorem nrT : ∀ j < 7, Cond.eq (.elem tmT (.int (Int32.ofNat j))) (.int (Int32.ofInt (thr_ (j : Int)))) ∈ flatC narrow_1 := by decide +kernel
theorem nrV : ∀ j < 48, Cond.eq (.elem tmV (.int (Int32.ofNat j))) (.int (Int32.ofInt (lng_ (j : Int)))) ∈ flatC narrow_1 := by decide +kernel
theorem nr1 : Cond.arrayOf tmT .int ∈ flatC narrow_1 := by decide +kernel
theorem nr2 : Cond.eq (.length tmT) (.int 7) ∈ flatC narrow_1 := by decide +kernel
theorem nr3 : Cond.eq (.static "java/lang/String" "COMPACT_STRINGS" "Z") (.int 1) ∈ flatC narrow_1 := by decide +kernel
theorem nr4 : Cond.isRef (.static "jdk/internal/util/Preconditions" "SIOOBE_FORMATTER" "Ljava/util/function/BiFunction;") ∈ flatC narrow_1 := by decide +kernel
theorem nr5 : Cond.exactly tmS "java/lang/String" ∈ flatC narrow_1 := by decide +kernel
theorem nr6 : Cond.eq (.field tmS "java/lang/String" "coder" "B") (.int 0) ∈ flatC narrow_1 := by decide +kernel
theorem nr7 : Cond.arrayOf tmV .byte ∈ flatC narrow_1 := by decide +kernel
theorem nr8 : Cond.eq (.length tmV) (.int 48) ∈ flatC narrow_1 := by decide +kernel
/-- a field of an object that is only read -/
theorem va_OFof {args : Array Value} {s : State} {t : Term} {o n d : String} {v : Value} {a : Nat} {A : Nat → Prop} (ht : t.eval args s none [] s = some (.ref a)) (hv : (Term.field t o n d).eval args s none [] s = some v) (hA : ∀ a : Nat, a < s.heap.size → ¬ A a) : va_OF o n d v a A s s.heap := by
  cases hfo : s.fieldFound? o n d with
  | none =>
    rw [va_fe ht] at hv
    simp [State.fieldOf?, State.fieldNamed?, hfo] at hv
  | some x =>
    obtain ⟨cf, k, fi, f⟩ := x
    obtain ⟨g1, cell, g2, g3, -, -, g6⟩ := Term.field_spec hfo ht hv
    exact ⟨cf, k, fi, f, cell, hfo, g1, g2, g3, g6, hA _ (Array.getElem?_eq_some_iff.mp g2).1⟩
theorem law_KK {args : Array Value} {s : State} (hts : ∀ w ∈ lw_tbl, w.before args s = true) (hgv : (Jvm.Cond.and given_1 narrow_1).before args s = true) : ∃ (t u : Nat) (D : va_G) (I : aI), KK s.heap.size t u D I s s.heap := by
  have hs0 := flat_of_before _ hgv
  have hs : ∀ w ∈ flatC narrow_1, w.before args s = true := fun w hw => hs0 w (List.mem_append_right _ hw)
  have hA : ∀ a : Nat, a < s.heap.size → ¬ AAz s.heap.size a := fun a h q => by
    have q : s.heap.size ≤ a := q
    omega
  obtain ⟨D, hD⟩ := cls_of hts
  obtain ⟨c1, a1, b1⟩ := arr_of (ty := .int) (hts _ (tw_ 151 rfl))
  obtain ⟨c2, a2, b2⟩ := arr_of (ty := .long) (hts _ (tw_ 325 rfl))
  obtain ⟨c3, a3, b3⟩ := arr_of (ty := .byte) (hts _ (tw_ 150 rfl))
  obtain ⟨c4, a4, b4⟩ := arr_of (ty := .boolean) (hts _ (tw_ 372 rfl))
  obtain ⟨t, ht, hT⟩ := va_Tof (tm := tmT) (ty := .int) (N := 7) (f := thrV) (A := AAz s.heap.size) (by decide) (hs _ nr1) (va_eqt (hs _ nr2)) (fun j hj => va_eqt (hs _ (nrT j hj))) hA
  obtain ⟨v, hv, hV⟩ := va_Tof (tm := tmV) (ty := .byte) (N := 48) (f := fun j => .int (Int32.ofInt (lng_ (j : Int)))) (A := AAz s.heap.size) (by decide) (hs _ nr7) (va_eqt (hs _ nr8)) (fun j hj => va_eqt (hs _ (nrV j hj))) hA
  obtain ⟨u, cu, cA, kA, q1, q2, q3, q4, q5, q6, -⟩ := Cond.exactly_spec (hs _ nr5)
  have hO : va_O "java/lang/String" u (AAz s.heap.size) s s.heap := va_Oof (hs _ nr5) q1 hA
  refine ⟨t, u, D, (c1, c2, c3, c4), ⟨hD, fun k q hq => ?_⟩, va_Zof (hts _ (tw_ 256 rfl)) (hts _ (tw_ 1 rfl)) ht hA, hT, fun w hw => ?_, ⟨v, ?_, ?_, hO, ?_, ?_, hV⟩, vk_R.of (hts _ (tw_ 158 rfl)) q1⟩
  · match k, hq with
    | 0, hq => cases hq; exact ⟨a1, b1⟩
    | 1, hq => cases hq; exact ⟨a2, b2⟩
    | 2, hq => cases hq; exact ⟨a3, b3⟩
    | 3, hq => cases hq; exact ⟨a4, b4⟩
    | k + 4, hq => simp at hq
  · simp only [nestL, List.mem_cons, List.not_mem_nil, or_false] at hw
    rcases hw with rfl | rfl | rfl | rfl | rfl | rfl | rfl | rfl | rfl | rfl
    · exact va_Nw.of rfl (hts _ (tw_ 255 rfl))
    · exact va_Nw.of rfl (hts _ (tw_ 280 rfl))
    · exact va_Nw.of rfl (hts _ (tw_ 309 rfl))
    · exact va_Nw.of rfl (hts _ (tw_ 328 rfl))
    · exact va_Nw.of rfl (hts _ (tw_ 440 rfl))
    · exact va_Nw.of rfl (hts _ (tw_ 578 rfl))
    · exact va_Nw.of rfl (hts _ (tw_ 583 rfl))
    · exact va_Nw.of rfl (hts _ (tw_ 828 rfl))
    · exact va_Nw.of rfl (hts _ (tw_ 853 rfl))
    · exact va_Nw.of rfl (hts _ (tw_ 1058 rfl))
  · exact va_Zof (hts _ (tw_ 168 rfl)) (hts _ (tw_ 4 rfl)) (va_eqi (hs _ nr3)) hA
  · rcases va_Zqof (hts _ (tw_ 184 rfl)) (hts _ (tw_ 6 rfl)) (hs _ nr4) hA with h | ⟨q, h⟩
    · exact ⟨_, Or.inl rfl, h⟩
    · exact ⟨_, Or.inr ⟨q, rfl⟩, h⟩
  · exact va_OFof q1 (va_eqt (hs _ nr6)) hA
  · exact va_OFof q1 hv hA
