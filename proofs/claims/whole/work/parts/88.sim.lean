section SIMM
variable {z t u : Nat} {D : va_G} {I : aI} {p : Program} {l : Launch} {e : Env} {R : Room} {s : State} {m : MethodId} {args : Array Value} {below : List Frame} {meth : Method} {c : Code} {Z : State → Prop} {mi : Nat} {n0 : Int}
variable {RT : Option aV → Prop} {BR : Prop → aT → aT → Prop} {SW : Int → List (Int × aT) → aT → Prop}
variable {pc : Nat} {L : List aL} {st : List aV} {s0 : aS} {r : List Int}
theorem arg_len {n : Int} {a b k : Nat} (h : n = (a : Int) + (if b = 0 then 0 else 1)) (hk : k = n.toNat) : k = a + (if b = 0 then 0 else 1) := by
  by_cases q : b = 0
  · rw [if_pos q] at h ⊢; omega
  · rw [if_neg q] at h ⊢; omega
set_option maxRecDepth 20000 in
theorem ok_call {i : Instr} (hi : (∃ ix, i = .invokevirtual ix) ∨ (∃ ix, i = .invokestatic ix) ∨ (∃ ix, i = .invokespecial ix)) (C : Cx z t u D I p R s m args meth c mi) (hF : bld_ (bnd_ mi) s0) (hd : decode (bts_ mi) pc = .ok (i, 3)) (hr : (ckC mi pc i r || ckJ mi i r) = true) (hroom : 40 ≤ lo_ mi ∧ 2 ≤ fr_ mi) :
    OK (St z t u D I (WFr p l e R s m args below meth c Z) s R m mi n0 (pc, L, st, s0)) RT (Cl mi i (pc, L, st, s0)) BR SW (aCall (bnd_ mi) (i, 3, r) (pc, L, st, s0)) := by
  rcases r with _ | ⟨mj, _ | ⟨n, _ | ⟨rt, _ | ⟨mo, _ | ⟨cc, _ | ⟨bd, _ | ⟨w, _ | ⟨_, _⟩⟩⟩⟩⟩⟩⟩⟩ <;> try exact True.intro
  show OK _ _ _ _ _ (match takeA n.toNat [] st with
    | none => rX
    | some (as, rest) => _)
  rcases htk : takeA n.toNat [] st with _ | ⟨as, rest⟩
  · exact True.intro
  obtain ⟨xs, h1, h2, h3⟩ := takeA_ok _ _ _ _ _ htk
  rw [List.append_nil] at h2
  have hst : st = as.reverse ++ rest := by rw [h2, List.reverse_reverse]; exact h1
  have hlen : as.length = n.toNat := by rw [h2, List.length_reverse]; exact h3
  show OK _ _ _ _ _ (bif Nat.ble (cats rest) 8 then _ else rX)
  cases hcat : Nat.ble (cats rest) 8 with
  | false => exact True.intro
  | true =>
    have hcat := Nat.le_of_ble_eq_true hcat
    show OK _ _ _ _ _ (if mj < 0 then _ else _)
    by_cases hneg : mj < 0
    · rw [if_pos hneg]
      have hJ : ckJ mi i [mj, n, rt, mo, cc, bd, w] = true := by
        rw [Bool.or_eq_true] at hr
        rcases hr with hr | hr
        · exfalso
          simp only [ckC, Bool.and_eq_true, decide_eq_true_eq] at hr
          omega
        · exact hr
      exact ok_jdk C hF hd hJ hst hlen hcat hneg hroom
    · rw [if_neg hneg]
      have hC : ckC mi pc i [mj, n, rt, mo, cc, bd, w] = true := by
        rw [Bool.or_eq_true] at hr
        rcases hr with hr | hr
        · exact hr
        · exact absurd (ckJ_neg hr) hneg
      simp only [ckC, Bool.and_eq_true, Bool.or_eq_true, decide_eq_true_eq, Bool.not_eq_true'] at hC
      obtain ⟨⟨⟨⟨⟨⟨⟨⟨-, hcl⟩, hn⟩, hrt⟩, hfr⟩, hlo⟩, hcc⟩, hbd⟩, hk⟩ := hC
      show OK _ _ _ _ _ (bif Nat.ble (cats as) (mxl_ mj.toNat) then _ else rX)
      cases hmx : Nat.ble (cats as) (mxl_ mj.toNat) with
      | false => exact True.intro
      | true =>
        have hmx := Nat.le_of_ble_eq_true hmx
        have hrt0 : 0 ≤ rt := by
          rw [hrt]
          unfold retN
          split <;> decide
        have hB := bnd_le mi
        have fin : (is_ mj.toNat = 0 ∨ ∃ a as', as = vR a :: as' ∧ 0 ≤ a ∧ a < szS s0 ∧ kD_ s0.2.2.1 a = (oc_ mj.toNat : Int)) → (bnd_ mj.toNat ≤ bnd_ mi ∨ bld_ (bnd_ mj.toNat) s0) → Cl mi i (pc, L, st, s0) mj.toNat as rt.toNat rest := by
          intro g1 g2
          refine ⟨hst, hcat, hmx, ?_, by rw [Int.toNat_of_nonneg hrt0]; exact hrt, hfr, hlo, g2, ?_, g1, ?_⟩
          · rw [hlen]
            exact arg_len hn rfl
          · intro q
            rcases hcl with h | h
            · rw [h] at q; cases q
            · exact h
          · rcases hi with ⟨ix, rfl⟩ | ⟨ix, rfl⟩ | ⟨ix, rfl⟩
            · simp only [Bool.and_eq_true, decide_eq_true_eq] at hk
              exact Or.inl ⟨ix, rfl, hk.1.1, hw_ok hk.1.2⟩
            · simp only [Bool.and_eq_true, decide_eq_true_eq] at hk
              exact Or.inr (Or.inl ⟨ix, rfl, hk.1.1, hw_ok hk.1.2⟩)
            · simp only [Bool.and_eq_true, Bool.or_eq_true, List.any_eq_true, decide_eq_true_eq] at hk
              refine Or.inr (Or.inr ⟨ix, rfl, hk.1.1, ?_⟩)
              rcases hk.1.2 with h | ⟨q, hq, rfl⟩
              · exact Or.inl (hw_ok h)
              · exact Or.inr hq
        have hi2 : mo ≠ 2 → is_ mj.toNat ≠ 0 := by
          intro hmo
          rcases hi with ⟨ix, rfl⟩ | ⟨ix, rfl⟩ | ⟨ix, rfl⟩
          · simp only [Bool.and_eq_true, decide_eq_true_eq] at hk; omega
          · simp only [Bool.and_eq_true, decide_eq_true_eq] at hk; exact absurd hk.2 hmo
          · simp only [Bool.and_eq_true, Bool.or_eq_true, List.any_eq_true, decide_eq_true_eq] at hk; omega
        have hbl : mo ≠ 3 → bnd_ mj.toNat ≤ bnd_ mi := by
          intro h
          rcases hbd with h' | h'
          · exact h'
          · exact absurd h'.1.1 h
        show OK _ _ _ _ _ (if mo = 2 then _ else _)
        by_cases h2 : mo = 2
        · rw [if_pos h2]
          refine fun _ => fin (Or.inl ?_) (Or.inl (hbl (by omega)))
          rcases hi with ⟨ix, rfl⟩ | ⟨ix, rfl⟩ | ⟨ix, rfl⟩
          · simp only [Bool.and_eq_true, decide_eq_true_eq] at hk; exact absurd h2 hk.2
          · simp only [Bool.and_eq_true, decide_eq_true_eq] at hk; exact hk.1.1
          · simp only [Bool.and_eq_true, Bool.or_eq_true, List.any_eq_true, decide_eq_true_eq] at hk; exact absurd h2 hk.2
        rw [if_neg h2]
        have hcc2 : cc = (oc_ mj.toNat : Int) := by rw [hcc, if_neg (hi2 h2)]
        rcases as with _ | ⟨a | a | a, as⟩ <;> try exact True.intro
        show OK _ _ _ _ _ (if mo = 0 then _ else _)
        by_cases h0 : mo = 0
        · rw [if_pos h0]
          show OK _ _ _ _ _ (bif okO (bnd_ mi) cc a then _ else rX)
          cases hb : okO (bnd_ mi) cc a with
          | false => exact True.intro
          | true =>
            have hl := okO_live hB hF hb
            exact fun _ => fin (Or.inr ⟨a, as, rfl, hl.1, hl.2.1, by rw [hl.2.2]; exact hcc2⟩) (Or.inl (hbl (by omega)))
        rw [if_neg h0]
        by_cases h1 : mo = 1
        · rw [if_pos h1]
          intro hb
          have hl := okO_live hB hF hb
          exact fin (Or.inr ⟨a, as, rfl, hl.1, hl.2.1, by rw [hl.2.2]; exact hcc2⟩) (Or.inl (hbl (by omega)))
        rw [if_neg h1]
        by_cases h3 : mo = 3
        · rw [if_pos h3]
          cases hb0 : decide (bd = 0) with
          | true =>
            intro hb
            have hl := okD_of hb
            refine fin (Or.inr ⟨a, as, rfl, hl.1, hl.2.1, by rw [hl.2.2]; exact hcc2⟩) ?_
            rcases hbd with h' | h'
            · exact Or.inl h'
            · exact absurd (of_decide_eq_true hb0) h'.2
          | false =>
            intro hb
            have hl := okD_of hb.1
            refine fin (Or.inr ⟨a, as, rfl, hl.1, hl.2.1, by rw [hl.2.2]; exact hcc2⟩) ?_
            rcases hbd with h' | h'
            · exact Or.inl h'
            · exact Or.inr (by rw [← h'.1.2]; exact hb.2)
        rw [if_neg h3]
        exact True.intro
set_option maxRecDepth 20000 in
/-- every instruction -/
theorem ok_act {i : Instr} {n : Nat} (C : Cx z t u D I p R s m args meth c mi) (hF : bld_ (bnd_ mi) s0) (hk : ckE mi pc (i, n, r) = true) (hroom : 40 ≤ lo_ mi ∧ 2 ≤ fr_ mi) :
    OK (St z t u D I (WFr p l e R s m args below meth c Z) s R m mi n0 (pc, L, st, s0)) (Rt z t u p l e R s m args below meth c (pc, L, st, s0)) (Cl mi i (pc, L, st, s0)) (Br z t u D I (WFr p l e R s m args below meth c Z) s m mi n0 (pc, L, st, s0)) (Sw z t u D I (WFr p l e R s m args below meth c Z) s m mi n0 (pc, L, st, s0)) (act (bnd_ mi) (i, n, r) (pc, L, st, s0)) := by
  unfold ckE at hk
  rw [Bool.and_eq_true, Bool.and_eq_true, Bool.or_eq_true, decide_eq_true_eq, decide_eq_true_eq, decide_eq_true_eq] at hk
  obtain ⟨hd, hn, hr⟩ := hk
  dsimp only at hd hn
  cases i <;> (try exact True.intro)
  case tableswitch => exact ok_tableswitch C hd hr
  case lookupswitch => exact ok_lookupswitch C hd hr
  all_goals (rcases hn with hn | hn <;> first | (exfalso; simp [lenI] at hn; done) | skip)
  all_goals (try (subst hn))
  case iadd => exact ok_iadd C hd
  case isub => exact ok_isub C hd
  case imul => exact ok_imul C hd
  case iand => exact ok_iand C hd
  case ior => exact ok_ior C hd
  case ixor => exact ok_ixor C hd
  case ishl => exact ok_ishl C hd
  case ishr => exact ok_ishr C hd
  case ladd => exact ok_ladd C hd
  case lsub => exact ok_lsub C hd
  case lmul => exact ok_lmul C hd
  case land => exact ok_land C hd
  case idiv => exact ok_idiv C hd
  case irem => exact ok_irem C hd
  case ldiv => exact ok_ldiv C hd
  case lrem => exact ok_lrem C hd
  case i2b => exact ok_i2b C hd
  case i2l => exact ok_i2l C hd
  case l2i => exact ok_l2i C hd
  case iushr => exact ok_iushr C hd
  case lneg => exact ok_lneg C hd
  case dup => exact ok_dup C hd
  case dup2 => exact ok_dup2 C hd
  case pop => exact ok_pop C hd
  case aload => exact ok_aload C hd
  case aload_n => exact ok_aload_n C hd
  case iload => exact ok_iload C hd
  case iload_n => exact ok_iload_n C hd
  case lload => exact ok_lload C hd
  case lload_n => exact ok_lload_n C hd
  case iconst => exact ok_iconst C hd
  case lconst => exact ok_lconst C hd
  case istore => exact ok_istore C hd (by simpa only [ckR, decide_eq_true_eq] using hr)
  case istore_n => exact ok_istore_n C hd (by simpa only [ckR, decide_eq_true_eq] using hr)
  case lstore => exact ok_lstore C hd (by simpa only [ckR, decide_eq_true_eq] using hr)
  case lstore_n => exact ok_lstore_n C hd (by simpa only [ckR, decide_eq_true_eq] using hr)
  case astore => exact ok_astore C hd (by simpa only [ckR, decide_eq_true_eq] using hr)
  case astore_n => exact ok_astore_n C hd (by simpa only [ckR, decide_eq_true_eq] using hr)
  case iinc => exact ok_iinc C hd (by simpa only [ckR, decide_eq_true_eq] using hr)
  case bipush => exact ok_bipush C hd (by simpa only [ckR, decide_eq_true_eq] using hr)
  case sipush => exact ok_sipush C hd (by simpa only [ckR, decide_eq_true_eq] using hr)
  case getstatic => exact ok_getstatic C hd hr
  case ldc_w => exact ok_ldc_w C hd hr
  case ldc2_w => exact ok_ldc2_w C hd hr
  case goto => exact ok_goto C hd hr
  case ifCond => exact ok_ifCond C hd hr
  case if_icmp => exact ok_if_icmp C hd hr
  case lcmp => exact ok_lcmp C hd hr
  case ireturn => exact ok_ireturn C hd hr
  case lreturn => exact ok_lreturn C hd hr
  case newarray => exact ok_newarray C hd hr
  case new => exact ok_new C hd hr
  case return_ => exact ok_return C hd hr
  case getfield => exact ok_getfield C hF hd hr
  case putfield => exact ok_putfield C hF hd hr
  case arraylength => exact ok_arraylength C hF hd hr
  case ldc => exact ok_ldc C hd hr (fun h => ok_ldcS C hd hr h)
  case iaload =>
    refine ok_ald (mk := vI) C hF hd (fun mo kd lit hq => ?_)
    subst hq
    simp only [ckR, Bool.and_eq_true, Bool.or_eq_true, decide_eq_true_eq] at hr
    exact ⟨Or.inl ⟨hr, rfl, rfl⟩, fun _ => rfl⟩
  case laload =>
    refine ok_ald (mk := vL) C hF hd (fun mo kd lit hq => ?_)
    subst hq
    simp only [ckR, Bool.and_eq_true, Bool.or_eq_true, decide_eq_true_eq] at hr
    exact ⟨Or.inr (Or.inl ⟨hr.1, rfl, rfl⟩), fun q => absurd q hr.2⟩
  case baload =>
    refine ok_ald (mk := vI) C hF hd (fun mo kd lit hq => ?_)
    subst hq
    simp only [ckR, Bool.and_eq_true, Bool.or_eq_true, decide_eq_true_eq] at hr
    exact ⟨hr.1.elim (fun h => Or.inr (Or.inr (Or.inl ⟨h, rfl, rfl⟩))) (fun h => Or.inr (Or.inr (Or.inr ⟨h, rfl, rfl⟩))), fun q => absurd q hr.2⟩
  case iastore =>
    refine ok_ast C hF hd (fun mo kd lit vc nm hq => ?_)
    subst hq
    simp only [ckR, Bool.and_eq_true, Bool.or_eq_true, decide_eq_true_eq] at hr
    exact Or.inl ⟨hr.1, rfl, hr.2⟩
  case lastore =>
    refine ok_ast C hF hd (fun mo kd lit vc nm hq => ?_)
    subst hq
    simp only [ckR, Bool.and_eq_true, Bool.or_eq_true, decide_eq_true_eq] at hr
    exact Or.inr (Or.inl ⟨hr.1, rfl, hr.2⟩)
  case bastore =>
    refine ok_ast C hF hd (fun mo kd lit vc nm hq => ?_)
    subst hq
    simp only [ckR, Bool.and_eq_true, Bool.or_eq_true, decide_eq_true_eq] at hr
    exact hr.1.elim (fun h => Or.inr (Or.inr (Or.inl ⟨h, rfl, hr.2⟩))) (fun h => Or.inr (Or.inr (Or.inr ⟨h, rfl, hr.2⟩)))
  case invokevirtual => exact ok_call (Or.inl ⟨_, rfl⟩) C hF hd hr hroom
  case invokestatic => exact ok_call (Or.inr (Or.inl ⟨_, rfl⟩)) C hF hd hr hroom
  case invokespecial => exact ok_call (Or.inr (Or.inr ⟨_, rfl⟩)) C hF hd hr hroom
end SIMM
