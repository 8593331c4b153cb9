section SIML
variable {z t u : Nat} {D : va_G} {I : aI} {p : Program} {l : Launch} {e : Env} {R : Room} {s : State} {m : MethodId} {args : Array Value} {below : List Frame} {meth : Method} {c : Code} {Z : State → Prop} {mi : Nat} {n0 : Int}
variable {ST : aT → Prop} {RT : Option aV → Prop} {CL : Nat → List aV → Nat → List aV → Prop} {BR : Prop → aT → aT → Prop} {SW : Int → List (Int × aT) → aT → Prop}
variable {B : Int} {pc : Nat} {L : List aL} {st : List aV} {s0 : aS} {r : List Int}
theorem takeA_ok : ∀ (n : Nat) (acc st as rest : List aV), takeA n acc st = some (as, rest) → ∃ xs : List aV, st = xs ++ rest ∧ as = xs.reverse ++ acc ∧ xs.length = n
  | 0, acc, st, as, rest, h => by
    cases h
    exact ⟨[], rfl, rfl, rfl⟩
  | n + 1, acc, [], as, rest, h => by cases h
  | n + 1, acc, v :: st, as, rest, h => by
    obtain ⟨xs, h1, h2, h3⟩ := takeA_ok n (v :: acc) st as rest h
    exact ⟨v :: xs, by rw [h1]; rfl, by rw [h2]; simp, by simp [h3]⟩
/-- what is known of a call -/
def Cl (mi : Nat) (i : Instr) (S : aT) (mj : Nat) (as : List aV) (rt : Nat) (rest : List aV) : Prop :=
  S.2.2.1 = as.reverse ++ rest ∧ cats rest ≤ 8 ∧ cats as ≤ mxl_ mj ∧ as.length = np_ mj + (if is_ mj = 0 then 0 else 1) ∧ (rt : Int) = retN (rt_ mj) ∧ fr_ mj + 1 ≤ fr_ mi ∧ 8 + (mxl_ mj + 11) + lo_ mj ≤ lo_ mi ∧
  (bnd_ mj ≤ bnd_ mi ∨ bld_ (bnd_ mj) S.2.2.2) ∧ (cl_ mi = false → cl_ mj = false) ∧ (is_ mj = 0 ∨ ∃ a as', as = vR a :: as' ∧ 0 ≤ a ∧ a < szS S.2.2.2 ∧ kD_ S.2.2.2.2.2.1 a = (oc_ mj : Int)) ∧
  ((∃ ix, i = .invokevirtual ix ∧ is_ mj = 1 ∧ Cond.methodLink (cn_ (oc_ mi)) ix (yn_ mj) ∈ ww_) ∨ (∃ ix, i = .invokestatic ix ∧ is_ mj = 0 ∧ Cond.methodLink (cn_ (oc_ mi)) ix (yn_ mj) ∈ ww_) ∨ (∃ ix, i = .invokespecial ix ∧ is_ mj = 2 ∧ (Cond.methodLink (cn_ (oc_ mi)) ix (yn_ mj) ∈ ww_ ∨ Cond.methodLinkNest (cn_ (oc_ mi)) ix (yn_ mj) "ShutPasses" ∈ nestL)))
theorem cats_map (z t u : Nat) : ∀ l : List aV, ((l.map (cv z t u)).map fun v => v.category).sum = cats l
  | [] => rfl
  | v :: l => by
    have ih := cats_map z t u l
    simp only [List.map_cons, List.sum_cons, cats] at ih ⊢
    rw [ih]
    congr 1
    rcases v with x | x | x
    · rfl
    · rfl
    · exact cvR_cat z t u x
/-- the JDK's calls -/
theorem ok_jdk {i : Instr} {mj n rt mo cc bd w : Int} {as rest : List aV} (C : Cx z t u D I p R s m args meth c mi) (hF : bld_ (bnd_ mi) s0) (hd : decode (bts_ mi) pc = .ok (i, 3)) (hr : ckJ mi i [mj, n, rt, mo, cc, bd, w] = true) (hst : st = as.reverse ++ rest) (hlen : as.length = n.toNat) (hcat : cats rest ≤ 8) (hneg : mj < 0) (hroom : 40 ≤ lo_ mi ∧ 2 ≤ fr_ mi) : OK (St z t u D I (WF p l e R s m args below meth c Z) s R m mi n0 (pc, L, st, s0)) RT CL BR SW (match (generalizing := false) as with
          | [.inr (.inr a)] => if mj = -1 then rN none (popTo (i, 3, [mj, n, rt, mo, cc, bd, w]) (pc, L, st, s0) rest) else if mj = -6 then bif decide (a = -11) then rN none (popTo (i, 3, [mj, n, rt, mo, cc, bd, w]) (pc, L, st, s0) (vI 48 :: rest)) else rX else rX
          | [.inr (.inr a), .inl i9] => if mj = -7 then bif decide (a = -11) then rN (some (0 ≤ i9 ∧ i9 < 48)) (popTo (i, 3, [mj, n, rt, mo, cc, bd, w]) (pc, L, st, s0) (vI (lng_ i9) :: rest)) else rX else rX
          | [.inl x, .inl y] => if mj = -2 then gI 0 x y (fun g => rN g (popTo (i, 3, [mj, n, rt, mo, cc, bd, w]) (pc, L, st, s0) (vI (max_ x y) :: rest))) else if mj = -3 then gI 0 x y (fun g => rN g (popTo (i, 3, [mj, n, rt, mo, cc, bd, w]) (pc, L, st, s0) (vI (min_ x y) :: rest))) else rX
          | [.inr (.inl x), .inr (.inl y)] => if mj = -4 then rN (some (inL x ∧ inL y)) (popTo (i, 3, [mj, n, rt, mo, cc, bd, w]) (pc, L, st, s0) (vL (max_ x y) :: rest)) else rX
          | [.inr (.inr a), .inl p, .inr (.inr b), .inl q, .inl k] =>
            if mj = -5 then bif okO (bnd_ mi) 20 a && (okO (bnd_ mi) 20 b && (decide (a ≠ b) && (decide (p = 0) && (decide (q = 0) && (decide (0 ≤ k) && (decide (k ≤ ln_ a) && decide (k ≤ ln_ b))))))) then
              rN none (popTo (i, 3, [mj, n, rt, mo, cc, bd, w]) (pc, L, st, (ce_ s0.1 b (fun j => if 0 ≤ j ∧ j < k then s0.1 a j else s0.1 b j), s0.2)) rest) else rX else rX
          | _ => rX) := by
  subst hst
  have hsize : ∀ ls : Array Slot, LR z t u (mxl_ mi) L ls → c.maxLocals = ls.size := fun ls hl => by rw [C.2.2.1, hl.2.1]
  have hcatm : ((rest.map (cv z t u)).map fun v => v.category).sum ≤ 8 := by rw [cats_map]; exact hcat
  have hlo : 40 ≤ lo_ mi ∧ 2 ≤ fr_ mi := hroom
  have hRf : 1 ≤ R.frames := by have := C.2.2.2.2.2.2.2.2.2.2.1; omega
  have hRl : 40 ≤ R.locals := by have := C.2.2.2.2.2.2.2.2.2.2.2; omega
  split
  · rename_i a
    split
    · rename_i h1
      subst h1
      intro _
      cases i <;> simp only [ckJ, Bool.and_eq_true, Bool.or_eq_true, decide_eq_true_eq, Bool.false_eq_true] at hr <;> try (exfalso; omega)
      rename_i ix
      obtain ⟨⟨⟨⟨-, -⟩, hw1⟩, hw2⟩, hw3⟩ := hr
      refine St.stk rfl rfl (fun H locs cells slots ls hl kk => ?_)
      change W p l e R s m args below meth c H locs cells slots Z (F0 m (pc + 3) ls (rest.map (cv z t u))) at kk
      change W p l e R s m args below meth c H locs cells slots Z (F0 m pc ls (cvR z t u a :: rest.map (cv z t u)))
      sorry
    · split
      · sorry
      · exact True.intro
  · split
    · sorry
    · exact True.intro
  · rename_i x y
    split
    · rename_i h1
      subst h1
      cases i <;> simp only [ckJ, Bool.and_eq_true, Bool.or_eq_true, decide_eq_true_eq, Bool.false_eq_true] at hr <;> try (exfalso; omega)
      rename_i ix
      rcases hr with ((hr | hr) | hr) | hr <;> try (exfalso; omega)
      obtain ⟨⟨⟨⟨⟨-, -⟩, hw1⟩, hw2⟩, hw3⟩, hw4⟩ := hr
      unfold gI
      rw [if_pos rfl]
      rintro ⟨hx, hy⟩
      refine ⟨Int.le_refl _, Int.le_refl _, fun _ => rfl, fun b1 b2 k H locs cells slots ls hR hS e1 e2 hl => ?_⟩
      have kk := k H locs cells slots ls hR hS e1 e2 hl
      change W p l e R s m args below meth c H locs cells slots Z (F0 m (pc + 3) ls (.int (Int32.ofInt (max_ x y)) :: rest.map (cv z t u))) at kk
      change W p l e R s m args below meth c H locs cells slots Z (F0 m pc ls (.int (Int32.ofInt y) :: .int (Int32.ofInt x) :: rest.map (cv z t u)))
      refine va_mmax C.1 C.2.1 (hsize ls hl) C.2.2.2.1 (C.2.2.2.2.1 _ (hw_ok hw1)) (C.2.2.2.2.1 _ (hw_ok hw2)) (C.2.2.2.2.1 _ (hw_ok hw3)) (C.2.2.2.2.1 _ (hw_ok hw4)) hRf (by omega) (by have h3 := hR.1; have h4 : s.heap.size + cells = z + (szS s0).toNat := e1; have h5 : z + (szS s0).toNat ≤ s.heap.size + R.cells := b1; omega) (by have h4 : (slots : Int) = nsS s0 - n0 := e2; have h5 : nsS s0 - n0 ≤ (R.slots : Int) := b2; omega) hd ?_
      have : (if Int32.ofInt x < Int32.ofInt y then Int32.ofInt y else Int32.ofInt x) = Int32.ofInt (max_ x y) := by
        unfold max_
        by_cases q : x < y
        · rw [if_pos q, if_pos ((i_lt hx hy).mpr q)]
        · rw [if_neg q, if_neg (fun w => q ((i_lt hx hy).mp w))]
      rw [this]
      exact kk
    · split
      · rename_i h1
        subst h1
        cases i <;> simp only [ckJ, Bool.and_eq_true, Bool.or_eq_true, decide_eq_true_eq, Bool.false_eq_true] at hr <;> try (exfalso; omega)
        rename_i ix
        rcases hr with ((hr | hr) | hr) | hr <;> try (exfalso; omega)
        obtain ⟨⟨⟨⟨⟨-, -⟩, hw1⟩, hw2⟩, hw3⟩, hw4⟩ := hr
        unfold gI
        rw [if_pos rfl]
        rintro ⟨hx, hy⟩
        refine ⟨Int.le_refl _, Int.le_refl _, fun _ => rfl, fun b1 b2 k H locs cells slots ls hR hS e1 e2 hl => ?_⟩
        have kk := k H locs cells slots ls hR hS e1 e2 hl
        change W p l e R s m args below meth c H locs cells slots Z (F0 m (pc + 3) ls (.int (Int32.ofInt (min_ x y)) :: rest.map (cv z t u))) at kk
        change W p l e R s m args below meth c H locs cells slots Z (F0 m pc ls (.int (Int32.ofInt y) :: .int (Int32.ofInt x) :: rest.map (cv z t u)))
        refine va_mmin C.1 C.2.1 (hsize ls hl) C.2.2.2.1 (C.2.2.2.2.1 _ (hw_ok hw1)) (C.2.2.2.2.1 _ (hw_ok hw2)) (C.2.2.2.2.1 _ (hw_ok hw3)) (C.2.2.2.2.1 _ (hw_ok hw4)) hRf (by omega) (by have h3 := hR.1; have h4 : s.heap.size + cells = z + (szS s0).toNat := e1; have h5 : z + (szS s0).toNat ≤ s.heap.size + R.cells := b1; omega) (by have h4 : (slots : Int) = nsS s0 - n0 := e2; have h5 : nsS s0 - n0 ≤ (R.slots : Int) := b2; omega) hd ?_
        have : (if Int32.ofInt y < Int32.ofInt x then Int32.ofInt y else Int32.ofInt x) = Int32.ofInt (min_ x y) := by
          unfold min_
          by_cases q : y < x
          · rw [if_pos q, if_pos ((i_lt hy hx).mpr q)]
          · rw [if_neg q, if_neg (fun w => q ((i_lt hy hx).mp w))]
        first | (rw [this]; exact kk) | sorry
      · exact True.intro
  · sorry
  · sorry
  · exact True.intro
theorem ok_ldcS {ix : Nat} (C : Cx z t u D I p R s m args meth c mi) (hd : decode (bts_ mi) pc = .ok (.ldc ix, 2)) (hr : ckR mi pc (.ldc ix, 2, r) = true) (hs : r.length = 3) : OK (St z t u D I (WF p l e R s m args below meth c Z) s R m mi n0 (pc, L, st, s0)) RT CL BR SW (act B (.ldc ix, 2, r) (pc, L, st, s0)) := by
  sorry
end SIML
