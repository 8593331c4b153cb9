section SIML
variable {z t u : Nat} {D : va_G} {I : aI} {p : Program} {l : Launch} {e : Env} {R : Room} {s : State} {m : MethodId} {args : Array Value} {below : List Frame} {meth : Method} {c : Code} {Z : State → Prop} {mi : Nat} {n0 : Int}
variable {ST : aT → Prop} {RT : Option aV → Prop} {CL : Nat → List aV → Nat → List aV → Prop} {BR : Prop → aT → aT → Prop} {SW : Int → List (Int × aT) → aT → Prop}
variable {B : Int} {pc : Nat} {L : List aL} {st : List aV} {s0 : aS} {r : List Int}
theorem takeA_ok : ∀ (n : Nat) (acc st as rest : List aV), takeA n acc st = some (as, rest) → ∃ xs : List aV, st = xs ++ rest ∧ as = xs.reverse ++ acc ∧ xs.length = n
  | 0, acc, st, as, rest, h => by
    cases h
    exact ⟨[], rfl, rfl, rfl⟩
  | n + 1, acc, [], as, rest, h => by cases h
  | n + 1, acc, v :: st, as, rest, h => by
    obtain ⟨xs, h1, h2, h3⟩ := takeA_ok n (v :: acc) st as rest h
    exact ⟨v :: xs, by rw [h1]; rfl, by rw [h2]; simp, by simp [h3]⟩
/-- what is known of a call -/
def Cl (mi : Nat) (i : Instr) (S : aT) (mj : Nat) (as : List aV) (rt : Nat) (rest : List aV) : Prop :=
  S.2.2.1 = as.reverse ++ rest ∧ cats rest ≤ 8 ∧ cats as ≤ mxl_ mj ∧ as.length = np_ mj + (if is_ mj = 0 then 0 else 1) ∧ (rt : Int) = retN (rt_ mj) ∧ fr_ mj + 1 ≤ fr_ mi ∧ 8 + (mxl_ mj + 11) + lo_ mj ≤ lo_ mi ∧
  (bnd_ mj ≤ bnd_ mi ∨ bld_ (bnd_ mj) S.2.2.2) ∧ (cl_ mi = false → cl_ mj = false) ∧ (is_ mj = 0 ∨ ∃ a as', as = vR a :: as' ∧ 0 ≤ a ∧ a < szS S.2.2.2 ∧ kD_ S.2.2.2.2.2.1 a = (oc_ mj : Int)) ∧
  ((∃ ix, i = .invokevirtual ix ∧ is_ mj = 1 ∧ Cond.methodLink (cn_ (oc_ mi)) ix (yn_ mj) ∈ ww_) ∨ (∃ ix, i = .invokestatic ix ∧ is_ mj = 0 ∧ Cond.methodLink (cn_ (oc_ mi)) ix (yn_ mj) ∈ ww_) ∨ (∃ ix, i = .invokespecial ix ∧ is_ mj = 2 ∧ (Cond.methodLink (cn_ (oc_ mi)) ix (yn_ mj) ∈ ww_ ∨ Cond.methodLinkNest (cn_ (oc_ mi)) ix (yn_ mj) "ShutPasses" ∈ nestL)))
theorem cats_map (z t u : Nat) : ∀ l : List aV, ((l.map (cv z t u)).map fun v => v.category).sum = cats l
  | [] => rfl
  | v :: l => by
    have ih := cats_map z t u l
    simp only [List.map_cons, List.sum_cons, cats] at ih ⊢
    rw [ih]
    congr 1
    rcases v with x | x | x
    · rfl
    · rfl
    · exact cvR_cat z t u x
set_option maxRecDepth 20000 in
theorem St.write2 {S T : aT} {a : Int} {ev : va_E} (hsz : szS T.2.2.2 = szS S.2.2.2) (hns : nsS T.2.2.2 = nsS S.2.2.2) (hdl : T.2.2.2.2.2.1 = S.2.2.2.2.2.1) (hcl : cl_ mi = false → T.2.2.2.2.1 = S.2.2.2.2.1) (hL : T.2.1 = S.2.1) (h0 : 0 ≤ a) (h1 : a < szS S.2.2.2) (h2 : kD_ S.2.2.2.2.2.1 a ≠ 99)
    (he : en z t u I T.2.2.2 a = ev) (ho : ∀ b : Int, b ≠ a → 0 ≤ b → kD_ S.2.2.2.2.2.1 b ≠ 99 → en z t u I T.2.2.2 b = en z t u I S.2.2.2 b)
    (h : ∀ (H : Heap) (locs : List Loc) (cells slots : Nat) (ls : Array Slot) (k : Nat), LR z t u (mxl_ mi) S.2.1 ls → Rel z t u D I S.2.2.2 H → va_P D vwCl (wl z t u I S.2.2.2) H → va_S (AAz z) H H locs → (wl z t u I S.2.2.2)[k]? = some (z + a.toNat, en z t u I S.2.2.2 a) →
      (∀ (H1 : Heap) (locs1 : List Loc), va_P D vwCl ((wl z t u I S.2.2.2).set k (z + a.toNat, ev)) H1 → va_D (AAz z) ((wl z t u I S.2.2.2).set k (z + a.toNat, ev)) → va_S (AAz z) H H1 locs1 → W p l e R s m args below meth c H1 locs1 cells slots Z (F0 m T.1 ls (T.2.2.1.map (cv z t u)))) →
      W p l e R s m args below meth c H locs cells slots Z (F0 m S.1 ls (S.2.2.1.map (cv z t u)))) : St z t u D I (WFr p l e R s m args below meth c Z) s R m mi n0 S T := by
  refine ⟨by rw [hsz]; exact Int.le_refl _, by rw [hns]; exact Int.le_refl _, hcl, fun _ _ kk H locs cells slots ls hR hS e1 e2 hl => ?_⟩
  obtain ⟨k, hk⟩ := hR.at h0 h1 h2
  refine h H locs cells slots ls k hl hR hR.P hS.here hk (fun H1 locs1 hP hD hS1 => ?_)
  refine W.sized (fun hle => ?_)
  have hz : H1.size = H.size := by
    have h3 := hS1.1
    have h4 := hR.2.1
    omega
  have hk2 : (wl z t u I S.2.2.2)[k]? = some (z + a.toNat, en z t u I S.2.2.2 ((a.toNat : Nat) : Int)) := by rw [Int.toNat_of_nonneg h0]; exact hk
  have hR1 : Rel z t u D I T.2.2.2 H1 := hR.set (a := a.toNat) hk2 hP hz hsz hdl (by rw [Int.toNat_of_nonneg h0]; exact he) (fun b hb hb2 => ho b (by omega) (by omega) hb2)
  exact kk H1 locs1 cells slots ls hR1 (hS.then hS1) (by rw [hsz]; exact e1) (by rw [hns]; exact e2) (by rw [hL]; exact hl)
theorem va_cpyz {f g : Nat → Int32} {sp dp n : Int32} {k : Nat} (h1 : sp.toNatClampNeg = 0) (h2 : dp.toNatClampNeg = 0) (h3 : n.toNatClampNeg = k) : va_cpy f g sp.toNatClampNeg dp.toNatClampNeg n.toNatClampNeg = va_cpy f g 0 0 k := by rw [h1, h2, h3]
set_option maxRecDepth 20000 in
/-- String.length of the one constant -/
theorem st_len {ix : Nat} {rest : List aV} (C : Cx z t u D I p R s m args meth c mi) (hd : decode (bts_ mi) pc = .ok (.invokevirtual ix, 3)) (hw : Cond.methodLink (cn_ (oc_ mi)) ix yJ0_length_8abf5 ∈ ww_) (hroom : 4 ≤ fr_ mi ∧ 85 ≤ lo_ mi) (hcat : cats rest ≤ 8) : St z t u D I (WFr p l e R s m args below meth c Z) s R m mi n0 (pc, L, vR (-11) :: rest, s0) (pc + 3, L, vI 48 :: rest, s0) := by
  refine ⟨Int.le_refl _, Int.le_refl _, fun _ => rfl, fun b1 b2 k H locs cells slots ls hR hS e1 e2 hl => ?_⟩
  obtain ⟨v, hKS⟩ := C.2.2.2.2.2.2.2.2.1.2.2.2.2.1
  have hts := C.2.2.2.2.1
  have hml := C.2.2.1
  have hsz : ls.size = mxl_ mi := hl.2.1
  have hcatm : ((rest.map (cv z t u)).map fun v => v.category).sum ≤ 8 := by rw [cats_map]; exact hcat
  have hRf : fr_ mi ≤ R.frames := C.2.2.2.2.2.2.2.2.2.2.1
  have hRl : lo_ mi ≤ R.locals := C.2.2.2.2.2.2.2.2.2.2.2
  have hfit : cells + 0 ≤ R.cells ∧ slots + 0 ≤ R.slots := ⟨by have h3 := hR.1; have h4 : s.heap.size + cells = z + (szS s0).toNat := e1; have h5 : z + (szS s0).toNat ≤ s.heap.size + R.cells := b1; omega, by have h4 : (slots : Int) = nsS s0 - n0 := e2; have h5 : nsS s0 - n0 ≤ (R.slots : Int) := b2; omega⟩
  have hKH := hKS.moved (V := s) (State.WarmedH.refl s) (fun a q1 q2 => hS.2.1 a q1 q2)
  have hrun := va_runV (p := p) (l := l) (e := e) (R := R) (s := s) (m := m) (args := args) (below := below) (meth := meth) (c := c) (H := H) (locs := locs) (cells := cells) (slots := slots) (As := []) (rest := rest.map (cv z t u)) (C := RJ0) (b := u) (g := F0 m pc ls (.ref u :: rest.map (cv z t u))) ⟨C.1, C.2.1, hml, C.2.2.2.1, hts⟩ (js_le l z u v H) ⟨callB_of 0 hts (jgood jw_code_le) rfl rfl rfl (hts _ jw_ini_RJ0) (hts _ hw) (by decide) ⟨by show 1 + 1 ≤ R.frames; omega, by show 8 + (1 + 11) + 20 ≤ R.locals; omega⟩, hts _ jw_in_le, hts _ jw_se_le⟩ ⟨jblind z u v H _, hKH.recv, fun U hU hW => ⟨rfl, hU, by rw [hU]; exact hKS.moved hW (fun a q1 q2 => hS.2.1 a q1 q2)⟩⟩ rfl rfl hsz rfl (lv_room hcatm) hd hfit
  refine va_calli (a := ([.ref u] : List Value).toArray) hrun hS (fun _ _ h => h) (fun _ h => h) (fun r _ T H1 locs1 ht _ hr1 hB _ _ hS1 => ?_)
  have hH1 : H1 = H := ht.symm.trans hB
  subst hH1
  subst hr1
  exact k _ locs1 _ _ ls hR hS1 e1 e2 hl
set_option maxRecDepth 20000 in
/-- String.charAt of the one constant -/
theorem st_chr {ix : Nat} {i9 : Int} {rest : List aV} (C : Cx z t u D I p R s m args meth c mi) (hd : decode (bts_ mi) pc = .ok (.invokevirtual ix, 3)) (hw : Cond.methodLink (cn_ (oc_ mi)) ix yJ0_charAt_5068e ∈ ww_) (hroom : 4 ≤ fr_ mi ∧ 85 ≤ lo_ mi) (hcat : cats rest ≤ 8) (h0 : 0 ≤ i9) (h48 : i9 < 48) : St z t u D I (WFr p l e R s m args below meth c Z) s R m mi n0 (pc, L, vI i9 :: vR (-11) :: rest, s0) (pc + 3, L, vI (lng_ i9) :: rest, s0) := by
  obtain ⟨j, rfl⟩ : ∃ j : Nat, i9 = (j : Int) := ⟨i9.toNat, by omega⟩
  refine ⟨Int.le_refl _, Int.le_refl _, fun _ => rfl, fun b1 b2 k H locs cells slots ls hR hS e1 e2 hl => ?_⟩
  obtain ⟨v, hKS⟩ := C.2.2.2.2.2.2.2.2.1.2.2.2.2.1
  have hts := C.2.2.2.2.1
  have hml := C.2.2.1
  have hsz : ls.size = mxl_ mi := hl.2.1
  have hcatm : ((rest.map (cv z t u)).map fun v => v.category).sum ≤ 8 := by rw [cats_map]; exact hcat
  have hRf : fr_ mi ≤ R.frames := C.2.2.2.2.2.2.2.2.2.2.1
  have hRl : lo_ mi ≤ R.locals := C.2.2.2.2.2.2.2.2.2.2.2
  have hfit : cells + 0 ≤ R.cells ∧ slots + 0 ≤ R.slots := ⟨by have h3 := hR.1; have h4 : s.heap.size + cells = z + (szS s0).toNat := e1; have h5 : z + (szS s0).toNat ≤ s.heap.size + R.cells := b1; omega, by have h4 : (slots : Int) = nsS s0 - n0 := e2; have h5 : nsS s0 - n0 ≤ (R.slots : Int) := b2; omega⟩
  have hKH := hKS.moved (V := s) (State.WarmedH.refl s) (fun a q1 q2 => hS.2.1 a q1 q2)
  have hrun := va_runV (p := p) (l := l) (e := e) (R := R) (s := s) (m := m) (args := args) (below := below) (meth := meth) (c := c) (H := H) (locs := locs) (cells := cells) (slots := slots) (As := [.int (Int32.ofInt (j : Int))]) (rest := rest.map (cv z t u)) (C := RJ0) (b := u) (g := F0 m pc ls (.int (Int32.ofInt (j : Int)) :: .ref u :: rest.map (cv z t u))) ⟨C.1, C.2.1, hml, C.2.2.2.1, hts⟩ (js_ca l z u v H j (by omega)) ⟨callB_of 1 hts (jgood jw_code_ca) rfl rfl rfl (hts _ jw_ini_RJ0) (hts _ hw) (by decide) ⟨by show 3 + 1 ≤ R.frames; omega, by show 8 + (2 + 11) + 64 ≤ R.locals; omega⟩, hts _ jw_in_ca, hts _ jw_se_ca⟩ ⟨jblind z u v H _, hKH.recv, fun U hU hW => ⟨rfl, hU, by rw [hU]; exact hKS.moved hW (fun a q1 q2 => hS.2.1 a q1 q2)⟩⟩ rfl rfl hsz rfl (lv_room hcatm) hd hfit
  refine va_calli (a := ([.ref u, .int (Int32.ofInt (j : Int))] : List Value).toArray) hrun hS (fun _ _ h => h) (fun _ h => h) (fun r _ T H1 locs1 ht _ hr1 hB _ _ hS1 => ?_)
  have hH1 : H1 = H := ht.symm.trans hB
  subst hH1
  subst hr1
  exact k _ locs1 _ _ ls hR hS1 e1 e2 hl
/-- the JDK's calls -/
theorem ok_jdk {i : Instr} {mj n rt mo cc bd w : Int} {as rest : List aV} (C : Cx z t u D I p R s m args meth c mi) (hF : bld_ (bnd_ mi) s0) (hd : decode (bts_ mi) pc = .ok (i, 3)) (hr : ckJ mi i [mj, n, rt, mo, cc, bd, w] = true) (hst : st = as.reverse ++ rest) (hlen : as.length = n.toNat) (hcat : cats rest ≤ 8) (hneg : mj < 0) (hroom : 40 ≤ lo_ mi ∧ 2 ≤ fr_ mi) : OK (St z t u D I (WFr p l e R s m args below meth c Z) s R m mi n0 (pc, L, st, s0)) RT CL BR SW (match (generalizing := false) as with
          | [.inr (.inr a)] => if mj = -1 then rN (some (0 ≤ a)) (popTo (i, 3, [mj, n, rt, mo, cc, bd, w]) (pc, L, st, s0) rest) else if mj = -6 then bif decide (a = -11) then rN none (popTo (i, 3, [mj, n, rt, mo, cc, bd, w]) (pc, L, st, s0) (vI 48 :: rest)) else rX else rX
          | [.inr (.inr a), .inl i9] => if mj = -7 then bif decide (a = -11) then rN (some (0 ≤ i9 ∧ i9 < 48)) (popTo (i, 3, [mj, n, rt, mo, cc, bd, w]) (pc, L, st, s0) (vI (lng_ i9) :: rest)) else rX else rX
          | [.inl x, .inl y] => if mj = -2 then gI 0 x y (fun g => rN g (popTo (i, 3, [mj, n, rt, mo, cc, bd, w]) (pc, L, st, s0) (vI (max_ x y) :: rest))) else if mj = -3 then gI 0 x y (fun g => rN g (popTo (i, 3, [mj, n, rt, mo, cc, bd, w]) (pc, L, st, s0) (vI (min_ x y) :: rest))) else rX
          | [.inr (.inl x), .inr (.inl y)] => if mj = -4 then rN (some (inL x ∧ inL y)) (popTo (i, 3, [mj, n, rt, mo, cc, bd, w]) (pc, L, st, s0) (vL (max_ x y) :: rest)) else rX
          | [.inr (.inr a), .inl p, .inr (.inr b), .inl q, .inl k] =>
            if mj = -5 then bif okO (bnd_ mi) 20 a && (okO (bnd_ mi) 20 b && (decide (a ≠ b) && (decide (p = 0) && (decide (q = 0) && (decide (0 ≤ k) && (decide (k ≤ ln_ a) && decide (k ≤ ln_ b))))))) then
              rN none (popTo (i, 3, [mj, n, rt, mo, cc, bd, w]) (pc, L, st, (ce_ s0.1 b (fun j => if 0 ≤ j ∧ j < k then s0.1 a j else s0.1 b j), s0.2)) rest) else rX else rX
          | _ => rX) := by
  subst hst
  have hsize : ∀ ls : Array Slot, LR z t u (mxl_ mi) L ls → c.maxLocals = ls.size := fun ls hl => by rw [C.2.2.1, hl.2.1]
  have hcatm : ((rest.map (cv z t u)).map fun v => v.category).sum ≤ 8 := by rw [cats_map]; exact hcat
  have hlo : 40 ≤ lo_ mi ∧ 2 ≤ fr_ mi := hroom
  have hRf : 1 ≤ R.frames := by have := C.2.2.2.2.2.2.2.2.2.2.1; omega
  have hRl : 40 ≤ R.locals := by have := C.2.2.2.2.2.2.2.2.2.2.2; omega
  split
  · rename_i a
    split
    · rename_i h1
      subst h1
      intro ha
      have ha : 0 ≤ a := ha
      cases i <;> simp only [ckJ, Bool.and_eq_true, Bool.or_eq_true, decide_eq_true_eq, Bool.false_eq_true] at hr <;> try (exfalso; omega)
      rename_i ix
      obtain ⟨⟨⟨⟨-, -⟩, hw1⟩, hw2⟩, hw3⟩ := hr
      refine St.stk rfl rfl (fun H locs cells slots ls hl kk => ?_)
      change W p l e R s m args below meth c H locs cells slots Z (F0 m (pc + 3) ls (rest.map (cv z t u))) at kk
      change W p l e R s m args below meth c H locs cells slots Z (F0 m pc ls (cvR z t u a :: rest.map (cv z t u)))
      rw [cvR_p ha]
      refine W.objInit C.1 C.2.1 C.2.2.2.1 (C.2.2.2.2.1 _ (hw_ok hw1)) (C.2.2.2.2.1 _ (hw_ok hw2)) (C.2.2.2.2.1 _ (hw_ok hw3)) rfl (hsize ls hl).symm rfl hd hRf ?_ kk
      show 2 * 0 + _ + 12 ≤ _
      omega
    · split
      · rename_i h1 h2
        subst h2
        cases hb : decide (a = -11) with
        | false => exact True.intro
        | true =>
          have ha : a = -11 := of_decide_eq_true hb
          subst ha
          cases i <;> simp only [ckJ, Bool.and_eq_true, Bool.or_eq_true, decide_eq_true_eq, Bool.false_eq_true] at hr <;> try (exfalso; omega)
          rename_i ix
          obtain ⟨⟨h4, h85⟩, hr⟩ := hr
          rcases hr with ⟨-, hr⟩ | ⟨hr, -⟩
          · intro _
            exact st_len C hd (hw_ok hr) ⟨h4, h85⟩ hcat
          · exfalso; omega
      · exact True.intro
  · rename_i a i9
    split
    · rename_i h1
      subst h1
      cases hb : decide (a = -11) with
      | false => exact True.intro
      | true =>
        have ha : a = -11 := of_decide_eq_true hb
        subst ha
        cases i <;> simp only [ckJ, Bool.and_eq_true, Bool.or_eq_true, decide_eq_true_eq, Bool.false_eq_true] at hr <;> try (exfalso; omega)
        rename_i ix
        obtain ⟨⟨h4, h85⟩, hr⟩ := hr
        rcases hr with ⟨hr, -⟩ | ⟨-, hr⟩
        · exfalso; omega
        · intro hg
          exact st_chr C hd (hw_ok hr) ⟨h4, h85⟩ hcat hg.1 hg.2
    · exact True.intro
  · rename_i x y
    split
    · rename_i h1
      subst h1
      cases i <;> simp only [ckJ, Bool.and_eq_true, Bool.or_eq_true, decide_eq_true_eq, Bool.false_eq_true] at hr <;> try (exfalso; omega)
      rename_i ix
      rcases hr with ((hr | hr) | hr) | hr <;> try (exfalso; omega)
      obtain ⟨⟨⟨⟨⟨-, -⟩, hw1⟩, hw2⟩, hw3⟩, hw4⟩ := hr
      unfold gI
      rw [if_pos rfl]
      rintro ⟨hx, hy⟩
      refine ⟨Int.le_refl _, Int.le_refl _, fun _ => rfl, fun b1 b2 k H locs cells slots ls hR hS e1 e2 hl => ?_⟩
      have kk := k H locs cells slots ls hR hS e1 e2 hl
      change W p l e R s m args below meth c H locs cells slots Z (F0 m (pc + 3) ls (.int (Int32.ofInt (max_ x y)) :: rest.map (cv z t u))) at kk
      change W p l e R s m args below meth c H locs cells slots Z (F0 m pc ls (.int (Int32.ofInt y) :: .int (Int32.ofInt x) :: rest.map (cv z t u)))
      refine va_mmax C.1 C.2.1 (hsize ls hl) C.2.2.2.1 (C.2.2.2.2.1 _ (hw_ok hw1)) (C.2.2.2.2.1 _ (hw_ok hw2)) (C.2.2.2.2.1 _ (hw_ok hw3)) (C.2.2.2.2.1 _ (hw_ok hw4)) hRf (by omega) (by have h3 := hR.1; have h4 : s.heap.size + cells = z + (szS s0).toNat := e1; have h5 : z + (szS s0).toNat ≤ s.heap.size + R.cells := b1; omega) (by have h4 : (slots : Int) = nsS s0 - n0 := e2; have h5 : nsS s0 - n0 ≤ (R.slots : Int) := b2; omega) hd ?_
      have : (if Int32.ofInt x < Int32.ofInt y then Int32.ofInt y else Int32.ofInt x) = Int32.ofInt (max_ x y) := by
        unfold max_
        by_cases q : x < y
        · rw [if_pos q, if_pos ((i_lt hx hy).mpr q)]
        · rw [if_neg q, if_neg (fun w => q ((i_lt hx hy).mp w))]
      rw [this]
      exact kk
    · split
      · rename_i h1
        subst h1
        cases i <;> simp only [ckJ, Bool.and_eq_true, Bool.or_eq_true, decide_eq_true_eq, Bool.false_eq_true] at hr <;> try (exfalso; omega)
        rename_i ix
        rcases hr with ((hr | hr) | hr) | hr <;> try (exfalso; omega)
        obtain ⟨⟨⟨⟨⟨-, -⟩, hw1⟩, hw2⟩, hw3⟩, hw4⟩ := hr
        unfold gI
        rw [if_pos rfl]
        rintro ⟨hx, hy⟩
        refine ⟨Int.le_refl _, Int.le_refl _, fun _ => rfl, fun b1 b2 k H locs cells slots ls hR hS e1 e2 hl => ?_⟩
        have kk := k H locs cells slots ls hR hS e1 e2 hl
        change W p l e R s m args below meth c H locs cells slots Z (F0 m (pc + 3) ls (.int (Int32.ofInt (min_ x y)) :: rest.map (cv z t u))) at kk
        change W p l e R s m args below meth c H locs cells slots Z (F0 m pc ls (.int (Int32.ofInt y) :: .int (Int32.ofInt x) :: rest.map (cv z t u)))
        refine va_mmin C.1 C.2.1 (hsize ls hl) C.2.2.2.1 (C.2.2.2.2.1 _ (hw_ok hw1)) (C.2.2.2.2.1 _ (hw_ok hw2)) (C.2.2.2.2.1 _ (hw_ok hw3)) (C.2.2.2.2.1 _ (hw_ok hw4)) hRf (by omega) (by have h3 := hR.1; have h4 : s.heap.size + cells = z + (szS s0).toNat := e1; have h5 : z + (szS s0).toNat ≤ s.heap.size + R.cells := b1; omega) (by have h4 : (slots : Int) = nsS s0 - n0 := e2; have h5 : nsS s0 - n0 ≤ (R.slots : Int) := b2; omega) hd ?_
        have : (if Int32.ofInt y < Int32.ofInt x then Int32.ofInt y else Int32.ofInt x) = Int32.ofInt (min_ x y) := by
          unfold min_
          by_cases q : y < x
          · rw [if_pos q, if_pos ((i_lt hy hx).mpr q)]
          · rw [if_neg q, if_neg (fun w => q ((i_lt hy hx).mp w))]
        rw [this]
        exact kk
      · exact True.intro
  · rename_i x y
    split
    · rename_i h1
      subst h1
      cases i <;> simp only [ckJ, Bool.and_eq_true, Bool.or_eq_true, decide_eq_true_eq, Bool.false_eq_true] at hr <;> try (exfalso; omega)
      rename_i ix
      rcases hr with ((hr | hr) | hr) | hr <;> try (exfalso; omega)
      obtain ⟨⟨⟨⟨⟨-, -⟩, hw1⟩, hw2⟩, hw3⟩, hw4⟩ := hr
      rintro ⟨hx, hy⟩
      refine ⟨Int.le_refl _, Int.le_refl _, fun _ => rfl, fun b1 b2 k H locs cells slots ls hR hS e1 e2 hl => ?_⟩
      have kk := k H locs cells slots ls hR hS e1 e2 hl
      change W p l e R s m args below meth c H locs cells slots Z (F0 m (pc + 3) ls (.long (Int64.ofInt (max_ x y)) :: rest.map (cv z t u))) at kk
      change W p l e R s m args below meth c H locs cells slots Z (F0 m pc ls (.long (Int64.ofInt y) :: .long (Int64.ofInt x) :: rest.map (cv z t u)))
      refine va_mmax_long C.1 C.2.1 (hsize ls hl) C.2.2.2.1 (C.2.2.2.2.1 _ (hw_ok hw1)) (C.2.2.2.2.1 _ (hw_ok hw2)) (C.2.2.2.2.1 _ (hw_ok hw3)) (C.2.2.2.2.1 _ (hw_ok hw4)) hRf (by omega) (by have h3 := hR.1; have h4 : s.heap.size + cells = z + (szS s0).toNat := e1; have h5 : z + (szS s0).toNat ≤ s.heap.size + R.cells := b1; omega) (by have h4 : (slots : Int) = nsS s0 - n0 := e2; have h5 : nsS s0 - n0 ≤ (R.slots : Int) := b2; omega) hd ?_
      have : (if Int64.ofInt y < Int64.ofInt x then Int64.ofInt x else Int64.ofInt y) = Int64.ofInt (max_ x y) := by
        unfold max_
        by_cases q : x < y
        · rw [if_pos q, if_neg (fun w => by have := (l_lt hy hx).mp w; omega)]
        · rw [if_neg q]
          by_cases q2 : y < x
          · rw [if_pos ((l_lt hy hx).mpr q2)]
          · rw [if_neg (fun w => q2 ((l_lt hy hx).mp w)), show x = y by omega]
      rw [this]
      exact kk
    · exact True.intro
  · rename_i a p0 b q0 k0
    split
    · rename_i h1
      subst h1
      cases i <;> simp only [ckJ, Bool.and_eq_true, Bool.or_eq_true, decide_eq_true_eq, Bool.false_eq_true] at hr <;> try (exfalso; omega)
      rename_i ix
      rcases hr with ((hr | hr) | hr) | hr <;> try (exfalso; omega)
      obtain ⟨⟨⟨⟨⟨-, -⟩, hw1⟩, hw2⟩, hw3⟩, hw4⟩ := hr
      cases hb : okO (bnd_ mi) 20 a && (okO (bnd_ mi) 20 b && (decide (a ≠ b) && (decide (p0 = 0) && (decide (q0 = 0) && (decide (0 ≤ k0) && (decide (k0 ≤ ln_ a) && decide (k0 ≤ ln_ b))))))) with
      | false => exact True.intro
      | true =>
        simp only [Bool.and_eq_true, decide_eq_true_eq] at hb
        obtain ⟨hb1, hb2, hab, rfl, rfl, hk0, hka, hkb⟩ := hb
        have hB := bnd_le mi
        obtain ⟨a0, a1, a2⟩ := okO_live hB hF hb1
        obtain ⟨c0, c1, c2⟩ := okO_live hB hF hb2
        have la : lD_ s0.2.2.1 a = ln_ a := lD_small (by have := (okO_of hb1).2.1; omega)
        have lb : lD_ s0.2.2.1 b = ln_ b := lD_small (by have := (okO_of hb2).2.1; omega)
        have fI : (fun j : Nat => Int32.ofInt (ce_ s0.1 b (fun j => if 0 ≤ j ∧ j < k0 then s0.1 a j else s0.1 b j) b j)) = va_cpy (fun j : Nat => Int32.ofInt (s0.1 a j)) (fun j : Nat => Int32.ofInt (s0.1 b j)) 0 0 k0.toNat := by
          funext j
          unfold va_cpy ce_
          rw [if_pos rfl]
          show Int32.ofInt (if 0 ≤ (j : Int) ∧ (j : Int) < k0 then s0.1 a j else s0.1 b j) = if 0 ≤ j ∧ j < 0 + k0.toNat then Int32.ofInt (s0.1 a ((0 + (j - 0) : Nat) : Int)) else Int32.ofInt (s0.1 b j)
          have ej : 0 + (j - 0) = j := by omega
          rw [ej]
          by_cases hj : (j : Int) < k0
          · rw [if_pos ⟨by omega, hj⟩, if_pos ⟨by omega, by omega⟩]
          · rw [if_neg (fun w => hj w.2), if_neg (fun w => hj (by have := w.2; omega))]
        intro _
        show St z t u D I (WFr p l e R s m args below meth c Z) s R m mi n0 (pc, L, vI k0 :: vI 0 :: vR b :: vI 0 :: vR a :: rest, s0) (pc + 3, L, rest, (ce_ s0.1 b (fun j => if 0 ≤ j ∧ j < k0 then s0.1 a j else s0.1 b j), s0.2))
        refine St.write2 (a := b) (ev := .inl (I.1, ((lD_ s0.2.2.1 b).toNat, .inl (va_cpy (fun j : Nat => Int32.ofInt (s0.1 a j)) (fun j : Nat => Int32.ofInt (s0.1 b j)) 0 0 k0.toNat)))) rfl rfl rfl (fun _ => rfl) rfl c0 c1 (by show kD_ s0.2.2.1 b ≠ 99; rw [c2]; omega) ?_ (fun q hq _ _ => en_other rfl (fun j => if_neg hq) (fun _ => rfl)) ?_
        · show en z t u I (ce_ s0.1 b (fun j => if 0 ≤ j ∧ j < k0 then s0.1 a j else s0.1 b j), s0.2) b = _
          rw [en_20 (s0 := (ce_ s0.1 b (fun j => if 0 ≤ j ∧ j < k0 then s0.1 a j else s0.1 b j), s0.2)) c2]; show Sum.inl _ = Sum.inl _; rw [← fI]
        · intro H locs cells slots ls kx hl hR hP hS hkx kk
          change Rel z t u D I s0 H at hR
          change W p l e R s m args below meth c H locs cells slots Z (F0 m pc ls (.int (Int32.ofInt k0) :: .int (Int32.ofInt 0) :: cvR z t u b :: .int (Int32.ofInt 0) :: cvR z t u a :: rest.map (cv z t u)))
          change (wl z t u I s0)[kx]? = _ at hkx
          rw [en_20 c2] at hkx
          obtain ⟨ka, hka2⟩ := hR.at a0 a1 (by rw [a2]; omega)
          rw [en_20 a2] at hka2
          rw [cvR_p a0, cvR_p c0]
          have hlb : lD_ s0.2.2.1 b ≤ 100000000 := lD_le (s0 := s0) (a := b) hR
          have hi : inI k0 := ⟨by omega, by omega⟩
          have hz : (Int32.ofInt 0).toNatClampNeg = 0 := rfl
          have hk : (Int32.ofInt k0).toNatClampNeg = k0.toNat := by show (Int32.ofInt k0).toInt.toNat = k0.toNat; rw [i_in hi]
          have hw : nativeFrameWords "java/lang/System" "arraycopy" 5 ≤ 21 := by decide
          exact va_copyi C.1 C.2.1 (hsize ls hl) C.2.2.2.1 (C.2.2.2.2.1 _ (hw_ok hw1)) (C.2.2.2.2.1 _ (hw_ok hw4)) (C.2.2.2.2.1 _ (hw_ok hw2)) (C.2.2.2.2.1 _ (hw_ok hw3)) C.2.2.2.2.2.2.2.2.1.1 hP wl_D hS ka kx 0 0 hka2 hkx rfl rfl rfl (by decide) (by decide) (fun w => by have := (i_lt hi i_0).mp w; omega) (by rw [hz, hk]; omega) (by rw [hz, hk]; omega) (fun _ _ => rfl) hRf (by omega) hd (fun H1 locs1 g1 g2 g3 => kk H1 locs1 (by rw [va_cpyz hz hz hk] at g1; exact g1) (by rw [va_cpyz hz hz hk] at g2; exact g2) g3)
    · exact True.intro
  · exact True.intro
theorem ok_ldcS {ix : Nat} (C : Cx z t u D I p R s m args meth c mi) (hd : decode (bts_ mi) pc = .ok (.ldc ix, 2)) (hr : ckR mi pc (.ldc ix, 2, r) = true) (hs : r.length = 3) : OK (St z t u D I (WFr p l e R s m args below meth c Z) s R m mi n0 (pc, L, st, s0)) RT CL BR SW (act B (.ldc ix, 2, r) (pc, L, st, s0)) := by
  rcases r with _ | ⟨v, _ | ⟨w, _ | ⟨w2, _ | ⟨_, _⟩⟩⟩⟩ <;> try (exfalso; cases hs; done)
  simp only [ckR, Bool.and_eq_true, decide_eq_true_eq] at hr
  obtain ⟨⟨rfl, h8⟩, rfl⟩ := hr
  have hown : s.vm.findClass "ShutPasses$Reader" = some m.cls := by
    have h := C.2.2.2.1
    rw [h8] at h
    exact h
  exact fun _ => St.stk rfl rfl (fun H locs cells slots ls hl kk => va_ldcS C.1 C.2.1 hown C.2.2.2.2.2.2.2.2.1.2.2.2.2.2 hd kk)
end SIML
