/-- what all of the method's entries have been looked at for -/
def CkAll : Prop := ∀ (mi pc : Nat) (e : aE), code_ mi pc = some e → ckE mi pc e = true ∧ ckY mi = true
/-- a method's end, as a contract says it -/
def QcR (z t u : Nat) (D : va_G) (I : aI) (rr : Option aV) (s1 : aS) : Array Value → State → Outcome → State → Prop := match rr with
  | none => va_Qv (fun _ : Unit => True) (fun _ T => Rel z t u D I s1 T.heap) (AAz z)
  | some (.inl x) => va_Qi (fun v (_ : Unit) => v = Int32.ofInt x) (fun _ T => Rel z t u D I s1 T.heap) (AAz z)
  | some (.inr (.inl x)) => va_Ql (fun v (_ : Unit) => v = Int64.ofInt x) (fun _ T => Rel z t u D I s1 T.heap) (AAz z)
  | some (.inr (.inr _)) => fun _ _ _ _ => True
theorem QcR.of {z t u : Nat} {D : va_G} {I : aI} {rr : Option aV} {s1 : aS} {a : Array Value} {s T : State} {H : Heap} {locs : List Loc} (hR : Rel z t u D I s1 H) (hS : va_S (AAz z) s.heap H locs) (hT : T.heap = H) : QcR z t u D I rr s1 a s (.returned (rr.map (cv z t u))) T := by
  have hF := hS.F hT
  have hR2 : Rel z t u D I s1 T.heap := by rw [hT]; exact hR
  rcases rr with _ | x | x | x
  · exact ⟨⟨(), rfl, trivial, hR2⟩, hF⟩
  · exact ⟨⟨Int32.ofInt x, (), rfl, rfl, hR2⟩, hF⟩
  · exact ⟨⟨Int64.ofInt x, (), rfl, rfl, hR2⟩, hF⟩
  · trivial
/-- THE SIMULATION, n instructions of the abstract machine -/
def Sim (n : Nat) : Prop := ∀ (mi : Nat) (S : aT) (rr : Option aV) (s1 : aS), exec n mi S = some (rr, s1) →
  (szS S.2.2.2 ≤ szS s1 ∧ nsS S.2.2.2 ≤ nsS s1 ∧ (cl_ mi = false → s1.2.1 = S.2.2.2.2.1)) ∧
  ∀ (z t u : Nat) (D : va_G) (I : aI) (p : Program) (l : Launch) (e : Env) (R : Room) (s : State) (m : MethodId) (args : Array Value) (below : List Frame) (meth : Method) (c : Code), Cx z t u D I p R s m args meth c mi → bld_ (bnd_ mi) S.2.2.2 →
    ∀ (n0 : Int) (Qc : Array Value → State → Outcome → State → Prop) (mc ms : Nat), z + (szS s1).toNat ≤ s.heap.size + R.cells → nsS s1 - n0 ≤ R.slots → z + (szS s1).toNat ≤ s.heap.size + mc → nsS s1 - n0 ≤ ms →
      (∀ (H : Heap) (locs : List Loc) (T : State), Rel z t u D I s1 H → va_S (AAz z) s.heap H locs → T.heap = H → s.WarmedH T.vm → Qc args s (.returned (rr.map (cv z t u))) T) →
      Go z t u D I (WFr p l e R s m args below meth c (MQ below Qc args s mc ms (AAz z))) s m mi n0 S
theorem bld_keep {L : Int} {s0 s1 : aS} (h : bld_ L s0) (hz : szS s0 ≤ szS s1) (hF : s1.2.1 = s0.2.1) : bld_ L s1 := ⟨Int.le_trans h.1 hz, fun q hq hL => by rw [hF]; exact h.2 q hq hL⟩
theorem cl_bnd : ∀ mi, cl_ mi = true → bnd_ mi = 0 := by
  intro mi h
  by_cases hm : mi < 300
  · have h2 : (List.range 300).all (fun k => !(cl_ k) || decide (bnd_ k = 0)) = true := by decide +kernel
    have h3 := List.all_eq_true.mp h2 mi (List.mem_range.mpr hm)
    rw [h] at h3
    simpa using h3
  · unfold bnd_
    rw [Nat.ble_eq_true_of_le (show _ ≤ mi by omega)]
    rfl
/-- the bound still holds behind a step -/
theorem bld_step {mi : Nat} {s0 s1 : aS} (h : bld_ (bnd_ mi) s0) (h0 : 0 ≤ szS s0) (hz : szS s0 ≤ szS s1) (hF : cl_ mi = false → s1.2.1 = s0.2.1) : bld_ (bnd_ mi) s1 := by
  cases hc : cl_ mi with
  | false => exact bld_keep h hz (hF hc)
  | true =>
    rw [cl_bnd mi hc]
    refine ⟨by show 0 ≤ szS s1; omega, fun q hq hL => ?_⟩
    have h2 : finL.all (fun q => decide (0 ≤ q.1)) = true := by decide +kernel
    have := of_decide_eq_true (List.all_eq_true.mp h2 q hq)
    omega
theorem layA_slots (z t u : Nat) : ∀ as : List aV, (lg_sl (as.map (cv z t u))).length = cats as
  | [] => rfl
  | v :: l => by
    have ih := layA_slots z t u l
    unfold lg_sl at ih ⊢
    rw [List.map_cons, List.flatMap_cons, List.length_append, ih]
    rcases v with x | x | x
    · rfl
    · rfl
    · rw [if_neg (by rw [show cv z t u (.inr (.inr x)) = cvR z t u x from rfl, cvR_cat]; decide)]
      rfl
theorem pad_len : ∀ (n : Nat) (l : List aL), (pad_ n l).length = n
  | 0, _ => rfl
  | n + 1, [] => by simp [pad_, pad_len n []]
  | n + 1, a :: l => by simp [pad_, pad_len n l]
theorem pad_get : ∀ (n : Nat) (l : List aL) (i : Nat) (v : Option aV), nL_ (pad_ n l) i = some v → nL_ l i = some v
  | 0, _, _, _, h => by simp [pad_, nL_] at h
  | n + 1, [], 0, _, h => by simp [pad_, nL_] at h
  | n + 1, [], i + 1, v, h => by
    have := pad_get n [] i v h
    simp [nL_] at this
  | n + 1, a :: l, 0, v, h => h
  | n + 1, a :: l, i + 1, v, h => pad_get n l i v h
/-- the arguments lie where the entry frame has them -/
theorem lay_get (z t u : Nat) : ∀ (as : List aV) (k i : Nat) (v : Value), asv z t u (layA as) i = some v → (i + k, v) ∈ lv_args k (as.map (cv z t u))
  | [], k, i, v, h => by simp [layA, asv, nL_] at h
  | a :: as, k, i, v, h => by
    have one : ∀ w : aV, (∀ x, w ≠ .inr (.inl x)) → asv z t u (some (some w) :: layA as) i = some v → (i + k, v) ∈ lv_args k (cv z t u w :: as.map (cv z t u)) := by
      intro w hw h
      cases i with
      | zero =>
        have e : v = cv z t u w := by
          unfold asv at h
          rcases w with x | x | x
          · exact (Option.some.inj h).symm
          · exact absurd rfl (hw x)
          · exact (Option.some.inj h).symm
        rw [e, Nat.zero_add]
        exact List.mem_cons_self
      | succ i =>
        have h2 := lay_get z t u as (k + 1) i v h
        have hcat : (cv z t u w).category = 1 := by
          rcases w with x | x | x
          · rfl
          · exact absurd rfl (hw x)
          · exact cvR_cat z t u x
        show _ ∈ (k, cv z t u w) :: lv_args (if (cv z t u w).category = 2 then k + 2 else k + 1) (as.map (cv z t u))
        rw [hcat, if_neg (by decide)]
        refine List.mem_cons_of_mem _ ?_
        rw [show i + 1 + k = i + (k + 1) by omega]
        exact h2
    rcases a with x | x | x
    · exact one (.inl x) (fun y q => by cases q) h
    · match i, h with
      | 0, h =>
        have e : v = .long (Int64.ofInt x) := (Option.some.inj h).symm
        rw [e, Nat.zero_add]
        exact List.mem_cons_self
      | 1, h => cases h
      | i + 2, h =>
        have h2 := lay_get z t u as (k + 2) i v h
        show _ ∈ (k, Value.long (Int64.ofInt x)) :: lv_args (k + 2) (as.map (cv z t u))
        refine List.mem_cons_of_mem _ ?_
        rw [show i + 2 + k = i + (k + 2) by omega]
        exact h2
    · exact one (.inr (.inr x)) (fun y q => by cases q) h
theorem asv_pad {z t u n : Nat} {l : List aL} {i : Nat} {v : Value} (h : asv z t u (pad_ n l) i = some v) : asv z t u l i = some v := by
  unfold asv at h ⊢
  cases hq : nL_ (pad_ n l) i with
  | none => rw [hq] at h; cases h
  | some w =>
    rw [pad_get n l i w hq]
    rw [hq] at h
    rcases w with _ | x | x | x
    · cases h
    · exact h
    · cases hq2 : nL_ (pad_ n l) (i + 1) with
      | none => rw [hq2] at h; cases h
      | some w2 =>
        show (match nL_ l (i + 1) with | some none => some (Value.long (Int64.ofInt x)) | _ => none) = _
        rw [pad_get n l (i + 1) w2 hq2]
        rw [hq2] at h
        exact h
    · exact h
theorem ent_LR (z t u : Nat) {mj : Nat} {as : List aV} {s0 : aS} (h : cats as ≤ mxl_ mj) : LR z t u (mxl_ mj) (ent_ mj as s0).2.1 ((lg_sl (as.map (cv z t u)) ++ List.replicate (mxl_ mj - (lg_sl (as.map (cv z t u))).length) Slot.unset).toArray) := by
  have hh := lv_entry (as.map (cv z t u)) (n := mxl_ mj) (by rw [layA_slots]; exact h)
  refine ⟨pad_len _ _, hh.1, hh.2.1, fun i v hv => ?_⟩
  have h1 := lay_get z t u as 0 i v (asv_pad hv)
  exact hh.2.2 (i, v) h1
/-- the contract of a method out of a run of the abstract machine -/
theorem met_of {n mj : Nat} {as : List aV} {s0 s1 : aS} {rr : Option aV} (hck : ckY mj = true) (hS : Sim n) (hex : exec n mj (ent_ mj as s0) = some (rr, s1)) (hF : bld_ (bnd_ mj) s0) (hcat : cats as ≤ mxl_ mj) (z t u : Nat) (D : va_G) (I : aI) (l : Launch) {mc ms : Nat} (h0 : 0 ≤ szS s0) (hmc : szS s0 + mc = szS s1) (hms : nsS s0 + ms = nsS s1) :
    Met l (yn_ mj) (.code (yn_ mj) (bts_ mj) (mxl_ mj) (rt_ mj) :: ww_) { frames := fr_ mj, cells := mc, slots := ms, locals := lo_ mj } (va_Pc (as.map (cv z t u)) (fun U => Rel z t u D I s0 U.heap ∧ KK z t u D I U U.heap)) (QcR z t u D I rr s1) mc ms (AAz z) := by
  simp only [ckY, Bool.and_eq_true, decide_eq_true_eq] at hck
  obtain ⟨⟨⟨⟨⟨⟨⟨⟨⟨hcode, hini⟩, hcls⟩, -⟩, -⟩, hnp⟩, hpl⟩, hfr⟩, hlo⟩, hinst⟩ := hck
  refine Met.ofW (cc := bts_ mj) (maxL := mxl_ mj) (ret := rt_ mj) hpl rfl ?_
  intro p e s m args below meth c s₁ Bd hml hv
  obtain ⟨rfl, hR, hKK⟩ := hv
  have hts := atoms_spec (ws := Cond.code (yn_ mj) (bts_ mj) (mxl_ mj) (rt_ mj) :: ww_) Bd.pre
  have hown : s.vm.findClass (cn_ (oc_ mj)) = some m.cls := by rw [← hcls]; exact findClass_of_methodNamed Bd.named
  have C : Cx z t u D I p { frames := fr_ mj, cells := mc, slots := ms, locals := lo_ mj } s m (as.map (cv z t u)).toArray meth c mj := by
    refine ⟨Bd.exec, Bd.bytes, hml, hown, fun w hw => hts w (List.mem_cons_of_mem _ hw), Bd.returns, Bd.notSynchronized, fun hi => ?_, hKK, ?_, Nat.le_refl _, Nat.le_refl _⟩
    · have h1 := (name_of_methodNamed Bd.named Bd.method).1
      rw [h1]
      rw [if_neg (by omega), if_pos hi] at hinst
      simp only [Bool.and_eq_true, decide_eq_true_eq] at hinst
      exact hinst.2
    · have := hR.2.1
      omega
  obtain ⟨-, hmain⟩ := hS mj (ent_ mj as s0) rr s1 hex
  have hsz : s.heap.size = z + (szS s0).toNat := hR.2.1
  have go := hmain z t u D I p l e { frames := fr_ mj, cells := mc, slots := ms, locals := lo_ mj } s m (as.map (cv z t u)).toArray below meth c C hF (nsS s0) (QcR z t u D I rr s1) mc ms (by show z + (szS s1).toNat ≤ s.heap.size + mc; omega) (by show nsS s1 - nsS s0 ≤ (ms : Int); omega) (by omega) (by omega) (fun H locs T g1 g2 g3 _ => QcR.of g1 g2 g3)
  have := go s.heap [] 0 0 _ hR va_S.rf (by show s.heap.size + 0 = z + (szS s0).toNat; omega) (by show ((0 : Nat) : Int) = nsS s0 - nsS s0; omega) (ent_LR z t u hcat)
  rw [lg_entry_eq]
  exact this
section SIMP
theorem is_big {k : Nat} (h : 300 ≤ k) : is_ k = 0 := by
  unfold is_
  rw [Nat.ble_eq_true_of_le (show _ ≤ k by omega)]
  rfl
theorem oc_small {k : Nat} (h : is_ k ≠ 0) : oc_ k < 13 := by
  have hk : k < 300 := Nat.not_le.mp (fun q => h (is_big q))
  have h2 : (List.range 300).all (fun k => decide (is_ k = 0) || decide (oc_ k < 13)) = true := by decide +kernel
  have h3 := List.all_eq_true.mp h2 k (List.mem_range.mpr hk)
  rw [Bool.or_eq_true, decide_eq_true_eq, decide_eq_true_eq] at h3
  exact h3.resolve_left h
theorem rt_ctor {k : Nat} (h : is_ k = 2) : rt_ k = none := by
  have hk : k < 300 := Nat.not_le.mp (fun q => by rw [is_big q] at h; cases h)
  have h2 : (List.range 300).all (fun k => !(decide (is_ k = 2)) || decide (rt_ k = none)) = true := by decide +kernel
  have h3 := List.all_eq_true.mp h2 k (List.mem_range.mpr hk)
  rw [decide_eq_true h] at h3
  simpa using h3
theorem ar1 {z a cells : Nat} {s0 s1 : Int} (h0 : 0 ≤ s0) (h : s0 ≤ s1) (e : a + cells = z + s0.toNat) : a + (cells + (s1 - s0).toNat) = z + s1.toNat := by omega
theorem ar2 {slots : Nat} {n0 a b : Int} (e : (slots : Int) = a - n0) (h : a ≤ b) : ((slots + (b - a).toNat : Nat) : Int) = b - n0 := by omega
theorem ar3 {z a cells r : Nat} {s0 s1 : Int} (h0 : 0 ≤ s0) (h : s0 ≤ s1) (e : a + cells = z + s0.toNat) (hb : z + s1.toNat ≤ a + r) : cells + (s1 - s0).toNat ≤ r := by omega
theorem ar4 {slots r : Nat} {n0 a b : Int} (e : (slots : Int) = a - n0) (h : a ≤ b) (hb : b - n0 ≤ (r : Int)) : slots + (b - a).toNat ≤ r := by omega
/-- a call of one of our methods, walked -/
theorem call_go {n : Nat} (hS : Sim n) {mi mj : Nat} {i : Instr} {pc : Nat} {L : List aL} {st rest as : List aV} {s0 s1 : aS} {rr : Option aV} {rt : Nat} {st2 : List aV} (hckj : ckY mj = true) (hd : decode (bts_ mi) pc = .ok (i, 3)) (hCl : Cl mi i (pc, L, st, s0) mj as rt rest) (hex : exec n mj (ent_ mj as s0) = some (rr, s1)) (hres : res_ rt rr rest = some st2)
    {z t u : Nat} {D : va_G} {I : aI} {p : Program} {l : Launch} {e : Env} {R : Room} {s : State} {m : MethodId} {args : Array Value} {below : List Frame} {meth : Method} {c : Code} {Z : State → Prop} {n0 : Int} (C : Cx z t u D I p R s m args meth c mi) (hF : bld_ (bnd_ mi) s0)
    (hb1 : z + (szS s1).toNat ≤ s.heap.size + R.cells) (hb2 : nsS s1 - n0 ≤ R.slots)
    (k : Go z t u D I (WFr p l e R s m args below meth c Z) s m mi n0 (pc + 3, L, st2, s1)) : Go z t u D I (WFr p l e R s m args below meth c Z) s m mi n0 (pc, L, st, s0) := by
  obtain ⟨hst, hcat, hmx, hlen, hrt, hfr, hlo, hbl, hcl, hrecv, hlink⟩ := hCl
  have hst : st = as.reverse ++ rest := hst
  obtain ⟨⟨hz1, hn1, hF1⟩, -⟩ := hS mj (ent_ mj as s0) rr s1 hex
  have hz1 : szS s0 ≤ szS s1 := hz1
  have hn1 : nsS s0 ≤ nsS s1 := hn1
  intro H locs cells slots ls hR hSS e1 e2 hl
  have h0 : 0 ≤ szS s0 := hR.1
  have hFj : bld_ (bnd_ mj) s0 := by
    rcases hbl with h | h
    · exact ⟨Int.le_trans h hF.1, fun q hq hL => hF.2 q hq (Int.lt_of_lt_of_le hL h)⟩
    · exact h
  have e1 : s.heap.size + cells = z + (szS s0).toNat := e1
  have e2 : (slots : Int) = nsS s0 - n0 := e2
  have hM := met_of hckj hS hex hFj hmx z t u D I l (mc := (szS s1 - szS s0).toNat) (ms := (nsS s1 - nsS s0).toNat) h0 (by omega) (by omega)
  simp only [ckY, Bool.and_eq_true, decide_eq_true_eq] at hckj
  obtain ⟨⟨⟨⟨⟨⟨⟨⟨⟨hcode, hini⟩, hcls⟩, hnm1⟩, hnm2⟩, hnp⟩, -⟩, -⟩, -⟩, hinst⟩ := hckj
  have hcode := hw_ok hcode
  have hini := hw_ok hini
  have hts := C.2.2.2.2.1
  have good : ∀ w ∈ (Cond.code (yn_ mj) (bts_ mj) (mxl_ mj) (rt_ mj) :: ww_), w ∈ ww_ ∧ ((w.onTables && w.keeps) = true ∨ ∃ ty, w = .arrayClass ty) := by
    intro w hw
    have hw2 : w ∈ ww_ := by
      rcases List.mem_cons.mp hw with h | h
      · rw [h]; exact hcode
      · exact h
    exact ⟨hw2, good_of_word (List.mem_filter.mp hw2).2⟩
  have hpc : ∀ U : State, U.heap = H → s.WarmedH U.vm → va_Pc (as.map (cv z t u)) (fun U => Rel z t u D I s0 U.heap ∧ KK z t u D I U U.heap) (as.map (cv z t u)).toArray U := by
    intro U hU hW
    refine ⟨rfl, by rw [hU]; exact hR, ?_⟩
    have := C.2.2.2.2.2.2.2.2.1.moved (V := U) (H1 := H) hW (fun a q1 q2 => hSS.2.1 a q1 q2)
    rw [hU]
    exact this
  have blind : FrameBlind (va_Pc (as.map (cv z t u)) (fun U => Rel z t u D I s0 U.heap ∧ KK z t u D I U U.heap)) := by
    intro a U g mk q
    obtain ⟨q0, q1, q2⟩ := q
    exact ⟨q0, q1, q2.moved (V := U.calling g mk a) (State.WarmedH.refl U) (fun _ _ _ => rfl)⟩
  have hB : CallB R s args (cn_ (oc_ mi)) 0 (yn_ mj) (bts_ mj) (mxl_ mj) (rt_ mj) (.code (yn_ mj) (bts_ mj) (mxl_ mj) (rt_ mj) :: ww_) { frames := fr_ mj, cells := (szS s1 - szS s0).toNat, slots := (nsS s1 - nsS s0).toNat, locals := lo_ mj } (szS s1 - szS s0).toNat (nsS s1 - nsS s0).toNat (np_ mj) → True := fun _ => trivial
  have base : ∀ ix : Nat, Cond.methodLink (cn_ (oc_ mi)) ix (yn_ mj) ∈ ww_ → CallB R s args (cn_ (oc_ mi)) ix (yn_ mj) (bts_ mj) (mxl_ mj) (rt_ mj) (.code (yn_ mj) (bts_ mj) (mxl_ mj) (rt_ mj) :: ww_) { frames := fr_ mj, cells := (szS s1 - szS s0).toNat, slots := (nsS s1 - nsS s0).toNat, locals := lo_ mj } (szS s1 - szS s0).toNat (nsS s1 - nsS s0).toNat (np_ mj) :=
    fun ix hl => callB_of (np_ mj) hts good rfl rfl rfl (hts _ hini) (hts _ hl) ⟨hnm1, hnm2, hnp⟩ ⟨Nat.le_trans hfr C.2.2.2.2.2.2.2.2.2.2.1, Nat.le_trans hlo C.2.2.2.2.2.2.2.2.2.2.2⟩
  have hml := C.2.2.1
  have fixT : CallFix p m c (bts_ mi) (mxl_ mi) s args ww_ (cn_ (oc_ mi)) := ⟨C.1, C.2.1, hml, C.2.2.2.1, hts⟩
  have hcatm : ((rest.map (cv z t u)).map fun v => v.category).sum ≤ 8 := by rw [cats_map]; exact hcat
  have hstm : st.map (cv z t u) = (as.map (cv z t u)).reverse ++ rest.map (cv z t u) := by rw [hst]; simp
  -- behind the call
  have back : va_Run p l e R s m args below meth c H locs cells slots (szS s1 - szS s0).toNat (nsS s1 - nsS s0).toNat (F0 m pc ls (st.map (cv z t u))) (rest.map (cv z t u)) (QcR z t u D I rr s1 (as.map (cv z t u)).toArray) (AAz z) → W p l e R s m args below meth c H locs cells slots Z (F0 m pc ls (st.map (cv z t u))) := by
    intro hrun
    have after : ∀ (H1 : Heap) (locs1 : List Loc), Rel z t u D I s1 H1 → va_S (AAz z) s.heap H1 locs1 → W p l e R s m args below meth c H1 locs1 (cells + (szS s1 - szS s0).toNat) (slots + (nsS s1 - nsS s0).toNat) Z (F0 m (pc + 3) ls (st2.map (cv z t u))) := by
      intro H1 locs1 g1 g2
      exact k H1 locs1 _ _ ls g1 g2 (ar1 h0 hz1 e1) (ar2 e2 hn1) hl
    rcases rr with _ | x | x | x
    · refine va_callv (a := (as.map (cv z t u)).toArray) hrun hSS (fun q _ h => h) (fun q h => h) (fun u' T H1 locs1 q1 q2 q3 q4 q5 q6 q7 => ?_)
      have hr : st2 = rest := by
        unfold res_ at hres
        split at hres <;> cases hres <;> first | rfl | (rename_i q; cases q)
      rw [hr] at after
      exact after H1 locs1 (by rw [← q1]; exact q4) q7
    · refine va_calli (a := (as.map (cv z t u)).toArray) hrun hSS (fun q _ h => h) (fun q h => h) (fun v u' T H1 locs1 q1 q2 q3 q4 q5 q6 q7 => ?_)
      have hr : st2 = vI x :: rest := by
        unfold res_ at hres
        split at hres <;> cases hres <;> first | rfl | (rename_i q; cases q; try rfl)
      rw [hr] at after
      rw [q3]
      exact after H1 locs1 (by rw [← q1]; exact q4) q7
    · refine va_calll (a := (as.map (cv z t u)).toArray) hrun hSS (fun q _ h => h) (fun q h => h) (fun v u' T H1 locs1 q1 q2 q3 q4 q5 q6 q7 => ?_)
      have hr : st2 = vL x :: rest := by
        unfold res_ at hres
        split at hres <;> cases hres <;> first | rfl | (rename_i q; cases q; try rfl)
      rw [hr] at after
      rw [q3]
      exact after H1 locs1 (by rw [← q1]; exact q4) q7
    · exfalso
      unfold res_ at hres
      split at hres <;> first | (cases hres; done) | (rename_i q; cases q; done) | simp_all
  refine back ?_
  have hfit : cells + (szS s1 - szS s0).toNat ≤ R.cells ∧ slots + (nsS s1 - nsS s0).toNat ≤ R.slots := ⟨ar3 h0 hz1 e1 hb1, ar4 e2 hn1 hb2⟩
  rcases hlink with ⟨ix, rfl, hi, hl2⟩ | ⟨ix, rfl, hi, hl2⟩ | ⟨ix, rfl, hi, hl2⟩
  · -- virtual
    rcases hrecv with h | ⟨a, as', rfl, ha0, ha1, ha2⟩
    · exfalso; omega
    rw [if_neg (by omega), Bool.and_eq_true, if_neg (by omega)] at hinst
    have hin := hts _ (hw_ok hinst.1)
    have hse := hts _ (hw_ok hinst.2)
    have hocl : oc_ mj < 13 := oc_small (by omega)
    obtain ⟨q, hq, hqn, -, -⟩ := cl_of hocl
    have hP := hR.cell ha0 ha1 (by rw [ha2]; omega)
    rw [en_obj ha2 (by omega) (by omega), Int.toNat_natCast] at hP
    have hrv := va_recv C.2.2.2.2.2.2.2.2.1.1 hP hq (q0 := 0) rfl
    have hcv : cv z t u (vR a) = .ref (z + a.toNat) := cvR_p ha0
    rw [List.map_cons, hcv] at hM hpc blind hstm ⊢
    refine va_runV (As := as'.map (cv z t u)) (n := np_ mj) (C := (yn_ mj).cls) fixT hM ⟨base ix hl2, hin, hse⟩ ⟨blind, ?_, hpc⟩ rfl ?_ ?_ ?_ (lv_room hcatm) hd hfit
    · rw [hcls, ← hqn]; exact hrv
    · rw [List.length_map]
      rw [List.length_cons, if_neg (by omega)] at hlen
      omega
    · exact hl.2.1
    · show st.map (cv z t u) = _
      rw [hstm]; simp
  · -- static
    rw [if_pos hi] at hinst
    refine va_runS (As := as.map (cv z t u)) (n := np_ mj) fixT hM ⟨base ix hl2, hts _ (hw_ok hinst)⟩ ⟨blind, hpc⟩ rfl ?_ hl.2.1 hstm (lv_room hcatm) hd hfit
    rw [List.length_map]
    rw [if_pos hi] at hlen
    omega
  · -- a constructor
    rcases hrecv with h | ⟨a, as', rfl, ha0, ha1, ha2⟩
    · exfalso; omega
    rw [if_neg (by omega), Bool.and_eq_true, if_pos hi, decide_eq_true_eq] at hinst
    have hin := hts _ (hw_ok hinst.1)
    have hrtn : rt_ mj = none := rt_ctor hi
    rw [hrtn] at hM base good hcode
    have hcv : cv z t u (vR a) = .ref (z + a.toNat) := cvR_p ha0
    rw [List.map_cons, hcv] at hM hpc blind hstm ⊢
    have hlen' : (as'.map (cv z t u)).length = np_ mj := by
      rw [List.length_map]
      rw [List.length_cons, if_neg (by omega)] at hlen
      omega
    have hstm' : st.map (cv z t u) = (as'.map (cv z t u)).reverse ++ .ref (z + a.toNat) :: rest.map (cv z t u) := by rw [hstm]; simp
    rcases hl2 with hl2 | hl2
    · exact va_runI (As := as'.map (cv z t u)) (n := np_ mj) fixT hM ⟨base ix hl2, hinst.2, hin⟩ ⟨blind, hpc⟩ rfl hlen' hl.2.1 hstm' (lv_room hcatm) hd hfit
    · refine va_runIN (As := as'.map (cv z t u)) (n := np_ mj) fixT hM ⟨va_cnB (np_ mj) hts good rfl rfl rfl (C.2.2.2.2.2.2.2.2.1.2.2.2.1 _ hl2) (hts _ hini) ⟨hnm1, hnm2, hnp⟩ ⟨Nat.le_trans hfr C.2.2.2.2.2.2.2.2.2.2.1, Nat.le_trans hlo C.2.2.2.2.2.2.2.2.2.2.2⟩, hinst.2, hin⟩ ⟨blind, hpc⟩ rfl hlen' hl.2.1 hstm' (lv_room hcatm) hd hfit
end SIMP
