section SIME
variable {z t u : Nat} {D : va_G} {I : aI} {p : Program} {l : Launch} {e : Env} {R : Room} {s : State} {m : MethodId} {args : Array Value} {below : List Frame} {meth : Method} {c : Code} {Z : State → Prop} {mi : Nat} {n0 : Int}
variable {RT : Option aV → Prop} {CL : Nat → List aV → Nat → List aV → Prop} {BR : Prop → aT → aT → Prop} {SW : Int → List (Int × aT) → aT → Prop} {ST : aT → Prop}
variable {B : Int} {pc : Nat} {L : List aL} {st : List aV} {s0 : aS} {r : List Int}
set_option maxRecDepth 20000 in
theorem kD_small {dl : Int → Int} {a : Int} (h : a < 126) : kD_ dl a = knd a := by
  unfold kD_
  rw [show decide (a < nid_) = true from decide_eq_true h]
  rfl
set_option maxRecDepth 20000 in
theorem lD_small {dl : Int → Int} {a : Int} (h : a < 126) : lD_ dl a = ln_ a := by
  unfold lD_
  rw [show decide (a < nid_) = true from decide_eq_true h]
  rfl
set_option maxRecDepth 20000 in
theorem okO_of {B c a : Int} (h : okO B c a = true) : 0 ≤ a ∧ a < B ∧ knd a = c := by
  simp only [okO, Bool.and_eq_true, decide_eq_true_eq] at h
  exact h
set_option maxRecDepth 20000 in
theorem okD_of {s : aS} {c a : Int} (h : okD s c a = true) : 0 ≤ a ∧ a < szS s ∧ kD_ s.2.2.1 a = c := by
  simp only [okD, Bool.and_eq_true, decide_eq_true_eq] at h
  exact h
set_option maxRecDepth 20000 in
theorem bnd_le (mi : Nat) : bnd_ mi ≤ 126 := by
  by_cases h : mi < 300
  · have h1 : ∀ k, k < 300 → decide (bnd_ k ≤ 126) = true := by
      intro k hk
      have h2 : (List.range 300).all (fun k => decide (bnd_ k ≤ 126)) = true := by decide +kernel
      exact List.all_eq_true.mp h2 k (List.mem_range.mpr hk)
    exact of_decide_eq_true (h1 mi h)
  · have h2 : bnd_ mi = 0 := by
      unfold bnd_
      rw [Nat.ble_eq_true_of_le (show _ ≤ mi by omega)]
      rfl
    rw [h2]; decide
set_option maxRecDepth 20000 in
theorem okO_live {B c a : Int} (hB : B ≤ 126) (hF : bld_ B s0) (h : okO B c a = true) : 0 ≤ a ∧ a < szS s0 ∧ kD_ s0.2.2.1 a = c := by
  obtain ⟨h1, h2, h3⟩ := okO_of h
  exact ⟨h1, Int.lt_of_lt_of_le h2 hF.1, by rw [kD_small (by omega)]; exact h3⟩
set_option maxRecDepth 20000 in
/-- the cell of an object -/
theorem en_obj {a cc : Int} (h : kD_ s0.2.2.1 a = cc) (h0 : 0 ≤ cc) (h1 : cc < 13) : en z t u I s0 a = .inr (cc.toNat, oe z t u s0 cc.toNat (nC_ cc).toNat a) := by
  unfold en
  rw [h, if_neg (by omega), if_neg (by omega), if_neg (by omega), if_neg (by omega)]
set_option maxRecDepth 20000 in
theorem en_20 {a : Int} (h : kD_ s0.2.2.1 a = 20) : en z t u I s0 a = .inl (I.1, ((lD_ s0.2.2.1 a).toNat, .inl (fun j => Int32.ofInt (s0.1 a j)))) := by
  unfold en
  rw [if_pos h]
set_option maxRecDepth 20000 in
theorem en_21 {a : Int} (h : kD_ s0.2.2.1 a = 21) : en z t u I s0 a = .inl (I.2.1, ((lD_ s0.2.2.1 a).toNat, .inr (.inl (fun j => Int64.ofInt (s0.1 a j))))) := by
  unfold en
  rw [h, if_neg (by omega), if_pos rfl]
set_option maxRecDepth 20000 in
theorem en_22 {a : Int} (h : kD_ s0.2.2.1 a = 22) : en z t u I s0 a = .inl (I.2.2.1, ((lD_ s0.2.2.1 a).toNat, .inl (fun j => Int32.ofInt (s0.1 a j)))) := by
  unfold en
  rw [h, if_neg (by omega), if_neg (by omega), if_pos rfl]
set_option maxRecDepth 20000 in
theorem en_23 {a : Int} (h : kD_ s0.2.2.1 a = 23) : en z t u I s0 a = .inl (I.2.2.2, ((lD_ s0.2.2.1 a).toNat, .inl (fun j => Int32.ofInt (s0.1 a j)))) := by
  unfold en
  rw [h, if_neg (by omega), if_neg (by omega), if_neg (by omega), if_pos rfl]
set_option maxRecDepth 20000 in
/-- a living cell -/
theorem Rel.cell {H : Heap} {a : Int} (hR : Rel z t u D I s0 H) (h0 : 0 ≤ a) (h1 : a < szS s0) (h2 : kD_ s0.2.2.1 a ≠ 99) : va_P D vwCl [(z + a.toNat, en z t u I s0 a)] H := by
  intro k q hq
  have hk : k < 1 := (List.getElem?_eq_some_iff.mp hq).1
  rw [show k = 0 by omega] at hq
  cases hq
  have h := hR.2.2.1 a.toNat (by omega) (by rw [Int.toNat_of_nonneg h0]; exact h2)
  rw [Int.toNat_of_nonneg h0] at h
  exact h
set_option maxRecDepth 20000 in
/-- what the class's words give -/
theorem clw_ok : ∀ c : Nat, c < 13 → ∀ q : vw_C, vwCl[c]? = some q → (∀ w ∈ u_ws q.1 q.2.1 q.2.2, w ∈ ww_) ∧ (∀ k, k < q.2.2 → parseFieldDescriptor (q.2.1 k).2.2.1 = some (ty_ c k)) ∧ (∀ a, a < q.2.2 → ∀ b, b < q.2.2 → a ≠ b → (q.2.1 a).2.1 ≠ (q.2.1 b).2.1) := by
  intro c hc q hq
  have hin : ∀ w : List Cond, w.all (fun x => lw_tbl.contains x && goodWord x) = true → ∀ x ∈ w, x ∈ ww_ := by
    intro w h x hx
    have h1 := List.all_eq_true.mp h x hx
    rw [Bool.and_eq_true] at h1
    exact List.mem_filter.mpr ⟨List.contains_iff_mem.mp h1.1, h1.2⟩
  match c, hc, hq with
  | 0, _, hq => cases hq; exact ⟨hin _ (by decide +kernel), fun k hk => by show _ = some ((parseFieldDescriptor (TX0 k).2.2.1).getD .int); rw [tyX0_ok k hk]; rfl, nmX0⟩
  | 1, _, hq => cases hq; exact ⟨hin _ (by decide +kernel), fun k hk => by show _ = some ((parseFieldDescriptor (TX1 k).2.2.1).getD .int); rw [tyX1_ok k hk]; rfl, nmX1⟩
  | 2, _, hq => cases hq; exact ⟨hin _ (by decide +kernel), fun k hk => by show _ = some ((parseFieldDescriptor (TX2 k).2.2.1).getD .int); rw [tyX2_ok k hk]; rfl, nmX2⟩
  | 3, _, hq => cases hq; exact ⟨hin _ (by decide +kernel), fun k hk => by show _ = some ((parseFieldDescriptor (TX3 k).2.2.1).getD .int); rw [tyX3_ok k hk]; rfl, nmX3⟩
  | 4, _, hq => cases hq; exact ⟨hin _ (by decide +kernel), fun k hk => by show _ = some ((parseFieldDescriptor (TX4 k).2.2.1).getD .int); rw [tyX4_ok k hk]; rfl, nmX4⟩
  | 5, _, hq => cases hq; exact ⟨hin _ (by decide +kernel), fun k hk => by show _ = some ((parseFieldDescriptor (TX5 k).2.2.1).getD .int); rw [tyX5_ok k hk]; rfl, nmX5⟩
  | 6, _, hq => cases hq; exact ⟨hin _ (by decide +kernel), fun k hk => by show _ = some ((parseFieldDescriptor (TX6 k).2.2.1).getD .int); rw [tyX6_ok k hk]; rfl, nmX6⟩
  | 7, _, hq => cases hq; exact ⟨hin _ (by decide +kernel), fun k hk => by show _ = some ((parseFieldDescriptor (TX7 k).2.2.1).getD .int); rw [tyX7_ok k hk]; rfl, nmX7⟩
  | 8, _, hq => cases hq; exact ⟨hin _ (by decide +kernel), fun k hk => by show _ = some ((parseFieldDescriptor (TX8 k).2.2.1).getD .int); rw [tyX8_ok k hk]; rfl, nmX8⟩
  | 9, _, hq => cases hq; exact ⟨hin _ (by decide +kernel), fun k hk => by show _ = some ((parseFieldDescriptor (TX9 k).2.2.1).getD .int); rw [tyX9_ok k hk]; rfl, nmX9⟩
  | 10, _, hq => cases hq; exact ⟨hin _ (by decide +kernel), fun k hk => by show _ = some ((parseFieldDescriptor (TX10 k).2.2.1).getD .int); rw [tyX10_ok k hk]; rfl, nmX10⟩
  | 11, _, hq => cases hq; exact ⟨hin _ (by decide +kernel), fun k hk => by show _ = some ((parseFieldDescriptor (TX11 k).2.2.1).getD .int); rw [tyX11_ok k hk]; rfl, nmX11⟩
  | 12, _, hq => cases hq; exact ⟨hin _ (by decide +kernel), fun k hk => by show _ = some ((parseFieldDescriptor (TX12 k).2.2.1).getD .int); rw [tyX12_ok k hk]; rfl, nmX12⟩
  | n + 13, h, _ => exact absurd h (by omega)
set_option maxRecDepth 20000 in
theorem tn_le (c k : Nat) : tn_ c k ≤ 4 := by
  unfold tn_
  cases ty_ c k <;> first | decide | exact (by omega : (3 : Int) ≤ 4)
set_option maxRecDepth 20000 in
theorem ok_getfield {ix : Nat} (C : Cx z t u D I p R s m args meth c mi) (hF : bld_ (bnd_ mi) s0) (hd : decode (bts_ mi) pc = .ok (.getfield ix, 3)) (hr : ckR mi pc (.getfield ix, 3, r) = true) : OK (St z t u D I (WFr p l e R s m args below meth c Z) s R m mi n0 (pc, L, st, s0)) RT CL BR SW (act (bnd_ mi) (.getfield ix, 3, r) (pc, L, st, s0)) := by
  rcases st with _ | ⟨a | a | a, st⟩ <;> try exact True.intro
  rcases r with _ | ⟨mo, _ | ⟨cc, _ | ⟨k, _ | ⟨ty, _ | ⟨v, _ | ⟨w, _ | ⟨_, _⟩⟩⟩⟩⟩⟩⟩ <;> try exact True.intro
  simp only [ckR, Bool.and_eq_true, decide_eq_true_eq] at hr
  obtain ⟨⟨⟨⟨⟨hc0, hc1⟩, hk0⟩, hk1⟩, hw⟩, hm⟩ := hr
  obtain ⟨q, hq, hqn, hqf, hqz⟩ := cl_of (c := cc.toNat) (by omega)
  obtain ⟨hin, -, -⟩ := clw_ok cc.toNat (by omega) q hq
  obtain ⟨qn, qT, qN⟩ := q
  dsimp only at hqn hqf hqz hin
  have hcc : ((cc.toNat : Nat) : Int) = cc := Int.toNat_of_nonneg hc0
  rw [hcc] at hqz
  -- one reading of a living object
  have key : 0 ≤ a → a < szS s0 → kD_ s0.2.2.1 a = cc → ∀ x : aV, cv z t u x = fv z t u (ty_ cc.toNat k.toNat) (if (fT_ cc.toNat k.toNat).2.2.2 = true then s0.2.1 a k else s0.1 a k) → St z t u D I (WFr p l e R s m args below meth c Z) s R m mi n0 (pc, L, .inr (.inr a) :: st, s0) (popTo (.getfield ix, 3, [mo, cc, k, ty, v, w]) (pc, L, .inr (.inr a) :: st, s0) (x :: st)) := by
    intro h1 h2 h3 x hx
    refine St.read rfl rfl (fun H locs cells slots ls hR hS hl kk => ?_)
    change W p l e R s m args below meth c H locs cells slots Z (F0 m (pc + 3) ls (cv z t u x :: st.map (cv z t u))) at kk
    change W p l e R s m args below meth c H locs cells slots Z (F0 m pc ls (cvR z t u a :: st.map (cv z t u)))
    have hP := hR.cell h1 h2 (by rw [h3]; omega)
    rw [en_obj h3 hc0 hc1] at hP
    rw [cvR_p h1]
    refine va_get (ws := [(z + a.toNat, .inr (cc.toNat, oe z t u s0 cc.toNat (nC_ cc).toNat a))]) C.1 C.2.1 C.2.2.2.2.1 hin C.2.2.2.1 C.2.2.2.2.2.2.2.2.1.1 hP 0 rfl hq k.toNat (by rw [hqz]; omega) ?_ (fun _ h => h) (v := cv z t u x) ?_ hd kk
    · rw [hqf]
      exact C.2.2.2.2.1 _ (hw_ok hw)
    · unfold oe
      rw [List.getElem?_map, List.getElem?_range (by omega)]
      show some (fv z t u (ty_ cc.toNat k.toNat) (if (fT_ cc.toNat k.toNat).2.2.2 = true then s0.2.1 a (k.toNat : Int) else s0.1 a (k.toNat : Int))) = _
      rw [Int.toNat_of_nonneg hk0, hx]
  have hB := bnd_le mi
  have lit : ∀ x : aV, cv z t u x = fv z t u (ty_ cc.toNat k.toNat) (if (fT_ cc.toNat k.toNat).2.2.2 = true then s0.2.1 a k else s0.1 a k) → OK (St z t u D I (WFr p l e R s m args below meth c Z) s R m mi n0 (pc, L, .inr (.inr a) :: st, s0)) RT CL BR SW (bif okO (bnd_ mi) cc a then rN none (popTo (.getfield ix, 3, [mo, cc, k, ty, v, w]) (pc, L, .inr (.inr a) :: st, s0) (x :: st)) else rX) := by
    intro x hx
    cases hb : okO (bnd_ mi) cc a with
    | false => exact True.intro
    | true => exact fun _ => key (okO_live hB hF hb).1 (okO_live hB hF hb).2.1 (okO_live hB hF hb).2.2 x hx
  have gd : ∀ x : aV, (okO (bnd_ mi) cc a = true → cv z t u x = fv z t u (ty_ cc.toNat k.toNat) (if (fT_ cc.toNat k.toNat).2.2.2 = true then s0.2.1 a k else s0.1 a k)) → OK (St z t u D I (WFr p l e R s m args below meth c Z) s R m mi n0 (pc, L, .inr (.inr a) :: st, s0)) RT CL BR SW (rN (some (okO (bnd_ mi) cc a = true)) (popTo (.getfield ix, 3, [mo, cc, k, ty, v, w]) (pc, L, .inr (.inr a) :: st, s0) (x :: st))) :=
    fun x hx hb => key (okO_live hB hF hb).1 (okO_live hB hF hb).2.1 (okO_live hB hF hb).2.2 x (hx hb)
  have gdD : ∀ x : aV, cv z t u x = fv z t u (ty_ cc.toNat k.toNat) (if (fT_ cc.toNat k.toNat).2.2.2 = true then s0.2.1 a k else s0.1 a k) → OK (St z t u D I (WFr p l e R s m args below meth c Z) s R m mi n0 (pc, L, .inr (.inr a) :: st, s0)) RT CL BR SW (rN (some (okD s0 cc a = true)) (popTo (.getfield ix, 3, [mo, cc, k, ty, v, w]) (pc, L, .inr (.inr a) :: st, s0) (x :: st))) :=
    fun x hx hb => key (okD_of hb).1 (okD_of hb).2.1 (okD_of hb).2.2 x hx
  -- final references
  have fn : (mo = 2 ∨ mo = 3 ∨ mo = 4 ∨ mo = 5 ∨ mo = 8) → (fT_ cc.toNat k.toNat).2.2.2 = true ∧ tn_ cc.toNat k.toNat = 3 ∧ (mo = 5 ∨ finR cc k mo v = true) := by
    intro h
    rw [show (decide (mo = 2) || (decide (mo = 3) || (decide (mo = 4) || (decide (mo = 5) || decide (mo = 8))))) = true by simp only [Bool.or_eq_true, decide_eq_true_eq]; exact h] at hm
    simpa only [cond_true, Bool.and_eq_true, Bool.or_eq_true, decide_eq_true_eq, and_assoc] using hm
  have nf : ¬ (mo = 2 ∨ mo = 3 ∨ mo = 4 ∨ mo = 5 ∨ mo = 8) → (fT_ cc.toNat k.toNat).2.2.2 = false ∧ (tn_ cc.toNat k.toNat = ty ∨ (tn_ cc.toNat k.toNat = 4 ∧ ty = 1)) ∧ 1 ≤ ty ∧ ty ≤ 3 := by
    intro h
    rw [show (decide (mo = 2) || (decide (mo = 3) || (decide (mo = 4) || (decide (mo = 5) || decide (mo = 8))))) = false by rw [Bool.eq_false_iff]; simp only [ne_eq, Bool.or_eq_true, decide_eq_true_eq]; exact h] at hm
    simpa only [cond_false, Bool.and_eq_true, Bool.or_eq_true, decide_eq_true_eq, Bool.not_eq_true', and_assoc] using hm
  have fvR : tn_ cc.toNat k.toNat = 3 → ∀ x, fv z t u (ty_ cc.toNat k.toNat) x = cvR z t u x := by
    intro h x
    unfold tn_ at h
    unfold fv
    cases hty : ty_ cc.toNat k.toNat <;> rw [hty] at h <;> simp_all
  have rdx : ¬ (mo = 2 ∨ mo = 3 ∨ mo = 4 ∨ mo = 5 ∨ mo = 8) → cv z t u (if ty = 1 then vI (s0.1 a k) else if ty = 2 then vL (s0.1 a k) else vR (s0.1 a k)) = fv z t u (ty_ cc.toNat k.toNat) (if (fT_ cc.toNat k.toNat).2.2.2 = true then s0.2.1 a k else s0.1 a k) := by
    intro hmo
    obtain ⟨hf, ht, hne⟩ := nf hmo
    rw [show (if (fT_ cc.toNat k.toNat).2.2.2 = true then s0.2.1 a k else s0.1 a k) = s0.1 a k from if_neg (by rw [hf]; decide)]
    unfold tn_ at ht
    unfold fv
    cases hty : ty_ cc.toNat k.toNat <;> rw [hty] at ht <;> simp only at ht <;> (rcases ht with ht | ⟨ht, ht2⟩) <;> first | (exfalso; omega) | (subst ht2; rfl) | (subst ht; rfl)
  have finv : finR cc k mo v = true → okO (bnd_ mi) cc a = true → s0.2.1 a k = (if mo = 3 ∨ mo = 8 then a + v else v) := by
    intro h1 h2
    obtain ⟨h3, h4, h5⟩ := okO_of h2
    have h6 := List.all_eq_true.mp h1 a.toNat (List.mem_range.mpr (by omega))
    rw [Int.toNat_of_nonneg h3, h5] at h6
    simp only [decide_true, Bool.not_true, Bool.false_or] at h6
    exact hF.2 _ (List.contains_iff_mem.mp h6) h4
  show OK _ _ _ _ _ (if mo = 0 then bif okO (bnd_ mi) cc a then rN none (popTo (.getfield ix, 3, [mo, cc, k, ty, v, w]) (pc, L, .inr (.inr a) :: st, s0) ((if ty = 1 then vI (s0.1 a k) else if ty = 2 then vL (s0.1 a k) else vR (s0.1 a k)) :: st)) else rX
    else if mo = 1 then rN (some (okO (bnd_ mi) cc a = true)) (popTo (.getfield ix, 3, [mo, cc, k, ty, v, w]) (pc, L, .inr (.inr a) :: st, s0) ((if ty = 1 then vI (s0.1 a k) else if ty = 2 then vL (s0.1 a k) else vR (s0.1 a k)) :: st))
    else if mo = 2 then bif okO (bnd_ mi) cc a then rN none (popTo (.getfield ix, 3, [mo, cc, k, ty, v, w]) (pc, L, .inr (.inr a) :: st, s0) (vR v :: st)) else rX
    else if mo = 8 then bif okO (bnd_ mi) cc a then rN none (popTo (.getfield ix, 3, [mo, cc, k, ty, v, w]) (pc, L, .inr (.inr a) :: st, s0) (vR (a + v) :: st)) else rX
    else if mo = 3 then rN (some (okO (bnd_ mi) cc a = true)) (popTo (.getfield ix, 3, [mo, cc, k, ty, v, w]) (pc, L, .inr (.inr a) :: st, s0) (vR (a + v) :: st))
    else if mo = 4 then rN (some (okO (bnd_ mi) cc a = true)) (popTo (.getfield ix, 3, [mo, cc, k, ty, v, w]) (pc, L, .inr (.inr a) :: st, s0) (vR v :: st))
    else if mo = 5 then rN (some (okD s0 cc a = true)) (popTo (.getfield ix, 3, [mo, cc, k, ty, v, w]) (pc, L, .inr (.inr a) :: st, s0) (vR (s0.2.1 a k) :: st))
    else if mo = 6 then rN (some (okD s0 cc a = true)) (popTo (.getfield ix, 3, [mo, cc, k, ty, v, w]) (pc, L, .inr (.inr a) :: st, s0) ((if ty = 1 then vI (s0.1 a k) else if ty = 2 then vL (s0.1 a k) else vR (s0.1 a k)) :: st))
    else rX)
  have litF : ∀ x : Int, (okO (bnd_ mi) cc a = true → cvR z t u x = fv z t u (ty_ cc.toNat k.toNat) (if (fT_ cc.toNat k.toNat).2.2.2 = true then s0.2.1 a k else s0.1 a k)) → OK (St z t u D I (WFr p l e R s m args below meth c Z) s R m mi n0 (pc, L, .inr (.inr a) :: st, s0)) RT CL BR SW (bif okO (bnd_ mi) cc a then rN none (popTo (.getfield ix, 3, [mo, cc, k, ty, v, w]) (pc, L, .inr (.inr a) :: st, s0) (vR x :: st)) else rX) := by
    intro x hx
    cases hb : okO (bnd_ mi) cc a with
    | false => exact True.intro
    | true => exact fun _ => key (okO_live hB hF hb).1 (okO_live hB hF hb).2.1 (okO_live hB hF hb).2.2 (vR x) (hx hb)
  have fx : ∀ x : Int, (mo = 2 ∨ mo = 3 ∨ mo = 4 ∨ mo = 8) → x = (if mo = 3 ∨ mo = 8 then a + v else v) → okO (bnd_ mi) cc a = true → cvR z t u x = fv z t u (ty_ cc.toNat k.toNat) (if (fT_ cc.toNat k.toNat).2.2.2 = true then s0.2.1 a k else s0.1 a k) := by
    intro x hmo hx hb
    obtain ⟨g1, g2, g3⟩ := fn (by omega)
    rw [if_pos g1, fvR g2, finv (g3.resolve_left (by omega)) hb, hx]
  by_cases h0 : mo = 0
  · rw [if_pos h0]; exact lit _ (rdx (by omega))
  rw [if_neg h0]
  by_cases h1 : mo = 1
  · rw [if_pos h1]; exact gd _ (fun _ => rdx (by omega))
  rw [if_neg h1]
  by_cases h2 : mo = 2
  · rw [if_pos h2]; exact litF _ (fx v (by omega) (by rw [if_neg (by omega)]))
  rw [if_neg h2]
  by_cases h8 : mo = 8
  · rw [if_pos h8]; exact litF _ (fx (a + v) (by omega) (by rw [if_pos (by omega)]))
  rw [if_neg h8]
  by_cases h3 : mo = 3
  · rw [if_pos h3]; exact gd _ (fx (a + v) (by omega) (by rw [if_pos (by omega)]))
  rw [if_neg h3]
  by_cases h4 : mo = 4
  · rw [if_pos h4]; exact gd _ (fx v (by omega) (by rw [if_neg (by omega)]))
  rw [if_neg h4]
  by_cases h5 : mo = 5
  · rw [if_pos h5]; exact gdD _ (by obtain ⟨g1, g2, -⟩ := fn (by omega); rw [if_pos g1, fvR g2]; rfl)
  rw [if_neg h5]
  by_cases h6 : mo = 6
  · rw [if_pos h6]; exact gdD _ (rdx (by omega))
  rw [if_neg h6]
  exact True.intro
set_option maxRecDepth 20000 in
/-- the list of the living cells, at one of them -/
theorem Rel.at {H : Heap} {a : Int} (hR : Rel z t u D I s0 H) (h0 : 0 ≤ a) (h1 : a < szS s0) (h2 : kD_ s0.2.2.1 a ≠ 99) : ∃ k : Nat, (wl z t u I s0)[k]? = some (z + a.toNat, en z t u I s0 a) := by
  have h := wl_ix (z := z) (t := t) (u := u) (I := I) (s := s0) (a := a.toNat) (by omega) (by rw [Int.toNat_of_nonneg h0]; exact h2)
  rw [Int.toNat_of_nonneg h0] at h
  exact h
set_option maxRecDepth 20000 in
theorem va_S.here {A : Nat → Prop} {H0 H : Heap} {locs : List Loc} (h : va_S A H0 H locs) : va_S A H H locs := ⟨Nat.le_refl _, fun _ _ _ => rfl, h.2.2⟩
set_option maxRecDepth 20000 in
theorem va_S.then {A : Nat → Prop} {H0 H H1 : Heap} {locs locs1 : List Loc} (h : va_S A H0 H locs) (h1 : va_S A H H1 locs1) : va_S A H0 H1 locs1 := ⟨Nat.le_trans h.1 h1.1, fun q g1 g2 => (h1.2.1 q (Nat.lt_of_lt_of_le g1 h.1) g2).trans (h.2.1 q g1 g2), h1.2.2⟩
set_option maxRecDepth 20000 in
/-- behind a writing: the sizes are the same -/
theorem St.write {S T : aT} {a : Int} {ev : va_E} (hsz : szS T.2.2.2 = szS S.2.2.2) (hns : nsS T.2.2.2 = nsS S.2.2.2) (hdl : T.2.2.2.2.2.1 = S.2.2.2.2.2.1) (hcl : cl_ mi = false → T.2.2.2.2.1 = S.2.2.2.2.1) (hL : T.2.1 = S.2.1) (h0 : 0 ≤ a) (h1 : a < szS S.2.2.2) (h2 : kD_ S.2.2.2.2.2.1 a ≠ 99)
    (he : en z t u I T.2.2.2 a = ev) (ho : ∀ b : Int, b ≠ a → 0 ≤ b → kD_ S.2.2.2.2.2.1 b ≠ 99 → en z t u I T.2.2.2 b = en z t u I S.2.2.2 b)
    (h : ∀ (H : Heap) (locs : List Loc) (cells slots : Nat) (ls : Array Slot) (k : Nat), Rel z t u D I S.2.2.2 H → va_P D vwCl (wl z t u I S.2.2.2) H → va_S (AAz z) H H locs → (wl z t u I S.2.2.2)[k]? = some (z + a.toNat, en z t u I S.2.2.2 a) →
      (∀ (H1 : Heap) (locs1 : List Loc), va_P D vwCl ((wl z t u I S.2.2.2).set k (z + a.toNat, ev)) H1 → va_D (AAz z) ((wl z t u I S.2.2.2).set k (z + a.toNat, ev)) → va_S (AAz z) H H1 locs1 → W p l e R s m args below meth c H1 locs1 cells slots Z (F0 m T.1 ls (T.2.2.1.map (cv z t u)))) →
      W p l e R s m args below meth c H locs cells slots Z (F0 m S.1 ls (S.2.2.1.map (cv z t u)))) : St z t u D I (WFr p l e R s m args below meth c Z) s R m mi n0 S T := by
  refine ⟨by rw [hsz]; exact Int.le_refl _, by rw [hns]; exact Int.le_refl _, hcl, fun _ _ kk H locs cells slots ls hR hS e1 e2 hl => ?_⟩
  obtain ⟨k, hk⟩ := hR.at h0 h1 h2
  refine h H locs cells slots ls k hR hR.P hS.here hk (fun H1 locs1 hP hD hS1 => ?_)
  refine W.sized (fun hle => ?_)
  have hz : H1.size = H.size := by
    have h3 := hS1.1
    have h4 := hR.2.1
    omega
  have hk2 : (wl z t u I S.2.2.2)[k]? = some (z + a.toNat, en z t u I S.2.2.2 ((a.toNat : Nat) : Int)) := by rw [Int.toNat_of_nonneg h0]; exact hk
  have hR1 : Rel z t u D I T.2.2.2 H1 := hR.set (a := a.toNat) hk2 hP hz hsz hdl (by rw [Int.toNat_of_nonneg h0]; exact he) (fun b hb hb2 => ho b (by omega) (by omega) hb2)
  exact kk H1 locs1 cells slots ls hR1 (hS.then hS1) (by rw [hsz]; exact e1) (by rw [hns]; exact e2) (by rw [hL]; exact hl)
set_option maxRecDepth 20000 in
theorem oe_len {cc n : Nat} {a : Int} : (oe z t u s0 cc n a).length = n := by unfold oe; rw [List.length_map, List.length_range]
set_option maxRecDepth 20000 in
theorem oe_set {cc n : Nat} {a : Int} {k : Nat} {x : Value} {s2 : aS} (h : ∀ j, j < n → fv z t u (ty_ cc j) (if (fT_ cc j).2.2.2 = true then s2.2.1 a j else s2.1 a j) = if j = k then x else fv z t u (ty_ cc j) (if (fT_ cc j).2.2.2 = true then s0.2.1 a j else s0.1 a j)) : oe z t u s2 cc n a = (oe z t u s0 cc n a).set k x := by
  refine List.ext_getElem? (fun j => ?_)
  by_cases hj : j < n
  · by_cases hjk : j = k
    · subst hjk
      rw [List.getElem?_set_self (by rw [oe_len]; exact hj)]
      unfold oe
      rw [List.getElem?_map, List.getElem?_range hj]
      show some (fv z t u (ty_ cc j) (if (fT_ cc j).2.2.2 = true then s2.2.1 a j else s2.1 a j)) = _
      rw [h j hj, if_pos rfl]
    · rw [List.getElem?_set_ne (fun q => hjk q.symm)]
      unfold oe
      rw [List.getElem?_map, List.getElem?_map, List.getElem?_range hj]
      show some (fv z t u (ty_ cc j) (if (fT_ cc j).2.2.2 = true then s2.2.1 a j else s2.1 a j)) = _
      rw [h j hj, if_neg hjk]
      rfl
  · rw [List.getElem?_eq_none (by rw [oe_len]; omega), List.getElem?_eq_none (by rw [List.length_set, oe_len]; omega)]
set_option maxRecDepth 20000 in
/-- other cells stay as they are -/
theorem en_other {s2 : aS} {b : Int} (hdl : s2.2.2.1 = s0.2.2.1) (h1 : ∀ j, s2.1 b j = s0.1 b j) (h2 : ∀ j, s2.2.1 b j = s0.2.1 b j) : en z t u I s2 b = en z t u I s0 b := by
  unfold en oe
  rw [hdl]
  simp only [h1, h2]
set_option maxRecDepth 20000 in
theorem up_o {M : aM} {a i v b j : Int} (h : b ≠ a) : up_ M a i v b j = M b j := by unfold up_; rw [if_neg (fun q => h q.1)]
set_option maxRecDepth 20000 in
theorem up_p {M : aM} {a i v j : Int} (h : j ≠ i) : up_ M a i v a j = M a j := by unfold up_; rw [if_neg (fun q => h q.2)]
set_option maxRecDepth 20000 in
theorem up_sM {M : aM} {a i v : Int} : up_ M a i v a i = v := by unfold up_; rw [if_pos ⟨rfl, rfl⟩]
set_option maxRecDepth 20000 in
theorem ref_fit {cc k : Nat} (h : tn_ cc k = 3) (x : Int) : narrow (ty_ cc k) (cvR z t u x) = cvR z t u x ∧ fits (ty_ cc k) (cvR z t u x) = true := by
  unfold tn_ at h
  cases hty : ty_ cc k <;> rw [hty] at h <;> first | (exfalso; simp at h; done) | skip
  · refine ⟨rfl, ?_⟩
    unfold cvR
    split
    · rfl
    · split
      · rfl
      · split <;> rfl
  · refine ⟨rfl, ?_⟩
    unfold cvR
    split
    · rfl
    · split
      · rfl
      · split <;> rfl
set_option maxRecDepth 20000 in
/-- putfield of a field that isn't final -/
theorem st_put {ix : Nat} {cc k x a : Int} {v : aV} {T : aT} (C : Cx z t u D I p R s m args meth c mi) (hd : decode (bts_ mi) pc = .ok (.putfield ix, 3)) (hc0 : 0 ≤ cc) (hc1 : cc < 13) (hk0 : 0 ≤ k) (hk1 : k < nC_ cc) (hw : Cond.fieldLink (cn_ (oc_ mi)) ix (fT_ cc.toNat k.toNat).1 (fT_ cc.toNat k.toNat).2.1 (fT_ cc.toNat k.toNat).2.2.1 ∈ ww_)
    (hf : (fT_ cc.toNat k.toNat).2.2.2 = false) (h1 : 0 ≤ a) (h2 : a < szS s0) (h3 : kD_ s0.2.2.1 a = cc) (hv : cv z t u v = fv z t u (ty_ cc.toNat k.toNat) x) (hn : narrow (ty_ cc.toNat k.toNat) (cv z t u v) = cv z t u v) (hfit : fits (ty_ cc.toNat k.toNat) (cv z t u v) = true)
    (hT : T = (pc + 3, L, st, (up_ s0.1 a k x, s0.2))) : St z t u D I (WFr p l e R s m args below meth c Z) s R m mi n0 (pc, L, v :: .inr (.inr a) :: st, s0) T := by
  subst hT
  obtain ⟨q, hq, hqn, hqf, hqz⟩ := cl_of (c := cc.toNat) (by omega)
  obtain ⟨hin, hty, hnm⟩ := clw_ok cc.toNat (by omega) q hq
  obtain ⟨qn, qT, qN⟩ := q
  dsimp only at hqn hqf hqz hin hty hnm
  have hcc : ((cc.toNat : Nat) : Int) = cc := Int.toNat_of_nonneg hc0
  rw [hcc] at hqz
  have hkN : k.toNat < qN := by rw [hqz]; omega
  refine St.write (a := a) (ev := .inr (cc.toNat, (oe z t u s0 cc.toNat (nC_ cc).toNat a).set k.toNat (cv z t u v))) rfl rfl rfl (fun _ => rfl) rfl h1 h2 (by show kD_ s0.2.2.1 a ≠ 99; rw [h3]; omega) ?_ ?_ ?_
  · rw [en_obj (s0 := (up_ s0.1 a k x, s0.2)) h3 hc0 hc1]
    congr 2
    refine oe_set (fun j hj => ?_)
    by_cases hjk : j = k.toNat
    · rw [if_pos hjk, hjk, if_neg (by rw [hf]; decide), hv]
      show fv z t u _ (up_ s0.1 a k x a ((k.toNat : Nat) : Int)) = _
      rw [Int.toNat_of_nonneg hk0, up_sM]
    · rw [if_neg hjk]
      show fv z t u _ (if _ then s0.2.1 a j else up_ s0.1 a k x a j) = _
      rw [up_p (show (j : Int) ≠ k by omega)]
  · intro b hb _ _
    exact en_other rfl (fun j => up_o hb) (fun _ => rfl)
  · intro H locs cells slots ls kx hR hP hS hkx kk
    change W p l e R s m args below meth c H locs cells slots Z (F0 m pc ls (cv z t u v :: cvR z t u a :: st.map (cv z t u)))
    have hkx' : (wl z t u I s0)[kx]? = some (z + a.toNat, .inr (cc.toNat, oe z t u s0 cc.toNat (nC_ cc).toNat a)) := by rw [← en_obj h3 hc0 hc1]; exact hkx
    rw [cvR_p h1]
    refine va_put C.1 C.2.1 C.2.2.2.2.1 hin (ty_ cc.toNat) hty hnm C.2.2.2.1 C.2.2.2.2.2.2.2.2.1.1 hP wl_D hS kx hkx' hq k.toNat hkN ?_ (fun _ h => h) ?_ (hty k.toNat hkN) hn hfit (by rw [oe_len, ← hqz]; exact hkN) hd kk
    · rw [hqf]; exact C.2.2.2.2.1 _ hw
    · rw [hqf]; exact hf
set_option maxRecDepth 20000 in
/-- putfield of a final reference, in a constructor -/
theorem st_putF {ix : Nat} {cc k x a : Int} {T : aT} (C : Cx z t u D I p R s m args meth c mi) (hd : decode (bts_ mi) pc = .ok (.putfield ix, 3)) (hc0 : 0 ≤ cc) (hc1 : cc < 13) (hk0 : 0 ≤ k) (hk1 : k < nC_ cc) (hw : Cond.fieldLink (cn_ (oc_ mi)) ix (fT_ cc.toNat k.toNat).1 (fT_ cc.toNat k.toNat).2.1 (fT_ cc.toNat k.toNat).2.2.1 ∈ ww_)
    (hf : (fT_ cc.toNat k.toNat).2.2.2 = true) (hi : is_ mi = 2) (hown : (fT_ cc.toNat k.toNat).1 = cn_ (oc_ mi)) (htn : tn_ cc.toNat k.toNat = 3) (h1 : 0 ≤ a) (h2 : a < szS s0) (h3 : kD_ s0.2.2.1 a = cc)
    (hT : T = (pc + 3, L, st, (s0.1, up_ s0.2.1 a k x, s0.2.2))) : St z t u D I (WFr p l e R s m args below meth c Z) s R m mi n0 (pc, L, .inr (.inr x) :: .inr (.inr a) :: st, s0) T := by
  subst hT
  obtain ⟨q, hq, hqn, hqf, hqz⟩ := cl_of (c := cc.toNat) (by omega)
  obtain ⟨hin, hty, hnm⟩ := clw_ok cc.toNat (by omega) q hq
  obtain ⟨qn, qT, qN⟩ := q
  dsimp only at hqn hqf hqz hin hty hnm
  have hcc : ((cc.toNat : Nat) : Int) = cc := Int.toNat_of_nonneg hc0
  rw [hcc] at hqz
  have hkN : k.toNat < qN := by rw [hqz]; omega
  have fvR : fv z t u (ty_ cc.toNat k.toNat) x = cvR z t u x := by
    unfold tn_ at htn
    unfold fv
    cases hty : ty_ cc.toNat k.toNat <;> rw [hty] at htn <;> simp_all
  refine St.write (a := a) (ev := .inr (cc.toNat, (oe z t u s0 cc.toNat (nC_ cc).toNat a).set k.toNat (cvR z t u x))) rfl rfl rfl (fun hcl => by unfold cl_ at hcl; rw [hi] at hcl; simp at hcl) rfl h1 h2 (by show kD_ s0.2.2.1 a ≠ 99; rw [h3]; omega) ?_ ?_ ?_
  · rw [en_obj (s0 := (s0.1, up_ s0.2.1 a k x, s0.2.2)) h3 hc0 hc1]
    congr 2
    refine oe_set (fun j hj => ?_)
    by_cases hjk : j = k.toNat
    · rw [if_pos hjk, hjk, if_pos hf, ← fvR]
      show fv z t u _ (up_ s0.2.1 a k x a ((k.toNat : Nat) : Int)) = _
      rw [Int.toNat_of_nonneg hk0, up_sM]
    · rw [if_neg hjk]
      show fv z t u _ (if _ then up_ s0.2.1 a k x a j else s0.1 a j) = _
      rw [up_p (show (j : Int) ≠ k by omega)]
  · intro b hb _ _
    exact en_other rfl (fun _ => rfl) (fun j => up_o hb)
  · intro H locs cells slots ls kx hR hP hS hkx kk
    change W p l e R s m args below meth c H locs cells slots Z (F0 m pc ls (cvR z t u x :: cvR z t u a :: st.map (cv z t u)))
    have hkx' : (wl z t u I s0)[kx]? = some (z + a.toNat, .inr (cc.toNat, oe z t u s0 cc.toNat (nC_ cc).toNat a)) := by rw [← en_obj h3 hc0 hc1]; exact hkx
    rw [cvR_p h1]
    refine va_putF C.1 C.2.1 C.2.2.2.2.1 hin (ty_ cc.toNat) hty hnm C.2.2.2.1 C.2.2.2.2.2.2.2.2.1.1 hP wl_D hS kx hkx' hq k.toNat hkN ?_ (fun _ h => h) ?_ (C.2.2.2.2.2.2.2.1 hi) ?_ (hty k.toNat hkN) ?_ ?_ (by rw [oe_len, ← hqz]; exact hkN) hd kk
    · rw [hqf]; exact C.2.2.2.2.1 _ hw
    · rw [hqf]; exact hf
    · rw [hqf]; exact hown
    · exact (ref_fit htn x).1
    · exact (ref_fit htn x).2
set_option maxRecDepth 20000 in
theorem bool_nar {x : Int} (h : x = 0 ∨ x = 1) : narrow .boolean (.int (Int32.ofInt x)) = .int (Int32.ofInt x) ∧ fits .boolean (.int (Int32.ofInt x)) = true := by
  rcases h with rfl | rfl <;> exact ⟨rfl, rfl⟩
set_option maxRecDepth 20000 in
theorem ok_putfield {ix : Nat} (C : Cx z t u D I p R s m args meth c mi) (hF : bld_ (bnd_ mi) s0) (hd : decode (bts_ mi) pc = .ok (.putfield ix, 3)) (hr : ckR mi pc (.putfield ix, 3, r) = true) : OK (St z t u D I (WFr p l e R s m args below meth c Z) s R m mi n0 (pc, L, st, s0)) RT CL BR SW (act (bnd_ mi) (.putfield ix, 3, r) (pc, L, st, s0)) := by
  rcases st with _ | ⟨v, _ | ⟨a | a | a, st⟩⟩ <;> try exact True.intro
  rcases r with _ | ⟨mo, _ | ⟨cc, _ | ⟨k, _ | ⟨ty, _ | ⟨nm, _ | ⟨w, _ | ⟨_, _⟩⟩⟩⟩⟩⟩⟩ <;> try exact True.intro
  simp only [ckR, Bool.and_eq_true, decide_eq_true_eq] at hr
  obtain ⟨⟨⟨⟨⟨hc0, hc1⟩, hk0⟩, hk1⟩, hw⟩, hm⟩ := hr
  have hw := hw_ok hw
  have hB := bnd_le mi
  by_cases h7 : mo = 7
  · subst h7
    simp only [decide_true, cond_true, Bool.and_eq_true, decide_eq_true_eq] at hm
    obtain ⟨⟨⟨⟨⟨g1, g2⟩, g3⟩, g4⟩, g5⟩, g6⟩ := hm
    rcases v with x | x | x <;> try exact True.intro
    subst g3
    exact fun hb => st_putF C hd hc0 hc1 hk0 hk1 hw g1 g4 g6 g2 (okD_of hb).1 (okD_of hb).2.1 (okD_of hb).2.2 rfl
  · rw [decide_eq_false h7] at hm
    simp only [cond_false, Bool.and_eq_true, Bool.or_eq_true, decide_eq_true_eq, Bool.not_eq_true'] at hm
    obtain ⟨⟨hf, ht⟩, hne⟩ := hm
    -- the writing of a value that fits
    have key : ∀ x : Int, cv z t u v = fv z t u (ty_ cc.toNat k.toNat) x → narrow (ty_ cc.toNat k.toNat) (cv z t u v) = cv z t u v ∧ fits (ty_ cc.toNat k.toNat) (cv z t u v) = true → 0 ≤ a → a < szS s0 → kD_ s0.2.2.1 a = cc → ∀ g : Option Prop, OK (St z t u D I (WFr p l e R s m args below meth c Z) s R m mi n0 (pc, L, v :: .inr (.inr a) :: st, s0)) RT CL BR SW (bif decide (nm = 1) then rM g (up_ s0.1 a k x) (fun M => memTo (.putfield ix, 3, [mo, cc, k, ty, nm, w]) (pc, L, v :: .inr (.inr a) :: st, s0) st (M, s0.2)) else rN g (memTo (.putfield ix, 3, [mo, cc, k, ty, nm, w]) (pc, L, v :: .inr (.inr a) :: st, s0) st (up_ s0.1 a k x, s0.2))) := by
      intro x hv hnf q1 q2 q3 g
      have hst : St z t u D I (WFr p l e R s m args below meth c Z) s R m mi n0 (pc, L, v :: .inr (.inr a) :: st, s0) (pc + 3, L, st, (up_ s0.1 a k x, s0.2)) := st_put C hd hc0 hc1 hk0 hk1 hw hf q1 q2 q3 hv hnf.1 hnf.2 rfl
      cases decide (nm = 1) with
      | true => exact fun _ => hst
      | false => exact fun _ => hst
    -- by the object
    have go : ∀ x : Int, (cv z t u v = fv z t u (ty_ cc.toNat k.toNat) x ∧ narrow (ty_ cc.toNat k.toNat) (cv z t u v) = cv z t u v ∧ fits (ty_ cc.toNat k.toNat) (cv z t u v) = true) → OK (St z t u D I (WFr p l e R s m args below meth c Z) s R m mi n0 (pc, L, v :: .inr (.inr a) :: st, s0)) RT CL BR SW ((fun f => if mo = 0 then gB true (okO (bnd_ mi) cc a) f else if mo = 1 then gB false (okO (bnd_ mi) cc a) f else if mo = 6 then gB false (okD s0 cc a) f else rX) (fun g => bif decide (nm = 1) then rM g (up_ s0.1 a k x) (fun M => memTo (.putfield ix, 3, [mo, cc, k, ty, nm, w]) (pc, L, v :: .inr (.inr a) :: st, s0) st (M, s0.2)) else rN g (memTo (.putfield ix, 3, [mo, cc, k, ty, nm, w]) (pc, L, v :: .inr (.inr a) :: st, s0) st (up_ s0.1 a k x, s0.2)))) := by
      intro x ⟨hv, hnf⟩
      dsimp only
      split
      · show OK _ _ _ _ _ (bif okO (bnd_ mi) cc a then _ else rX)
        cases hb : okO (bnd_ mi) cc a with
        | false => exact True.intro
        | true => exact key x hv hnf (okO_live hB hF hb).1 (okO_live hB hF hb).2.1 (okO_live hB hF hb).2.2 none
      · split
        · by_cases hb : okO (bnd_ mi) cc a = true
          · exact key x hv hnf (okO_live hB hF hb).1 (okO_live hB hF hb).2.1 (okO_live hB hF hb).2.2 (some _)
          · show OK _ _ _ _ _ (bif decide (nm = 1) then rM (some (okO (bnd_ mi) cc a = true)) _ _ else rN (some (okO (bnd_ mi) cc a = true)) _)
            cases decide (nm = 1) with
            | true => exact fun q => absurd q hb
            | false => exact fun q => absurd q hb
        · split
          · by_cases hb : okD s0 cc a = true
            · exact key x hv hnf (okD_of hb).1 (okD_of hb).2.1 (okD_of hb).2.2 (some _)
            · show OK _ _ _ _ _ (bif decide (nm = 1) then rM (some (okD s0 cc a = true)) _ _ else rN (some (okD s0 cc a = true)) _)
              cases decide (nm = 1) with
              | true => exact fun q => absurd q hb
              | false => exact fun q => absurd q hb
          · exact True.intro
    have go2 : ∀ x : Int, (x = 0 ∨ x = 1 → cv z t u v = fv z t u (ty_ cc.toNat k.toNat) x ∧ narrow (ty_ cc.toNat k.toNat) (cv z t u v) = cv z t u v ∧ fits (ty_ cc.toNat k.toNat) (cv z t u v) = true) → OK (St z t u D I (WFr p l e R s m args below meth c Z) s R m mi n0 (pc, L, v :: .inr (.inr a) :: st, s0)) RT CL BR SW ((fun p f => if mo = 0 then gB2 true (okO (bnd_ mi) cc a) p f else if mo = 1 then gB2 false (okO (bnd_ mi) cc a) p f else if mo = 6 then gB2 false (okD s0 cc a) p f else rX) (x = 0 ∨ x = 1) (fun g => bif decide (nm = 1) then rM g (up_ s0.1 a k x) (fun M => memTo (.putfield ix, 3, [mo, cc, k, ty, nm, w]) (pc, L, v :: .inr (.inr a) :: st, s0) st (M, s0.2)) else rN g (memTo (.putfield ix, 3, [mo, cc, k, ty, nm, w]) (pc, L, v :: .inr (.inr a) :: st, s0) st (up_ s0.1 a k x, s0.2)))) := by
      intro x hx
      dsimp only
      have pick : ∀ P : Prop, (P → 0 ≤ a ∧ a < szS s0 ∧ kD_ s0.2.2.1 a = cc) → (P → x = 0 ∨ x = 1) → OK (St z t u D I (WFr p l e R s m args below meth c Z) s R m mi n0 (pc, L, v :: .inr (.inr a) :: st, s0)) RT CL BR SW (bif decide (nm = 1) then rM (some P) (up_ s0.1 a k x) (fun M => memTo (.putfield ix, 3, [mo, cc, k, ty, nm, w]) (pc, L, v :: .inr (.inr a) :: st, s0) st (M, s0.2)) else rN (some P) (memTo (.putfield ix, 3, [mo, cc, k, ty, nm, w]) (pc, L, v :: .inr (.inr a) :: st, s0) st (up_ s0.1 a k x, s0.2))) := by
        intro P hP1 hP2
        by_cases hP : P
        · obtain ⟨q1, q2, q3⟩ := hP1 hP
          obtain ⟨hv, hnf⟩ := hx (hP2 hP)
          exact key x hv hnf q1 q2 q3 (some P)
        · cases decide (nm = 1) with
          | true => exact fun q => absurd q hP
          | false => exact fun q => absurd q hP
      split
      · show OK _ _ _ _ _ (bif okO (bnd_ mi) cc a then _ else rX)
        cases hb : okO (bnd_ mi) cc a with
        | false => exact True.intro
        | true => exact pick _ (fun _ => okO_live hB hF hb) (fun q => q)
      · split
        · exact pick _ (fun q => okO_live hB hF q.1) (fun q => q.2)
        · split
          · exact pick _ (fun q => okD_of q.1) (fun q => q.2)
          · exact True.intro
    have e7 : ∀ {A B : aR}, (if mo = 7 then A else B) = B := fun {A B} => if_neg h7
    rcases v with x | x | x
    · show OK _ _ _ _ _ (if mo = 7 then _ else _)
      rw [e7]
      show OK _ _ _ _ _ (if ty = 1 then _ else if ty = 4 then _ else if ty = 5 then _ else rX)
      have tyI : ty = 1 → tn_ cc.toNat k.toNat = 1 → ty_ cc.toNat k.toNat = .int := by
        intro _ h
        unfold tn_ at h
        cases hty : ty_ cc.toNat k.toNat <;> rw [hty] at h <;> first | rfl | (exfalso; simp at h; done)
      have tyZ : tn_ cc.toNat k.toNat = 4 → ty_ cc.toNat k.toNat = .boolean := by
        intro h
        unfold tn_ at h
        cases hty : ty_ cc.toNat k.toNat <;> rw [hty] at h <;> first | rfl | (exfalso; simp at h; done)
      split
      · rename_i h1
        have := tyI h1 (by omega)
        exact go x ⟨by rw [this]; rfl, by rw [this]; exact ⟨rfl, rfl⟩⟩
      · split
        · rename_i h4
          have := tyZ (by omega)
          cases hb : (decide (x = 0) || decide (x = 1)) with
          | false => exact True.intro
          | true =>
            have hx : x = 0 ∨ x = 1 := by simpa only [Bool.or_eq_true, decide_eq_true_eq] using hb
            exact go x ⟨by rw [this]; rfl, by rw [this]; exact bool_nar hx⟩
        · split
          · have := tyZ (by have := tn_le cc.toNat k.toNat; omega)
            exact go2 x (fun hx => ⟨by rw [this]; rfl, by rw [this]; exact bool_nar hx⟩)
          · exact True.intro
    · show OK _ _ _ _ _ (if mo = 7 then _ else _)
      rw [e7]
      show OK _ _ _ _ _ (bif decide (ty = 2) then _ else rX)
      by_cases h2 : ty = 2
      · rw [decide_eq_true h2]
        have : ty_ cc.toNat k.toNat = .long := by
          have h : tn_ cc.toNat k.toNat = 2 := by omega
          unfold tn_ at h
          cases hty : ty_ cc.toNat k.toNat <;> rw [hty] at h <;> first | rfl | (exfalso; simp at h; done)
        exact go x ⟨by rw [this]; rfl, by rw [this]; exact ⟨rfl, rfl⟩⟩
      · rw [decide_eq_false h2]; exact True.intro
    · show OK _ _ _ _ _ (if mo = 7 then _ else _)
      rw [e7]
      show OK _ _ _ _ _ (bif decide (ty = 3) then _ else rX)
      by_cases h3 : ty = 3
      · rw [decide_eq_true h3]
        have htn : tn_ cc.toNat k.toNat = 3 := by omega
        refine go x ⟨?_, ref_fit htn x⟩
        unfold tn_ at htn
        unfold fv
        cases hty : ty_ cc.toNat k.toNat <;> rw [hty] at htn <;> first | rfl | (exfalso; simp at htn; done)
      · rw [decide_eq_false h3]; exact True.intro
end SIME
