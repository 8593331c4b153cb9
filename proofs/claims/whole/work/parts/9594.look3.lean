/-! THE LAW's look -/
abbrev cL_look : ByteArray := method_3_code
def yL_look : MethodName := ⟨R_law, "look", "(LShutPasses;II[J)I"⟩
abbrev hL_look : List (Nat × Nat × Nat × Nat) := [(0, 10, 13, 13), (0, 10, 17, 15)]
theorem dL_look_0 : decode cL_look 0 = .ok (.aload_n 3, 1) := by decide +kernel
theorem dL_look_1 : decode cL_look 1 = .ok (.iconst 0, 1) := by decide +kernel
theorem dL_look_2 : decode cL_look 2 = .ok (.aload_n 0, 1) := by decide +kernel
theorem dL_look_3 : decode cL_look 3 = .ok (.iload_n 1, 1) := by decide +kernel
theorem dL_look_4 : decode cL_look 4 = .ok (.iload_n 2, 1) := by decide +kernel
theorem dL_look_5 : decode cL_look 5 = .ok (.invokevirtual 7, 3) := by decide +kernel
theorem dL_look_8 : decode cL_look 8 = .ok (.i2l, 1) := by decide +kernel
theorem dL_look_9 : decode cL_look 9 = .ok (.lastore, 1) := by decide +kernel
theorem dL_look_10 : decode cL_look 10 = .ok (.goto 11, 3) := by decide +kernel
theorem dL_look_13 : decode cL_look 13 = .ok (.astore 4, 2) := by decide +kernel
theorem dL_look_15 : decode cL_look 15 = .ok (.iconst 1, 1) := by decide +kernel
theorem dL_look_16 : decode cL_look 16 = .ok (.ireturn, 1) := by decide +kernel
theorem dL_look_17 : decode cL_look 17 = .ok (.astore 4, 2) := by decide +kernel
theorem dL_look_19 : decode cL_look 19 = .ok (.iconst 2, 1) := by decide +kernel
theorem dL_look_20 : decode cL_look 20 = .ok (.ireturn, 1) := by decide +kernel
theorem dL_look_21 : decode cL_look 21 = .ok (.iconst 0, 1) := by decide +kernel
theorem dL_look_22 : decode cL_look 22 = .ok (.ireturn, 1) := by decide +kernel
theorem wlk_code : Cond.code yX11_look cX11_look 3 (some .int) ∈ ww_ := hw_ok (i := 1217) (by decide +kernel)
theorem wlk_link : Cond.methodLink R_law 7 yX11_look ∈ ww_ := hw_ok (i := 1214) (by decide +kernel)
theorem wlk_inst : Cond.instanceMethod yX11_look ∈ ww_ := hw_ok (i := 1215) (by decide +kernel)
theorem wlk_sel : Cond.selects RX11 yX11_look yX11_look ∈ ww_ := hw_ok (i := 1216) (by decide +kernel)
theorem wlk_ini : Cond.initialized RX11 ∈ ww_ := hw_ok (i := 1) (by decide +kernel)
theorem wlk_13 : Cond.classLink R_law 13 xI ∈ ww_ := hw_ok (i := 1212) (by decide +kernel)
theorem wlk_15 : Cond.classLink R_law 15 xN ∈ ww_ := hw_ok (i := 1213) (by decide +kernel)
theorem wll_code : Cond.codeWith yL_look cL_look 5 (some .int) hL_look ∈ ww_ := hw_ok (i := 1211) (by decide +kernel)
theorem wll_link : Cond.methodLink R_law 35 yL_look ∈ ww_ := hw_ok (i := 1209) (by decide +kernel)
theorem wll_stat : Cond.static yL_look ∈ ww_ := hw_ok (i := 1210) (by decide +kernel)
theorem wll_ini : Cond.initialized R_law ∈ ww_ := hw_ok (i := 0) (by decide +kernel)
/-- a body with handlers (follows Met.ofW) -/
theorem met_ofWH {l : Launch} {y : MethodName} {ws ws' : List Cond} {rm : Room} {Pc : Array Value → State → Prop} {Qc : Array Value → State → Outcome → State → Prop} {mc ms : Nat} {free : Addr → Prop} {cc : ByteArray} {maxL : Nat} {ret : Option FieldType} {hh : List (Nat × Nat × Nat × Nat)}
    (hy : plainName y.cls = true) (hw : ws = Cond.codeWith y cc maxL ret hh :: ws')
    (body : ∀ p e s m args below meth c s₁, BodyLoose p l y (headSpec ws rm) cc maxL ret e s m args below meth c s₁ → c.maxLocals = maxL → c.exceptionTable.toList = tableOf hh → Pc args s →
      W p l e (headSpec ws rm).room s m args below meth c s.heap [] 0 0 (MQ below Qc args s mc ms free) (entryFrame m args maxL)) : Met l y ws rm Pc Qc mc ms free := by
  refine MetFree.of_bodyS (code := cc) (maxLocals := maxL) (ret := ret) hy ?_ ?_
  · intro args s m h hn
    obtain ⟨m9, meth, c, hn9, h1, h2, h3, h4, -, h5, h6, -⟩ := Cond.codeWith_spec (atoms_spec (ws := ws) h _ (by rw [hw]; exact List.mem_cons_self))
    cases hn.symm.trans hn9
    exact ⟨meth, c, h1, h2, h3, h4, h5, h6⟩
  · intro p e s m args below meth c s₁ B hml hP _
    have hh0 : s₁.heap = s.heap := by rw [B.state]; rfl
    have htb := vx_table (x := y) B (atoms_spec (ws := ws) B.pre _ (by rw [hw]; exact List.mem_cons_self))
    obtain ⟨t, a1, o, b1, b2, b3⟩ := body p e s m args below meth c s₁ B hml htb hP s₁ hh0 (Stand.of_body B)
    exact ⟨t, o, a1, b1, b2, ⟨b3.1, b3.2⟩⟩
/-- what the law's look comes to -/
def lkP (G : Lnd) (s0 : aS) (x y : Int) (v : Int32) (st : aS) : Prop :=
  (v = 0 ∧ (0 ≤ x ∧ x < G 0 2) ∧ (0 ≤ y ∧ y ≤ 6) ∧ st = (up_ s0.1 125 0 (G 2 (x * 7 + y)), s0.2)) ∨ (v = 1 ∧ ¬ (0 ≤ x ∧ x < G 0 2) ∧ dd_ s0 st) ∨ (v = 2 ∧ (0 ≤ x ∧ x < G 0 2) ∧ ¬ (0 ≤ y ∧ y ≤ 6) ∧ dd_ s0 st)
set_option maxRecDepth 20000 in
theorem ll_met (l : Launch) (hlt : l.stackTraces = false) {z t u : Nat} {D : va_G} {I : aI} {s0 : aS} {c0 x y : Int} {G : Lnd} (hk : cty c0) (hG : clG c0 G s0.1) (hw : WF G) (h4 : s0.1 0 4 = c0) (hb126 : bld_ 126 s0) (ix : inI x) (iy : inI y) :
    Met l yL_look (.codeWith yL_look cL_look 5 (some .int) hL_look :: ww_) { frames := 9, cells := 1, slots := 6, locals := 200 } (va_Pc [.ref z, .int (Int32.ofInt x), .int (Int32.ofInt y), .ref (z + 125)] (fun U => Rel z t u D I s0 U.heap ∧ KK z t u D I U U.heap ∧ XW z U U.heap ∧ va_Nc xN xI U))
      (va_Qi (lkP G s0 x y) (fun st T => Rel z t u D I st T.heap) (AAz z)) 1 6 (AAz z) := by
  have hN := hw.N; unfold wfN at hN
  have hsz : (126 : Int) ≤ szS s0 := hb126.1
  have hc := ct_rng hk
  refine met_ofWH (cc := cL_look) (maxL := 5) (ret := some .int) (by decide) rfl ?_
  intro p e s m args below meth c s₁ Bd hml htab hv
  obtain ⟨rfl, hR, hKK, hXW, hNc⟩ := hv
  have hx := Bd.exec
  have hb := Bd.bytes
  have hr := Bd.returns
  have hts0 := atoms_spec (ws := Cond.codeWith yL_look cL_look 5 (some .int) hL_look :: ww_) Bd.pre
  have hts : ∀ w ∈ ww_, w.before ([.ref z, .int (Int32.ofInt x), .int (Int32.ofInt y), .ref (z + 125)] : List Value).toArray s = true := fun w hw => hts0 w (List.mem_cons_of_mem _ hw)
  have hown : s.vm.findClass R_law = some m.cls := findClass_of_methodNamed Bd.named
  have hS : va_S (AAz z) s.heap s.heap [] := va_S.rf
  have hl := lv_entry ([.ref z, .int (Int32.ofInt x), .int (Int32.ofInt y), .ref (z + 125)] : List Value) (n := 5) (Nat.le_of_ble_eq_true rfl)
  rw [lg_entry_eq]
  generalize (lg_sl ([.ref z, .int (Int32.ofInt x), .int (Int32.ofInt y), .ref (z + 125)] : List Value) ++ List.replicate (5 - (lg_sl ([.ref z, .int (Int32.ofInt x), .int (Int32.ofInt y), .ref (z + 125)] : List Value)).length) Slot.unset).toArray = ls at hl ⊢
  have hl : lv_has ls 5 [(0, .ref z), (1, .int (Int32.ofInt x)), (2, .int (Int32.ofInt y)), (3, .ref (z + 125))] := hl
  have hsize : s.heap.size = z + (szS s0).toNat := hR.2.1
  refine lv_aload_n hx hb dL_look_0 rfl (lv_at hl 3 rfl) ?_
  refine lv_iconst (v := 0) hx hb dL_look_1 rfl ?_
  refine lv_aload_n hx hb dL_look_2 rfl (lv_at hl 0 rfl) ?_
  refine lv_iload_n hx hb dL_look_3 rfl (lv_at hl 1 rfl) ?_
  refine lv_iload_n hx hb dL_look_4 rfl (lv_at hl 2 rfl) ?_
  have good : ∀ w ∈ (Cond.code yX11_look cX11_look 3 (some .int) :: ww_), w ∈ ww_ ∧ ((w.onTables && w.keeps) = true ∨ ∃ ty, w = .arrayClass ty) := by
    intro w hw
    have hw2 : w ∈ ww_ := by
      rcases List.mem_cons.mp hw with h | h
      · rw [h]; exact wlk_code
      · exact h
    exact ⟨hw2, good_of_word (List.mem_filter.mp hw2).2⟩
  have hP := hR.cell (a := 0) (by decide) (by omega) (by show (11 : Int) ≠ 99; decide)
  rw [en_obj (show kD_ s0.2.2.1 0 = 11 from rfl) (by decide) (by decide)] at hP
  have hrv := va_recv hKK.1 hP (ci := 11) rfl (q0 := 0) rfl
  have blind : FrameBlind (va_Pc [.ref z, .int (Int32.ofInt x), .int (Int32.ofInt y)] (fun U => Rel z t u D I s0 U.heap ∧ KK z t u D I U U.heap ∧ XW z U U.heap)) := by
    intro a U g mk q
    obtain ⟨q0, q1, q2, q3⟩ := q
    exact ⟨q0, q1, q2.moved (V := U.calling g mk a) (State.WarmedH.refl U) (fun _ _ _ => rfl), q3.moved (V := U.calling g mk a) (State.WarmedH.refl U) (fun _ _ _ => rfl)⟩
  have fin : ∀ (v : Int32) (pc : Nat) (st : aS) (H1 : Heap) (locs1 : List Loc) (ls1 : Array Slot), lkP G s0 x y v st → Rel z t u D I st H1 → va_S (AAz z) s.heap H1 locs1 → decode cL_look pc = .ok (.ireturn, 1) → W p l e { frames := 9, cells := 1, slots := 6, locals := 200 } s m ([.ref z, .int (Int32.ofInt x), .int (Int32.ofInt y), .ref (z + 125)] : List Value).toArray below meth c H1 locs1 1 6 (MQ below (va_Qi (lkP G s0 x y) (fun st T => Rel z t u D I st T.heap) (AAz z)) ([.ref z, .int (Int32.ofInt x), .int (Int32.ofInt y), .ref (z + 125)] : List Value).toArray s 1 6 (AAz z)) (F0 m pc ls1 [.int v]) := fun v pc st H1 locs1 ls1 hp hr1 hs1 hd =>
    W.iret hx hb hr (fun t' ht hW => ⟨⟨v, st, rfl, hp, by show Rel z t u D I st t'.heap; rw [ht]; exact hr1⟩, hs1.F ht⟩) hs1.2.2 hd
  refine vx_calli (AX := AAz z) (a := ([.ref z, .int (Int32.ofInt x), .int (Int32.ofInt y)] : List Value).toArray) (vx_runV (As := [.int (Int32.ofInt x), .int (Int32.ofInt y)]) (rest := [.int 0, .ref (z + 125)]) (C := RX11) (n := 2) ⟨hx, hb, hml, hown, hts⟩ (lk_met l hlt hk hG hw h4 hb126 ix iy)
    ⟨callB_of 2 hts good rfl rfl rfl (hts _ wlk_ini) (hts _ wlk_link) (by decide) ⟨Nat.le_of_ble_eq_true rfl, Nat.le_of_ble_eq_true rfl⟩, hts _ wlk_inst, hts _ wlk_sel⟩
    ⟨blind, hrv, fun U hU hW => ⟨rfl, by rw [hU]; exact hR, by rw [hU]; exact hKK.moved hW (fun _ _ _ => rfl), by rw [hU]; exact hXW.moved hW (fun _ _ _ => rfl)⟩⟩ rfl rfl hl.1 rfl (lv_room (Nat.le_of_ble_eq_true rfl)) dL_look_5 ⟨Nat.le_of_ble_eq_true rfl, Nat.le_of_ble_eq_true rfl⟩) hS (fun q _ h => h) (fun q h => h) (fun q _ h => h) (fun E ce q9 u9 t9 H1 locs1 g1 g2 g3 g4 g5 g6 g7 g8 g9 g10 => ?_) (fun v u9 t9 H1 locs1 g1 g2 g3 g4 g5 g6 g7 => ?_)
  · obtain ⟨hRX, hE⟩ := g4
    rw [g1] at hRX
    have ht : c.exceptionTable.toList = [⟨0, 10, 13, 13⟩, ⟨0, 10, 17, 15⟩] := htab
    rcases hE with ⟨rfl, hbad⟩ | ⟨rfl, hgd, hbad⟩
    · refine vx_catch (own := R_law) (name := xI) hown [] ⟨0, 10, 13, 13⟩ [⟨0, 10, 17, 15⟩] ht (fun z hz => nomatch hz) (by decide) (by decide) (hts _ wlk_13) (va_Nw.use rfl (hXW.2.2.2.2 (.castable xI xI) (by decide))) g8 g9 g10 ?_
      refine W.sized (fun hle => ?_)
      obtain ⟨st, hd, hR1⟩ := hRX.dd hsz hR.2.2.2 (by omega)
      refine lv_astore (lv' := [(4, .ref q9), (0, .ref z), (1, .int (Int32.ofInt x)), (2, .int (Int32.ofInt y)), (3, .ref (z + 125))]) hx hb dL_look_13 hl (by decide) rfl (fun ls hl => ?_)
      refine lv_iconst (v := 1) hx hb dL_look_15 rfl ?_
      exact fin 1 16 st H1 locs1 ls (Or.inr (Or.inl ⟨rfl, hbad, hd⟩)) hR1 g7 dL_look_16
    · refine vx_catch (own := R_law) (name := xN) hown [⟨0, 10, 13, 13⟩] ⟨0, 10, 17, 15⟩ [] ht (fun z hz => ?_) (by decide) (by decide) (hts _ wlk_15) (va_Nw.use rfl (hXW.2.2.2.2 (.castable xN xN) (by decide))) g8 g9 g10 ?_
      · rcases List.mem_singleton.mp hz with rfl
        exact Or.inr ⟨by decide, xI, hts _ wlk_13, hNc⟩
      refine W.sized (fun hle => ?_)
      obtain ⟨st, hd, hR1⟩ := hRX.dd hsz hR.2.2.2 (by omega)
      refine lv_astore (lv' := [(4, .ref q9), (0, .ref z), (1, .int (Int32.ofInt x)), (2, .int (Int32.ofInt y)), (3, .ref (z + 125))]) hx hb dL_look_17 hl (by decide) rfl (fun ls hl => ?_)
      refine lv_iconst (v := 2) hx hb dL_look_19 rfl ?_
      exact fin 2 20 st H1 locs1 ls (Or.inr (Or.inr ⟨rfl, hgd, hbad, hd⟩)) hR1 g7 dL_look_20
  · obtain ⟨p1, p2, p3⟩ := g3
    have hR1 : Rel z t u D I s0 H1 := by rw [← g1]; exact g4
    rw [p3]
    have hIn : inI (G 2 (x * 7 + y)) := by
      have h7 := hw.R x p1.1 p1.2
      rcases (show y = 0 ∨ y = 1 ∨ y = 2 ∨ y = 3 ∨ y = 4 ∨ y = 5 ∨ y = 6 by omega) with h | h | h | h | h | h | h
      all_goals
        rw [h]
        constructor <;> omega
    refine lv_i2l (v := Int64.ofInt (G 2 (x * 7 + y))) hx hb dL_look_8 (i_l hIn) ?_
    refine gen_last hx hb hKK hR1 hsz g7 dL_look_9 (fun H2 locs2 hR2 hS2 => ?_)
    refine lv_goto (tgt := 21) hx hb dL_look_10 (by decide) ?_
    refine lv_iconst (v := 0) hx hb dL_look_21 rfl ?_
    exact fin 0 22 _ H2 locs2 ls (Or.inl ⟨rfl, p1, p2, rfl⟩) hR2 hS2 dL_look_22
