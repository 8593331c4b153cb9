/-! THE CLASS's look -/
theorem tyc_ : ty_ 11 4 = .object "ShutPasses$Country" := by decide +kernel
theorem tyr_ : ty_ 3 2 = .int := by decide +kernel
theorem nfc_ : (fT_ 11 4).2.2.2 = false := by decide +kernel
theorem nfr_ : (fT_ 3 2).2.2.2 = false := by decide +kernel
theorem wwc_ : Cond.fieldLink RX11 20 (fT_ 11 4).1 (fT_ 11 4).2.1 (fT_ 11 4).2.2.1 ∈ ww_ := hw_ok (i := 615) (by decide +kernel)
theorem wwr_ : Cond.fieldLink RX11 105 (fT_ 3 2).1 (fT_ 3 2).2.1 (fT_ 3 2).2.2.1 ∈ ww_ := hw_ok (i := 56) (by decide +kernel)
theorem wwf_ : Cond.methodLink RX11 120 (yn_ 35) ∈ ww_ := hw_ok (i := 1300) (by decide +kernel)
theorem ri0 : decode prog_19_method_2_code 0 = .ok (.aload_n 0, 1) := by decide +kernel
theorem ri1 : decode prog_19_method_2_code 1 = .ok (.aload_n 1, 1) := by decide +kernel
theorem ri2 : decode prog_19_method_2_code 2 = .ok (.invokespecial 7, 3) := by decide +kernel
theorem ri5 : decode prog_19_method_2_code 5 = .ok (.return_, 1) := by decide +kernel
theorem rn0 : decode prog_30_method_4_code 0 = .ok (.aload_n 0, 1) := by decide +kernel
theorem rn1 : decode prog_30_method_4_code 1 = .ok (.aload_n 1, 1) := by decide +kernel
theorem rn2 : decode prog_30_method_4_code 2 = .ok (.invokespecial 13, 3) := by decide +kernel
theorem rn5 : decode prog_30_method_4_code 5 = .ok (.return_, 1) := by decide +kernel
set_option maxRecDepth 20000 in
theorem lk_met (l : Launch) (hlt : l.stackTraces = false) {z t u : Nat} {D : va_G} {I : aI} {s0 : aS} {c0 x y : Int} {G : Lnd} (hk : cty c0) (hG : clG c0 G s0.1) (hw : WF G) (h4 : s0.1 0 4 = c0) (hb126 : bld_ 126 s0) (ix : inI x) (iy : inI y) :
    vx_Met l yX11_look (.code yX11_look cX11_look 3 (some .int) :: ww_) { frames := 8, cells := 1, slots := 6, locals := 160 } (va_Pc [.ref z, .int (Int32.ofInt x), .int (Int32.ofInt y)] (fun U => Rel z t u D I s0 U.heap ∧ KK z t u D I U U.heap ∧ XW z U U.heap))
      (va_Qi (fun (v : Int32) (_ : Unit) => (0 ≤ x ∧ x < G 0 2) ∧ (0 ≤ y ∧ y ≤ 6) ∧ v = Int32.ofInt (G 2 (x * 7 + y))) (fun _ T => Rel z t u D I s0 T.heap) (AAz z))
      (vx_X (fun _ : Unit => True) (fun E _ T => RelX z t u D I s0 T.heap ∧ ((E = xI ∧ ¬ (0 ≤ x ∧ x < G 0 2)) ∨ (E = xN ∧ (0 ≤ x ∧ x < G 0 2) ∧ ¬ (0 ≤ y ∧ y ≤ 6)))) (AAz z)) 1 6 (AAz z) := by
  have hN := hw.N; unfold wfN at hN
  have hsz : (126 : Int) ≤ szS s0 := hb126.1
  have hc := ct_rng hk
  refine vx_ofW (cc := cX11_look) (maxL := 3) (ret := some .int) (by decide) rfl ?_
  intro p e s m args below meth c s₁ Bd hml htab hv
  obtain ⟨rfl, hR, hKK, hXW⟩ := hv
  have hx := Bd.exec
  have hb := Bd.bytes
  have hr := Bd.returns
  have hts0 := atoms_spec (ws := Cond.code yX11_look cX11_look 3 (some .int) :: ww_) Bd.pre
  have hts : ∀ w ∈ ww_, w.before ([.ref z, .int (Int32.ofInt x), .int (Int32.ofInt y)] : List Value).toArray s = true := fun w hw => hts0 w (List.mem_cons_of_mem _ hw)
  have hown : s.vm.findClass RX11 = some m.cls := findClass_of_methodNamed Bd.named
  have hlocks := Bd.notSynchronized
  have hS : va_S (AAz z) s.heap s.heap [] := va_S.rf
  have hl := lv_entry ([.ref z, .int (Int32.ofInt x), .int (Int32.ofInt y)] : List Value) (n := 3) (Nat.le_of_ble_eq_true rfl)
  rw [lg_entry_eq]
  generalize (lg_sl ([.ref z, .int (Int32.ofInt x), .int (Int32.ofInt y)] : List Value) ++ List.replicate (3 - (lg_sl ([.ref z, .int (Int32.ofInt x), .int (Int32.ofInt y)] : List Value)).length) Slot.unset).toArray = ls at hl ⊢
  have hl : lv_has ls 3 [(0, .ref z), (1, .int (Int32.ofInt x)), (2, .int (Int32.ofInt y))] := hl
  obtain ⟨xU, xS, ⟨qa, xa⟩, ⟨qb, xb⟩, xw⟩ := hXW
  have hout : ∀ pc9 : Nat, ∀ x ∈ c.exceptionTable.toList, covers x pc9 = false := fun _ x hx => absurd (htab x hx) id
  have kI : ¬ (0 ≤ x ∧ x < G 0 2) → W p l e { frames := 8, cells := 1, slots := 6, locals := 160 } s m ([.ref z, .int (Int32.ofInt x), .int (Int32.ofInt y)] : List Value).toArray below meth c s.heap [] 0 0 (vx_MQ below (va_Qi (fun (v : Int32) (_ : Unit) => (0 ≤ x ∧ x < G 0 2) ∧ (0 ≤ y ∧ y ≤ 6) ∧ v = Int32.ofInt (G 2 (x * 7 + y))) (fun _ T => Rel z t u D I s0 T.heap) (AAz z)) (vx_X (fun _ : Unit => True) (fun E _ T => RelX z t u D I s0 T.heap ∧ ((E = xI ∧ ¬ (0 ≤ x ∧ x < G 0 2)) ∨ (E = xN ∧ (0 ≤ x ∧ x < G 0 2) ∧ ¬ (0 ≤ y ∧ y ≤ 6)))) (AAz z)) ([.ref z, .int (Int32.ofInt x), .int (Int32.ofInt y)] : List Value).toArray s 1 6 (AAz z)) (F0 m 15 ls []) := fun hbad =>
    nx_throwS (own := RX11) (cls := xI) (text := "no such road") (sa := qa) (A := AAz z) hx hb hlt ri0 ri1 ri2 ri5 hown fitI fitR fitE (hts _ ww_cI) (hts _ ww_iI) xa (vx_hat (fun w hw => hts w (lkI_ww w hw)) lkI_bad (fun w hw => va_Nw.use (lkB_ot w hw) (xw w hw))) lkI_ot xU xS hS (by rw [hml]; exact hl.1) dX11_look_15 dX11_look_18 dX11_look_19 dX11_look_21 dX11_look_24 (hout _) (by decide) (Nat.le_of_ble_eq_true rfl) (by decide) (by decide) hlocks
      (fun t' hal h1 h2 => ⟨(), trivial, ⟨RelX.of hR h1 h2, Or.inl ⟨rfl, hbad⟩⟩, h1, fun q hq _ => h2 q hq⟩) (fun z hz => nomatch hz) (by decide) (by decide)
  have kN : (0 ≤ x ∧ x < G 0 2) → ¬ (0 ≤ y ∧ y ≤ 6) → W p l e { frames := 8, cells := 1, slots := 6, locals := 160 } s m ([.ref z, .int (Int32.ofInt x), .int (Int32.ofInt y)] : List Value).toArray below meth c s.heap [] 0 0 (vx_MQ below (va_Qi (fun (v : Int32) (_ : Unit) => (0 ≤ x ∧ x < G 0 2) ∧ (0 ≤ y ∧ y ≤ 6) ∧ v = Int32.ofInt (G 2 (x * 7 + y))) (fun _ T => Rel z t u D I s0 T.heap) (AAz z)) (vx_X (fun _ : Unit => True) (fun E _ T => RelX z t u D I s0 T.heap ∧ ((E = xI ∧ ¬ (0 ≤ x ∧ x < G 0 2)) ∨ (E = xN ∧ (0 ≤ x ∧ x < G 0 2) ∧ ¬ (0 ≤ y ∧ y ≤ 6)))) (AAz z)) ([.ref z, .int (Int32.ofInt x), .int (Int32.ofInt y)] : List Value).toArray s 1 6 (AAz z)) (F0 m 35 ls []) := fun hgood hbad =>
    nx_throwS (own := RX11) (cls := xN) (text := "no such fact of a road") (sa := qb) (A := AAz z) hx hb hlt rn0 rn1 rn2 rn5 hown fitN fitR fitE (hts _ ww_cN) (hts _ ww_iN) xb (vx_hat (fun w hw => hts w (lkN_ww w hw)) lkN_bad (fun w hw => va_Nw.use (lkB_ot w hw) (xw w hw))) lkN_ot xU xS hS (by rw [hml]; exact hl.1) dX11_look_35 dX11_look_38 dX11_look_39 dX11_look_41 dX11_look_44 (hout _) (by decide) (Nat.le_of_ble_eq_true rfl) (by decide) (by decide) hlocks
      (fun t' hal h1 h2 => ⟨(), trivial, ⟨RelX.of hR h1 h2, Or.inr ⟨rfl, hgood, hbad⟩⟩, h1, fun q hq _ => h2 q hq⟩) (fun z hz => nomatch hz) (by decide) (by decide)
  have e0 : (0 : Int32) = Int32.ofInt 0 := rfl
  have e4 : fv z t u (ty_ 11 4) (s0.1 0 ((4 : Nat) : Int)) = .ref (z + c0.toNat) := by
    rw [tyc_]
    show cvR z t u (s0.1 0 4) = _
    rw [h4]; exact cvR_p (by omega)
  have e2 : fv z t u (ty_ 3 2) (s0.1 c0 ((2 : Nat) : Int)) = .int (Int32.ofInt (G 0 2)) := by
    rw [tyr_]
    show Value.int (Int32.ofInt (s0.1 c0 2)) = _
    rw [hG.1]
  have kc : kD_ s0.2.2.1 c0 = ((3 : Nat) : Int) := by rcases hk with rfl | rfl <;> rfl
  refine lv_iload_n hx hb dX11_look_0 rfl (lv_at hl 1 rfl) ?_
  refine lv_if_lt (tgt := 15) hx hb dX11_look_1 (by decide) (fun w => kI (fun q => by rw [e0, i_lt ix i_0] at w; omega)) (fun w1 => ?_)
  have x0 : 0 ≤ x := by rw [e0, i_lt ix i_0] at w1; omega
  refine lv_iload_n hx hb dX11_look_4 rfl (lv_at hl 1 rfl) ?_
  refine lv_aload_n hx hb dX11_look_5 rfl (lv_at hl 0 rfl) ?_
  refine gen_fld (a := 0) (cl := 11) (k := 4) hx hb hown hts hKK hR (by decide) (by decide) (by omega) rfl (by decide) nfc_ wwc_ dX11_look_6 ?_
  rw [e4]
  refine gen_fld (a := c0) (cl := 3) (k := 2) hx hb hown hts hKK hR (by decide) (by omega) (by omega) kc (by decide) nfr_ wwr_ dX11_look_9 ?_
  rw [e2]
  refine lv_icmp_lt (tgt := 25) hx hb dX11_look_12 (by decide) (fun w2 => ?_) (fun w2 => kI (fun q => w2 (by rw [i_lt ix ⟨by omega, by omega⟩]; omega)))
  have x1 : x < G 0 2 := by rw [i_lt ix ⟨by omega, by omega⟩] at w2; exact w2
  refine lv_iload_n hx hb dX11_look_25 rfl (lv_at hl 2 rfl) ?_
  refine lv_if_lt (tgt := 35) hx hb dX11_look_26 (by decide) (fun w => kN ⟨x0, x1⟩ (fun q => by rw [e0, i_lt iy i_0] at w; omega)) (fun w3 => ?_)
  have y0 : 0 ≤ y := by rw [e0, i_lt iy i_0] at w3; omega
  refine lv_iload_n hx hb dX11_look_29 rfl (lv_at hl 2 rfl) ?_
  refine lv_bipush (v := Int32.ofInt 7) hx hb dX11_look_30 rfl ?_
  refine lv_icmp_lt (tgt := 45) hx hb dX11_look_32 (by decide) (fun w4 => ?_) (fun w4 => kN ⟨x0, x1⟩ (fun q => w4 (by rw [i_lt iy ⟨by decide, by decide⟩]; omega)))
  have y1 : y < 7 := by rw [i_lt iy ⟨by decide, by decide⟩] at w4; exact w4
  refine vx_ret ?_
  refine lv_aload_n hx hb dX11_look_45 rfl (lv_at hl 0 rfl) ?_
  refine gen_fld (a := 0) (cl := 11) (k := 4) hx hb hown hts hKK hR (by decide) (by decide) (by omega) rfl (by decide) nfc_ wwc_ dX11_look_46 ?_
  rw [e4]
  refine lv_iload_n hx hb dX11_look_49 rfl (lv_at hl 1 rfl) ?_
  refine lv_iload_n hx hb dX11_look_50 rfl (lv_at hl 2 rfl) ?_
  have hcall : CallI 35 [vR c0, vI x, vI y] (s0.1, s0.2) (fun r N W1 => r = G 2 (x * 7 + y) ∧ N = s0.1 ∧ W1 = s0.2) := s_X3_roadFact hk hG x0 (by omega) y0 y1 ⟨rfl, rfl, rfl⟩
  obtain ⟨n, rr, s1, hex, hq⟩ := hcall
  rcases rr with _ | r | r | r
  · exact absurd hq id
  · obtain ⟨q1, q2, q3⟩ : r = G 2 (x * 7 + y) ∧ s1.1 = s0.1 ∧ s1.2 = s0.2 := hq
    have hs : s1 = s0 := Prod.ext q2 q3
    subst hs
    have hex : exec n 35 (ent_ 35 (vR c0 :: [vI x, vI y]) s1) = some (some (Sum.inl r), s1) := hex
    refine va_calli (a := (((vR c0 :: [vI x, vI y]) : List aV).map (cv z t u)).toArray) (gen_run (mj := 35) (rest := []) hx hb hml hown hts hKK cky_35 rfl (Nat.le_of_ble_eq_true rfl) (Nat.le_of_ble_eq_true rfl) wwf_ dX11_look_51 hex (bld_le hb126 (bnd_126 35)) (Nat.le_of_ble_eq_true rfl) rfl (Nat.zero_le _) (by omega) (by omega) kc hR hS hl.1 (by show 0 + (szS s1 - szS s1).toNat ≤ 1; omega) (by show 0 + (nsS s1 - nsS s1).toNat ≤ 6; omega)) hS (fun q _ h => h) (fun q h => h) (fun v u' T H1 locs1 g1 g2 g3 g4 g5 g6 g7 => ?_)
    refine W.widen (k := 1) (n := 6) (by omega) (by omega) ?_
    exact W.iret hx hb hr (fun t' ht hW => ⟨⟨v, (), rfl, ⟨⟨x0, x1⟩, ⟨y0, by omega⟩, by rw [g3, q1]⟩, by show Rel z t u D I s1 t'.heap; rw [ht, ← g1]; exact g4⟩, g7.F ht⟩) g7.2.2 dX11_look_54
  · exact absurd hq id
  · exact absurd hq id
