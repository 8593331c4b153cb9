/-! THE LAW: its case of look -/
section LAWK
variable {p : Program} {l : Launch} {e : Env} {s : State} {m : MethodId} {below : List Frame} {meth : Method} {c : Code} {b L : Nat} {xs : Nat → Int32} {H : Heap} {locs : List Loc} {cells slots : Nat} {Z : State → Prop}
variable {z t u : Nat} {D : va_G} {I : aI} {ls : Array Slot} {i k : Nat} {M : aM} {Wd : aW} {L2 : Int}
set_option maxRecDepth 20000 in
theorem gen_lald {pc : Nat} {s0 : aS} {st : List Value} (hx : p.tables.exec = Jvm.exec) (hb : c.code = code) (hKK : KK z t u D I s s.heap) (hR : Rel z t u D I s0 H) (h126 : 126 ≤ szS s0) (hd : decode code pc = .ok (.laload, 1))
    (kk : W p l e room_1 s m #[Value.ref b] below meth c H locs cells slots Z (F0 m (pc + 1) ls (.long (Int64.ofInt (s0.1 125 0)) :: st))) : W p l e room_1 s m #[Value.ref b] below meth c H locs cells slots Z (F0 m pc ls (.int 0 :: .ref (z + 125) :: st)) := by
  have h3 : kD_ s0.2.2.1 125 = 21 := rfl
  obtain ⟨kx, hkx⟩ := hR.at (a := 125) (by decide) (by omega) (by rw [h3]; decide)
  rw [en_21 h3] at hkx
  exact va_lald hx hb hKK.1 hR.P kx 1 hkx rfl (by show ¬ ((0 : Int32) < 0 ∨ 1 ≤ 0); decide) hd kk
theorem mth_199 : lwM 199 40 (some .int) := ⟨cky_199, rfl, Nat.le_of_ble_eq_true rfl, Nat.le_of_ble_eq_true rfl, tw_ 1656 rfl⟩
theorem mth_153 : lwM 153 41 (some .int) := ⟨cky_153, rfl, Nat.le_of_ble_eq_true rfl, Nat.le_of_ble_eq_true rfl, tw_ 1531 rfl⟩
set_option maxRecDepth 20000 in
theorem case_look (hlt : l.stackTraces = false) (C0 : lw_At p s m meth c b L xs) (hL : L ≤ 3072) (hz : z = s.heap.size) (hKK : KK z t u D I s s.heap) (hXW : XW z s s.heap) (hNc : va_Nc xN xI s) (hl : lv_has ls 7 (lwV b z i)) (hi : i + 5 < L) (hPS : PS L2 M Wd) (hb : bld_ 126 (M, Wd)) (hbud : bud L2 k cells slots) (hk : k ≤ 512) (hR : Rel z t u D I (M, Wd) H) (hSS : va_S (AAz z) s.heap H locs)
    (tail : ∀ (ls1 : Array Slot) (H1 : Heap) (locs1 : List Loc) (e1 e2 : Nat) (M1 : aM) (W1 : aW) (L3 : Int), lv_has ls1 7 (lwV b z i) → PS L3 M1 W1 → bld_ 126 (M1, W1) → bud L3 (k + 1) e1 e2 → Rel z t u D I (M1, W1) H1 → va_S (AAz z) s.heap H1 locs1 → W p l e room_1 s m #[Value.ref b] below meth c H1 locs1 e1 e2 Z (F0 m 1123 ls1 [])) :
    W p l e room_1 s m #[Value.ref b] below meth c H locs cells slots Z (F0 m 299 ls []) := by
  obtain ⟨c0, G, Dg, on, w, n, wp, wh, wk, tn, tp, fk, fp, hC, hRf, hlg⟩ := hPS
  have hx := C0.1
  have hbc := C0.2.1
  have hts := C0.2.2.2.2.2.1
  have hww : ∀ w ∈ ww_, w ∈ lw_tbl := fun w hw => (List.mem_filter.mp hw).1
  have hsz : (126 : Int) ≤ Wd.2.2.1 := hb.1
  refine lv_aload_n hx hbc dl_299 rfl (lv_at hl 1 rfl) ?_
  refine law_push2 C0 hL hz hSS hl (k := 1) (P := 300) (by decide) (by omega) dl_300 dl_301 dl_303 dl_304 dl_305 ?_
  refine law_push2 C0 hL hz hSS hl (k := 2) (P := 306) (by decide) (by omega) dl_306 dl_307 dl_309 dl_310 dl_311 ?_
  refine lv_aload_n hx hbc dl_312 rfl (lv_at hl 3 rfl) ?_
  have good : GoodIn lw_tbl (va_wsS R_law 35 yL_look (.codeWith yL_look cL_look 5 (some .int) hL_look :: ww_)) := by
    intro w hw
    have hw2 : w ∈ ww_ := by
      rcases List.mem_append.mp hw with h | h
      · simp only [List.mem_cons, List.not_mem_nil, or_false] at h
        rcases h with rfl | rfl | rfl
        · exact wll_link
        · exact wll_stat
        · exact wll_ini
      · rcases List.mem_cons.mp h with rfl | h
        · exact wll_code
        · exact h
    exact ⟨hww w hw2, good_of_word (List.mem_filter.mp hw2).2⟩
  have blind : FrameBlind (va_Pc [.ref z, .int (Int32.ofInt (xs (i + 1)).toInt), .int (Int32.ofInt (xs (i + 2)).toInt), .ref (z + 125)] (fun U => Rel z t u D I (M, Wd) U.heap ∧ KK z t u D I U U.heap ∧ XW z U U.heap ∧ va_Nc xN xI U)) := by
    intro a U g mk q
    obtain ⟨q0, q1, q2, q3, q4⟩ := q
    exact ⟨q0, q1, q2.moved (V := U.calling g mk a) (State.WarmedH.refl U) (fun _ _ _ => rfl), q3.moved (V := U.calling g mk a) (State.WarmedH.refl U) (fun _ _ _ => rfl), va_Nc.moved (u := U) (U := U.calling g mk a) (Vm.Alike.refl U.vm) q4⟩
  have hroom := bud_room hbud (by omega)
  refine va_calli (a := ([.ref z, .int (Int32.ofInt (xs (i + 1)).toInt), .int (Int32.ofInt (xs (i + 2)).toInt), .ref (z + 125)] : List Value).toArray) (vx_runSW (As := [.ref z, .int (Int32.ofInt (xs (i + 1)).toInt), .int (Int32.ofInt (xs (i + 2)).toInt), .ref (z + 125)]) (rest := []) (n := 4) ⟨hx, hbc, C0.2.2.2.1, C0.2.2.2.2.1, hts⟩
    (ll_met l hlt hC.2.1.1 hC.2.1.2.1 hC.2.1.2.2.1 hC.1.1 hb (y_in _) (y_in _)) (vx_cwSW 4 hts good rfl rfl rfl (by decide) ⟨Nat.le_of_ble_eq_true rfl, Nat.le_of_ble_eq_true rfl⟩)
    ⟨blind, fun U hU hW => ⟨rfl, by rw [hU]; exact hR, by rw [hU]; exact hKK.moved hW (fun a q1 q2 => hSS.2.1 a q1 q2), by rw [hU]; exact hXW.moved hW (fun a q1 q2 => hSS.2.1 a q1 q2), va_Nc.moved hW.alike hNc⟩⟩ rfl rfl hl.1 rfl (lv_room (Nat.le_of_ble_eq_true rfl)) dl_313 ⟨hroom.1, hroom.2⟩) hSS (fun q _ h => h) (fun q h => h) (fun v st T1 H1 locs1 g1 g2 g3 g4 g5 g6 g7 => ?_)
  have hR1 : Rel z t u D I (st.1, st.2) H1 := by rw [← g1]; exact g4
  have hb1 : bld_ 126 (st.1, st.2) := by
    rcases g3 with ⟨-, -, -, rfl⟩ | ⟨-, -, hd⟩ | ⟨-, -, -, hd⟩
    · exact hb
    · exact bld_dd hb hd
    · exact bld_dd hb hd
  have hsz1 : (126 : Int) ≤ st.2.2.2.1 := hb1.1
  have hbud1 : bud L2 (k + 1) (cells + 1) (slots + 6) := by
    obtain ⟨h1, ⟨late, h2, h3, h4⟩, h5, h6⟩ := hbud
    exact ⟨by omega, ⟨late, by omega, h3, h4⟩, h5, h6⟩
  have hroom1 := bud_room hbud1 (by omega)
  refine lv_istore (lv' := [(5, .int v), (0, .ref b), (1, .ref z), (2, .ref (z + 86)), (3, .ref (z + 125)), (4, .int (nI i))]) hx hbc dl_316 hl (by decide) rfl (fun ls1 hl1 => ?_)
  have hl0 : lv_has ls1 7 (lwV b z i) := lv_sub hl1 [1, 2, 3, 4, 5] rfl
  refine lv_aload_n hx hbc dl_318 rfl (lv_at hl0 2 rfl) ?_
  refine law_push2 C0 hL hz g7 hl0 (k := 1) (P := 319) (by decide) (by omega) dl_319 dl_320 dl_322 dl_323 dl_324 ?_
  refine law_push2 C0 hL hz g7 hl0 (k := 2) (P := 325) (by decide) (by omega) dl_325 dl_326 dl_328 dl_329 dl_330 ?_
  refine law_I (P := 331) (a := 86) (as' := [vI (xs (i + 1)).toInt, vI (xs (i + 2)).toInt]) (rest := []) C0 hz hKK mth_199 dl_331 (p_look ⟨Dg, on, w, n, wp, wh, wk, tn, tp, fk, fp, hC, hRf, hlg⟩ (y_in _) (y_in _) g3) (bld_le hb1 (bnd_126 199)) (Nat.le_of_ble_eq_true rfl) rfl (Nat.zero_le _) (by decide) (by show (86 : Int) < st.2.2.2.1; omega) rfl hR1 g7 hl0.1 (fun r N W1 hq => ?_) (fun r N W1 H2 locs2 hq j1 j2 hR2 hS2 => ?_)
  · obtain ⟨rfl, -⟩ := hq
    refine ⟨?_, ?_⟩
    · show cells + 1 + (st.2.2.2.1 - st.2.2.2.1).toNat ≤ _; omega
    · show slots + 6 + (st.2.2.2.2 - st.2.2.2.2).toNat ≤ _; omega
  obtain ⟨rfl, hv0, hthr⟩ := hq
  have ez : (st.2.2.2.1 - szS (st.1, st.2)).toNat = 0 := by show (st.2.2.2.1 - st.2.2.2.1).toNat = 0; omega
  have en' : (st.2.2.2.2 - nsS (st.1, st.2)).toNat = 0 := by show (st.2.2.2.2 - st.2.2.2.2).toNat = 0; omega
  rw [ez, en']
  refine lv_istore (lv' := [(6, .int (Int32.ofInt r)), (5, .int v), (0, .ref b), (1, .ref z), (2, .ref (z + 86)), (3, .ref (z + 125)), (4, .int (nI i))]) hx hbc dl_334 hl1 (by decide) rfl (fun ls2 hl2 => ?_)
  have hl0 : lv_has ls2 7 (lwV b z i) := lv_sub hl2 [2, 3, 4, 5, 6] rfl
  refine lv_aload_n hx hbc dl_336 rfl (lv_at hl0 2 rfl) ?_
  have hb2 : bld_ 126 (N, st.2) := hb1
  refine law_I (P := 337) (a := 86) (as' := []) (rest := []) C0 hz hKK mth_153 dl_337 hthr (bld_le hb2 (bnd_126 153)) (Nat.le_of_ble_eq_true rfl) rfl (Nat.zero_le _) (by decide) (by show (86 : Int) < st.2.2.2.1; omega) rfl hR2 hS2 hl0.1 (fun r2 N2 W2 hq => ?_) (fun r2 N2 W2 H3 locs3 hq j3 j4 hR3 hS3 => ?_)
  · obtain ⟨rfl, -⟩ := hq
    refine ⟨?_, ?_⟩
    · show cells + 1 + 0 + (st.2.2.2.1 - st.2.2.2.1).toNat ≤ _; omega
    · show slots + 6 + 0 + (st.2.2.2.2 - st.2.2.2.2).toNat ≤ _; omega
  obtain ⟨rfl, rfl, hrv, hPS3⟩ := hq
  have ez2 : (st.2.2.2.1 - szS (N2, st.2)).toNat = 0 := ez
  have en2 : (st.2.2.2.2 - nsS (N2, st.2)).toNat = 0 := en'
  rw [ez2, en2, hrv]
  have fin : W p l e room_1 s m #[Value.ref b] below meth c H3 locs3 (cells + 1 + 0 + 0) (slots + 6 + 0 + 0) Z (F0 m 364 ls2 []) := by
    refine lv_goto (tgt := 1123) hx hbc dl_364 (by decide) ?_
    exact tail ls2 H3 locs3 _ _ N2 st.2 L2 hl0 hPS3 hb2 hbud1 hR3 hS3
  refine lv_iload hx hbc dl_340 (lv_at hl2 1 rfl) ?_
  refine lv_icmp_eq (tgt := 347) hx hbc dl_342 (by decide) (fun _ => ?_) (fun q => absurd rfl q)
  refine lv_iload hx hbc dl_347 (lv_at hl2 1 rfl) ?_
  refine lv_if_ne (tgt := 364) hx hbc dl_349 (by decide) (fun _ => fin) (fun hv => ?_)
  obtain ⟨w1, w2, w3⟩ := hv0 hv
  refine lv_aload_n hx hbc dl_352 rfl (lv_at hl0 3 rfl) ?_
  refine lv_iconst (v := 0) hx hbc dl_353 rfl ?_
  refine gen_lald (s0 := (N2, st.2)) hx hbc hKK hR3 hb2.1 dl_354 ?_
  refine lv_iload hx hbc dl_355 (lv_at hl2 0 rfl) ?_
  refine lv_i2l (v := Int64.ofInt r) hx hbc dl_357 (i_l w3) ?_
  have e0 : ∀ x : Int64, lg_cmp x x = 0 := fun x => by simp [lg_cmp]
  have e5 : (N2, st.2).1 125 0 = r := by show N2 125 0 = r; rw [w2, w1]
  rw [e5]
  refine W.lcmp hx hbc dl_358 ?_
  rw [e0]
  refine lv_if_eq (tgt := 364) hx hbc dl_359 (by decide) (fun _ => fin) (fun q => absurd rfl q)
end LAWK
