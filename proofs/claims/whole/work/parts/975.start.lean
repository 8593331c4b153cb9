/-! THE LAW, from its entry -/
theorem nx1 : Cond.isRef (.static Bundle.tN "UNASSIGNED_STACK" Bundle.steD) ∈ flatC narrow_1 := by decide +kernel
theorem nx2 : Cond.isRef (.static Bundle.tN "SUPPRESSED_SENTINEL" Bundle.listD) ∈ flatC narrow_1 := by decide +kernel
theorem nx3 : Cond.exactly (.string "ShutPasses" 110) "java/lang/String" ∈ flatC narrow_1 := by decide +kernel
theorem nx4 : Cond.exactly (.string "ShutPasses" 117) "java/lang/String" ∈ flatC narrow_1 := by decide +kernel
theorem nx5 : Cond.not (.castable xN xI) ∈ flatC narrow_1 := by decide +kernel
theorem law_XW {args : Array Value} {s : State} (hts : ∀ w ∈ lw_tbl, w.before args s = true) (hgv : (Jvm.Cond.and given_1 narrow_1).before args s = true) : XW s.heap.size s s.heap ∧ va_Nc xN xI s := by
  have hs0 := flat_of_before _ hgv
  have hs : ∀ w ∈ flatC narrow_1, w.before args s = true := fun w hw => hs0 w (List.mem_append_right _ hw)
  have hA : ∀ a : Nat, a < s.heap.size → ¬ AAz s.heap.size a := fun a h q => by
    have q : s.heap.size ≤ a := q
    omega
  obtain ⟨ua, ca, cA, kA, q1, -⟩ := Cond.exactly_spec (hs _ nx3)
  obtain ⟨ub, cb, cB, kB, q2, -⟩ := Cond.exactly_spec (hs _ nx4)
  exact ⟨⟨vx_Zqof (hts _ (tw_ 1245 rfl)) (hts _ (tw_ 18 rfl)) (hs _ nx1) hA, vx_Zqof (hts _ (tw_ 1247 rfl)) (hts _ (tw_ 18 rfl)) (hs _ nx2) hA, ⟨ua, vk_R.of (hts _ (tw_ 1258 rfl)) q1⟩, ⟨ub, vk_R.of (hts _ (tw_ 1293 rfl)) q2⟩, fun w hw => va_Nw.of (lkB_ot w hw) (hts w (lkB_tbl w hw))⟩, va_Nc.of (hs _ nx5)⟩
theorem lwi_118 : lwI 118 17 := ⟨cky_118, rfl, rfl, Nat.le_of_ble_eq_true rfl, Nat.le_of_ble_eq_true rfl, Nat.le_of_ble_eq_true rfl, rfl, tw_ 28 rfl⟩
theorem lwi_152 : lwI 152 20 := ⟨cky_152, rfl, rfl, Nat.le_of_ble_eq_true rfl, Nat.le_of_ble_eq_true rfl, Nat.le_of_ble_eq_true rfl, rfl, tw_ 1303 rfl⟩
theorem fin_pos : ∀ q ∈ finL, 0 ≤ q.1 := by decide +kernel
theorem nC11 : nC_ ((11 : Nat) : Int) = 13 := rfl
theorem nC12 : nC_ ((12 : Nat) : Int) = 60 := rfl
theorem bld_0 {q : aS} (h : 0 ≤ szS q) : bld_ 0 q := ⟨h, fun x hx hl => by have := fin_pos x hx; omega⟩
section START
variable {p : Program} {e : Env} {s : State} {m : MethodId} {below : List Frame} {meth : Method} {c : Code}
set_option maxHeartbeats 4000000 in
set_option maxRecDepth 100000 in
theorem whole_start (l : Launch) (hflags : l.flags = flags0) {b L : Nat} {xs : Nat → Int32} (hL : L ≤ 3072) (C0 : lw_At p s m meth c b L xs) : W p l e room_1 s m #[Value.ref b] below meth c s.heap [] 0 0 (lw_Z below #[Value.ref b] s) (entryFrame m ([Value.ref b] : List Value).toArray 7) := by
  have hlt : l.stackTraces = false := by
    unfold Launch.stackTraces
    rw [hflags]
    decide
  obtain ⟨hx, hb, hr, hml, hown, hts, hX, hbl, hlocks, hgv⟩ := id C0
  obtain ⟨t, u, D, I, hKK⟩ := law_KK hts hgv
  obtain ⟨hXW, hNc⟩ := law_XW hts hgv
  obtain ⟨z, hz⟩ : ∃ z : Nat, z = s.heap.size := ⟨_, rfl⟩
  rw [← hz] at hKK hXW
  have hl := lv_entry ([.ref b]) (n := 7) (Nat.le_of_ble_eq_true rfl)
  rw [lg_entry_eq]
  generalize (lg_sl ([.ref b]) ++ List.replicate (7 - (lg_sl ([.ref b])).length) Slot.unset).toArray = ls at hl ⊢
  have hl : lv_has ls 7 [(0, .ref b)] := hl
  have hS0 : va_S (AAz z) s.heap s.heap [] := va_S.rf
  obtain ⟨s0, hs0⟩ : ∃ s0 : aS, s0 = (fun _ _ => 0, (fun _ _ => 0, fun _ => 0, 0, 0)) := ⟨_, rfl⟩
  have hR0 : Rel z t u D I ((fun _ _ => 0 : aM), ((fun _ _ => 0 : aM), (fun _ => 0), 0, 0)) s.heap := ⟨Int.le_refl 0, by rw [hz]; rfl, fun a ha => by have ha : (a : Int) < 0 := ha; omega, fun a => by show (0 : Int) ≤ _; decide⟩
  -- the class
  refine law_new (ix := 8) (cc := 11) C0 hKK (by decide) dl_0 (tw_ 26 rfl) (tw_ 1 rfl) rfl (by decide) hR0 hS0 (Nat.le_of_ble_eq_true rfl) (Nat.le_of_ble_eq_true rfl) (fun H1 hR1 hS1 => ?_)
  refine lv_dup hx hb dl_3 rfl ?_
  refine law_V (mj := 118) (ix := 17) (a := 0) (rest := [vR 0]) (Q := fun N W1 => ∃ (K : aM) (mm : Int) (G : Lnd), W1 = (K, (fun _ => 0), 86, mm) ∧ mm = 13 + 68594 ∧ (∀ b j, 86 ≤ b → N b j = ce_ (fun _ _ => 0) 0 (dfl_ 11) b j) ∧ fiL finA K ∧ pW G ∧ emZ G ∧ lgM N ∧ clS 2 G (dNew G) 0 0 0 (fun _ => 0) (fun _ => 0) (fun _ => 0) 0 (fun _ => 0) 0 (-1) 0 N (K, (fun _ => 0), 126, mm)) C0 hz hKK lwi_118 dl_4 ?_ (bld_0 (by decide)) (Nat.le_of_ble_eq_true rfl) (by decide) hR1 hS1 hl.1 (fun N W1 hq => ?_) (fun N W1 H2 locs2 hq j1 j2 hR2 hS2 => ?_)
  · exact i_X11 rfl rfl (fun N K mm G a1 a2 a3 a4 a5 a6 a7 a8 => ⟨K, mm, G, rfl, a3, a1, a4, a5, a6, a7, a8⟩)
  · obtain ⟨K, mm, G, rfl, rfl, -⟩ := hq
    refine ⟨?_, ?_⟩
    · dsimp only [szS, nsS]; omega
    · dsimp only [szS, nsS]; rw [nC11]; omega
  obtain ⟨K, mm, G, rfl, rfl, hN, hfA, hpW, heZ, hlg, hcl⟩ := hq
  refine W.widen (k := 86) (n := 68607) (by dsimp only [szS, nsS]; omega) (by dsimp only [szS, nsS]; rw [nC11]; omega) ?_
  refine lv_astore_n (lv' := [(1, .ref z), (0, .ref b)]) hx hb dl_7 rfl hl (by decide) rfl (fun ls1 hl1 => ?_)
  -- the reference
  refine law_new (ix := 18) (cc := 12) C0 hKK (by decide) dl_8 (tw_ 1301 rfl) (tw_ 17 rfl) rfl (show (86 : Int) < 126 by decide) hR2 hS2 (Nat.le_of_ble_eq_true rfl) (Nat.le_of_ble_eq_true rfl) (fun H3 hR3 hS3 => ?_)
  refine lv_dup hx hb dl_11 rfl ?_
  have hfA2 : fiL finA (ce_ K 86 (fun _ => -1)) := fiL_ag (lo := 86) (hi := 86) hfA (ag_ce K (by decide) (by decide)) (fun q hq => Or.inl (finA_86 q hq))
  refine law_V (mj := 152) (ix := 20) (a := 86) (rest := [vR 86]) (Q := fun N2 W1 => W1 = (x12K (ce_ K 86 (fun _ => -1)), (fun _ => 0), 125, 13 + 68594 + 60 + 478238) ∧ frK (ce_ N 86 (dfl_ 12)) N2 ∧ fiL finL (x12K (ce_ K 86 (fun _ => -1))) ∧ rfS G (dNew G) 0 0 0 (fun _ => 0) (fun _ => 0) (fun _ => 0) 0 (fun _ => 0) 0 (-1) N2) C0 hz hKK lwi_152 dl_12 ?_ (bld_0 (show (0 : Int) ≤ 86 + 1 by decide)) (Nat.le_of_ble_eq_true rfl) (by decide) hR3 hS3 hl1.1 (fun N2 W1 hq => ?_) (fun N2 W1 H4 locs4 hq j3 j4 hR4 hS4 => ?_)
  · exact i_X12 hfA2 hpW heZ rfl rfl (fun N2 m2 a1 a2 a3 a4 => ⟨by rw [a3]; rfl, a1, a2, a4⟩)
  · obtain ⟨rfl, -⟩ := hq
    refine ⟨?_, ?_⟩
    · dsimp only [szS, nsS]; omega
    · dsimp only [szS, nsS]; rw [nC12]; omega
  obtain ⟨rfl, hfr, hfL, hrf⟩ := hq
  refine W.widen (k := 125) (n := 546905) (by dsimp only [szS, nsS]; omega) (by dsimp only [szS, nsS]; rw [nC12]; omega) ?_
  refine lv_astore_n (lv' := [(2, .ref (z + 86)), (1, .ref z), (0, .ref b)]) hx hb dl_15 rfl hl1 (by decide) rfl (fun ls2 hl2 => ?_)
  refine lv_iconst (v := 1) hx hb dl_16 rfl ?_
  refine law_long C0 hKK dl_17 rfl hR4 hS4 (Nat.le_of_ble_eq_true rfl) (Nat.le_of_ble_eq_true rfl) (fun H5 hR5 hS5 => ?_)
  refine lv_astore_n (lv' := [(3, .ref (z + 125)), (2, .ref (z + 86)), (1, .ref z), (0, .ref b)]) hx hb dl_19 rfl hl2 (by decide) rfl (fun ls3 hl3 => ?_)
  refine lv_iconst (v := nI 0) hx hb dl_20 rfl ?_
  refine lv_istore (lv' := [(4, .int (nI 0)), (3, .ref (z + 125)), (2, .ref (z + 86)), (1, .ref z), (0, .ref b)]) hx hb dl_21 hl3 (by decide) rfl (fun ls4 hl4 => ?_)
  have hPS : PS 0 (ce_ N2 125 (fun _ => 0)) (x12K (ce_ K 86 (fun _ => -1)), ((fun _ => 0 : Int → Int), 126, 13 + 68594 + 60 + 478238 + 1)) := by
    have c1 : clS 2 G (dNew G) 0 0 0 (fun _ => 0) (fun _ => 0) (fun _ => 0) 0 (fun _ => 0) 0 (-1) 0 N (x12K (ce_ K 86 (fun _ => -1)), ((fun _ => 0 : Int → Int), 126, 13 + 68594 + 60 + 478238 + 1)) := hcl.W rfl (Int.le_refl _)
    have e1 : ∀ b j, (b < 86 ∨ 126 ≤ b) → ce_ N2 125 (fun _ => 0) b j = N b j := fun b j hb => by
      unfold ce_
      rw [if_neg (by omega), hfr b j (by omega)]
      unfold ce_
      rw [if_neg (by omega)]
    refine PS.mk (c1.K2 e1) (hrf.C2 (fun b j b0 b1 => by unfold ce_; rw [if_neg (by omega)])) (fun q q0 q1 => by rw [e1 21 q (by omega)]; exact hlg q q0 q1)
  have hbd : bld_ 126 (ce_ N2 125 (fun _ => 0), (x12K (ce_ K 86 (fun _ => -1)), ((fun _ => 0 : Int → Int), 126, 13 + 68594 + 60 + 478238 + 1))) := ⟨Int.le_refl 126, fun q hq _ => fiL_mem hfL q hq⟩
  refine law_loop hlt C0 hL hz hKK hXW hNc 513 0 (by omega) (by omega) ls4 H5 locs4 _ _ _ _ 0 (lv_sub hl4 [4, 3, 2, 1, 0] rfl) hPS hbd ?_ hR5 hS5
  refine ⟨?_, ⟨0, ?_, by decide, Or.inl (by decide)⟩, by decide, by decide⟩
  · decide
  · decide
end START
