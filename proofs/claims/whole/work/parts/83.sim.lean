section SIME
variable {z t u : Nat} {D : va_G} {I : aI} {p : Program} {l : Launch} {e : Env} {R : Room} {s : State} {m : MethodId} {args : Array Value} {below : List Frame} {meth : Method} {c : Code} {Z : State → Prop} {mi : Nat} {n0 : Int}
variable {RT : Option aV → Prop} {CL : Nat → List aV → Nat → List aV → Prop} {BR : Prop → aT → aT → Prop} {SW : Int → List (Int × aT) → aT → Prop} {ST : aT → Prop}
variable {B : Int} {pc : Nat} {L : List aL} {st : List aV} {s0 : aS} {r : List Int}
set_option maxRecDepth 20000 in
set_option maxRecDepth 20000 in
theorem ln_in (a : Int) : 0 ≤ ln_ a ∧ ln_ a ≤ 1000000 := by
  rcases a with n | n
  · show 0 ≤ lnN n ∧ lnN n ≤ 1000000
    by_cases h : n < 126
    · have h2 : (List.range 126).all (fun k => decide (0 ≤ lnN k ∧ lnN k ≤ 1000000)) = true := by decide +kernel
      exact of_decide_eq_true (List.all_eq_true.mp h2 n (List.mem_range.mpr h))
    · have : lnN n = 0 := by
        unfold lnN
        rw [Nat.ble_eq_true_of_le (show 126 ≤ n by omega)]
        rfl
      omega
  · exact ⟨Int.le_refl _, (by decide : (0 : Int) ≤ 1000000)⟩
set_option maxRecDepth 20000 in
theorem lD_le {H : Heap} {a : Int} (hR : Rel z t u D I s0 H) : lD_ s0.2.2.1 a ≤ 100000000 := by
  have h1 := hR.2.2.2 a
  have h2 := ln_in a
  unfold lD_
  cases decide (a < nid_) with
  | true => show ln_ a ≤ _; omega
  | false => exact h1
set_option maxRecDepth 20000 in
theorem KK.k (h : KK z t u D I s s.heap) : va_K D vwCl (tyL I) s := h.1
set_option maxRecDepth 20000 in
/-- readings of rows -/
theorem st_ald {i : Instr} {kd a ix : Int} {mk : Int → aV} {n : Nat} (C : Cx z t u D I p R s m args meth c mi) (h1 : 0 ≤ a) (h2 : a < szS s0) (h3 : kD_ s0.2.2.1 a = kd) (hi0 : 0 ≤ ix) (hi1 : ix < lD_ s0.2.2.1 a)
    (hk : (kd = 20 ∧ i = .iaload ∧ mk = vI) ∨ (kd = 21 ∧ i = .laload ∧ mk = vL) ∨ (kd = 22 ∧ i = .baload ∧ mk = vI) ∨ (kd = 23 ∧ i = .baload ∧ mk = vI)) (hd : decode (bts_ mi) pc = .ok (i, 1)) (hn : n = 1) :
    St z t u D I (WFr p l e R s m args below meth c Z) s R m mi n0 (pc, L, .inl ix :: .inr (.inr a) :: st, s0) (popTo (i, n, r) (pc, L, .inl ix :: .inr (.inr a) :: st, s0) (mk (s0.1 a ix) :: st)) := by
  subst hn
  refine St.read rfl rfl (fun H locs cells slots ls hR hS hl kk => ?_)
  change W p l e R s m args below meth c H locs cells slots Z (F0 m (pc + 1) ls (cv z t u (mk (s0.1 a ix)) :: st.map (cv z t u))) at kk
  change W p l e R s m args below meth c H locs cells slots Z (F0 m pc ls (.int (Int32.ofInt ix) :: cvR z t u a :: st.map (cv z t u)))
  have hP := hR.cell h1 h2 (by rw [h3]; omega)
  have hb : lD_ s0.2.2.1 a ≤ 100000000 := lD_le (s0 := s0) (a := a) hR
  have hin := i_ix (n := (lD_ s0.2.2.1 a).toNat) hi0 (by omega) (by omega)
  have hto : ((Int32.ofInt ix).toNatClampNeg : Int) = ix := by rw [hin.2]; exact Int.toNat_of_nonneg hi0
  rw [cvR_p h1]
  rcases hk with ⟨rfl, rfl, rfl⟩ | ⟨rfl, rfl, rfl⟩ | ⟨rfl, rfl, rfl⟩ | ⟨rfl, rfl, rfl⟩
  · rw [en_20 h3] at hP
    refine va_iald C.1 C.2.1 C.2.2.2.2.2.2.2.2.1.1 hP 0 0 rfl rfl hin.1 hd ?_
    rw [hto]; exact kk
  · rw [en_21 h3] at hP
    refine va_lald C.1 C.2.1 C.2.2.2.2.2.2.2.2.1.1 hP 0 1 rfl rfl hin.1 hd ?_
    rw [hto]; exact kk
  · rw [en_22 h3] at hP
    refine va_bald C.1 C.2.1 C.2.2.2.2.2.2.2.2.1.1 hP 0 2 rfl rfl hin.1 hd ?_
    rw [hto]; exact kk
  · rw [en_23 h3] at hP
    refine va_zald C.1 C.2.1 C.2.2.2.2.2.2.2.2.1.1 hP 0 3 rfl rfl hin.1 hd ?_
    rw [hto]; exact kk
set_option maxRecDepth 20000 in
theorem st_thr {ix : Int} {n : Nat} (C : Cx z t u D I p R s m args meth c mi) (hi0 : 0 ≤ ix) (hi1 : ix < 7) (hd : decode (bts_ mi) pc = .ok (.iaload, 1)) (hn : n = 1) :
    St z t u D I (WFr p l e R s m args below meth c Z) s R m mi n0 (pc, L, .inl ix :: .inr (.inr (-10)) :: st, s0) (popTo (.iaload, n, r) (pc, L, .inl ix :: .inr (.inr (-10)) :: st, s0) (vI (thr_ ix) :: st)) := by
  subst hn
  refine St.read rfl rfl (fun H locs cells slots ls hR hS hl kk => ?_)
  change W p l e R s m args below meth c H locs cells slots Z (F0 m (pc + 1) ls (.int (Int32.ofInt (thr_ ix)) :: st.map (cv z t u))) at kk
  change W p l e R s m args below meth c H locs cells slots Z (F0 m pc ls (.int (Int32.ofInt ix) :: .ref t :: st.map (cv z t u)))
  have hin := i_ix (n := 7) hi0 hi1 (by decide)
  refine va_ti C.1 C.2.1 C.2.2.2.2.2.2.2.2.1.2.2.1 hS hin.1 (v := .int (Int32.ofInt (thr_ ix))) ?_ hd kk
  show Value.int (Int32.ofInt (thr_ (((Int32.ofInt ix).toNatClampNeg : Nat) : Int))) = _
  rw [hin.2, Int.toNat_of_nonneg hi0]
set_option maxRecDepth 20000 in
theorem ok_ald {i : Instr} {mk : Int → aV} (C : Cx z t u D I p R s m args meth c mi) (hF : bld_ (bnd_ mi) s0) (hd : decode (bts_ mi) pc = .ok (i, 1)) (hk : ∀ mo kd lit, r = [mo, kd, lit] → ((kd = 20 ∧ i = .iaload ∧ mk = vI) ∨ (kd = 21 ∧ i = .laload ∧ mk = vL) ∨ (kd = 22 ∧ i = .baload ∧ mk = vI) ∨ (kd = 23 ∧ i = .baload ∧ mk = vI)) ∧ (mo = 3 → i = .iaload)) :
    OK (St z t u D I (WFr p l e R s m args below meth c Z) s R m mi n0 (pc, L, st, s0)) RT CL BR SW (aLd (bnd_ mi) mk (i, 1, r) (pc, L, st, s0)) := by
  rcases st with _ | ⟨x | x | x, _ | ⟨a | a | a, st⟩⟩ <;> try exact True.intro
  rcases r with _ | ⟨mo, _ | ⟨kd, _ | ⟨lit, _ | ⟨_, _⟩⟩⟩⟩ <;> try exact True.intro
  obtain ⟨hk1, hk3⟩ := hk mo kd lit rfl
  have hB := bnd_le mi
  have ll : okO (bnd_ mi) kd a = true → lD_ s0.2.2.1 a = ln_ a := fun hb => lD_small (by have := (okO_of hb).2.1; omega)
  show OK _ _ _ _ _ (if mo = 0 then (bif decide (lit = 1) then (bif okO (bnd_ mi) kd a && (decide (0 ≤ x) && decide (x < ln_ a)) then rN none _ else rX) else (bif okO (bnd_ mi) kd a then rN (some (0 ≤ x ∧ x < ln_ a)) _ else rX))
    else if mo = 1 then rN (some (okO (bnd_ mi) kd a = true ∧ 0 ≤ x ∧ x < ln_ a)) _
    else if mo = 2 then rN (some (okD s0 kd a = true ∧ 0 ≤ x ∧ x < lD_ s0.2.2.1 a)) _
    else if mo = 3 then bif decide (a = -10) && decide (kd = 20) then rN (some (0 ≤ x ∧ x < 7)) _ else rX
    else rX)
  split
  · cases decide (lit = 1) with
    | true =>
      cases hb : okO (bnd_ mi) kd a && (decide (0 ≤ x) && decide (x < ln_ a)) with
      | false => exact True.intro
      | true =>
        simp only [Bool.and_eq_true, decide_eq_true_eq] at hb
        have hl := okO_live hB hF hb.1
        exact fun _ => st_ald C hl.1 hl.2.1 hl.2.2 hb.2.1 (by rw [ll hb.1]; exact hb.2.2) hk1 hd rfl
    | false =>
      cases hb : okO (bnd_ mi) kd a with
      | false => exact True.intro
      | true =>
        have hl := okO_live hB hF hb
        exact fun g => st_ald C hl.1 hl.2.1 hl.2.2 g.1 (by rw [ll hb]; exact g.2) hk1 hd rfl
  · split
    · intro g
      have hl := okO_live hB hF g.1
      exact st_ald C hl.1 hl.2.1 hl.2.2 g.2.1 (by rw [ll g.1]; exact g.2.2) hk1 hd rfl
    · split
      · intro g
        have hl := okD_of g.1
        exact st_ald C hl.1 hl.2.1 hl.2.2 g.2.1 g.2.2 hk1 hd rfl
      · split
        · rename_i h3
          cases hb : decide (a = -10) && decide (kd = 20) with
          | false => exact True.intro
          | true =>
            simp only [Bool.and_eq_true, decide_eq_true_eq] at hb
            obtain ⟨rfl, rfl⟩ := hb
            have hi := hk3 h3
            subst hi
            exact fun g => st_thr C g.1 g.2 hd rfl
        · exact True.intro
set_option maxRecDepth 20000 in
/-- writings of rows -/
theorem st_ast {i : Instr} {kd a ix x : Int} {v : aV} {T : aT} (C : Cx z t u D I p R s m args meth c mi) (h1 : 0 ≤ a) (h2 : a < szS s0) (h3 : kD_ s0.2.2.1 a = kd) (hi0 : 0 ≤ ix) (hi1 : ix < lD_ s0.2.2.1 a)
    (hk : (kd = 20 ∧ i = .iastore ∧ v = vI x) ∨ (kd = 21 ∧ i = .lastore ∧ v = vL x) ∨ (kd = 22 ∧ i = .bastore ∧ v = vI x ∧ -128 ≤ x ∧ x ≤ 127) ∨ (kd = 23 ∧ i = .bastore ∧ v = vI x ∧ 0 ≤ x ∧ x ≤ 1)) (hd : decode (bts_ mi) pc = .ok (i, 1))
    (hT : T = (pc + 1, L, st, (up_ s0.1 a ix x, s0.2))) : St z t u D I (WFr p l e R s m args below meth c Z) s R m mi n0 (pc, L, v :: .inl ix :: .inr (.inr a) :: st, s0) T := by
  subst hT
  have hinR : ∀ H, Rel z t u D I s0 H → vp_in (Int32.ofInt ix) (lD_ s0.2.2.1 a).toNat ∧ (Int32.ofInt ix).toNatClampNeg = ix.toNat := fun H hR => i_ix (n := (lD_ s0.2.2.1 a).toNat) hi0 (by omega) (by have : lD_ s0.2.2.1 a ≤ 100000000 := lD_le (s0 := s0) (a := a) hR; omega)
  have h99 : kD_ s0.2.2.1 a ≠ 99 := by rw [h3]; omega
  have oth : ∀ b : Int, b ≠ a → 0 ≤ b → kD_ s0.2.2.1 b ≠ 99 → en z t u I (up_ s0.1 a ix x, s0.2) b = en z t u I s0 b := fun b hb _ _ => en_other rfl (fun j => up_o hb) (fun _ => rfl)
  have fI : (fun j : Nat => Int32.ofInt (up_ s0.1 a ix x a j)) = upd (fun j : Nat => Int32.ofInt (s0.1 a j)) ix.toNat (Int32.ofInt x) := by
    funext j
    unfold upd
    by_cases hj : j = ix.toNat
    · rw [if_pos hj, hj, Int.toNat_of_nonneg hi0, up_sM]
    · rw [if_neg hj, up_p (show (j : Int) ≠ ix by omega)]
  have fJ : (fun j : Nat => Int64.ofInt (up_ s0.1 a ix x a j)) = vp_updL (fun j : Nat => Int64.ofInt (s0.1 a j)) ix.toNat (Int64.ofInt x) := by
    funext j
    unfold vp_updL
    by_cases hj : j = ix.toNat
    · rw [if_pos hj, hj, Int.toNat_of_nonneg hi0, up_sM]
    · rw [if_neg hj, up_p (show (j : Int) ≠ ix by omega)]
  rcases hk with ⟨rfl, rfl, rfl⟩ | ⟨rfl, rfl, rfl⟩ | ⟨rfl, rfl, rfl, hx1, hx2⟩ | ⟨rfl, rfl, rfl, hx1, hx2⟩
  · refine St.write (a := a) (ev := .inl (I.1, ((lD_ s0.2.2.1 a).toNat, .inl (upd (fun j : Nat => Int32.ofInt (s0.1 a j)) ix.toNat (Int32.ofInt x))))) rfl rfl rfl (fun _ => rfl) rfl h1 h2 h99 ?_ oth ?_
    · rw [en_20 (s0 := (up_ s0.1 a ix x, s0.2)) h3]; show Sum.inl _ = Sum.inl _; rw [← fI]
    · intro H locs cells slots ls kx hR hP hS hkx kk
      have hin := hinR H hR
      change W p l e R s m args below meth c H locs cells slots Z (F0 m pc ls (.int (Int32.ofInt x) :: .int (Int32.ofInt ix) :: cvR z t u a :: st.map (cv z t u)))
      change (wl z t u I s0)[kx]? = _ at hkx
      rw [en_20 h3] at hkx
      rw [cvR_p h1]
      exact va_iast C.1 C.2.1 C.2.2.2.2.2.2.2.2.1.1 hP wl_D hS kx 0 hkx rfl hin.1 hd (fun H1 locs1 g1 g2 g3 => kk H1 locs1 (by rw [hin.2] at g1; exact g1) (by rw [hin.2] at g2; exact g2) g3)
  · refine St.write (a := a) (ev := .inl (I.2.1, ((lD_ s0.2.2.1 a).toNat, .inr (.inl (vp_updL (fun j : Nat => Int64.ofInt (s0.1 a j)) ix.toNat (Int64.ofInt x)))))) rfl rfl rfl (fun _ => rfl) rfl h1 h2 h99 ?_ oth ?_
    · rw [en_21 (s0 := (up_ s0.1 a ix x, s0.2)) h3]; show Sum.inl _ = Sum.inl _; rw [← fJ]
    · intro H locs cells slots ls kx hR hP hS hkx kk
      have hin := hinR H hR
      change W p l e R s m args below meth c H locs cells slots Z (F0 m pc ls (.long (Int64.ofInt x) :: .int (Int32.ofInt ix) :: cvR z t u a :: st.map (cv z t u)))
      change (wl z t u I s0)[kx]? = _ at hkx
      rw [en_21 h3] at hkx
      rw [cvR_p h1]
      exact va_last C.1 C.2.1 C.2.2.2.2.2.2.2.2.1.1 hP wl_D hS kx 1 hkx rfl hin.1 hd (fun H1 locs1 g1 g2 g3 => kk H1 locs1 (by rw [hin.2] at g1; exact g1) (by rw [hin.2] at g2; exact g2) g3)
  · have hn : vp_nar .byte (Int32.ofInt x) = Int32.ofInt x := by
      rw [vp_nar_byte, ← Int32.toInt_inj]
      have hx : inI x := ⟨by omega, by omega⟩
      rw [Int8.toInt_toInt32, Int32.toInt_toInt8, i_in hx]
      exact Int.bmod_eq_of_le (by omega) (by omega)
    refine St.write (a := a) (ev := .inl (I.2.2.1, ((lD_ s0.2.2.1 a).toNat, .inl (upd (fun j : Nat => Int32.ofInt (s0.1 a j)) ix.toNat (vp_nar .byte (Int32.ofInt x)))))) rfl rfl rfl (fun _ => rfl) rfl h1 h2 h99 ?_ oth ?_
    · rw [en_22 (s0 := (up_ s0.1 a ix x, s0.2)) h3]; show Sum.inl _ = Sum.inl _; rw [hn, ← fI]
    · intro H locs cells slots ls kx hR hP hS hkx kk
      have hin := hinR H hR
      change W p l e R s m args below meth c H locs cells slots Z (F0 m pc ls (.int (Int32.ofInt x) :: .int (Int32.ofInt ix) :: cvR z t u a :: st.map (cv z t u)))
      change (wl z t u I s0)[kx]? = _ at hkx
      rw [en_22 h3] at hkx
      rw [cvR_p h1]
      exact va_bast C.1 C.2.1 C.2.2.2.2.2.2.2.2.1.1 hP wl_D hS kx 2 hkx rfl hin.1 hd (fun H1 locs1 g1 g2 g3 => kk H1 locs1 (by rw [hin.2] at g1; exact g1) (by rw [hin.2] at g2; exact g2) g3)
  · have hn : vp_nar .boolean (Int32.ofInt x) = Int32.ofInt x := by
      have : x = 0 ∨ x = 1 := by omega
      rcases this with rfl | rfl <;> rfl
    refine St.write (a := a) (ev := .inl (I.2.2.2, ((lD_ s0.2.2.1 a).toNat, .inl (upd (fun j : Nat => Int32.ofInt (s0.1 a j)) ix.toNat (vp_nar .boolean (Int32.ofInt x)))))) rfl rfl rfl (fun _ => rfl) rfl h1 h2 h99 ?_ oth ?_
    · rw [en_23 (s0 := (up_ s0.1 a ix x, s0.2)) h3]; show Sum.inl _ = Sum.inl _; rw [hn, ← fI]
    · intro H locs cells slots ls kx hR hP hS hkx kk
      have hin := hinR H hR
      change W p l e R s m args below meth c H locs cells slots Z (F0 m pc ls (.int (Int32.ofInt x) :: .int (Int32.ofInt ix) :: cvR z t u a :: st.map (cv z t u)))
      change (wl z t u I s0)[kx]? = _ at hkx
      rw [en_23 h3] at hkx
      rw [cvR_p h1]
      exact va_zast C.1 C.2.1 C.2.2.2.2.2.2.2.2.1.1 hP wl_D hS kx 3 hkx rfl hin.1 hd (fun H1 locs1 g1 g2 g3 => kk H1 locs1 (by rw [hin.2] at g1; exact g1) (by rw [hin.2] at g2; exact g2) g3)
set_option maxRecDepth 20000 in
theorem ok_ast {i : Instr} (C : Cx z t u D I p R s m args meth c mi) (hF : bld_ (bnd_ mi) s0) (hd : decode (bts_ mi) pc = .ok (i, 1)) (hk : ∀ mo kd lit vc nm, r = [mo, kd, lit, vc, nm] → (kd = 20 ∧ i = .iastore ∧ vc = 0) ∨ (kd = 21 ∧ i = .lastore ∧ vc = 0) ∨ (kd = 22 ∧ i = .bastore ∧ (vc = 1 ∨ vc = 2)) ∨ (kd = 23 ∧ i = .bastore ∧ (vc = 1 ∨ vc = 2))) :
    OK (St z t u D I (WFr p l e R s m args below meth c Z) s R m mi n0 (pc, L, st, s0)) RT CL BR SW (aSt (bnd_ mi) (i, 1, r) (pc, L, st, s0)) := by
  rcases st with _ | ⟨v, _ | ⟨ix | ix | ix, _ | ⟨a | a | a, st⟩⟩⟩ <;> try exact True.intro
  rcases r with _ | ⟨mo, _ | ⟨kd, _ | ⟨lit, _ | ⟨vc, _ | ⟨nm, _ | ⟨_, _⟩⟩⟩⟩⟩⟩ <;> try exact True.intro
  have hk := hk mo kd lit vc nm rfl
  have hB := bnd_le mi
  have ll : okO (bnd_ mi) kd a = true → lD_ s0.2.2.1 a = ln_ a := fun hb => lD_small (by have := (okO_of hb).2.1; omega)
  obtain ⟨x, hx, hxv⟩ : ∃ x : Int, (match (generalizing := false) v with | .inl x => x | .inr (.inl x) => x | .inr (.inr x) => x) = x ∧ (v = vI x ∨ v = vL x ∨ v = vR x) := by
    rcases v with x | x | x
    · exact ⟨x, rfl, Or.inl rfl⟩
    · exact ⟨x, rfl, Or.inr (Or.inl rfl)⟩
    · exact ⟨x, rfl, Or.inr (Or.inr rfl)⟩
  -- the writing, its guard given
  have wr : ∀ g : Option Prop, (gP g → (kd = 20 ∧ i = .iastore ∧ v = vI x) ∨ (kd = 21 ∧ i = .lastore ∧ v = vL x) ∨ (kd = 22 ∧ i = .bastore ∧ v = vI x ∧ -128 ≤ x ∧ x ≤ 127) ∨ (kd = 23 ∧ i = .bastore ∧ v = vI x ∧ 0 ≤ x ∧ x ≤ 1)) → (gP g → 0 ≤ a ∧ a < szS s0 ∧ kD_ s0.2.2.1 a = kd ∧ 0 ≤ ix ∧ ix < lD_ s0.2.2.1 a) →
      OK (St z t u D I (WFr p l e R s m args below meth c Z) s R m mi n0 (pc, L, v :: .inl ix :: .inr (.inr a) :: st, s0)) RT CL BR SW (bif decide (nm = 1) then rM g (up_ s0.1 a ix x) (fun M => memTo (i, 1, [mo, kd, lit, vc, nm]) (pc, L, v :: .inl ix :: .inr (.inr a) :: st, s0) st (M, s0.2)) else rN g (memTo (i, 1, [mo, kd, lit, vc, nm]) (pc, L, v :: .inl ix :: .inr (.inr a) :: st, s0) st (up_ s0.1 a ix x, s0.2))) := by
    intro g h1 h2
    have key : gP g → St z t u D I (WFr p l e R s m args below meth c Z) s R m mi n0 (pc, L, v :: .inl ix :: .inr (.inr a) :: st, s0) (pc + 1, L, st, (up_ s0.1 a ix x, s0.2)) := fun hg => st_ast C (h2 hg).1 (h2 hg).2.1 (h2 hg).2.2.1 (h2 hg).2.2.2.1 (h2 hg).2.2.2.2 (h1 hg) hd rfl
    cases decide (nm = 1) with
    | true => exact key
    | false => exact key
  -- the guard of the value
  have vg : (bif (match (generalizing := false) v with | .inl _ => decide (kd = 20) || decide (kd = 22) || decide (kd = 23) | .inr (.inl _) => decide (kd = 21) | .inr (.inr _) => false) then True else False) → ∀ g : Option Prop, (gP g → 0 ≤ a ∧ a < szS s0 ∧ kD_ s0.2.2.1 a = kd ∧ 0 ≤ ix ∧ ix < lD_ s0.2.2.1 a) →
      OK (St z t u D I (WFr p l e R s m args below meth c Z) s R m mi n0 (pc, L, v :: .inl ix :: .inr (.inr a) :: st, s0)) RT CL BR SW ((fun (f : Option Prop → aR) (g : Option Prop) =>
        if vc = 0 then bif decide (kd = 20) || decide (kd = 21) then f g else rX
        else if vc = 1 then bif decide ((if kd = 22 then -128 else 0) ≤ x) && decide (x ≤ (if kd = 22 then 127 else 1)) then f g else rX
        else match g with
          | none => f (some ((if kd = 22 then -128 else 0) ≤ x ∧ x ≤ (if kd = 22 then 127 else 1)))
          | some p => f (some (p ∧ (if kd = 22 then -128 else 0) ≤ x ∧ x ≤ (if kd = 22 then 127 else 1)))) (fun g => bif decide (nm = 1) then rM g (up_ s0.1 a ix x) (fun M => memTo (i, 1, [mo, kd, lit, vc, nm]) (pc, L, v :: .inl ix :: .inr (.inr a) :: st, s0) st (M, s0.2)) else rN g (memTo (i, 1, [mo, kd, lit, vc, nm]) (pc, L, v :: .inl ix :: .inr (.inr a) :: st, s0) st (up_ s0.1 a ix x, s0.2))) g) := by
    intro hok g h2
    dsimp only
    have kinds : (kd = 20 ∧ i = .iastore ∧ v = vI x) ∨ (kd = 21 ∧ i = .lastore ∧ v = vL x) ∨ (kd = 22 ∧ i = .bastore ∧ v = vI x) ∨ (kd = 23 ∧ i = .bastore ∧ v = vI x) := by
      rcases hxv with rfl | rfl | rfl
      · simp only [Bool.or_eq_true, decide_eq_true_eq, cond_eq_ite, if_true_left, if_false_right, and_true] at hok
        rcases hk with ⟨q1, q2, q3⟩ | ⟨q1, q2, q3⟩ | ⟨q1, q2, q3⟩ | ⟨q1, q2, q3⟩
        · exact Or.inl ⟨q1, q2, rfl⟩
        · exfalso; omega
        · exact Or.inr (Or.inr (Or.inl ⟨q1, q2, rfl⟩))
        · exact Or.inr (Or.inr (Or.inr ⟨q1, q2, rfl⟩))
      · simp only [decide_eq_true_eq, cond_eq_ite, if_false_right, and_true] at hok
        rcases hk with ⟨q1, q2, q3⟩ | ⟨q1, q2, q3⟩ | ⟨q1, q2, q3⟩ | ⟨q1, q2, q3⟩
        · exfalso; omega
        · exact Or.inr (Or.inl ⟨q1, q2, rfl⟩)
        · exfalso; omega
        · exfalso; omega
      · exact hok.elim
    have full : ((if kd = 22 then -128 else 0) ≤ x ∧ x ≤ (if kd = 22 then 127 else 1)) ∨ kd = 20 ∨ kd = 21 → (kd = 20 ∧ i = .iastore ∧ v = vI x) ∨ (kd = 21 ∧ i = .lastore ∧ v = vL x) ∨ (kd = 22 ∧ i = .bastore ∧ v = vI x ∧ -128 ≤ x ∧ x ≤ 127) ∨ (kd = 23 ∧ i = .bastore ∧ v = vI x ∧ 0 ≤ x ∧ x ≤ 1) := by
      intro hb
      rcases kinds with ⟨q1, q2, q3⟩ | ⟨q1, q2, q3⟩ | ⟨q1, q2, q3⟩ | ⟨q1, q2, q3⟩
      · exact Or.inl ⟨q1, q2, q3⟩
      · exact Or.inr (Or.inl ⟨q1, q2, q3⟩)
      · rcases hb with hb | hb | hb
        · rw [if_pos q1, if_pos q1] at hb; exact Or.inr (Or.inr (Or.inl ⟨q1, q2, q3, hb⟩))
        · exfalso; omega
        · exfalso; omega
      · rcases hb with hb | hb | hb
        · rw [if_neg (by omega), if_neg (by omega)] at hb; exact Or.inr (Or.inr (Or.inr ⟨q1, q2, q3, hb⟩))
        · exfalso; omega
        · exfalso; omega
    split
    · cases hb : (decide (kd = 20) || decide (kd = 21)) with
      | false => exact True.intro
      | true =>
        simp only [Bool.or_eq_true, decide_eq_true_eq] at hb
        exact wr g (fun _ => full (Or.inr hb)) h2
    · split
      · cases hb : (decide ((if kd = 22 then -128 else 0) ≤ x) && decide (x ≤ (if kd = 22 then 127 else 1))) with
        | false => exact True.intro
        | true =>
          simp only [Bool.and_eq_true, decide_eq_true_eq] at hb
          exact wr g (fun _ => full (Or.inl hb)) h2
      · cases g with
        | none => exact wr (some _) (fun q => full (Or.inl q)) (fun _ => h2 trivial)
        | some pp => exact wr (some _) (fun q => full (Or.inl q.2)) (fun q => h2 q.1)
  show OK _ _ _ _ _ (bif (match (generalizing := false) v with | .inl _ => decide (kd = 20) || decide (kd = 22) || decide (kd = 23) | .inr (.inl _) => decide (kd = 21) | .inr (.inr _) => false) then _ else rX)
  cases hok : (match (generalizing := false) v with | .inl _ => decide (kd = 20) || decide (kd = 22) || decide (kd = 23) | .inr (.inl _) => decide (kd = 21) | .inr (.inr _) => false) with
  | false => exact True.intro
  | true =>
    have vg := vg (by rw [hok]; trivial)
    subst hx
    show OK _ _ _ _ _ (if mo = 0 then (bif decide (lit = 1) then (bif okO (bnd_ mi) kd a && (decide (0 ≤ ix) && decide (ix < ln_ a)) then _ else rX) else (bif okO (bnd_ mi) kd a then _ else rX)) else if mo = 1 then _ else if mo = 2 then _ else rX)
    split
    · cases decide (lit = 1) with
      | true =>
        cases hb : okO (bnd_ mi) kd a && (decide (0 ≤ ix) && decide (ix < ln_ a)) with
        | false => exact True.intro
        | true =>
          simp only [Bool.and_eq_true, decide_eq_true_eq] at hb
          have hl := okO_live hB hF hb.1
          exact vg none (fun _ => ⟨hl.1, hl.2.1, hl.2.2, hb.2.1, by rw [ll hb.1]; exact hb.2.2⟩)
      | false =>
        cases hb : okO (bnd_ mi) kd a with
        | false => exact True.intro
        | true =>
          have hl := okO_live hB hF hb
          exact vg (some (0 ≤ ix ∧ ix < ln_ a)) (fun g => ⟨hl.1, hl.2.1, hl.2.2, g.1, by rw [ll hb]; exact g.2⟩)
    · split
      · exact vg (some (okO (bnd_ mi) kd a = true ∧ 0 ≤ ix ∧ ix < ln_ a)) (fun g => ⟨(okO_live hB hF g.1).1, (okO_live hB hF g.1).2.1, (okO_live hB hF g.1).2.2, g.2.1, by rw [ll g.1]; exact g.2.2⟩)
      · split
        · exact vg (some (okD s0 kd a = true ∧ 0 ≤ ix ∧ ix < lD_ s0.2.2.1 a)) (fun g => ⟨(okD_of g.1).1, (okD_of g.1).2.1, (okD_of g.1).2.2, g.2.1, g.2.2⟩)
        · exact True.intro
set_option maxRecDepth 20000 in
theorem st_alen {kd a : Int} {n : Nat} (C : Cx z t u D I p R s m args meth c mi) (h1 : 0 ≤ a) (h2 : a < szS s0) (h3 : kD_ s0.2.2.1 a = kd) (hk0 : 20 ≤ kd) (hk1 : kd ≤ 23) (hd : decode (bts_ mi) pc = .ok (.arraylength, 1)) (hn : n = 1) (hge : 0 ≤ lD_ s0.2.2.1 a) :
    St z t u D I (WFr p l e R s m args below meth c Z) s R m mi n0 (pc, L, .inr (.inr a) :: st, s0) (popTo (.arraylength, n, r) (pc, L, .inr (.inr a) :: st, s0) (vI (lD_ s0.2.2.1 a) :: st)) := by
  subst hn
  refine St.read rfl rfl (fun H locs cells slots ls hR hS hl kk => ?_)
  change W p l e R s m args below meth c H locs cells slots Z (F0 m (pc + 1) ls (.int (Int32.ofInt (lD_ s0.2.2.1 a)) :: st.map (cv z t u))) at kk
  change W p l e R s m args below meth c H locs cells slots Z (F0 m pc ls (cvR z t u a :: st.map (cv z t u)))
  have hP := hR.cell h1 h2 (by rw [h3]; omega)
  have hv : Int32.ofNat (lD_ s0.2.2.1 a).toNat = Int32.ofInt (lD_ s0.2.2.1 a) := by
    rw [← Int32.ofInt_eq_ofNat, Int.toNat_of_nonneg hge]
  rw [cvR_p h1]
  have hk : kd = 20 ∨ kd = 21 ∨ kd = 22 ∨ kd = 23 := by omega
  rcases hk with rfl | rfl | rfl | rfl
  · rw [en_20 h3] at hP
    exact va_alen C.1 C.2.1 C.2.2.2.2.2.2.2.2.1.1 hP 0 0 rfl (ty := .int) rfl hv hd kk
  · rw [en_21 h3] at hP
    exact va_alen C.1 C.2.1 C.2.2.2.2.2.2.2.2.1.1 hP 0 1 rfl (ty := .long) rfl hv hd kk
  · rw [en_22 h3] at hP
    exact va_alen C.1 C.2.1 C.2.2.2.2.2.2.2.2.1.1 hP 0 2 rfl (ty := .byte) rfl hv hd kk
  · rw [en_23 h3] at hP
    exact va_alen C.1 C.2.1 C.2.2.2.2.2.2.2.2.1.1 hP 0 3 rfl (ty := .boolean) rfl hv hd kk
end SIME
