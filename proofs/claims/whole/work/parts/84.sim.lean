section SIMI
variable {z t u : Nat} {D : va_G} {I : aI} {p : Program} {l : Launch} {e : Env} {R : Room} {s : State} {m : MethodId} {args : Array Value} {below : List Frame} {meth : Method} {c : Code} {Z : State → Prop} {mi : Nat} {n0 : Int}
variable {RT : Option aV → Prop} {CL : Nat → List aV → Nat → List aV → Prop} {BR : Prop → aT → aT → Prop} {SW : Int → List (Int × aT) → aT → Prop} {ST : aT → Prop}
variable {B : Int} {pc : Nat} {L : List aL} {st : List aV} {s0 : aS} {r : List Int}
set_option maxRecDepth 20000 in
theorem ok_arraylength (C : Cx z t u D I p R s m args meth c mi) (hF : bld_ (bnd_ mi) s0) (hd : decode (bts_ mi) pc = .ok (.arraylength, 1)) (hr : ckR mi pc (.arraylength, 1, r) = true) : OK (St z t u D I (WFr p l e R s m args below meth c Z) s R m mi n0 (pc, L, st, s0)) RT CL BR SW (act (bnd_ mi) (.arraylength, 1, r) (pc, L, st, s0)) := by
  rcases st with _ | ⟨a | a | a, st⟩ <;> try exact True.intro
  rcases r with _ | ⟨mo, _ | ⟨kd, _ | ⟨_, _⟩⟩⟩ <;> try exact True.intro
  simp only [ckR, Bool.and_eq_true, decide_eq_true_eq] at hr
  have hB := bnd_le mi
  have ll : okO (bnd_ mi) kd a = true → lD_ s0.2.2.1 a = ln_ a := fun hb => lD_small (by have := (okO_of hb).2.1; omega)
  have key : okO (bnd_ mi) kd a = true → St z t u D I (WFr p l e R s m args below meth c Z) s R m mi n0 (pc, L, .inr (.inr a) :: st, s0) (popTo (.arraylength, 1, [mo, kd]) (pc, L, .inr (.inr a) :: st, s0) (vI (ln_ a) :: st)) := by
    intro hb
    have hl := okO_live hB hF hb
    rw [← ll hb]
    exact st_alen C hl.1 hl.2.1 hl.2.2 hr.1 hr.2 hd rfl (by rw [ll hb]; exact (ln_in a).1)
  show OK _ _ _ _ _ (if mo = 0 then bif okO (bnd_ mi) kd a then rN none _ else rX else if mo = 1 then rN (some (okO (bnd_ mi) kd a = true)) _ else if mo = 2 then rN (some (okD s0 kd a = true)) _ else rX)
  split
  · cases hb : okO (bnd_ mi) kd a with
    | false => exact True.intro
    | true => exact fun _ => key hb
  · split
    · exact fun hb => key hb
    · split
      · intro hb
        have hl := okD_of hb
        refine st_alen C hl.1 hl.2.1 hl.2.2 hr.1 hr.2 hd rfl ?_
        have h3 := hl.2.2
        unfold kD_ at h3
        unfold lD_
        cases hq : decide (a < nid_) with
        | true => exact (ln_in a).1
        | false =>
          rw [hq] at h3
          show 0 ≤ s0.2.2.1 a
          cases hq2 : decide (s0.2.2.1 a < 0) with
          | true => rw [hq2] at h3; exfalso; have : (99 : Int) = kd := h3; omega
          | false => have := of_decide_eq_false hq2; omega
      · exact True.intro
set_option maxRecDepth 20000 in
/-- a new cell -/
theorem St.made {S T : aT} {ev : va_E} {dn : Nat} (h0 : 0 ≤ szS S.2.2.2) (hz : szS T.2.2.2 = szS S.2.2.2 + 1) (hns : nsS T.2.2.2 = nsS S.2.2.2 + dn) (hcl : cl_ mi = false → T.2.2.2.2.1 = S.2.2.2.2.1) (hL : T.2.1 = S.2.1) (hdl : ∀ H, Rel z t u D I S.2.2.2 H → ∀ a, T.2.2.2.2.2.1 a ≤ 100000000)
    (hkd : ∀ b : Int, b < szS S.2.2.2 → kD_ T.2.2.2.2.2.1 b = kD_ S.2.2.2.2.2.1 b) (he : en z t u I T.2.2.2 (szS S.2.2.2) = ev) (ho : ∀ b : Int, 0 ≤ b → b < szS S.2.2.2 → en z t u I T.2.2.2 b = en z t u I S.2.2.2 b)
    (h : ∀ (H : Heap) (locs : List Loc) (cells slots : Nat) (ls : Array Slot), H.size = z + (szS S.2.2.2).toNat → cells + 1 ≤ R.cells → slots + dn ≤ R.slots → (∀ a : Nat, (a : Int) < szS S.2.2.2 → kD_ S.2.2.2.2.2.1 a ≠ 99 → va_at D vwCl (z + a, en z t u I S.2.2.2 a) H) →
      (∀ (H1 : Heap), va_at D vwCl (z + (szS S.2.2.2).toNat, ev) H1 → H1.size = H.size + 1 → (∀ q, q < H.size → H1[q]? = H[q]?) → W p l e R s m args below meth c H1 locs (cells + 1) (slots + dn) Z (F0 m T.1 ls (T.2.2.1.map (cv z t u)))) →
      W p l e R s m args below meth c H locs cells slots Z (F0 m S.1 ls (S.2.2.1.map (cv z t u)))) : St z t u D I (WFr p l e R s m args below meth c Z) s R m mi n0 S T := by
  refine ⟨by omega, by omega, hcl, fun hb1 hb2 kk H locs cells slots ls hR hS e1 e2 hl => ?_⟩
  refine h H locs cells slots ls hR.2.1 (by omega) (by omega) hR.2.2.1 (fun H1 g1 g2 g3 => ?_)
  have hsz := hR.2.1
  refine kk H1 locs (cells + 1) (slots + dn) ls ⟨by omega, by rw [g2, hsz, hz]; omega, fun a ha1 ha2 => ?_, hdl H hR⟩ ⟨by have := hS.1; omega, fun q q1 q2 => (g3 q (Nat.lt_of_lt_of_le q1 hS.1)).trans (hS.2.1 q q1 q2), hS.2.2⟩ (by rw [hz]; omega) (by rw [hns]; omega) (by rw [hL]; exact hl)
  by_cases hq : (a : Int) < szS S.2.2.2
  · rw [ho a (by omega) hq]
    rw [hkd a hq] at ha2
    have h1 := hR.2.2.1 a hq ha2
    exact h1.kept (g3 _ h1.lt)
  · have hq2 : (a : Int) = szS S.2.2.2 := by omega
    rw [hq2, he]
    have : a = (szS S.2.2.2).toNat := by omega
    rw [this]
    exact g1
set_option maxRecDepth 20000 in
theorem kD_up {dl : Int → Int} {a n b : Int} (h : b ≠ a) : kD_ (up1 dl a n) b = kD_ dl b := by unfold kD_ up1; rw [if_neg h]
set_option maxRecDepth 20000 in
theorem lD_up {dl : Int → Int} {a n b : Int} (h : b ≠ a) : lD_ (up1 dl a n) b = lD_ dl b := by unfold lD_ up1; rw [if_neg h]
set_option maxRecDepth 20000 in
theorem ok_newarray {ty : ArrayType} (C : Cx z t u D I p R s m args meth c mi) (hd : decode (bts_ mi) pc = .ok (.newarray ty, 2)) (hr : ckR mi pc (.newarray ty, 2, r) = true) : OK (St z t u D I (WFr p l e R s m args below meth c Z) s R m mi n0 (pc, L, st, s0)) RT CL BR SW (act B (.newarray ty, 2, r) (pc, L, st, s0)) := by
  rcases st with _ | ⟨n | n | n, st⟩ <;> try exact True.intro
  rcases r with _ | ⟨mo, _ | ⟨kd, _ | ⟨_, _⟩⟩⟩ <;> try exact True.intro
  simp only [ckR, Bool.and_eq_true, Bool.or_eq_true, decide_eq_true_eq] at hr
  have hA : z ≤ s.heap.size := C.2.2.2.2.2.2.2.2.2.1
  -- the making of a row of n, its kind told
  have key : ∀ (dl : Int → Int), 0 ≤ szS s0 → 0 ≤ n → n ≤ 100000000 → (kd = 21 → n ≤ 1000000) → kD_ dl (szS s0) = kd → lD_ dl (szS s0) = n → (∀ b, b < szS s0 → kD_ dl b = kD_ s0.2.2.1 b ∧ lD_ dl b = lD_ s0.2.2.1 b) → (∀ H, Rel z t u D I s0 H → ∀ a, dl a ≤ 100000000) →
      St z t u D I (WFr p l e R s m args below meth c Z) s R m mi n0 (pc, L, .inl n :: st, s0) (pc + 2, L, vR (szS s0) :: st, (ce_ s0.1 (szS s0) (fun _ => 0), s0.2.1, dl, szS s0 + 1, nsS s0 + n)) := by
    intro dl h0 hn0 hn1 hn2 hk hl hlow hdl
    have hce : ∀ b j, b ≠ szS s0 → ce_ s0.1 (szS s0) (fun _ => 0) b j = s0.1 b j := fun b j hb => by unfold ce_; rw [if_neg hb]
    have hces : ∀ j, ce_ s0.1 (szS s0) (fun _ => 0) (szS s0) j = 0 := fun j => by unfold ce_; rw [if_pos rfl]
    have hnI : inI n := ⟨by omega, by omega⟩
    have hnn : ¬ Int32.ofInt n < 0 := by rw [show (0 : Int32) = Int32.ofInt 0 from rfl, i_lt hnI i_0]; omega
    have hnc : (Int32.ofInt n).toNatClampNeg = n.toNat := by show (Int32.ofInt n).toInt.toNat = _; rw [i_in hnI]
    have oth : ∀ b : Int, 0 ≤ b → b < szS s0 → en z t u I (ce_ s0.1 (szS s0) (fun _ => 0), s0.2.1, dl, szS s0 + 1, nsS s0 + n) b = en z t u I s0 b := by
      intro b _ hb
      unfold en oe
      simp only [(hlow b hb).1, (hlow b hb).2, hce b _ (show b ≠ szS s0 by omega)]
    have tysK := C.2.2.2.2.2.2.2.2.1.1.2
    rcases hr with ((⟨⟨rfl, rfl⟩, hw⟩ | ⟨⟨rfl, rfl⟩, hw⟩) | ⟨⟨rfl, rfl⟩, hw⟩) | ⟨⟨rfl, rfl⟩, hw⟩
    · refine St.made (ev := .inl (I.1, (n.toNat, .inl (fun _ => 0)))) (dn := n.toNat) h0 rfl (by show nsS s0 + n = nsS s0 + (n.toNat : Int); omega) (fun _ => rfl) rfl hdl (fun b hb => (hlow b hb).1) ?_ oth ?_
      · show en z t u I (ce_ s0.1 (szS s0) (fun _ => 0), s0.2.1, dl, szS s0 + 1, nsS s0 + n) (szS s0) = _
        rw [en_20 hk]; dsimp only; rw [hl]; simp only [hces]; rfl
      · intro H locs cells slots ls hz q1 q2 _ kk
        change W p l e R s m args below meth c H locs cells slots Z (F0 m pc ls (.int (Int32.ofInt n) :: st.map (cv z t u)))
        refine va_newaK C.1 C.2.1 (atype := .int) (C.2.2.2.2.1 _ (hw_ok hw)) rfl hd rfl hnn hnc (by show n.toNat * 4 ≤ _; omega) q1 q2 hz (fun H' cA g1 g2 g3 g4 g5 => ?_)
        have hcA : cA = I.1 := by
          have h5 := (tysK 0 _ rfl).2
          exact Option.some.inj (g5.symm.trans h5)
        subst hcA
        have := kk H' (by exact g1) (by rw [g2, hz]) (by rw [hz]; exact g3)
        show W p l e R s m args below meth c H' locs (cells + 1) (slots + n.toNat) Z (F0 m (pc + 2) ls (.ref (z + (szS s0).toNat) :: st.map (cv z t u)))
        change W p l e R s m args below meth c H' locs (cells + 1) (slots + n.toNat) Z (F0 m (pc + 2) ls (cvR z t u (szS s0) :: st.map (cv z t u))) at this
        rw [cvR_p h0] at this
        exact this
    · refine St.made (ev := .inl (I.2.1, (n.toNat, .inr (.inl (fun _ => 0))))) (dn := n.toNat) h0 rfl (by show nsS s0 + n = nsS s0 + (n.toNat : Int); omega) (fun _ => rfl) rfl hdl (fun b hb => (hlow b hb).1) ?_ oth ?_
      · show en z t u I (ce_ s0.1 (szS s0) (fun _ => 0), s0.2.1, dl, szS s0 + 1, nsS s0 + n) (szS s0) = _
        rw [en_21 hk]; dsimp only; rw [hl]; simp only [hces]; rfl
      · intro H locs cells slots ls hz q1 q2 _ kk
        change W p l e R s m args below meth c H locs cells slots Z (F0 m pc ls (.int (Int32.ofInt n) :: st.map (cv z t u)))
        refine va_newaK C.1 C.2.1 (atype := .long) (C.2.2.2.2.1 _ (hw_ok hw)) rfl hd rfl hnn hnc (by have := hn2 rfl; show n.toNat * 8 ≤ _; omega) q1 q2 hz (fun H' cA g1 g2 g3 g4 g5 => ?_)
        have hcA : cA = I.2.1 := by
          have h5 := (tysK 1 _ rfl).2
          exact Option.some.inj (g5.symm.trans h5)
        subst hcA
        have := kk H' (by exact g1) (by rw [g2, hz]) (by rw [hz]; exact g3)
        change W p l e R s m args below meth c H' locs (cells + 1) (slots + n.toNat) Z (F0 m (pc + 2) ls (cvR z t u (szS s0) :: st.map (cv z t u))) at this
        rw [cvR_p h0] at this
        exact this
    · refine St.made (ev := .inl (I.2.2.1, (n.toNat, .inl (fun _ => 0)))) (dn := n.toNat) h0 rfl (by show nsS s0 + n = nsS s0 + (n.toNat : Int); omega) (fun _ => rfl) rfl hdl (fun b hb => (hlow b hb).1) ?_ oth ?_
      · show en z t u I (ce_ s0.1 (szS s0) (fun _ => 0), s0.2.1, dl, szS s0 + 1, nsS s0 + n) (szS s0) = _
        rw [en_22 hk]; dsimp only; rw [hl]; simp only [hces]; rfl
      · intro H locs cells slots ls hz q1 q2 _ kk
        change W p l e R s m args below meth c H locs cells slots Z (F0 m pc ls (.int (Int32.ofInt n) :: st.map (cv z t u)))
        refine va_newaK C.1 C.2.1 (atype := .byte) (C.2.2.2.2.1 _ (hw_ok hw)) rfl hd rfl hnn hnc (by show n.toNat * 1 ≤ _; omega) q1 q2 hz (fun H' cA g1 g2 g3 g4 g5 => ?_)
        have hcA : cA = I.2.2.1 := by
          have h5 := (tysK 2 _ rfl).2
          exact Option.some.inj (g5.symm.trans h5)
        subst hcA
        have := kk H' (by exact g1) (by rw [g2, hz]) (by rw [hz]; exact g3)
        change W p l e R s m args below meth c H' locs (cells + 1) (slots + n.toNat) Z (F0 m (pc + 2) ls (cvR z t u (szS s0) :: st.map (cv z t u))) at this
        rw [cvR_p h0] at this
        exact this
    · refine St.made (ev := .inl (I.2.2.2, (n.toNat, .inl (fun _ => 0)))) (dn := n.toNat) h0 rfl (by show nsS s0 + n = nsS s0 + (n.toNat : Int); omega) (fun _ => rfl) rfl hdl (fun b hb => (hlow b hb).1) ?_ oth ?_
      · show en z t u I (ce_ s0.1 (szS s0) (fun _ => 0), s0.2.1, dl, szS s0 + 1, nsS s0 + n) (szS s0) = _
        rw [en_23 hk]; dsimp only; rw [hl]; simp only [hces]; rfl
      · intro H locs cells slots ls hz q1 q2 _ kk
        change W p l e R s m args below meth c H locs cells slots Z (F0 m pc ls (.int (Int32.ofInt n) :: st.map (cv z t u)))
        refine va_newaK C.1 C.2.1 (atype := .boolean) (C.2.2.2.2.1 _ (hw_ok hw)) rfl hd rfl hnn hnc (by show n.toNat * 1 ≤ _; omega) q1 q2 hz (fun H' cA g1 g2 g3 g4 g5 => ?_)
        have hcA : cA = I.2.2.2 := by
          have h5 := (tysK 3 _ rfl).2
          exact Option.some.inj (g5.symm.trans h5)
        subst hcA
        have := kk H' (by exact g1) (by rw [g2, hz]) (by rw [hz]; exact g3)
        change W p l e R s m args below meth c H' locs (cells + 1) (slots + n.toNat) Z (F0 m (pc + 2) ls (cvR z t u (szS s0) :: st.map (cv z t u))) at this
        rw [cvR_p h0] at this
        exact this
  show OK _ _ _ _ _ (if mo = 0 then rN (some (0 ≤ szS s0 ∧ szS s0 < nid_ ∧ knd (szS s0) = kd ∧ ln_ (szS s0) = n)) _ else if mo = 1 then bif decide (kd = 20) then rN (some (nid_ ≤ szS s0 ∧ 0 ≤ n ∧ n ≤ 100000000)) _ else rX else rX)
  split
  · rintro ⟨g1, g2, g3, g4⟩
    have := ln_in (szS s0)
    exact key s0.2.2.1 g1 (by omega) (by omega) (fun _ => by omega) (by rw [kD_small g2]; exact g3) (by rw [lD_small g2]; exact g4) (fun b _ => ⟨rfl, rfl⟩) (fun H hR => hR.2.2.2)
  · split
    · by_cases hk : kd = 20
      · rw [decide_eq_true hk]
        rintro ⟨g1, g2, g3⟩
        have g1' : ¬ szS s0 < nid_ := by omega
        refine key (up1 s0.2.2.1 (szS s0) n) (by have : (126 : Int) ≤ szS s0 := g1; omega) g2 g3 (fun q => by omega) ?_ ?_ (fun b hb => ⟨kD_up (by omega), lD_up (by omega)⟩) (fun H hR a => ?_)
        · unfold kD_ up1
          rw [decide_eq_false g1', if_pos rfl, decide_eq_false (by omega : ¬ n < 0), hk]
          rfl
        · unfold lD_ up1
          rw [decide_eq_false g1', if_pos rfl]
          rfl
        · unfold up1
          split
          · exact g3
          · exact hR.2.2.2 a
      · rw [decide_eq_false hk]; exact True.intro
    · exact True.intro
set_option maxRecDepth 20000 in
theorem dfl_ok {cc k : Nat} (hc : cc < 13) (hk : (k : Int) < nC_ cc) : fv z t u (ty_ cc k) (if (fT_ cc k).2.2.2 = true then -1 else dfl_ (cc : Int) (k : Int)) = defaultValue (ty_ cc k) := by
  have h2 : (List.range 13).all (fun cc => (List.range 60).all (fun k => decide (nC_ (cc : Int) ≤ (k : Int)) || (match ty_ cc k with
    | .long => decide ((if (fT_ cc k).2.2.2 = true then -1 else dfl_ (cc : Int) (k : Int)) = 0)
    | .int => decide ((if (fT_ cc k).2.2.2 = true then -1 else dfl_ (cc : Int) (k : Int)) = 0)
    | .boolean => decide ((if (fT_ cc k).2.2.2 = true then -1 else dfl_ (cc : Int) (k : Int)) = 0)
    | .object _ => decide ((if (fT_ cc k).2.2.2 = true then -1 else dfl_ (cc : Int) (k : Int)) = -1)
    | .array _ => decide ((if (fT_ cc k).2.2.2 = true then -1 else dfl_ (cc : Int) (k : Int)) = -1)
    | _ => false))) = true := by decide +kernel
  have h60 : k < 60 := by
    have h3 : (List.range 13).all (fun cc => decide (nC_ (cc : Int) ≤ 60)) = true := by decide +kernel
    have := of_decide_eq_true (List.all_eq_true.mp h3 cc (List.mem_range.mpr hc))
    omega
  have h1 := List.all_eq_true.mp (List.all_eq_true.mp h2 cc (List.mem_range.mpr hc)) k (List.mem_range.mpr h60)
  simp only [Bool.or_eq_true, decide_eq_true_eq] at h1
  rcases h1 with h1 | h1
  · exfalso; omega
  · generalize (if (fT_ cc k).2.2.2 = true then (-1 : Int) else dfl_ (cc : Int) (k : Int)) = x at h1 ⊢
    unfold fv
    cases hty : ty_ cc k <;> rw [hty] at h1 <;> simp only [decide_eq_true_eq] at h1 <;> first | (subst h1; rfl) | (exact absurd h1 (by decide))
set_option maxRecDepth 20000 in
theorem ok_new {ix : Nat} (C : Cx z t u D I p R s m args meth c mi) (hd : decode (bts_ mi) pc = .ok (.new ix, 3)) (hr : ckR mi pc (.new ix, 3, r) = true) : OK (St z t u D I (WFr p l e R s m args below meth c Z) s R m mi n0 (pc, L, st, s0)) RT CL BR SW (act B (.new ix, 3, r) (pc, L, st, s0)) := by
  rcases r with _ | ⟨cc, _ | ⟨n, _ | ⟨w, _ | ⟨_, _⟩⟩⟩⟩ <;> try exact True.intro
  simp only [ckR, Bool.and_eq_true, decide_eq_true_eq] at hr
  obtain ⟨⟨⟨⟨⟨⟨hcl, hc0⟩, hc1⟩, hn⟩, hw1⟩, hw2⟩, hw3⟩ := hr
  obtain ⟨q, hq, hqn, hqf, hqz⟩ := cl_of (c := cc.toNat) (by omega)
  have hcc : ((cc.toNat : Nat) : Int) = cc := Int.toNat_of_nonneg hc0
  obtain ⟨hin, hty, hnm⟩ := clw_ok cc.toNat (by omega) q hq
  rintro ⟨g1, g2, g3⟩
  have hn0 : 0 ≤ n := by
    rw [hn]
    have h3 : (List.range 13).all (fun cc => decide (0 ≤ nC_ (cc : Int))) = true := by decide +kernel
    have := of_decide_eq_true (List.all_eq_true.mp h3 cc.toNat (List.mem_range.mpr (by omega)))
    rw [hcc] at this
    exact this
  have hkd : kD_ s0.2.2.1 (szS s0) = cc := by rw [kD_small g2]; exact g3
  have hceM : ∀ b j, b ≠ szS s0 → ce_ s0.1 (szS s0) (dfl_ cc) b j = s0.1 b j := fun b j hb => by unfold ce_; rw [if_neg hb]
  have hceF : ∀ b j, b ≠ szS s0 → ce_ s0.2.1 (szS s0) (fun _ => -1) b j = s0.2.1 b j := fun b j hb => by unfold ce_; rw [if_neg hb]
  refine St.made (ev := .inr (cc.toNat, (List.range n.toNat).map (fun k => defaultValue (ty_ cc.toNat k)))) (dn := n.toNat) g1 rfl (by show nsS s0 + n = nsS s0 + (n.toNat : Int); omega) (fun q => by rw [hcl] at q; cases q) rfl (fun H hR => hR.2.2.2) (fun b hb => rfl) ?_ ?_ ?_
  · show en z t u I (ce_ s0.1 (szS s0) (dfl_ cc), ce_ s0.2.1 (szS s0) (fun _ => -1), s0.2.2.1, szS s0 + 1, nsS s0 + n) (szS s0) = _
    rw [en_obj (s0 := (ce_ s0.1 (szS s0) (dfl_ cc), ce_ s0.2.1 (szS s0) (fun _ => -1), s0.2.2.1, szS s0 + 1, nsS s0 + n)) hkd hc0 hc1]
    unfold oe
    rw [← hn]
    congr 2
    refine List.map_congr_left (fun k hk => ?_)
    have hk2 := List.mem_range.mp hk
    rw [← dfl_ok (z := z) (t := t) (u := u) (cc := cc.toNat) (k := k) (by omega) (by rw [hcc, ← hn]; omega)]
    unfold ce_
    simp only [if_true, hcc]
  · intro b _ hb
    have hb : b < szS s0 := hb
    have hbn : b ≠ szS s0 := by omega
    exact en_other (s0 := s0) (s2 := (ce_ s0.1 (szS s0) (dfl_ cc), ce_ s0.2.1 (szS s0) (fun _ => -1), s0.2.2.1, szS s0 + 1, nsS s0 + n)) rfl (fun j => hceM b j hbn) (fun j => hceF b j hbn)
  · intro H locs cells slots ls hz q1 q2 hP kk
    change W p l e R s m args below meth c H locs cells slots Z (F0 m pc ls (st.map (cv z t u)))
    have hKn := C.2.2.2.2.2.2.2.2.1.1.1 _ _ hq
    refine W.newcK C.1 C.2.1 (own := cn_ (oc_ mi)) (C := q.1) (n := n.toNat) C.2.2.2.1 (by rw [hqn]; exact C.2.2.2.2.1 _ (hw_ok hw1)) (by rw [hqn]; exact C.2.2.2.2.1 _ (hw_ok hw2)) (by rw [hqn]; exact C.2.2.2.2.1 _ (hw_ok hw3)) rfl hd q1 q2 hKn.2.1 hz (fun H1 kC hkC e1 z1 o1 => ?_)
    have hborn := u_born (fun k => ty_ cc.toNat k) C.2.2.2.2.1 hin hKn hkC e1 hty
    have := kk H1 ⟨q, hq, hborn.to (fun j hj => ?_)⟩ (by rw [z1, hz]) (by rw [hz]; exact o1)
    · change W p l e R s m args below meth c H1 locs (cells + 1) (slots + n.toNat) Z (F0 m (pc + 3) ls (cvR z t u (szS s0) :: st.map (cv z t u))) at this
      rw [cvR_p g1] at this
      exact this
    · rw [hqz, hcc, ← hn] at hj
      show _ = ((List.range n.toNat).map (fun k => defaultValue (ty_ cc.toNat k))).getD j .null
      rw [List.getD_eq_getElem?_getD, List.getElem?_map, List.getElem?_range hj]
      rfl
theorem ok_getstatic {ix : Nat} (C : Cx z t u D I p R s m args meth c mi) (hd : decode (bts_ mi) pc = .ok (.getstatic ix, 3)) (hr : ckR mi pc (.getstatic ix, 3, r) = true) : OK (St z t u D I (WFr p l e R s m args below meth c Z) s R m mi n0 (pc, L, st, s0)) RT CL BR SW (act B (.getstatic ix, 3, r) (pc, L, st, s0)) := by
  rcases r with _ | ⟨w, _ | ⟨_, _⟩⟩
  · simp [ckR] at hr
  · simp only [ckR, Bool.or_eq_true, List.any_eq_true, decide_eq_true_eq] at hr
    intro _
    refine St.read rfl rfl (fun H locs cells slots ls hR hS hl kk => ?_)
    change W p l e R s m args below meth c H locs cells slots Z (F0 m (pc + 3) ls (.ref t :: st.map (cv z t u))) at kk
    change W p l e R s m args below meth c H locs cells slots Z (F0 m pc ls (st.map (cv z t u)))
    rcases hr with hr | ⟨q, hq, rfl⟩
    · exact va_gets C.1 C.2.1 C.2.2.2.2.2.2.2.2.1.2.1 hS C.2.2.2.1 (C.2.2.2.2.1 _ (hw_ok hr)) (fun _ h => h) hd kk
    · exact va_getsN C.1 C.2.1 C.2.2.2.2.2.2.2.2.1.2.1 hS C.2.2.2.1 (va_Nw.use rfl (C.2.2.2.2.2.2.2.2.1.2.2.2.1 _ hq)) (fun _ h => h) hd kk
  · simp [ckR] at hr
theorem ok_ldc {ix : Nat} (C : Cx z t u D I p R s m args meth c mi) (hd : decode (bts_ mi) pc = .ok (.ldc ix, 2)) (hr : ckR mi pc (.ldc ix, 2, r) = true) (hs : r.length = 3 → OK (St z t u D I (WFr p l e R s m args below meth c Z) s R m mi n0 (pc, L, st, s0)) RT CL BR SW (act B (.ldc ix, 2, r) (pc, L, st, s0))) : OK (St z t u D I (WFr p l e R s m args below meth c Z) s R m mi n0 (pc, L, st, s0)) RT CL BR SW (act B (.ldc ix, 2, r) (pc, L, st, s0)) := by
  rcases r with _ | ⟨v, _ | ⟨w, _ | ⟨_, _ | ⟨_, _⟩⟩⟩⟩ <;> try exact True.intro
  · exact fun _ => St.stk rfl rfl (fun H locs cells slots ls hl kk => lv_ldc C.1 C.2.1 C.2.2.2.1 (C.2.2.2.2.1 _ (hw_ok (by simpa only [ckR] using hr))) hd kk)
  · exact hs rfl
theorem ok_ldc_w {ix : Nat} (C : Cx z t u D I p R s m args meth c mi) (hd : decode (bts_ mi) pc = .ok (.ldc_w ix, 3)) (hr : ckR mi pc (.ldc_w ix, 3, r) = true) : OK (St z t u D I (WFr p l e R s m args below meth c Z) s R m mi n0 (pc, L, st, s0)) RT CL BR SW (act B (.ldc_w ix, 3, r) (pc, L, st, s0)) := by
  rcases r with _ | ⟨v, _ | ⟨w, _ | ⟨_, _⟩⟩⟩ <;> try exact True.intro
  exact fun _ => St.stk rfl rfl (fun H locs cells slots ls hl kk => lv_ldcw C.1 C.2.1 C.2.2.2.1 (C.2.2.2.2.1 _ (hw_ok (by simpa only [ckR] using hr))) hd kk)
theorem ok_ldc2_w {ix : Nat} (C : Cx z t u D I p R s m args meth c mi) (hd : decode (bts_ mi) pc = .ok (.ldc2_w ix, 3)) (hr : ckR mi pc (.ldc2_w ix, 3, r) = true) : OK (St z t u D I (WFr p l e R s m args below meth c Z) s R m mi n0 (pc, L, st, s0)) RT CL BR SW (act B (.ldc2_w ix, 3, r) (pc, L, st, s0)) := by
  rcases r with _ | ⟨v, _ | ⟨w, _ | ⟨_, _⟩⟩⟩ <;> try exact True.intro
  exact fun _ => St.stk rfl rfl (fun H locs cells slots ls hl kk => lv_ldc2 C.1 C.2.1 C.2.2.2.1 (C.2.2.2.2.1 _ (hw_ok (by simpa only [ckR] using hr))) hd kk)
theorem ok_goto {off : Int} (C : Cx z t u D I p R s m args meth c mi) (hd : decode (bts_ mi) pc = .ok (.goto off, 3)) (hr : ckR mi pc (.goto off, 3, r) = true) : OK (St z t u D I (WFr p l e R s m args below meth c Z) s R m mi n0 (pc, L, st, s0)) RT CL BR SW (act B (.goto off, 3, r) (pc, L, st, s0)) := by
  rcases r with _ | ⟨tg, _ | ⟨_, _⟩⟩ <;> try exact True.intro
  simp only [ckR, Bool.and_eq_true, decide_eq_true_eq] at hr
  exact fun _ => St.stk rfl rfl (fun H locs cells slots ls hl kk => lv_goto (tgt := tg.toNat) C.1 C.2.1 hd (by rw [Int.toNat_of_nonneg hr.2]; exact hr.1) kk)
end SIMI
