section SIMI
variable {z t u : Nat} {D : va_G} {I : aI} {p : Program} {l : Launch} {e : Env} {R : Room} {s : State} {m : MethodId} {args : Array Value} {below : List Frame} {meth : Method} {c : Code} {Z : State → Prop} {mi : Nat} {n0 : Int}
variable {RT : Option aV → Prop} {CL : Nat → List aV → Nat → List aV → Prop} {BR : Prop → aT → aT → Prop} {SW : Int → List (Int × aT) → aT → Prop} {ST : aT → Prop}
variable {B : Int} {pc : Nat} {L : List aL} {st : List aV} {s0 : aS} {r : List Int}
set_option maxRecDepth 20000 in
theorem ok_arraylength (C : Cx z t u D I p R s m args meth c mi) (hF : bld_ (bnd_ mi) s0) (hd : decode (bts_ mi) pc = .ok (.arraylength, 1)) (hr : ckR mi pc (.arraylength, 1, r) = true) : OK (St z t u D I (WF p l e R s m args below meth c Z) s R m mi n0 (pc, L, st, s0)) RT CL BR SW (act (bnd_ mi) (.arraylength, 1, r) (pc, L, st, s0)) := by
  rcases st with _ | ⟨a | a | a, st⟩ <;> try exact True.intro
  rcases r with _ | ⟨mo, _ | ⟨kd, _ | ⟨_, _⟩⟩⟩ <;> try exact True.intro
  simp only [ckR, Bool.and_eq_true, decide_eq_true_eq] at hr
  have hB := bnd_le mi
  have ll : okO (bnd_ mi) kd a = true → lD_ s0.2.2.1 a = ln_ a := fun hb => lD_small (by have := (okO_of hb).2.1; omega)
  have key : okO (bnd_ mi) kd a = true → St z t u D I (WF p l e R s m args below meth c Z) s R m mi n0 (pc, L, .inr (.inr a) :: st, s0) (popTo (.arraylength, 1, [mo, kd]) (pc, L, .inr (.inr a) :: st, s0) (vI (ln_ a) :: st)) := by
    intro hb
    have hl := okO_live hB hF hb
    rw [← ll hb]
    exact st_alen C hl.1 hl.2.1 hl.2.2 hr.1 hr.2 hd rfl (by rw [ll hb]; exact (ln_in a).1)
  show OK _ _ _ _ _ (if mo = 0 then bif okO (bnd_ mi) kd a then rN none _ else rX else if mo = 1 then rN (some (okO (bnd_ mi) kd a = true)) _ else if mo = 2 then rN (some (okD s0 kd a = true)) _ else rX)
  split
  · cases hb : okO (bnd_ mi) kd a with
    | false => exact True.intro
    | true => exact fun _ => key hb
  · split
    · exact fun hb => key hb
    · split
      · intro hb
        have hl := okD_of hb
        refine st_alen C hl.1 hl.2.1 hl.2.2 hr.1 hr.2 hd rfl ?_
        have h3 := hl.2.2
        unfold kD_ at h3
        unfold lD_
        cases hq : decide (a < nid_) with
        | true => exact (ln_in a).1
        | false =>
          rw [hq] at h3
          show 0 ≤ s0.2.2.1 a
          cases hq2 : decide (s0.2.2.1 a < 0) with
          | true => rw [hq2] at h3; exfalso; have : (99 : Int) = kd := h3; omega
          | false => have := of_decide_eq_false hq2; omega
      · exact True.intro
set_option maxRecDepth 20000 in
/-- a new cell -/
theorem St.made {S T : aT} {ev : va_E} {dn : Nat} (h0 : 0 ≤ szS S.2.2.2) (hz : szS T.2.2.2 = szS S.2.2.2 + 1) (hns : nsS T.2.2.2 = nsS S.2.2.2 + dn) (hcl : cl_ mi = false → T.2.2.2.2.1 = S.2.2.2.2.1) (hL : T.2.1 = S.2.1) (hdl : ∀ H, Rel z t u D I S.2.2.2 H → ∀ a, T.2.2.2.2.2.1 a ≤ 100000000)
    (hkd : ∀ b : Int, b < szS S.2.2.2 → kD_ T.2.2.2.2.2.1 b = kD_ S.2.2.2.2.2.1 b) (he : en z t u I T.2.2.2 (szS S.2.2.2) = ev) (ho : ∀ b : Int, 0 ≤ b → b < szS S.2.2.2 → en z t u I T.2.2.2 b = en z t u I S.2.2.2 b)
    (h : ∀ (H : Heap) (locs : List Loc) (cells slots : Nat) (ls : Array Slot), H.size = z + (szS S.2.2.2).toNat → cells + 1 ≤ R.cells → slots + dn ≤ R.slots → (∀ a : Nat, (a : Int) < szS S.2.2.2 → kD_ S.2.2.2.2.2.1 a ≠ 99 → va_at D vwCl (z + a, en z t u I S.2.2.2 a) H) →
      (∀ (H1 : Heap), va_at D vwCl (z + (szS S.2.2.2).toNat, ev) H1 → H1.size = H.size + 1 → (∀ q, q < H.size → H1[q]? = H[q]?) → W p l e R s m args below meth c H1 locs (cells + 1) (slots + dn) Z (F0 m T.1 ls (T.2.2.1.map (cv z t u)))) →
      W p l e R s m args below meth c H locs cells slots Z (F0 m S.1 ls (S.2.2.1.map (cv z t u)))) : St z t u D I (WF p l e R s m args below meth c Z) s R m mi n0 S T := by
  refine ⟨by omega, by omega, hcl, fun hb1 hb2 kk H locs cells slots ls hR hS e1 e2 hl => ?_⟩
  refine h H locs cells slots ls hR.2.1 (by omega) (by omega) hR.2.2.1 (fun H1 g1 g2 g3 => ?_)
  have hsz := hR.2.1
  refine kk H1 locs (cells + 1) (slots + dn) ls ⟨by omega, by rw [g2, hsz, hz]; omega, fun a ha1 ha2 => ?_, hdl H hR⟩ ⟨by have := hS.1; omega, fun q q1 q2 => (g3 q (Nat.lt_of_lt_of_le q1 hS.1)).trans (hS.2.1 q q1 q2), hS.2.2⟩ (by rw [hz]; omega) (by rw [hns]; omega) (by rw [hL]; exact hl)
  by_cases hq : (a : Int) < szS S.2.2.2
  · rw [ho a (by omega) hq]
    rw [hkd a hq] at ha2
    have h1 := hR.2.2.1 a hq ha2
    exact h1.kept (g3 _ h1.lt)
  · have hq2 : (a : Int) = szS S.2.2.2 := by omega
    rw [hq2, he]
    have : a = (szS S.2.2.2).toNat := by omega
    rw [this]
    exact g1
set_option maxRecDepth 20000 in
theorem kD_up {dl : Int → Int} {a n b : Int} (h : b ≠ a) : kD_ (up1 dl a n) b = kD_ dl b := by unfold kD_ up1; rw [if_neg h]
set_option maxRecDepth 20000 in
theorem lD_up {dl : Int → Int} {a n b : Int} (h : b ≠ a) : lD_ (up1 dl a n) b = lD_ dl b := by unfold lD_ up1; rw [if_neg h]
set_option maxRecDepth 20000 in
theorem ok_newarray {ty : ArrayType} (C : Cx z t u D I p R s m args meth c mi) (hd : decode (bts_ mi) pc = .ok (.newarray ty, 2)) (hr : ckR mi pc (.newarray ty, 2, r) = true) : OK (St z t u D I (WF p l e R s m args below meth c Z) s R m mi n0 (pc, L, st, s0)) RT CL BR SW (act B (.newarray ty, 2, r) (pc, L, st, s0)) := by
  rcases st with _ | ⟨n | n | n, st⟩ <;> try exact True.intro
  rcases r with _ | ⟨mo, _ | ⟨kd, _ | ⟨_, _⟩⟩⟩ <;> try exact True.intro
  simp only [ckR, Bool.and_eq_true, Bool.or_eq_true, decide_eq_true_eq] at hr
  have hA : z ≤ s.heap.size := C.2.2.2.2.2.2.2.2.2.1
  -- the making of a row of n, its kind told
  have key : ∀ (dl : Int → Int), 0 ≤ szS s0 → 0 ≤ n → n ≤ 100000000 → (kd = 21 → n ≤ 1000000) → kD_ dl (szS s0) = kd → lD_ dl (szS s0) = n → (∀ b, b < szS s0 → kD_ dl b = kD_ s0.2.2.1 b ∧ lD_ dl b = lD_ s0.2.2.1 b) → (∀ H, Rel z t u D I s0 H → ∀ a, dl a ≤ 100000000) →
      St z t u D I (WF p l e R s m args below meth c Z) s R m mi n0 (pc, L, .inl n :: st, s0) (pc + 2, L, vR (szS s0) :: st, (ce_ s0.1 (szS s0) (fun _ => 0), s0.2.1, dl, szS s0 + 1, nsS s0 + n)) := by
    intro dl h0 hn0 hn1 hn2 hk hl hlow hdl
    have hce : ∀ b j, b ≠ szS s0 → ce_ s0.1 (szS s0) (fun _ => 0) b j = s0.1 b j := fun b j hb => by unfold ce_; rw [if_neg hb]
    have hces : ∀ j, ce_ s0.1 (szS s0) (fun _ => 0) (szS s0) j = 0 := fun j => by unfold ce_; rw [if_pos rfl]
    have hnI : inI n := ⟨by omega, by omega⟩
    have hnn : ¬ Int32.ofInt n < 0 := by rw [show (0 : Int32) = Int32.ofInt 0 from rfl, i_lt hnI i_0]; omega
    have hnc : (Int32.ofInt n).toNatClampNeg = n.toNat := by show (Int32.ofInt n).toInt.toNat = _; rw [i_in hnI]
    have oth : ∀ b : Int, 0 ≤ b → b < szS s0 → en z t u I (ce_ s0.1 (szS s0) (fun _ => 0), s0.2.1, dl, szS s0 + 1, nsS s0 + n) b = en z t u I s0 b := by
      intro b _ hb
      unfold en oe
      simp only [(hlow b hb).1, (hlow b hb).2, hce b _ (show b ≠ szS s0 by omega)]
    have tysK := C.2.2.2.2.2.2.2.2.1.1.2
    rcases hr with ((⟨⟨rfl, rfl⟩, hw⟩ | ⟨⟨rfl, rfl⟩, hw⟩) | ⟨⟨rfl, rfl⟩, hw⟩) | ⟨⟨rfl, rfl⟩, hw⟩
    · refine St.made (ev := .inl (I.1, (n.toNat, .inl (fun _ => 0)))) (dn := n.toNat) h0 rfl (by show nsS s0 + n = nsS s0 + (n.toNat : Int); omega) (fun _ => rfl) rfl hdl (fun b hb => (hlow b hb).1) ?_ oth ?_
      · show en z t u I (ce_ s0.1 (szS s0) (fun _ => 0), s0.2.1, dl, szS s0 + 1, nsS s0 + n) (szS s0) = _
        rw [en_20 hk]; dsimp only; rw [hl]; simp only [hces]; rfl
      · intro H locs cells slots ls hz q1 q2 _ kk
        change W p l e R s m args below meth c H locs cells slots Z (F0 m pc ls (.int (Int32.ofInt n) :: st.map (cv z t u)))
        refine va_newaK C.1 C.2.1 (atype := .int) (C.2.2.2.2.1 _ (hw_ok hw)) rfl hd rfl hnn hnc (by show n.toNat * 4 ≤ _; omega) q1 q2 hz (fun H' cA g1 g2 g3 g4 g5 => ?_)
        have hcA : cA = I.1 := by
          have h5 := (tysK 0 _ rfl).2
          exact Option.some.inj (g5.symm.trans h5)
        subst hcA
        have := kk H' (by exact g1) (by rw [g2, hz]) (by rw [hz]; exact g3)
        show W p l e R s m args below meth c H' locs (cells + 1) (slots + n.toNat) Z (F0 m (pc + 2) ls (.ref (z + (szS s0).toNat) :: st.map (cv z t u)))
        change W p l e R s m args below meth c H' locs (cells + 1) (slots + n.toNat) Z (F0 m (pc + 2) ls (cvR z t u (szS s0) :: st.map (cv z t u))) at this
        rw [cvR_p h0] at this
        exact this
    · refine St.made (ev := .inl (I.2.1, (n.toNat, .inr (.inl (fun _ => 0))))) (dn := n.toNat) h0 rfl (by show nsS s0 + n = nsS s0 + (n.toNat : Int); omega) (fun _ => rfl) rfl hdl (fun b hb => (hlow b hb).1) ?_ oth ?_
      · show en z t u I (ce_ s0.1 (szS s0) (fun _ => 0), s0.2.1, dl, szS s0 + 1, nsS s0 + n) (szS s0) = _
        rw [en_21 hk]; dsimp only; rw [hl]; simp only [hces]; rfl
      · intro H locs cells slots ls hz q1 q2 _ kk
        change W p l e R s m args below meth c H locs cells slots Z (F0 m pc ls (.int (Int32.ofInt n) :: st.map (cv z t u)))
        refine va_newaK C.1 C.2.1 (atype := .long) (C.2.2.2.2.1 _ (hw_ok hw)) rfl hd rfl hnn hnc (by have := hn2 rfl; show n.toNat * 8 ≤ _; omega) q1 q2 hz (fun H' cA g1 g2 g3 g4 g5 => ?_)
        have hcA : cA = I.2.1 := by
          have h5 := (tysK 1 _ rfl).2
          exact Option.some.inj (g5.symm.trans h5)
        subst hcA
        have := kk H' (by exact g1) (by rw [g2, hz]) (by rw [hz]; exact g3)
        change W p l e R s m args below meth c H' locs (cells + 1) (slots + n.toNat) Z (F0 m (pc + 2) ls (cvR z t u (szS s0) :: st.map (cv z t u))) at this
        rw [cvR_p h0] at this
        exact this
    · refine St.made (ev := .inl (I.2.2.1, (n.toNat, .inl (fun _ => 0)))) (dn := n.toNat) h0 rfl (by show nsS s0 + n = nsS s0 + (n.toNat : Int); omega) (fun _ => rfl) rfl hdl (fun b hb => (hlow b hb).1) ?_ oth ?_
      · show en z t u I (ce_ s0.1 (szS s0) (fun _ => 0), s0.2.1, dl, szS s0 + 1, nsS s0 + n) (szS s0) = _
        rw [en_22 hk]; dsimp only; rw [hl]; simp only [hces]; rfl
      · intro H locs cells slots ls hz q1 q2 _ kk
        change W p l e R s m args below meth c H locs cells slots Z (F0 m pc ls (.int (Int32.ofInt n) :: st.map (cv z t u)))
        refine va_newaK C.1 C.2.1 (atype := .byte) (C.2.2.2.2.1 _ (hw_ok hw)) rfl hd rfl hnn hnc (by show n.toNat * 1 ≤ _; omega) q1 q2 hz (fun H' cA g1 g2 g3 g4 g5 => ?_)
        have hcA : cA = I.2.2.1 := by
          have h5 := (tysK 2 _ rfl).2
          exact Option.some.inj (g5.symm.trans h5)
        subst hcA
        have := kk H' (by exact g1) (by rw [g2, hz]) (by rw [hz]; exact g3)
        change W p l e R s m args below meth c H' locs (cells + 1) (slots + n.toNat) Z (F0 m (pc + 2) ls (cvR z t u (szS s0) :: st.map (cv z t u))) at this
        rw [cvR_p h0] at this
        exact this
    · refine St.made (ev := .inl (I.2.2.2, (n.toNat, .inl (fun _ => 0)))) (dn := n.toNat) h0 rfl (by show nsS s0 + n = nsS s0 + (n.toNat : Int); omega) (fun _ => rfl) rfl hdl (fun b hb => (hlow b hb).1) ?_ oth ?_
      · show en z t u I (ce_ s0.1 (szS s0) (fun _ => 0), s0.2.1, dl, szS s0 + 1, nsS s0 + n) (szS s0) = _
        rw [en_23 hk]; dsimp only; rw [hl]; simp only [hces]; rfl
      · intro H locs cells slots ls hz q1 q2 _ kk
        change W p l e R s m args below meth c H locs cells slots Z (F0 m pc ls (.int (Int32.ofInt n) :: st.map (cv z t u)))
        refine va_newaK C.1 C.2.1 (atype := .boolean) (C.2.2.2.2.1 _ (hw_ok hw)) rfl hd rfl hnn hnc (by show n.toNat * 1 ≤ _; omega) q1 q2 hz (fun H' cA g1 g2 g3 g4 g5 => ?_)
        have hcA : cA = I.2.2.2 := by
          have h5 := (tysK 3 _ rfl).2
          exact Option.some.inj (g5.symm.trans h5)
        subst hcA
        have := kk H' (by exact g1) (by rw [g2, hz]) (by rw [hz]; exact g3)
        change W p l e R s m args below meth c H' locs (cells + 1) (slots + n.toNat) Z (F0 m (pc + 2) ls (cvR z t u (szS s0) :: st.map (cv z t u))) at this
        rw [cvR_p h0] at this
        exact this
  show OK _ _ _ _ _ (if mo = 0 then rN (some (0 ≤ szS s0 ∧ szS s0 < nid_ ∧ knd (szS s0) = kd ∧ ln_ (szS s0) = n)) _ else if mo = 1 then bif decide (kd = 20) then rN (some (nid_ ≤ szS s0 ∧ 0 ≤ n ∧ n ≤ 100000000)) _ else rX else rX)
  split
  · rintro ⟨g1, g2, g3, g4⟩
    have := ln_in (szS s0)
    exact key s0.2.2.1 g1 (by omega) (by omega) (fun _ => by omega) (by rw [kD_small g2]; exact g3) (by rw [lD_small g2]; exact g4) (fun b _ => ⟨rfl, rfl⟩) (fun H hR => hR.2.2.2)
  · split
    · by_cases hk : kd = 20
      · rw [decide_eq_true hk]
        rintro ⟨g1, g2, g3⟩
        have g1' : ¬ szS s0 < nid_ := by omega
        refine key (up1 s0.2.2.1 (szS s0) n) (by have : (126 : Int) ≤ szS s0 := g1; omega) g2 g3 (fun q => by omega) ?_ ?_ (fun b hb => ⟨kD_up (by omega), lD_up (by omega)⟩) (fun H hR a => ?_)
        · unfold kD_ up1
          rw [decide_eq_false g1', if_pos rfl, decide_eq_false (by omega : ¬ n < 0), hk]
          rfl
        · unfold lD_ up1
          rw [decide_eq_false g1', if_pos rfl]
          rfl
        · unfold up1
          split
          · exact g3
          · exact hR.2.2.2 a
      · rw [decide_eq_false hk]; exact True.intro
    · exact True.intro
end SIMI
