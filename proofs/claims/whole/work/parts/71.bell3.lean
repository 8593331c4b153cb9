/-! THE REFERENCE's calls: bell -/
def cqP (G : Lnd) (k q w : Int) : Prop := (∀ i, 0 ≤ i → i < 6 → bt ((G 5 q)) i = 0 → bt w i = 0) ∧ ∀ i, 0 ≤ i → i < 6 → bt ((G 5 q)) i = 1 → dg k i = 0 ∨ dg k i = bt w i + 1
noncomputable def ctT (G : Lnd) (k q hh w : Int) : Int := iteP (cqP G k q w) (BL G (lrn k ((G 5 q)) w) q hh) 0
theorem BL_gol {G : Lnd} (hw : WF G) {k hh p : Int} (k0 : 0 ≤ k) (k1 : k < thr_ ((G 0 3))) (h0 : 0 ≤ hh) (h1 : hh < 49) (p0 : 0 ≤ p) (p1 : p < (G 0 0)) (hg : p = (G 0 7)) : BL G k p hh = lkG G k := by
  rw [BL_is hw k hh k0 k1 h0 h1 p p0 p1]; unfold blR; rw [if_pos hg]
theorem BL_no {G : Lnd} (hw : WF G) {k hh p : Int} (k0 : 0 ≤ k) (k1 : k < thr_ ((G 0 3))) (h0 : 0 ≤ hh) (h1 : hh < 49) (p0 : 0 ≤ p) (p1 : p < (G 0 0)) (hl : lkG G k ≤ 0) : BL G k p hh = 0 := by
  have := BL_rng hw k hh p k0 k1 h0 h1 p0 p1
  omega
theorem BL_split {G : Lnd} (hw : WF G) {k hh q : Int} (k0 : 0 ≤ k) (k1 : k < thr_ ((G 0 3))) (h0 : 0 ≤ hh) (h1 : hh < 49) (q0 : 0 ≤ q) (q1 : q < (G 0 0)) (hf : 0 ≤ fm_ k ((G 5 q))) : BL G k q hh = BL G (k + 1 * thr_ (fm_ k ((G 5 q)))) q hh + BL G (k + 2 * thr_ (fm_ k ((G 5 q)))) q hh := by
  have hN := hw.N; unfold wfN at hN
  have ht := thrG hw
  obtain ⟨d1, d2, d3⟩ := fm_in hw q0 (by omega) hf
  generalize hd : fm_ k ((G 5 q)) = d at *
  have b1 := dg_lt (v := 1) k0 (by omega) k1 hf d1 d2 (by decide)
  have b2 := dg_lt (v := 2) k0 (by omega) k1 hf d1 d2 (by decide)
  have hs := lk_split (u := wtG G) (nd := (G 0 3)) k0 (by omega) hf (by omega) d2
  have e1 : k + 1 * thr_ d = k + thr_ d := by omega
  rw [e1] at b1 ⊢
  by_cases hg : q = (G 0 7)
  · rw [BL_gol hw k0 k1 h0 h1 q0 q1 hg, BL_gol hw b1.1 b1.2 h0 h1 q0 q1 hg, BL_gol hw b2.1 b2.2 h0 h1 q0 q1 hg]
    exact hs
  · have l0 := (lkG_rng hw k).1
    have l1 := (lkG_rng hw (k + thr_ d)).1
    have l2 := (lkG_rng hw (k + 2 * thr_ d)).1
    have hs' : lkG G k = lkG G (k + thr_ d) + lkG G (k + 2 * thr_ d) := hs
    by_cases hl : lkG G k = 0
    · rw [BL_no hw k0 k1 h0 h1 q0 q1 (by omega), BL_no hw b1.1 b1.2 h0 h1 q0 q1 (by omega), BL_no hw b2.1 b2.2 h0 h1 q0 q1 (by omega)]; rfl
    · have e := BL_is hw k hh k0 k1 h0 h1 q q0 q1
      unfold blR at e
      rw [if_neg hg, if_neg hl, hd, if_pos hf] at e
      exact e
theorem cq_add {G : Lnd} {k q w d : Int} (k0 : 0 ≤ k) (k1 : k < 729) (d0 : 0 ≤ d) (d6 : d < 6) (hd : dg k d = 0) (hb : bt ((G 5 q)) d = 1) {v : Int} (v0 : 1 ≤ v) (v1 : v < 3) : cqP G (k + v * thr_ d) q w ↔ (cqP G k q w ∧ bt w d + 1 = v) := by
  have e : ∀ i, 0 ≤ i → i < 6 → dg (k + v * thr_ d) i = if i = d then v else dg k i := fun i i0 i6 => dg_add k0 k1 d0 d6 i0 i6 hd (by omega)
  constructor
  · intro ⟨h1, h2⟩
    have h3 := h2 d d0 d6 hb
    rw [e d d0 d6, if_pos rfl] at h3
    refine ⟨⟨h1, fun i i0 i6 hi => ?_⟩, by omega⟩
    have h4 := h2 i i0 i6 hi
    rw [e i i0 i6] at h4
    by_cases c : i = d
    · subst c; exact Or.inl hd
    · rw [if_neg c] at h4; exact h4
  · intro ⟨⟨h1, h2⟩, h3⟩
    refine ⟨h1, fun i i0 i6 hi => ?_⟩
    rw [e i i0 i6]
    by_cases c : i = d
    · subst c; rw [if_pos rfl]; omega
    · rw [if_neg c]; exact h2 i i0 i6 hi
theorem ct_split {G : Lnd} {k q hh w d : Int} (k0 : 0 ≤ k) (k1 : k < 729) (d0 : 0 ≤ d) (d6 : d < 6) (hd : dg k d = 0) (hb : bt ((G 5 q)) d = 1) : ctT G k q hh w = ctT G (k + 1 * thr_ d) q hh w + ctT G (k + 2 * thr_ d) q hh w := by
  have hc := bt_cs w d
  unfold ctT
  by_cases hq : cqP G k q w
  · rw [iteP_t hq]
    rcases hc with c | c
    · rw [iteP_t ((cq_add k0 k1 d0 d6 hd hb (v := 1) (by decide) (by decide)).mpr ⟨hq, by omega⟩), iteP_f (fun a => by have := ((cq_add k0 k1 d0 d6 hd hb (v := 2) (by decide) (by decide)).mp a).2; omega)]
      rw [← lrn_two (w := w) k0 k1 d0 d6 hd hb, c, show (0 : Int) + 1 = 1 from rfl]
      omega
    · rw [iteP_f (fun a => by have := ((cq_add k0 k1 d0 d6 hd hb (v := 1) (by decide) (by decide)).mp a).2; omega), iteP_t ((cq_add k0 k1 d0 d6 hd hb (v := 2) (by decide) (by decide)).mpr ⟨hq, by omega⟩)]
      rw [← lrn_two (w := w) k0 k1 d0 d6 hd hb, c]
      show BL G (lrn (k + 2 * thr_ d) ((G 5 q)) w) q hh = 0 + _
      omega
  · rw [iteP_f hq, iteP_f (fun a => hq ((cq_add k0 k1 d0 d6 hd hb (v := 1) (by decide) (by decide)).mp a).1), iteP_f (fun a => hq ((cq_add k0 k1 d0 d6 hd hb (v := 2) (by decide) (by decide)).mp a).1)]
    rfl
/-- what comes in time is what is known to come -/
theorem ct_all {G : Lnd} (hw : WF G) {q hh : Int} (h0 : 0 ≤ hh) (h1 : hh < 49) (q0 : 0 ≤ q) (q1 : q < (G 0 0)) : ∀ (n : Nat) (k : Int), 0 ≤ k → k < thr_ ((G 0 3)) → unk G k = n → su_ (ctT G k q hh) (p2_ ((G 0 3))).toNat = BL G k q hh := by
  have hN := hw.N; unfold wfN at hN
  have ht := thrG hw
  have h64 := p2_lt64 hw
  have hsn := hw.S.1 q q0 (by omega)
  intro n
  induction n using Nat.strongRecOn with
  | _ n ih =>
    intro k k0 k1 hn
    by_cases hf : 0 ≤ fm_ k ((G 5 q))
    · rw [BL_split hw k0 k1 h0 h1 q0 q1 hf]
      obtain ⟨d1, d2, d3⟩ := fm_in hw q0 (by omega) hf
      generalize fm_ k ((G 5 q)) = d at *
      have b1 := dg_lt (v := 1) k0 (by omega) k1 hf d1 d2 (by decide)
      have b2 := dg_lt (v := 2) k0 (by omega) k1 hf d1 d2 (by decide)
      have u1 := unk_add hw k0 k1 hf d1 d2 (v := 1) (by decide) (by decide)
      have u2 := unk_add hw k0 k1 hf d1 d2 (v := 2) (by decide) (by decide)
      rw [← ih _ (by omega) _ b1.1 b1.2 rfl, ← ih _ (by omega) _ b2.1 b2.2 rfl, ← su_add]
      exact su_congr _ (fun w w0 w1 => ct_split k0 (by omega) hf (by omega) d2 d3)
    · have hse : seenOK G q k := seen_fm.mp (by omega)
      have f01 : ∀ i, 0 ≤ i → i < 6 → (if bt ((G 5 q)) i = 1 ∧ dg k i = 2 then (1 : Int) else 0) = 0 ∨ (if bt ((G 5 q)) i = 1 ∧ dg k i = 2 then (1 : Int) else 0) = 1 := fun i _ _ => by split <;> omega
      have hr := bs_rng f01
      have hb : ∀ i, 0 ≤ i → i < 6 → bt (bs (fun i => if bt ((G 5 q)) i = 1 ∧ dg k i = 2 then (1 : Int) else 0)) i = if bt ((G 5 q)) i = 1 ∧ dg k i = 2 then 1 else 0 := fun i i0 i6 => bt_bs f01 i0 i6
      generalize bs (fun i => if bt ((G 5 q)) i = 1 ∧ dg k i = 2 then (1 : Int) else 0) = w0 at hr hb
      have hlt : w0 < p2_ ((G 0 3)) := lt_p2 hr.1 hr.2 (by omega) (by omega) (fun i i0 i6 => by
        rw [hb i (by omega) i6, bt_hi hsn.1 (show 0 ≤ (G 0 3) by omega) hsn.2 i0 i6]
        exact if_neg (fun a => absurd a.1 (by decide)))
      have hcq : cqP G k q w0 := by
        refine ⟨fun i i0 i6 hi => by rw [hb i i0 i6, if_neg (fun a => by omega)], fun i i0 i6 hi => Or.inr ?_⟩
        have := hse i i0 i6 hi
        have := dg_cs k i
        rw [hb i i0 i6]
        split <;> omega
      have hid : lrn k ((G 5 q)) w0 = k := lrn_id k0 (by omega) hse
      have e := su_one (f := ctT G k q hh) w0 (p2_ ((G 0 3))).toNat hr.1 (by omega) (fun i i0 i1 hne => by
        unfold ctT
        refine iteP_f (fun a => hne (bt_ext i0 (by omega) hr.1 hr.2 (fun j j0 j6 => ?_)))
        rw [hb j j0 j6]
        rcases bt_cs ((G 5 q)) j with c | c
        · rw [a.1 j j0 j6 c, if_neg (fun z => by omega)]
        · have h2 := a.2 j j0 j6 c
          have h3 := hse j j0 j6 c
          have h4 := bt_cs i j
          split <;> omega)
      rw [e]
      unfold ctT
      rw [iteP_t hcq, hid]
/-- behind a look all is seen -/
theorem lrn_fm {G : Lnd} {k q w : Int} : fm_ (lrn k ((G 5 q)) w) ((G 5 q)) < 0 := by
  refine seen_fm.mpr (fun i i0 i6 hi => ?_)
  rw [dg_lrn i0 i6]
  have := bt_cs w i
  split
  · omega
  · rename_i c; exact fun a => c ⟨a, hi⟩
theorem s_X12_comesInTime {M : aM} {W : aW} {Q : Int → aM → aW → Prop} {G : Lnd} {q k hh : Int} (hG : rfG G M) (hW : rfW G M) (q0 : 0 ≤ q) (q1 : q < (G 0 0)) (k0 : 0 ≤ k) (k1 : k < thr_ ((G 0 3))) (h0 : 0 ≤ hh) (h1 : hh < 49) (hT : ∀ w, 0 ≤ w → w < p2_ ((G 0 3)) → 0 < lkG G (lrn k ((G 5 q)) w) → M 120 (7290 * hh + 10 * lrn k ((G 5 q)) w + q) = BL G (lrn k ((G 5 q)) w) q hh) (h : Q (BL G k q hh) M W) : CallI 252 [vR 86, vI q, vI k, vI hh] (M, W) Q := by
  have hn := hG.n
  have ht := hG.t
  have hw := hG.W
  have hsn := hw.S.1 q q0 (by omega)
  have hall := ct_all hw h0 h1 q0 q1 _ k k0 k1 rfl
  have l6 : ∀ (m : Nat) (x4 w : Int) (d6 d7 d8 d9 : aL), 0 ≤ w → w ≤ p2_ ((G 0 3)) → (p2_ ((G 0 3)) - w).toNat = m → x4 = su_ (ctT G k q hh) w.toNat → Xs 252 (6, [some (some (vR 86)), some (some (vI q)), some (some (vI k)), some (some (vI hh)), some (some (vI x4)), some (some (vI w)), d6, d7, d8, d9], [], (M, W)) (QI Q) := by
    intro m
    induction m with
    | zero =>
      intro x4 w d6 d7 d8 d9 w0 w1 hm hx
      have e : w = p2_ ((G 0 3)) := by omega
      refine k_X12_comesInTime_6 _ _ _ _ _ _ _ _ _ _ _ _ ?_
      rw [hG.o22]
      refine ⟨by omega, fun _ => ?_, fun hlt => by omega⟩
      rw [hx, e, hall]; exact h
    | succ m ih =>
      intro x4 w d6 d7 d8 d9 w0 w1 hm hx
      have nx : ∀ (x4' : Int) (d6 d7 d8 d9 : aL), x4' = x4 + ctT G k q hh w → Xs 252 (6, [some (some (vR 86)), some (some (vI q)), some (some (vI k)), some (some (vI hh)), some (some (vI x4')), some (some (vI (w + 1))), d6, d7, d8, d9], [], (M, W)) (QI Q) := fun x4' d6 d7 d8 d9 e => ih _ _ _ _ _ _ (by omega) (by omega) (by omega) (by rw [e, su_succ _ w0, hx])
      have hdf := sDif_rng w ((G 5 q))
      have l41 : (∀ i, 0 ≤ i → i < 6 → bt ((G 5 q)) i = 0 → bt w i = 0) → ∀ (n : Nat) (d x6 : Int) (d9 : aL), 0 ≤ d → d ≤ (G 0 3) → ((G 0 3) - d).toNat = n → x6 = lrN k ((G 5 q)) w d → (∀ i, 0 ≤ i → i < d → bt ((G 5 q)) i = 1 → dg k i = 0 ∨ dg k i = bt w i + 1) → Xs 252 (41, [some (some (vR 86)), some (some (vI q)), some (some (vI k)), some (some (vI hh)), some (some (vI x4)), some (some (vI w)), some (some (vI x6)), some (some (vI 1)), some (some (vI d)), d9], [], (M, W)) (QI Q) := by
        intro hc1 n
        induction n with
        | zero =>
          intro d x6 d9 a0 a1 hnm hx6 hgd
          have ed : d = (G 0 3) := by omega
          have hcq : cqP G k q w := ⟨hc1, fun i i0 i6 hi => by
            by_cases c : i < (G 0 3)
            · exact hgd i i0 (by omega) hi
            · have := bt_hi hsn.1 (show 0 ≤ (G 0 3) by omega) hsn.2 (i := i) (by omega) i6; omega⟩
          have e6 : x6 = lrn k ((G 5 q)) w := by
            rw [hx6]
            refine ds_ext (fun i i0 i6 => ?_)
            by_cases c : dg k i = 0 ∧ bt ((G 5 q)) i = 1
            · have : i < d := by
                refine Classical.byContradiction (fun hno => ?_)
                have := bt_hi hsn.1 (show 0 ≤ (G 0 3) by omega) hsn.2 (i := i) (by omega) i6
                omega
              rw [if_pos ⟨this, c⟩, if_pos c]
            · rw [if_neg (fun a => c a.2), if_neg c]
          have hlr := lrn_rng k ((G 5 q)) w
          have hll := lrn_lt hw (w := w) k0 k1 hsn.1 hsn.2
          have hlk := lkG_rng hw (lrn k ((G 5 q)) w)
          refine k_X12_comesInTime_41 _ _ _ _ _ _ _ _ _ _ _ _ ?_
          refine s_X12_doubts hG ⟨by omega, fun _ => ⟨by decide, fun y => absurd y (by decide), fun _ => ?_⟩, fun hlt => by omega⟩
          rw [e6, hW.2 _ hlr.1 hll]
          have ec : ctT G k q hh w = BL G (lrn k ((G 5 q)) w) q hh := by unfold ctT; rw [iteP_t hcq]
          refine ⟨by omega, by omega, fun hle => nx _ _ _ _ _ ?_, fun hgt => ⟨by omega, fun v hv => nx _ _ _ _ _ ?_⟩⟩
          · rw [ec, BL_no hw hlr.1 hll h0 h1 q0 q1 hle]; omega
          · rw [ec, hv, hT w w0 (by omega) (by omega)]
        | succ n ih2 =>
          intro d x6 d9 a0 a1 hnm hx6 hgd
          refine k_X12_comesInTime_41 _ _ _ _ _ _ _ _ _ _ _ _ ?_
          refine s_X12_doubts hG ⟨by omega, fun hge => by omega, fun _ => ⟨by decide, fun y => absurd y (by decide), fun _ => ?_⟩⟩
          rw [hG.s97 q0 (by omega), bit_e hsn.1 (by omega) a0 (by omega)]
          have hb := bt_rng ((G 5 q)) d
          have hbw := bt_rng w d
          refine ⟨by omega, by omega, fun hne v6 hv6 => ?_, fun heq => ?_⟩
          · rw [bit_e w0 (by omega) a0 (by omega)] at hv6
            have hdr := dg_rng k d
            refine s_X12_digit hG.D3 k0 (by omega) a0 (by omega) ⟨by omega, fun y => s_X12_digit hG.D3 k0 (by omega) a0 (by omega) ⟨by omega, fun z => ?_, fun z => ?_⟩, fun y => ⟨by omega, fun v hv => ?_⟩⟩
            · -- not as it is
              have hnc : ¬ cqP G k q w := fun a => by
                rcases a.2 d a0 (by omega) (by omega) with c | c <;> omega
              have ec : ctT G k q hh w = 0 := by unfold ctT; rw [iteP_f hnc]
              refine k_X12_comesInTime_41 _ _ _ _ _ _ _ _ _ _ _ _ ?_
              refine s_X12_doubts hG ⟨by omega, fun _ => ⟨by decide, fun _ => nx _ _ _ _ _ (by rw [ec]; omega), fun q => absurd rfl q⟩, fun _ => ⟨by decide, fun _ => ⟨by decide, fun _ => nx _ _ _ _ _ (by rw [ec]; omega), fun q => absurd rfl q⟩, fun q => absurd rfl q⟩⟩
            · refine ih2 (d + 1) x6 _ (by omega) (by omega) (by omega) ?_ (fun i i0 i1 hi => ?_)
              · rw [hx6]
                refine ds_ext (fun i i0 i6 => ?_)
                by_cases c : i < d ∧ dg k i = 0 ∧ bt ((G 5 q)) i = 1
                · rw [if_pos c, if_pos ⟨by omega, c.2⟩]
                · rw [if_neg c, if_neg (fun a => c ⟨by
                    have : i ≠ d := fun e => by rw [e] at a; omega
                    omega, a.2⟩)]
              · by_cases c : i = d
                · rw [c]; exact Or.inr (by omega)
                · exact hgd i i0 (by omega) hi
            · rw [hG.D3 d a0 (by omega)] at hv
              refine ih2 (d + 1) v _ (by omega) (by omega) (by omega) ?_ (fun i i0 i1 hi => ?_)
              · rw [hv, hx6, hv6]
                refine (ds_add a0 (by omega) (fun i i0 i6 => ?_)).symm
                by_cases e : i = d
                · subst e; rw [if_pos rfl, if_pos ⟨by omega, by omega, by omega⟩, if_neg (fun a => by omega)]; omega
                · rw [if_neg e]
                  by_cases a : i < d ∧ dg k i = 0 ∧ bt ((G 5 q)) i = 1
                  · rw [if_pos a, if_pos ⟨by omega, a.2⟩]
                  · rw [if_neg a, if_neg (fun b => a ⟨by omega, b.2⟩)]
              · by_cases c : i = d
                · rw [c]; exact Or.inl (by omega)
                · exact hgd i i0 (by omega) hi
          · refine ih2 (d + 1) x6 _ (by omega) (by omega) (by omega) ?_ (fun i i0 i1 hi => ?_)
            · rw [hx6]
              refine ds_ext (fun i i0 i6 => ?_)
              by_cases c : i < d ∧ dg k i = 0 ∧ bt ((G 5 q)) i = 1
              · rw [if_pos c, if_pos ⟨by omega, c.2⟩]
              · rw [if_neg c, if_neg (fun a => c ⟨by
                  have : i ≠ d := fun e => by rw [e] at a; omega
                  omega, a.2⟩)]
            · by_cases c : i = d
              · rw [c] at hi; omega
              · exact hgd i i0 (by omega) hi
      refine k_X12_comesInTime_6 _ _ _ _ _ _ _ _ _ _ _ _ ?_
      rw [hG.o22, hG.s97 q0 (by omega), dif_e w0 (by omega) hsn.1 (by omega)]
      refine ⟨by omega, fun hge => by omega, fun _ => ⟨by omega, by omega, fun hz => ?_, fun hnz => nx _ _ _ _ _ ?_⟩⟩
      · refine l41 (fun i i0 i6 hi => ?_) _ 0 k _ (by decide) (by omega) rfl ?_ (fun i i0 i1 => by omega)
        · have h2 := bt_sDif (a := w) (b := (G 5 q)) i0 i6
          rw [hz] at h2
          have h3 : bt 0 i = 0 := bt_hi (d := 0) (by decide) (by decide) (by decide) i0 i6
          rw [h3] at h2
          have h4 := bt_cs w i
          refine Classical.byContradiction (fun c => ?_)
          rw [if_pos ⟨by omega, hi⟩] at h2
          omega
        · have e : lrN k ((G 5 q)) w 0 = ds (dg k) := ds_ext (fun i i0 i6 => if_neg (fun a => by omega))
          rw [e, ds_dg k0 (by omega)]
      · have hnc : ¬ cqP G k q w := fun a => hnz (bt_ext hdf.1 hdf.2 (by decide) (by decide) (fun i i0 i6 => by
          rw [bt_sDif i0 i6, bt_hi (k := 0) (d := 0) (by decide) (by decide) (by decide) i0 i6]
          exact if_neg (fun z => by have := a.1 i i0 i6 z.2; omega)))
        unfold ctT; rw [iteP_f hnc]; omega
  refine e_X12_comesInTime _ _ _ _ _ _ ?_
  exact l6 _ 0 0 _ _ _ _ (by decide) (by omega) rfl rfl
