/-! THE REFERENCE's calls: bell, its table -/
/-- what is laid of those with fewer unknown ones, and of k before hour hh -/
def tbQ (G : Lnd) (t k hh : Int) (M : aM) : Prop := ∀ k' h', 0 ≤ k' → k' < thr_ ((G 0 3)) → 0 ≤ h' → h' ≤ t → 0 < lkG G k' → (unk G k' < unk G k ∨ (k' = k ∧ h' < hh)) → ∀ p, 0 ≤ p → p < (G 0 0) → fm_ k' ((G 5 p)) < 0 → M 120 (7290 * h' + 10 * k' + p) = BL G k' p h'
theorem lrn_cs {G : Lnd} (hw : WF G) {k q w : Int} (k0 : 0 ≤ k) (k1 : k < thr_ ((G 0 3))) (q0 : 0 ≤ q) (q1 : q < (G 0 0)) : lrn k ((G 5 q)) w = k ∨ unk G (lrn k ((G 5 q)) w) < unk G k := by
  have hN := hw.N; unfold wfN at hN
  have ht := thrG hw
  by_cases hf : 0 ≤ fm_ k ((G 5 q))
  · obtain ⟨d1, d2, d3⟩ := fm_in hw q0 (by omega) hf
    exact Or.inr (unk_lrn hw hf d1 d2 d3)
  · exact Or.inl (lrn_id k0 (by omega) (seen_fm.mp (by omega)))
theorem tbQ.ct {G : Lnd} (hw : WF G) {t k hh q h' : Int} {M : aM} (hT : tbQ G t k hh M) (k0 : 0 ≤ k) (k1 : k < thr_ ((G 0 3))) (q0 : 0 ≤ q) (q1 : q < (G 0 0)) (h0 : 0 ≤ h') (h1 : h' < hh) (h2 : h' ≤ t) : ∀ w, 0 ≤ w → w < p2_ ((G 0 3)) → 0 < lkG G (lrn k ((G 5 q)) w) → M 120 (7290 * h' + 10 * lrn k ((G 5 q)) w + q) = BL G (lrn k ((G 5 q)) w) q h' := by
  intro w w0 w1 hl
  have hN := hw.N; unfold wfN at hN
  have hsn := hw.S.1 q q0 (by omega)
  have hlr := lrn_rng k ((G 5 q)) w
  have hll := lrn_lt hw (w := w) k0 k1 hsn.1 hsn.2
  refine hT _ _ hlr.1 hll h0 h2 hl ?_ q q0 q1 lrn_fm
  rcases lrn_cs hw (w := w) k0 k1 q0 q1 with c | c
  · exact Or.inr ⟨c, h1⟩
  · exact Or.inl c
theorem s_X12_bestInTime {M : aM} {W : aW} {Q : Int → aM → aW → Prop} {G : Lnd} {t p k hh : Int} (hG : rfG G M) (hW : rfW G M) (p0 : 0 ≤ p) (p1 : p < (G 0 0)) (hpg : p ≠ (G 0 7)) (k0 : 0 ≤ k) (k1 : k < thr_ ((G 0 3))) (hl : 0 < lkG G k) (hs : fm_ k ((G 5 p)) < 0) (h0 : 0 ≤ hh) (ht1 : hh ≤ t) (t49 : t < 49) (hT : tbQ G t k hh M) (h : Q (BL G k p hh) M W) : CallI 251 [vR 86, vI p, vI k, vI hh] (M, W) Q := by
  have hn := hG.n
  have ht := hG.t
  have hw := hG.W
  have hlr := lkG_rng hw k
  have e := BL_is hw k hh k0 k1 h0 (by omega) p p0 p1
  unfold blR at e
  rw [if_neg hpg, if_neg (by omega), if_neg (by omega)] at e
  have rg : ∀ n : Nat, n ≤ (G 0 0) → 0 ≤ mxg (blG G k p hh) (blg G (BL G) k p hh) n ∧ mxg (blG G k p hh) (blg G (BL G) k p hh) n ≤ lkG G k := fun n hn2 => mxg_rng hlr.1 n (fun i i0 i1 c => by
    have c' := of_decide_eq_true c
    exact (BL_rng hw k (hh - pas G p i k) i k0 k1 (by omega) (by omega) i0 (by omega)).2)
  have vB : ∀ w, 0 ≤ w → w < (G 0 5) → blW G k p hh w = true → 0 ≤ blw G (BL G) k p hh w ∧ blw G (BL G) k p hh w ≤ lkG G k := fun w w0 w1 c => by
    have c' := of_decide_eq_true c
    have hWw := hw.W w w0 w1
    have b1 := dg_lt (v := 1) k0 (by omega) k1 hWw.2.1.1 hWw.2.1.2 c'.2.1 (by decide)
    have b2 := dg_lt (v := 2) k0 (by omega) k1 hWw.2.1.1 hWw.2.1.2 c'.2.1 (by decide)
    have hsp := lk_split (u := wtG G) (nd := (G 0 3)) k0 (by omega) hWw.2.1.1 (by omega) c'.2.1
    have hsp' : lkG G k = lkG G (k + thr_ (G 7 w)) + lkG G (k + 2 * thr_ (G 7 w)) := hsp
    have e1 : k + 1 * thr_ (G 7 w) = k + thr_ (G 7 w) := by omega
    rw [e1] at b1
    have r1 := BL_rng hw _ (hh - G 8 w) p b1.1 b1.2 (by omega) (by omega) p0 p1
    have r2 := BL_rng hw _ (hh - G 8 w) p b2.1 b2.2 (by omega) (by omega) p0 p1
    unfold blw
    omega
  have rgw : ∀ n : Nat, n ≤ (G 0 5) → 0 ≤ mxg (blW G k p hh) (blw G (BL G) k p hh) n ∧ mxg (blW G k p hh) (blw G (BL G) k p hh) n ≤ lkG G k := fun n hn2 => mxg_rng hlr.1 n (fun i i0 i1 c => (vB i i0 (by omega) c).2)
  have mx0 : ∀ x : Int, 0 ≤ x → max_ x 0 = x := fun x hx => by unfold max_; rw [if_neg (by omega)]
  generalize hB : mxg (blG G k p hh) (blg G (BL G) k p hh) ((G 0 0)).toNat = B at *
  have hBr : 0 ≤ B ∧ B ≤ lkG G k := by rw [← hB]; exact rg _ (by omega)
  have mxr : ∀ x y : Int, 0 ≤ x → 0 ≤ y → x ≤ lkG G k → y ≤ lkG G k → 0 ≤ max_ x y ∧ max_ x y ≤ lkG G k := fun x y _ _ _ _ => by unfold max_; split <;> omega
  have l99 : ∀ (m : Nat) (x4 x5 : Int) (d6 d7 d8 : aL), 0 ≤ x5 → x5 ≤ (G 0 5) → ((G 0 5) - x5).toNat = m → x4 = max_ B (mxg (blW G k p hh) (blw G (BL G) k p hh) x5.toNat) → Xs 251 (99, [some (some (vR 86)), some (some (vI p)), some (some (vI k)), some (some (vI hh)), some (some (vI x4)), some (some (vI x5)), d6, d7, d8], [], (M, W)) (QI Q) := by
    intro m
    induction m with
    | zero =>
      intro x4 x5 d6 d7 d8 a0 a1 hm hx
      have e5 : x5 = (G 0 5) := by omega
      refine k_X12_bestInTime_99 _ _ _ _ _ _ _ _ _ _ _ ?_
      rw [hG.N.2.2.2.2.1]
      refine ⟨by omega, fun _ => ?_, fun hlt => by omega⟩
      rw [hx, e5, ← e]; exact h
    | succ m ih =>
      intro x4 x5 d6 d7 d8 a0 a1 hm hx
      have hWw := hw.W x5 a0 (by omega)
      have hw96 := hG.w96 a0 (show x5 < (G 0 5) by omega)
      have hmw := rgw x5.toNat (by omega)
      have hxr := mxr B _ hBr.1 hmw.1 hBr.2 hmw.2
      rw [← hx] at hxr
      have skip : ∀ d6 d7 d8 : aL, ¬ (blW G k p hh x5 = true) → Xs 251 (99, [some (some (vR 86)), some (some (vI p)), some (some (vI k)), some (some (vI hh)), some (some (vI x4)), some (some (vI (x5 + 1))), d6, d7, d8], [], (M, W)) (QI Q) := fun d6 d7 d8 hno => ih _ _ _ _ _ (by omega) (by omega) (by omega) (by rw [mxg_S _ _ a0, if_neg hno]; exact hx)
      have l145 : blW G k p hh x5 = true → ∀ (n : Nat) (x6 x7 : Int) (d8 : aL), 1 ≤ x7 → x7 ≤ 3 → (3 - x7).toNat = n → x6 = (if 1 < x7 then BL G (k + thr_ (G 7 x5)) p (hh - G 8 x5) else 0) + (if 2 < x7 then BL G (k + 2 * thr_ (G 7 x5)) p (hh - G 8 x5) else 0) → Xs 251 (145, [some (some (vR 86)), some (some (vI p)), some (some (vI k)), some (some (vI hh)), some (some (vI x4)), some (some (vI x5)), some (some (vI x6)), some (some (vI x7)), d8], [], (M, W)) (QI Q) := by
        intro hc n
        have c' := of_decide_eq_true hc
        have hv := vB x5 a0 (by omega) hc
        induction n with
        | zero =>
          intro x6 x7 d8 b0 b1 hnm hx6
          have e7 : x7 = 3 := by omega
          rw [e7, if_pos (by decide), if_pos (by decide)] at hx6
          have e6 : x6 = blw G (BL G) k p hh x5 := hx6
          refine k_X12_bestInTime_145 _ _ _ _ _ _ _ _ _ _ _ ?_
          refine ⟨by omega, fun _ => ⟨by omega, fun hle => ih _ _ _ _ _ (by omega) (by omega) (by omega) ?_, fun hgt => ih _ _ _ _ _ (by omega) (by omega) (by omega) ?_⟩, fun hlt => by omega⟩
          · rw [mxg_S _ _ a0, if_pos hc, ← max_a, ← hx, ← e6]
            unfold max_; rw [if_neg (by omega)]
          · rw [mxg_S _ _ a0, if_pos hc, ← max_a, ← hx, ← e6]
            unfold max_; rw [if_pos (by omega)]
        | succ n ih2 =>
          intro x6 x7 d8 b0 b1 hnm hx6
          have hb := dg_lt (v := x7) k0 (by omega) k1 hWw.2.1.1 hWw.2.1.2 c'.2.1 (by omega)
          have hub := unk_add hw k0 k1 hWw.2.1.1 hWw.2.1.2 c'.2.1 (v := x7) (by omega) (by omega)
          have hlk := lkG_rng hw (k + x7 * thr_ (G 7 x5))
          have hfm : fm_ (k + x7 * thr_ (G 7 x5)) ((G 5 p)) < 0 := seen_le hw k0 k1 hWw.2.1.1 hWw.2.1.2 c'.2.1 (by omega) (by omega) hs
          have nx : ∀ (y : Int) (d8 : aL), y = x6 + BL G (k + x7 * thr_ (G 7 x5)) p (hh - G 8 x5) → Xs 251 (145, [some (some (vR 86)), some (some (vI p)), some (some (vI k)), some (some (vI hh)), some (some (vI x4)), some (some (vI x5)), some (some (vI y)), some (some (vI (x7 + 1))), d8], [], (M, W)) (QI Q) := fun y d8 hy => by
            refine ih2 _ _ _ (by omega) (by omega) (by omega) ?_
            rw [hy, hx6]
            rcases (show x7 = 1 ∨ x7 = 2 by omega) with q | q
            · rw [q, if_neg (by decide), if_neg (by decide), if_pos (by decide), if_neg (by decide), show k + 1 * thr_ (G 7 x5) = k + thr_ (G 7 x5) by omega]; omega
            · rw [q, if_pos (by decide), if_neg (by decide), if_pos (by decide), if_pos (by decide)]; omega
          refine k_X12_bestInTime_145 _ _ _ _ _ _ _ _ _ _ _ ?_
          rw [hw96.2.1, hG.D3 _ hWw.2.1.1 (by omega), hw96.2.2]
          refine ⟨by omega, fun hge => by omega, fun _ => ⟨by omega, by omega, fun v ev => ?_⟩⟩
          rw [ev, hW.2 _ hb.1 hb.2]
          refine ⟨by omega, by omega, fun hle => nx _ _ ?_, fun hgt => ⟨by omega, by omega, fun v2 ev2 => nx _ _ ?_⟩⟩
          · rw [BL_no hw hb.1 hb.2 (by omega) (by omega) p0 p1 hle]; omega
          · rw [ev2, hT _ (hh - G 8 x5) hb.1 hb.2 (by omega) (by omega) (by omega) (Or.inl hub) p p0 p1 hfm]
      refine k_X12_bestInTime_99 _ _ _ _ _ _ _ _ _ _ _ ?_
      rw [hG.N.2.2.2.2.1]
      refine ⟨by omega, fun hge => by omega, fun _ => s_X12_isSold hG a0 (by omega) (by omega) k0 (by omega) (fun c1 c2 => ⟨by decide, fun y => absurd y (by decide), fun _ => ?_⟩) (fun hno => ⟨by decide, fun _ => skip _ _ _ (fun a => ?_), fun y => absurd rfl y⟩)⟩
      · rw [hw96.2.2]
        refine ⟨by omega, by omega, fun hle => l145 (decide_eq_true ⟨c1, c2, hle⟩) 2 0 1 _ (by decide) (by decide) rfl ?_, fun hgt => skip _ _ _ (fun a => ?_)⟩
        · rw [if_neg (by decide), if_neg (by decide)]; rfl
        · have := of_decide_eq_true a; omega
      · have := of_decide_eq_true a; exact hno ⟨this.1, this.2.1⟩
  have l6 : ∀ (m : Nat) (x4 x5 : Int) (d6 d7 d8 : aL), 0 ≤ x5 → x5 ≤ (G 0 0) → ((G 0 0) - x5).toNat = m → x4 = mxg (blG G k p hh) (blg G (BL G) k p hh) x5.toNat → Xs 251 (6, [some (some (vR 86)), some (some (vI p)), some (some (vI k)), some (some (vI hh)), some (some (vI x4)), some (some (vI x5)), d6, d7, d8], [], (M, W)) (QI Q) := by
    intro m
    induction m with
    | zero =>
      intro x4 x5 d6 d7 d8 a0 a1 hm hx
      have e5 : x5 = (G 0 0) := by omega
      refine k_X12_bestInTime_6 _ _ _ _ _ _ _ _ _ _ _ ?_
      refine s_X12_places hG ⟨by omega, fun _ => l99 _ _ 0 _ _ _ (by decide) (by omega) rfl ?_, fun hlt => by omega⟩
      rw [hx, e5, hB]
      exact (mx0 B hBr.1).symm
    | succ m ih =>
      intro x4 x5 d6 d7 d8 a0 a1 hm hx
      have hxr := rg x5.toNat (by omega)
      rw [← hx] at hxr
      have hpr := pasB_rng hw (p := p) (q := x5) (op := opn k) (sh := sht k) p0 (by omega) a0 (by omega)
      have hbr := pasB_hr hw (p := p) (q := x5) (op := opn k) (sh := sht k) p0 (by omega) a0 (by omega)
      have hbl := hw.btw_lt (p := p) (q := x5) p0 (by omega) a0 (by omega)
      have skip : ∀ d6 d7 d8 : aL, ¬ (0 < pas G p x5 k ∧ pas G p x5 k ≤ hh) → Xs 251 (6, [some (some (vR 86)), some (some (vI p)), some (some (vI k)), some (some (vI hh)), some (some (vI x4)), some (some (vI (x5 + 1))), d6, d7, d8], [], (M, W)) (QI Q) := fun d6 d7 d8 hno => ih _ _ _ _ _ (by omega) (by omega) (by omega) (by rw [mxg_S _ _ a0, if_neg (fun a : blG G k p hh x5 = true => hno (of_decide_eq_true a))]; exact hx)
      have hpe : pas G p x5 k = pasB G p x5 (opn k) (sht k) := rfl
      refine k_X12_bestInTime_6 _ _ _ _ _ _ _ _ _ _ _ ?_
      refine s_X12_places hG ⟨by omega, fun hge => by omega, fun _ => ⟨by omega, fun v ev => ?_⟩⟩
      rw [hG.b98 p0 (by omega) a0 (by omega)] at ev
      rw [ev]
      refine ⟨by omega, fun hb => s_X12_hoursOf hG hb (by omega) k0 (by omega) ?_, fun hb => ⟨by decide, fun _ => skip _ _ _ (fun a => ?_), fun y => absurd (by decide) y⟩⟩
      · obtain ⟨hb1, hb2⟩ := hbr.2 hb
        have hhr := hrB_rng hw (op := opn k) (sh := sht k) hb hb1
        refine ⟨by omega, fun hneg => skip _ _ _ (fun a => ?_), fun hnn => ⟨by omega, fun hle => ?_, fun hgt => skip _ _ _ (fun a => ?_)⟩⟩
        · rcases hb2 with c | c <;> omega
        · have eh : hrB G ((G 4 (p * 10 + x5))) (opn k) (sht k) = pas G p x5 k := by rcases hb2 with c | c <;> omega
          rw [eh] at hle ⊢
          have hpp : 0 < pas G p x5 k := by rcases hb2 with c | c <;> omega
          have hP : blG G k p hh x5 = true := decide_eq_true ⟨hpp, hle⟩
          refine s_X12_comesInTime hG hW a0 (by omega) k0 k1 (by omega) (by omega) (hT.ct hw k0 k1 a0 (by omega) (by omega) (by omega) (by omega)) ?_
          have hBr2 := BL_rng hw k (hh - pas G p x5 k) x5 k0 k1 (by omega) (by omega) a0 (by omega)
          refine ⟨by omega, fun hle2 => ih _ _ _ _ _ (by omega) (by omega) (by omega) ?_, fun hgt2 => ih _ _ _ _ _ (by omega) (by omega) (by omega) ?_⟩
          · rw [mxg_S _ _ a0, if_pos hP, ← hx]
            unfold blg max_; rw [if_neg (by omega)]
          · rw [mxg_S _ _ a0, if_pos hP, ← hx]
            unfold blg max_; rw [if_pos (by omega)]
        · rcases hb2 with c | c <;> omega
      · have := hbr.1 (by omega); omega
  refine e_X12_bestInTime _ _ _ _ _ _ ?_
  exact l6 _ 0 0 _ _ _ (by decide) (by omega) rfl rfl
theorem s_X12_layBell {M : aM} {W : aW} {Q : aM → aW → Prop} {G : Lnd} {t k : Int} (hG : rfG G M) (hW : rfW G M) (k0 : 0 ≤ k) (k1 : k < thr_ ((G 0 3))) (hl : 0 < lkG G k) (t0 : 0 ≤ t) (t49 : t < 49) (hT : tbQ G t k 0 M)
    (h : ∀ N, ag 120 120 M N → (∀ j, (∀ h' p, 0 ≤ h' → h' ≤ t → 0 ≤ p → p < (G 0 0) → j ≠ 7290 * h' + 10 * k + p) → N 120 j = M 120 j) → tbQ G t k (t + 1) N → Q N W) : CallV 250 [vR 86, vI k, vI t] (M, W) Q := by
  have hn := hG.n
  have ht := hG.t
  have hw := hG.W
  have hlr := lkG_rng hw k
  have frm : ∀ {hh : Int} {N K : aM}, tbQ G t k hh N → (∀ j, (∀ p, 0 ≤ p → p < (G 0 0) → j ≠ 7290 * hh + 10 * k + p) → K 120 j = N 120 j) → tbQ G t k hh K := fun {hh N K} hq hK => fun k' h' a0 a1 b0 b1 c d p p0 p1 e => by
    rw [hK _ (fun p' q0 q1 z => ?_)]
    · exact hq k' h' a0 a1 b0 b1 c d p p0 p1 e
    · rcases d with d | d
      · have : k' = k := by omega
        rw [this] at d; omega
      · omega
  have l2 : ∀ (m : Nat) (hh : Int) (d4 : aL) (N : aM), 0 ≤ hh → hh ≤ t + 1 → (t + 1 - hh).toNat = m → ag 120 120 M N → (∀ j, (∀ h' p, 0 ≤ h' → h' ≤ t → 0 ≤ p → p < (G 0 0) → j ≠ 7290 * h' + 10 * k + p) → N 120 j = M 120 j) → tbQ G t k hh N → Xs 250 (2, [some (some (vR 86)), some (some (vI k)), some (some (vI t)), some (some (vI hh)), d4], [], (N, W)) (QV Q) := by
    intro m
    induction m with
    | zero =>
      intro hh d4 N a0 a1 hm hag hfr hq
      have e : hh = t + 1 := by omega
      refine k_X12_layBell_2 _ _ _ _ _ _ _ ?_
      refine ⟨by omega, fun _ => h N hag hfr (by rw [← e]; exact hq), fun hle => by omega⟩
    | succ m ih =>
      intro hh d4 N a0 a1 hm hag hfr hq
      have l10 : ∀ (n : Nat) (p : Int) (K : aM), 0 ≤ p → p ≤ (G 0 0) → ((G 0 0) - p).toNat = n → ag 120 120 N K → (∀ j, (∀ p', 0 ≤ p' → p' < (G 0 0) → j ≠ 7290 * hh + 10 * k + p') → K 120 j = N 120 j) → (∀ p', 0 ≤ p' → p' < p → fm_ k ((G 5 p')) < 0 → K 120 (7290 * hh + 10 * k + p') = BL G k p' hh) → Xs 250 (10, [some (some (vR 86)), some (some (vI k)), some (some (vI t)), some (some (vI hh)), some (some (vI p))], [], (K, W)) (QV Q) := by
        intro n
        induction n with
        | zero =>
          intro p K b0 b1 hnm hgK hfK hpK
          have hGK := (hG.ag (ag_tr hag hgK) (by decide))
          refine k_X12_layBell_10 _ _ _ _ _ _ _ ?_
          refine s_X12_places hGK ⟨by omega, fun _ => ih (hh + 1) _ K (by omega) (by omega) (by omega) (ag_tr hag hgK) (fun j hj => ?_) ?_, fun hlt => by omega⟩
          · rw [hfK j (fun p' c0 c1 => hj hh p' a0 (by omega) c0 c1)]; exact hfr j hj
          · intro k' h' c0 c1 e0 e1 c d p' q0 q1 e
            by_cases z : k' = k ∧ h' = hh
            · rw [z.1, z.2]; rw [z.1] at e; exact hpK p' q0 (by omega) e
            · exact frm hq hfK k' h' c0 c1 e0 e1 c (by rcases d with d | d <;> omega) p' q0 q1 e
        | succ n ih2 =>
          intro p K b0 b1 hnm hgK hfK hpK
          have hGK := (hG.ag (ag_tr hag hgK) (by decide))
          have hWK : rfW G K := hW.of (fun b j c => (ag_tr hag hgK) b j (by omega))
          have put : ∀ v, v = BL G k p hh → Xs 250 (10, [some (some (vR 86)), some (some (vI k)), some (some (vI t)), some (some (vI hh)), some (some (vI (p + 1)))], [], (up_ K 120 (7290 * hh + 10 * k + p) v, W)) (QV Q) := fun v ev => by
            refine ih2 (p + 1) _ (by omega) (by omega) (by omega) (ag_tr hgK (ag_up _ (by decide) (by decide))) (fun j hj => ?_) (fun p' c0 c1 hs => ?_)
            · rw [up_j _ _ _ (hj p b0 (by omega))]; exact hfK j hj
            · by_cases e : p' = p
              · rw [e, up_s]; exact ev
              · rw [up_j _ _ _ (show 7290 * hh + 10 * k + p' ≠ 7290 * hh + 10 * k + p by omega)]; exact hpK p' c0 (by omega) hs
          refine k_X12_layBell_10 _ _ _ _ _ _ _ ?_
          refine s_X12_places hGK ⟨by omega, fun hge => by omega, fun _ => s_X12_isSeen hGK b0 (by omega) k0 (by omega) (fun hs => ⟨by decide, fun _ => ?_, fun y => absurd (by decide) y⟩) (fun hs => ⟨by decide, fun y => absurd rfl y, fun _ => ih2 (p + 1) K (by omega) (by omega) (by omega) hgK hfK (fun p' c0 c1 hs2 => ?_)⟩)⟩
          · rw [hGK.N.2.2.2.2.2.2]
            refine ⟨by omega, fun hne => s_X12_bestInTime (t := t) hGK hWK b0 (by omega) hne k0 k1 hl (seen_fm.mpr hs) a0 (by omega) t49 (frm hq hfK) ⟨by omega, put _ rfl⟩, fun heq => ⟨by omega, by omega, ?_⟩⟩
            rw [hWK.2 k k0 k1]
            exact put _ (BL_gol hw k0 k1 a0 (by omega) b0 (by omega) (Classical.byContradiction heq)).symm
          · by_cases e : p' = p
            · rw [e] at hs2; exact absurd (seen_fm.mp hs2) hs
            · exact hpK p' c0 (by omega) hs2
      refine k_X12_layBell_2 _ _ _ _ _ _ _ ?_
      exact ⟨by omega, fun hgt => by omega, fun _ => l10 _ 0 N (by decide) (by omega) rfl (ag_refl _ _ _) (fun j _ => rfl) (fun p' c0 c1 => by omega)⟩
  refine e_X12_layBell _ _ _ _ _ ?_
  exact l2 _ 0 _ M (by decide) (by omega) rfl (ag_refl _ _ _) (fun j _ => rfl) hT
theorem r_bell {Q : Int → aM → aW → Prop} {M : aM} {W : aW} {G : Lnd} {D : Int → Int → Int} {on w n tn fk fp : Int} {wp wh wk tp : Int → Int} {t : Int} (h : rfS G D on w n wp wh wk tn tp fk fp M) (hi : inI t) (k : ∀ N, frK M N → rfS G D on w n wp wh wk tn tp fk fp N → Q (aBell G t) N W) : CallL 249 [vR 86, vI t] (M, W) Q := by
  have kk := k _ (frK_thr M 0) h.thr
  have h2 := h.thr (v := 0)
  have hw := h2.G.W
  have hn := h2.G.n
  have ht := h2.G.t
  have fr := frK_thr M 0
  unfold aBell at k kk
  refine e_X12_bell _ _ _ _ ?_
  generalize up_ M 86 2 0 = M1 at *
  have l28 : 0 ≤ t → t ≤ 48 → 0 ≤ (G 0 6) → 0 ≤ (G 0 7) → ∀ (m : Nat) (x : Int) (N : aM), 0 ≤ x → x ≤ thr_ ((G 0 3)) → (thr_ ((G 0 3)) - x).toNat = m → ag 120 120 M1 N → (∀ k', 0 ≤ k' → k' < thr_ ((G 0 3)) → 0 < lkG G k' → dnT N x k' → ∀ h' p, 0 ≤ h' → h' ≤ t → 0 ≤ p → p < (G 0 0) → fm_ k' ((G 5 p)) < 0 → N 120 (7290 * h' + 10 * k' + p) = BL G k' p h') → Xs 249 (28, [some (some (vR 86)), some (some (vI t)), some (some (vI x))], [], (N, W)) (QL Q) := by
    intro t0 t48 hs hg m
    rw [if_pos ⟨t0, t48, hs, hg⟩] at k
    induction m with
    | zero =>
      intro x N x0 x1 hm hag hd
      have hGN := h2.G.ag hag (by decide)
      have hWN : rfW G N := h2.Wt.of (fun b j c => hag b j (by omega))
      have e : x = thr_ ((G 0 3)) := by omega
      rw [e] at hd
      refine k_X12_bell_28 _ _ _ _ _ ?_
      rw [hGN.o23, hGN.N.2.2.2.2.2.1]
      have hsn := hw.S.1 ((G 0 6)) hs (by omega)
      refine ⟨by omega, fun _ => s_X12_comesInTime hGN hWN hs (by omega) (by decide) (by omega) t0 (by omega) (fun w w0 w1 hl => ?_) ?_, fun hlt => by omega⟩
      · have hll := lrn_lt hw (w := w) (k := 0) (by decide) (by omega) hsn.1 hsn.2
        exact hd _ (lrn_rng _ _ _).1 hll hl (dnT_all hGN.T (lrn_rng _ _ _).1 hll) t ((G 0 6)) t0 (Int.le_refl _) hs (by omega) lrn_fm
      · have hb := BL_rng hw 0 t ((G 0 6)) (by decide) (by omega) t0 (by omega) hs (by omega)
        have hlr := lkG_rng hw 0
        exact ⟨by omega, k N (frK_tr fr (fun b j c => hag b j (by omega))) (h2.sc (fun b j c => hag b j (by unfold scR at c; omega)))⟩
    | succ m ih =>
      intro x N x0 x1 hm hag hd
      have hGN := h2.G.ag hag (by decide)
      have hWN : rfW G N := h2.Wt.of (fun b j c => hag b j (by omega))
      have hvr := hGN.T.1 x x0 (by omega)
      have hno := dnT_no hGN.T (show x < thr_ ((G 0 3)) by omega)
      have hlt' := fun k' a b c => dnT_lt hGN.T x0 (show x < thr_ ((G 0 3)) by omega) (k := k') a b c
      have hsp : ∀ k', dnT N (x + 1) k' → dnT N x k' ∨ k' = N 100 x := fun k' q => dnT_s q
      refine k_X12_bell_28 _ _ _ _ _ ?_
      rw [hGN.o23]
      generalize hv : N 100 x = v at hvr hno hlt' hsp
      rw [hWN.2 v hvr.1 hvr.2]
      have hlr := lkG_rng hw v
      refine ⟨by omega, fun hge => by omega, fun _ => ⟨by omega, by omega, by omega, fun hle => ih (x + 1) N (by omega) (by omega) (by omega) hag (fun k' a0 a1 hl hdn => ?_), fun hgt => ⟨by omega, ?_⟩⟩⟩
      · rcases hsp k' hdn with c | c
        · exact hd k' a0 a1 hl c
        · rw [c] at hl; omega
      · refine s_X12_layBell hGN hWN hvr.1 hvr.2 (by omega) t0 (by omega) (fun k' h' a0 a1 b0 b1 hl hor p p0 p1 hs2 => ?_) (fun K hgK hfK hqK => ih (x + 1) K (by omega) (by omega) (by omega) (ag_tr hag hgK) (fun k' a0 a1 hl hdn h' p b0 b1 p0 p1 hs2 => ?_))
        · rcases hor with c | c
          · exact hd k' a0 a1 hl (hlt' k' a0 a1 c) h' p b0 b1 p0 p1 hs2
          · omega
        · have e100 : ∀ j, K 100 j = N 100 j := fun j => hgK 100 j (by omega)
          by_cases c : k' = v
          · exact hqK k' h' a0 a1 b0 b1 hl (Or.inr ⟨c, by omega⟩) p p0 p1 hs2
          · rcases hsp k' (hdn.of e100) with q | q
            · rw [hfK _ (fun h'' p'' c0 c1 c2 c3 z => by omega)]
              exact hd k' a0 a1 hl q h' p b0 b1 p0 p1 hs2
            · exact absurd q c
  refine s_X12_isIn hi (by decide) (by decide) (fun r hr => ⟨by omega, fun q => ?_, fun q => s_X12_hasEnds h2.G (fun r2 hr2 => ⟨by omega, fun q2 => l28 (by omega) (by omega) (by omega) (by omega) _ 0 M1 (by decide) (by omega) rfl (ag_refl _ _ _) (fun k' a0 a1 hl hdn => absurd hdn dnT_0), fun q2 => ?_⟩)⟩)
  · rw [if_neg (by omega)] at kk; exact kk
  · rw [if_neg (by omega)] at kk; exact kk
