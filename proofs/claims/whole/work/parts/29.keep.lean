/-! ADVICE: a road kept open, where a chance turns the plan -/
def uO (G : Lnd) (u : Int → Int) : Prop := (∀ w, 0 ≤ w → w < p2_ ((G 0 3)) → 0 ≤ u w) ∧ su_ u (p2_ ((G 0 3))).toNat ≤ 20000000000
theorem uO_lik {G : Lnd} (hw : WF G) {u : Int → Int} (hu : uO G u) : likO G (lk u ((G 0 3))) := by
  have hN := hw.N; unfold wfN at hN
  have ht := thrG hw
  exact ⟨fun k _ _ => ⟨lk_nn hu.1 k, Int.le_trans (lk_le hu.1 k) hu.2⟩, fun k d k0 k1 d0 d1 hd => lk_split k0 (by omega) d0 (by omega) hd⟩
theorem uO_wt {G : Lnd} (hw : WF G) {o od : Int} (ho : 0 ≤ od ∧ od ≤ 10) : uO G (wt G o od) := ⟨fun w _ _ => wt_nn hw ho w, Int.le_trans (wt_sum hw ho) (by decide)⟩
theorem uO_kp {G : Lnd} (hw : WF G) {r : Int} (r0 : 0 ≤ r) (r1 : r < (G 0 3)) : uO G (kpW (wtG G) r) := by
  have hN := hw.N; unfold wfN at hN
  have h64 := p2_lt64 hw
  have hb : ∀ w, 0 ≤ w → w < p2_ ((G 0 3)) → 0 ≤ kpW (wtG G) r w ∧ kpW (wtG G) r w ≤ 1 * 200000000 := fun w w0 w1 => by
    unfold kpW
    by_cases hbt : bt w r = 1
    · rw [if_pos hbt]; omega
    · rw [if_neg hbt]
      have hf := (bt_flip (show 0 ≤ (G 0 3) by omega) (by omega) w0 w1 r0 r1).1 (by have := bt_cs w r; omega)
      have a1 := wtG_le hw w0 w1
      have hp := p2_lt hw r0 r1
      have a2 := wtG_le hw (show 0 ≤ w + p2_ r by omega) hf.1
      have a3 := wtG_nn hw w; have a4 := wtG_nn hw (w + p2_ r)
      omega
  refine ⟨fun w w0 w1 => (hb w w0 w1).1, ?_⟩
  have hle := su_le (f := kpW (wtG G) r) (g := fun _ => 1 * 200000000) (p2_ ((G 0 3))).toNat (fun w w0 w1 => (hb w w0 (by omega)).2)
  rw [su_mul] at hle
  have hone : ∀ n : Nat, su_ (fun _ => 1) n = n := by
    intro n; induction n with
    | zero => rfl
    | succ n ih => show su_ (fun _ => 1) n + 1 = ((n + 1 : Nat) : Int); rw [ih]; omega
  rw [hone] at hle
  omega
theorem dg0 {i : Int} (i0 : 0 ≤ i) (i6 : i < 6) : dg 0 i = 0 := by rcases six_ i0 i6 with e | e | e | e | e | e <;> rw [e] <;> decide
/-- LIKELY of nothing known -/
theorem lk_0 {G : Lnd} {u : Int → Int} : lk u ((G 0 3)) 0 = su_ u (p2_ ((G 0 3))).toNat := by
  unfold lk
  refine su_congr _ (fun w _ _ => if_pos ?_)
  rw [agB_iff]; exact fun i i0 i6 => Or.inl (dg0 i0 i6)
theorem kp_pos {G : Lnd} (hw : WF G) {r : Int} (r0 : 0 ≤ r) (r1 : r < (G 0 3)) : 0 < lk (kpW (wtG G) r) ((G 0 3)) 0 := by
  have hN := hw.N; unfold wfN at hN
  have h64 := p2_lt64 hw
  have hp2 := p2_lt hw r0 r1
  have hu := uO_kp hw r0 r1
  have hp := wt_pos hw (o := -1) (od := 0) (by decide)
  obtain ⟨w, a, b, c⟩ := su_pos _ (fun i _ _ => wtG_nn hw i) hp
  have hf := bt_flip (show 0 ≤ (G 0 3) by omega) (by omega) a (show w < p2_ ((G 0 3)) by omega) r0 r1
  rw [lk_0]
  rcases bt_cs w r with hb | hb
  · have h1 := su_ge (f := kpW (wtG G) r) (p2_ ((G 0 3))).toNat w (fun i i0 i1 => hu.1 i i0 (by omega)) a b
    have h2 := wtG_nn hw (w + p2_ r)
    have h3 : 0 < wtG G w := c
    have e : kpW (wtG G) r w = wtG G w + wtG G (w + p2_ r) := by unfold kpW; rw [if_neg (by omega)]
    omega
  · have hf2 := hf.2 hb
    have h1 := su_ge (f := kpW (wtG G) r) (p2_ ((G 0 3))).toNat (w - p2_ r) (fun i i0 i1 => hu.1 i i0 (by omega)) hf2.1 (by omega)
    have h2 := wtG_nn hw (w - p2_ r)
    have h3 : 0 < wtG G w := c
    have e : kpW (wtG G) r (w - p2_ r) = wtG G (w - p2_ r) + wtG G w := by unfold kpW; rw [if_neg (by omega), show w - p2_ r + p2_ r = w by omega]
    omega
theorem s_X0_solveTrial {M : aM} {W : aW} {Q : aM → aW → Prop} {G : Lnd} {c : Int} {u : Int → Int} (hk : cty c) (hG : clG c G M) (hw : WF G) (hc : cdM M) (m7 : M 65 7 = c) (m69 : ∀ k, 0 ≤ k → k < 729 → M 69 k = 0) (hu : uO G u) (hm : ∀ w, 0 ≤ w → w < p2_ ((G 0 3)) → M 67 w = u w)
    (h : ∀ N, ag 68 76 M N → (∀ b j, 69 ≤ b → b ≤ 72 → N b j = M b j) → (∀ k, 0 ≤ k → k < thr_ ((G 0 3)) → N 68 k = lk u ((G 0 3)) k) → slM 73 G 1 (lk u ((G 0 3))) (fun _ => 0) N → Q N W) : CallV 7 [vR 65] (M, W) Q := by
  have ht := thrG hw
  refine e_X0_solveTrial _ _ _ ?_
  rw [m7]
  refine s_X6_sumUp (u := u) hk hG hw hc (Or.inr rfl) hm (fun N hN hlk => ?_)
  rw [hN 65 7 (by omega), m7]
  refine s_X9_solve (lik := lk u ((G 0 3))) (en := fun _ => 0) (Or.inr (Or.inr (Or.inr rfl))) (Or.inr rfl) hk (hG.ag hk hN (by omega)) hw (hc.ag hN (by omega)) (uO_lik hw hu) (Or.inr rfl) hlk (Or.inr rfl) (fun k k0 k1 _ => by rw [hN 69 k (by omega)]; exact m69 k k0 (by omega)) (fun k k0 k1 hl => by unfold eB; rw [if_neg (by decide)]; exact ⟨(show -(0 : Int) ≤ 0 by decide), Int.le_refl _⟩) (fun L hL hsv hsl => ?_)
  exact h L (ag_tr (ag_wk hN (by decide) (by decide)) (ag_wk hL (by decide) (by decide))) (fun b j q0 q1 => by rw [hL b j (by omega), hN b j (by omega)]) (fun k k0 k1 => hsv.2.2.2.2 k k0 k1) hsl
noncomputable def kpF (G : Lnd) (r : Int) : Int := tolV (VV G 1 (lk (kpW (wtG G) r) ((G 0 3))) (fun _ => 0) 0 ((G 0 6)))
/-- the advice's own rows -/
def adF (M N : aM) : Prop := ∀ b j, ¬ (66 ≤ b ∧ b ≤ 68) → b ≠ 70 → b ≠ 71 → ¬ (73 ≤ b ∧ b ≤ 76) → N b j = M b j
theorem adF.P {c : Int} {G : Lnd} {M N : aM} (h : adF M N) (hP : clP c G M) : clP c G N := hP.of (fun b j hb => h b j (by unfold inP at hb; omega) (by unfold inP at hb; omega) (by unfold inP at hb; omega) (by unfold inP at hb; omega))
theorem s_X0_keptOpen {M : aM} {W : aW} {Q : Int → aM → aW → Prop} {G : Lnd} {c r : Int} (hP : clP c G M) (m7 : M 65 7 = c) (m69 : ∀ k, 0 ≤ k → k < 729 → M 69 k = 0) (hs : 0 ≤ (G 0 6)) (r0 : 0 ≤ r) (r1 : r < (G 0 3)) (hca : M 70 r = -9 ∨ M 70 r = kpF G r)
    (h : ∀ N, adF M N → N 70 r = kpF G r → (∀ j, j ≠ r → N 70 j = M 70 j) → (∀ j, N 71 j = M 71 j) → Q (kpF G r) N W) : CallL 5 [vR 65, vI r] (M, W) Q := by
  obtain ⟨hk, hG, hw, hc, m2, m38, m39, -⟩ := hP
  have hN := hw.N; unfold wfN at hN
  have ht := thrG hw
  have hu := uO_kp hw r0 r1
  have hlik := uO_lik hw hu
  have hv := VB_rng hw hlik (k := 0) (p := (G 0 6)) (by decide) (by omega) (kp_pos hw r0 r1) hs (by omega)
  have hkr : inL (kpF G r) := by unfold kpF; omega
  refine e_X0_keptOpen _ _ _ _ ?_
  refine ⟨by omega, ⟨by rcases hca with e | e <;> rw [e] <;> first | decide | exact hkr, by decide⟩, fun hne => ⟨by omega, ?_⟩, fun he => ?_⟩
  · rcases hca with e | e
    · exact absurd e hne
    · rw [e]; exact h M (fun _ _ _ _ _ _ => rfl) e (fun _ _ => rfl) (fun _ => rfl)
  · rw [m7]
    refine s_X6_weigh hk hG hw (Or.inr rfl) (by decide) (by decide) (fun N hN1 hwt => ?_)
    rw [hN1 65 7 (by omega), m7]
    have hG1 := hG.ag hk hN1 (by omega)
    have hc1 := hc.ag hN1 (by omega)
    refine s_X6_keepOpen (u := wtG G) hk hG1 hw (Or.inr rfl) r0 r1 hwt (fun K hK hkp => ?_)
    have hG2 := hG1.ag hk hK (by omega)
    have hc2 := hc1.ag hK (by omega)
    refine s_X0_solveTrial (u := kpW (wtG G) r) hk hG2 hw hc2 (by rw [hK _ _ (by omega), hN1 _ _ (by omega)]; exact m7) (fun k k0 k1 => by rw [hK _ _ (by omega), hN1 _ _ (by omega)]; exact m69 k k0 k1) hu hkp (fun L hL hL2 _ hsl => ?_)
    have hLM : adF M L := fun b j q1 q2 q3 q4 => by
      by_cases hb : 69 ≤ b ∧ b ≤ 72
      · rw [hL2 b j hb.1 hb.2, hK b j (by omega), hN1 b j (by omega)]
      · rw [hL b j (by omega), hK b j (by omega), hN1 b j (by omega)]
    have hvv := (hsl 0 (by decide) (by omega) (kp_pos hw r0 r1) ((G 0 6)) hs (by omega)).1
    have e7 : L 65 7 = c := by rw [hLM 65 7 (by decide) (by decide) (by decide) (by decide)]; exact m7
    rw [e7, show L c 6 = (G 0 6) by rw [hL c 6 (by have := ct_rng hk; omega)]; exact hG2.1 6]
    refine ⟨ct_o hk, s_X9_meanFrom (Or.inr (Or.inr (Or.inr rfl))) (by decide) (by decide) hs (by omega) (by rw [hvv]; omega) ⟨by omega, by omega, ?_⟩⟩
    rw [up_s, hvv]
    refine h _ (fun b j q1 q2 q3 q4 => by rw [up_b _ _ _ _ q2]; exact hLM b j q1 q2 q3 q4) (up_s _ _ _ _) (fun j hj => ?_) (fun j => ?_)
    · rw [up_j _ _ _ hj, hL2 70 j (by decide) (by decide), hK 70 j (by omega), hN1 70 j (by omega)]
    · rw [up_b _ _ _ _ (by decide), hL2 71 j (by decide) (by decide), hK 71 j (by omega), hN1 71 j (by omega)]
-- EDGE
noncomputable def aoB (G : Lnd) (lik : Int → Int) (w : Int) : Bool := decide (0 < lkG G (tld ((G 5 ((G 0 6)))) w)) && decide (0 < lik (tld ((G 5 ((G 0 6)))) w)) && decide (AA G 1 (lkG G) (fun _ => 0) (tld ((G 5 ((G 0 6)))) w) ((G 0 6)) ≠ AA G 1 lik (fun _ => 0) (tld ((G 5 ((G 0 6)))) w) ((G 0 6)))
noncomputable def aoF (G : Lnd) (lik : Int → Int) : Bool := decide (0 ≤ fst_ (aoB G lik) ((G 5 ((G 0 6))) + 1).toNat)
theorem AA_rng {G : Lnd} (hw : WF G) {sm : Int} {lik en : Int → Int} {k p : Int} (p0 : 0 ≤ p) (p1 : p < (G 0 0)) : -2 ≤ AA G sm lik en k p ∧ AA G sm lik en k p < 200 := by
  have hN := hw.N; unfold wfN at hN
  rcases actS_ok (G := G) hw (sm := sm) (lik := lik) (v := VV G sm lik en) (k := k) p0 p1 with e | ⟨a, b, -⟩ | ⟨a, b, -⟩ <;> unfold AA <;> omega
theorem s_X0_actsOtherwise {M : aM} {W : aW} {Q : Int → aM → aW → Prop} {G : Lnd} {c : Int} {lik : Int → Int} (hP : clP c G M) (m7 : M 65 7 = c) (hB : bestM G M) (hs : 0 ≤ (G 0 6)) (hl : likO G lik) (hl68 : ∀ k, 0 ≤ k → k < thr_ ((G 0 3)) → M 68 k = lik k) (hT : slM 73 G 1 lik (fun _ => 0) M)
    (h : ∀ r, (r = 1 ∧ aoF G lik = true) ∨ (r = 0 ∧ aoF G lik = false) → Q r M W) : CallI 8 [vR 65] (M, W) Q := by
  obtain ⟨hk, hG, hw, hc, m2, m38, m39, -⟩ := hP
  have hN := hw.N; unfold wfN at hN
  have h64 := p2_lt64 hw
  have ht := thrG hw
  have hsn := hw.S.1 ((G 0 6)) hs (by omega)
  have key : ∀ (n : Nat) (x2 : Int) (d3 : aL), 0 ≤ x2 → x2 ≤ (G 5 ((G 0 6))) + 1 → ((G 5 ((G 0 6))) + 1 - x2).toNat = n → (∀ w, 0 ≤ w → w < x2 → aoB G lik w = false) → Xs 8 (18, [some (some (vR 65)), some (some (vI ((G 5 ((G 0 6)))))), some (some (vI x2)), d3], [], (M, W)) (QI Q) := by
    intro n; induction n using Nat.strongRecOn with
    | _ n ih =>
      intro x2 d3 h0 h1 hn hi
      refine k_X0_actsOtherwise_18 _ _ _ _ _ _ ?_
      refine ⟨by omega, fun hgt => ?_, fun hle => ?_⟩
      · refine h 0 (Or.inr ⟨rfl, ?_⟩)
        unfold aoF; rw [fst_no _ (fun w a b => hi w a (by omega))]; rfl
      · have skip : ∀ d3 : aL, aoB G lik x2 = false → Xs 8 (18, [some (some (vR 65)), some (some (vI ((G 5 ((G 0 6)))))), some (some (vI (x2 + 1))), d3], [], (M, W)) (QI Q) := fun d3 hf => ih ((G 5 ((G 0 6))) + 1 - (x2 + 1)).toNat (by omega) (x2 + 1) _ (by omega) (by omega) rfl (fun w w0 w1 => by
          by_cases he : w = x2
          · rw [he]; exact hf
          · exact hi w w0 (by omega))
        have htl := tld_lt hw (w := x2) hsn.1 hsn.2
        have htr := tld_rng ((G 5 ((G 0 6)))) x2
        have hlr := lkG_rng hw (tld ((G 5 ((G 0 6)))) x2)
        have hlr2 := hl.1 _ htr.1 htl
        refine s_X2_told hc hsn.1 (by omega) h0 (by omega) ?_
        rw [m39 _ htr.1 htl, hl68 _ htr.1 htl, m7, hG.1]
        refine ⟨by omega, by omega, fun hz => skip _ (by unfold aoB; rw [decide_eq_false (show ¬ 0 < lkG G (tld ((G 5 ((G 0 6)))) x2) by omega)]; rfl), fun hp => ⟨by omega, by omega, fun hz2 => skip _ (by unfold aoB; rw [decide_eq_false (show ¬ 0 < lik (tld ((G 5 ((G 0 6)))) x2) by omega), Bool.and_false]; rfl), fun hp2 => ⟨ct_o hk, ?_⟩⟩⟩
        have v1 := (hB _ htr.1 htl (by omega) ((G 0 6)) hs (by omega)).2
        have v2 := (hT _ htr.1 htl (by omega) ((G 0 6)) hs (by omega)).2
        have g1 := AA_rng hw (sm := 1) (lik := lkG G) (en := fun _ => 0) (k := tld ((G 5 ((G 0 6)))) x2) hs (show (G 0 6) < (G 0 0) by omega)
        have g2 := AA_rng hw (sm := 1) (lik := lik) (en := fun _ => 0) (k := tld ((G 5 ((G 0 6)))) x2) hs (show (G 0 6) < (G 0 0) by omega)
        refine s_X9_act (Or.inl rfl) htr.1 (by omega) hs (by omega) ?_
        rw [m7, hG.1, v1]
        refine ⟨ct_o hk, s_X9_act (Or.inr (Or.inr (Or.inr rfl))) htr.1 (by omega) hs (by omega) ?_⟩
        rw [v2]
        refine ⟨by omega, fun he => skip _ (by unfold aoB; rw [decide_eq_false (show ¬ (AA G 1 (lkG G) (fun _ => 0) (tld ((G 5 ((G 0 6)))) x2) ((G 0 6)) ≠ AA G 1 lik (fun _ => 0) (tld ((G 5 ((G 0 6)))) x2) ((G 0 6))) from fun q => q he), Bool.and_false]), fun hne => h 1 (Or.inl ⟨rfl, ?_⟩)⟩
        unfold aoF
        rw [fst_eq (x := x2) _ h0 (by omega) (by unfold aoB; rw [decide_eq_true (show 0 < lkG G (tld ((G 5 ((G 0 6)))) x2) by omega), decide_eq_true (show 0 < lik (tld ((G 5 ((G 0 6)))) x2) by omega), decide_eq_true (show AA G 1 (lkG G) (fun _ => 0) (tld ((G 5 ((G 0 6)))) x2) ((G 0 6)) ≠ AA G 1 lik (fun _ => 0) (tld ((G 5 ((G 0 6)))) x2) ((G 0 6)) from hne)]; rfl) hi]
        exact decide_eq_true h0
  refine e_X0_actsOtherwise _ _ _ ?_
  rw [m7, hG.1]
  refine ⟨ct_o hk, ct_o hk, ⟨ct_a5 hk, hs, by rw [ct_l5 hk]; omega⟩, fun v hv => ?_⟩
  rw [hv, hG.2.2.2.2.2.1]
  exact key _ 0 _ (by omega) (by omega) rfl (fun w a b => by omega)
noncomputable def egB (G : Lnd) (r d0 i : Int) : Bool := aoF G (lk (wt G r (d0 + 1 + i)) ((G 0 3)))
noncomputable def egF (G : Lnd) (r : Int) : Int := if 0 ≤ fst_ (egB G r ((G 2 ((G 3 r) * 7 + 3)))) (10 - (G 2 ((G 3 r) * 7 + 3))).toNat then (G 2 ((G 3 r) * 7 + 3)) + 1 + fst_ (egB G r ((G 2 ((G 3 r) * 7 + 3)))) (10 - (G 2 ((G 3 r) * 7 + 3))).toNat else 11
theorem s_X0_edgeOf {M : aM} {W : aW} {Q : Int → aM → aW → Prop} {G : Lnd} {c r : Int} (hP : clP c G M) (m7 : M 65 7 = c) (m69 : ∀ k, 0 ≤ k → k < 729 → M 69 k = 0) (hB : bestM G M) (hs : 0 ≤ (G 0 6)) (r0 : 0 ≤ r) (r1 : r < (G 0 3)) (hca : M 71 r = -9 ∨ M 71 r = egF G r)
    (h : ∀ N, adF M N → N 71 r = egF G r → (∀ j, j ≠ r → N 71 j = M 71 j) → (∀ j, N 70 j = M 70 j) → Q (egF G r) N W) : CallI 6 [vR 65, vI r] (M, W) Q := by
  have hw := hP.2.2.1
  have hk := hP.1
  have hN := hw.N; unfold wfN at hN
  have ht := thrG hw
  have hD := hw.D r r0 r1
  have hR := hw.R _ hD.1 hD.2.1
  have hcr := ct_rng hk
  have hdef : ∀ i : Int, 0 ≤ i → i < (10 - (G 2 ((G 3 r) * 7 + 3))).toNat → egB G r ((G 2 ((G 3 r) * 7 + 3))) i = true → (∀ j : Int, 0 ≤ j → j < i → egB G r ((G 2 ((G 3 r) * 7 + 3))) j = false) → egF G r = (G 2 ((G 3 r) * 7 + 3)) + 1 + i := fun i i0 i1 ht hf => by
    unfold egF; rw [fst_eq _ i0 i1 ht hf, if_pos i0]
  have hegr : 0 ≤ egF G r ∧ egF G r ≤ 11 := by
    unfold egF
    rcases fst_cs (egB G r ((G 2 ((G 3 r) * 7 + 3)))) (10 - (G 2 ((G 3 r) * 7 + 3))).toNat with ⟨e, -⟩ | ⟨a, b, -⟩
    · rw [e, if_neg (by decide)]; omega
    · rw [if_pos a]; omega
  -- found already
  have found : ∀ x2 N, adF M N → N 71 r = egF G r → (∀ j, j ≠ r → N 71 j = M 71 j) → (∀ j, N 70 j = M 70 j) → inI x2 → Xs 6 (11, [some (some (vR 65)), some (some (vI r)), some (some (vI x2))], [], (N, W)) (QI Q) := fun x2 N ha h71 hj h70 hi => by
    refine k_X0_edgeOf_11 _ _ _ _ _ ?_
    have hQ := h N ha h71 hj h70
    rw [h71]
    have hne : egF G r ≠ -9 := by omega
    refine ⟨by omega, fun _ => ⟨by omega, by omega, fun _ => ⟨by omega, hQ⟩, fun hno => absurd hne hno⟩, fun _ => ⟨by omega, by omega, fun _ => ⟨by omega, by omega, fun _ => ⟨by omega, hQ⟩, fun hno => absurd hne hno⟩, fun hno => absurd hne hno⟩⟩
  have key : ∀ (n : Nat) (x2 : Int) (N : aM), (G 2 ((G 3 r) * 7 + 3)) + 1 ≤ x2 → x2 ≤ 11 → (11 - x2).toNat = n → adF M N → N 71 r = -9 → (∀ j, j ≠ r → N 71 j = M 71 j) → (∀ j, N 70 j = M 70 j) → (∀ i, 0 ≤ i → i < x2 - ((G 2 ((G 3 r) * 7 + 3)) + 1) → egB G r ((G 2 ((G 3 r) * 7 + 3))) i = false) → Xs 6 (11, [some (some (vR 65)), some (some (vI r)), some (some (vI x2))], [], (N, W)) (QI Q) := by
    intro n; induction n using Nat.strongRecOn with
    | _ n ih =>
      intro x2 N h0 h1 hn ha h71 hj h70 hi
      have hPN := ha.P hP
      have e7 : N 65 7 = c := by rw [ha 65 7 (by decide) (by decide) (by decide) (by decide)]; exact m7
      refine k_X0_edgeOf_11 _ _ _ _ _ ?_
      rw [h71]
      refine ⟨by omega, fun hgt => ⟨by omega, by omega, fun hno => absurd rfl hno, fun _ => ⟨by omega, by omega, ?_⟩⟩, fun hle => ⟨by omega, by omega, fun hno => absurd rfl hno, fun _ => ?_⟩⟩
      · have e : egF G r = 11 := by
          unfold egF
          rw [fst_no _ (fun i a b => hi i a (by omega)), if_neg (by decide)]
        rw [up_s]
        have := h (up_ N 71 r 11) (fun b j q1 q2 q3 q4 => by rw [up_b _ _ _ _ q3]; exact ha b j q1 q2 q3 q4) (by rw [up_s]; exact e.symm) (fun j hjj => by rw [up_j _ _ _ hjj]; exact hj j hjj) (fun j => by rw [up_b _ _ _ _ (by decide)]; exact h70 j)
        rw [e] at this; exact this
      · rw [e7]
        have hod : 0 ≤ x2 ∧ x2 ≤ 10 := by omega
        refine s_X6_weigh hk hPN.2.1 hw (Or.inr rfl) (by omega) hod (fun K hK hwt => ?_)
        have hPK : clP c G K := hPN.of (fun b j hb => hK b j (by unfold inP at hb; omega))
        refine s_X0_solveTrial (u := wt G r x2) hk hPK.2.1 hw hPK.2.2.2.1 (by rw [hK _ _ (by omega)]; exact e7) (fun k k0 k1 => by rw [hK _ _ (by omega), ha _ _ (by decide) (by decide) (by decide) (by decide)]; exact m69 k k0 k1) (uO_wt hw hod) hwt (fun L hL hL2 hl68 hsl => ?_)
        have hLM : adF M L := fun b j q1 q2 q3 q4 => by
          by_cases hb : 69 ≤ b ∧ b ≤ 72
          · rw [hL2 b j hb.1 hb.2, hK b j (by omega)]; exact ha b j q1 q2 q3 q4
          · rw [hL b j (by omega), hK b j (by omega)]; exact ha b j q1 q2 q3 q4
        have hPL := hLM.P hP
        have eL7 : L 65 7 = c := by rw [hLM 65 7 (by decide) (by decide) (by decide) (by decide)]; exact m7
        have hBL : bestM G L := fun k k0 k1 hl p p0 p1 => by
          rw [hLM _ _ (by decide) (by decide) (by decide) (by decide), hLM _ _ (by decide) (by decide) (by decide) (by decide)]; exact hB k k0 k1 hl p p0 p1
        have e71 : ∀ j, L 71 j = N 71 j := fun j => by rw [hL2 71 j (by decide) (by decide), hK 71 j (by omega)]
        have e70 : ∀ j, L 70 j = N 70 j := fun j => by rw [hL2 70 j (by decide) (by decide), hK 70 j (by omega)]
        have heg : egB G r ((G 2 ((G 3 r) * 7 + 3))) (x2 - ((G 2 ((G 3 r) * 7 + 3)) + 1)) = aoF G (lk (wt G r x2) ((G 0 3))) := by
          unfold egB; rw [show (G 2 ((G 3 r) * 7 + 3)) + 1 + (x2 - ((G 2 ((G 3 r) * 7 + 3)) + 1)) = x2 by omega]
        refine s_X0_actsOtherwise hPL eL7 hBL hs (uO_lik hw (uO_wt hw hod)) hl68 hsl (fun y hy => ⟨by omega, fun hz => ?_, fun hnz => ⟨by omega, ?_⟩⟩)
        · refine ih (11 - (x2 + 1)).toNat (by omega) (x2 + 1) L (by omega) (by omega) rfl hLM (by rw [e71]; exact h71) (fun j hjj => by rw [e71]; exact hj j hjj) (fun j => by rw [e70]; exact h70 j) (fun i i0 i1 => ?_)
          by_cases he : i = x2 - ((G 2 ((G 3 r) * 7 + 3)) + 1)
          · rw [he, heg]
            rcases hy with ⟨a, b⟩ | ⟨a, b⟩
            · omega
            · exact b
          · exact hi i i0 (by omega)
        · have ht : egB G r ((G 2 ((G 3 r) * 7 + 3))) (x2 - ((G 2 ((G 3 r) * 7 + 3)) + 1)) = true := by
            rw [heg]
            rcases hy with ⟨a, b⟩ | ⟨a, b⟩
            · exact b
            · omega
          have e := hdef _ (by omega) (by omega) ht hi
          have e2 : egF G r = x2 := by omega
          exact found (x2 + 1) _ (fun b j q1 q2 q3 q4 => by rw [up_b _ _ _ _ q3]; exact hLM b j q1 q2 q3 q4) (by rw [up_s]; exact e2.symm) (fun j hjj => by rw [up_j _ _ _ hjj, e71]; exact hj j hjj) (fun j => by rw [up_b _ _ _ _ (by decide), e70]; exact h70 j) (by omega)
  refine e_X0_edgeOf _ _ _ _ ?_
  rw [m7]
  refine ⟨ct_o hk, s_X3_doubtOf hk hP.2.1 hw r0 r1 (fun v hv => ?_)⟩
  rw [hv]
  rcases hca with e | e
  · exact key _ _ M (by omega) (by omega) rfl (fun _ _ _ _ _ _ => rfl) e (fun _ _ => rfl) (fun _ => rfl) (fun i a b => by omega)
  · exact found _ M (fun _ _ _ _ _ _ => rfl) e (fun _ _ => rfl) (fun _ => rfl) (by omega)
