/-! THE CLASS's calls: each answers what is told of both sides, and its state goes on as told -/
noncomputable def aFault (fk fp what : Int) : Int := if what = 0 then fk else if what = 1 then fp else -1
theorem c_fault {Q : Int → aM → aW → Prop} {M : aM} {W : aW} {G : Lnd} {D : Int → Int → Int} {c on w n tn fk fp L : Int} {wp wh wk tp : Int → Int} {what : Int} (h : clS c G D on w n wp wh wk tn tp fk fp L M W) (hi : inI what) (k : ∀ N, frC M N → clS c G D on w n wp wh wk tn tp fk fp L N W → Q (aFault fk fp what) N W) : CallI 121 [vR 0, vI what] (M, W) Q := by
  obtain ⟨-, -, -, -, -, -, -, -, h1, h2⟩ := id h
  have kk := k M (frC_refl M) h
  unfold aFault at kk
  refine e_X11_fault _ _ _ _ ?_
  rw [h1, h2]
  refine ⟨hi, fun e => ?_, fun n0 => ⟨fun e => ?_, fun n1 => ?_⟩⟩
  · rw [if_pos e] at kk; exact kk
  · rw [if_neg n0, if_pos e] at kk; exact kk
  · rw [if_neg n0, if_neg n1] at kk; exact kk
noncomputable def aWeight (G : Lnd) (x : Int) : Int := if 0 ≤ x ∧ x < p2_ ((G 0 3)) then wtG G x else -1
theorem c_weight {Q : Int → aM → aW → Prop} {M : aM} {W : aW} {G : Lnd} {D : Int → Int → Int} {c on w n tn fk fp L : Int} {wp wh wk tp : Int → Int} {x : Int} (h : clS c G D on w n wp wh wk tn tp fk fp L M W) (hi : inI x) (k : ∀ N, frC M N → clS c G D on w n wp wh wk tn tp fk fp L N W → Q (aWeight G x) N W) : CallL 122 [vR 0, vI x] (M, W) Q := by
  obtain ⟨⟨h4, -⟩, hP, -⟩ := id h
  have kk := k M (frC_refl M) h
  unfold aWeight at kk
  have h64 := p2_lt64 hP.2.2.1
  refine e_X11_weight _ _ _ _ ?_
  rw [h4]
  refine ⟨ct_o hP.1, s_X3_hasWorld hP.1 hP.2.1 hP.2.2.1 hi (fun r hr => ⟨by omega, fun hz => ?_, fun hz => ⟨by omega, ?_⟩⟩)⟩
  · rw [if_neg (by omega)] at kk; exact kk
  · rw [if_pos (by omega)] at kk; rw [hP.2.2.2.2.2.1 x (by omega) (by omega)]; exact kk
noncomputable def aLikely (G : Lnd) (x : Int) : Int := if 0 ≤ x ∧ x < thr_ ((G 0 3)) then lkG G x else -1
theorem c_likely {Q : Int → aM → aW → Prop} {M : aM} {W : aW} {G : Lnd} {D : Int → Int → Int} {c on w n tn fk fp L : Int} {wp wh wk tp : Int → Int} {x : Int} (h : clS c G D on w n wp wh wk tn tp fk fp L M W) (hi : inI x) (k : ∀ N, frC M N → clS c G D on w n wp wh wk tn tp fk fp L N W → Q (aLikely G x) N W) : CallL 123 [vR 0, vI x] (M, W) Q := by
  obtain ⟨⟨h4, -⟩, hP, -⟩ := id h
  have kk := k M (frC_refl M) h
  unfold aLikely at kk
  have ht := thrG hP.2.2.1
  refine e_X11_likely _ _ _ _ ?_
  rw [h4]
  refine ⟨ct_o hP.1, s_X3_hasKnown hP.1 hP.2.1 hP.2.2.1 hi (fun r hr => ⟨by omega, fun hz => ?_, fun hz => ⟨by omega, ?_⟩⟩)⟩
  · rw [if_neg (by omega)] at kk; exact kk
  · rw [if_pos (by omega)] at kk; rw [hP.2.2.2.2.2.2.1 x (by omega) (by omega)]; exact kk
noncomputable def aShut (G : Lnd) (x d : Int) : Int := if 0 ≤ x ∧ x < thr_ ((G 0 3)) ∧ 0 ≤ d ∧ d < (G 0 3) then (if dg x d = 0 then lkG G (x + 2 * thr_ d) else if dg x d = 1 then 0 else lkG G x) else -1
theorem c_shut {Q : Int → aM → aW → Prop} {M : aM} {W : aW} {G : Lnd} {D : Int → Int → Int} {c on w n tn fk fp L : Int} {wp wh wk tp : Int → Int} {x d : Int} (h : clS c G D on w n wp wh wk tn tp fk fp L M W) (hi : inI x) (hd : inI d) (k : ∀ N, frC M N → clS c G D on w n wp wh wk tn tp fk fp L N W → Q (aShut G x d) N W) : CallL 124 [vR 0, vI x, vI d] (M, W) Q := by
  obtain ⟨⟨h4, -⟩, hP, -⟩ := id h
  have kk := k M (frC_refl M) h
  unfold aShut at kk
  have hw := hP.2.2.1
  have hN := hw.N; unfold wfN at hN
  have ht := thrG hw
  refine e_X11_shut _ _ _ _ _ ?_
  rw [h4]
  refine ⟨ct_o hP.1, s_X3_hasKnown hP.1 hP.2.1 hw hi (fun r hr => ⟨by omega, fun hz => ?_, fun hz => ?_⟩)⟩
  · rw [if_neg (by omega)] at kk; exact kk
  · rw [h4]
    refine ⟨ct_o hP.1, s_X3_hasDoubtful hP.1 hP.2.1 hw hd (fun r2 hr2 => ⟨by omega, fun hz2 => ?_, fun hz2 => ?_⟩)⟩
    · rw [if_pos (by omega)] at kk
      refine s_X2_digit hP.2.2.2.1 (by omega) (by omega) (by omega) (by omega) ⟨by have := dg_rng x d; omega, fun e0 => ?_, fun n0 => ⟨fun e1 => ?_, fun n1 => ?_⟩⟩
      · have hlt := dg_lt (v := 2) (show 0 ≤ x by omega) (show (G 0 3) ≤ 6 by omega) (by omega) (show 0 ≤ d by omega) (show d < (G 0 3) by omega) e0 (by decide)
        rw [if_pos e0] at kk; rw [hP.2.2.2.2.2.2.1 _ hlt.1 hlt.2]; exact ⟨by omega, by omega, kk⟩
      · rw [if_neg n0, if_pos e1] at kk; exact kk
      · rw [if_neg n0, if_neg n1] at kk; rw [hP.2.2.2.2.2.2.1 x (by omega) (by omega)]; exact ⟨by omega, kk⟩
    · rw [if_neg (by omega)] at kk; exact kk
noncomputable def aKnowing (G : Lnd) (x : Int) : Int := if 0 ≤ x ∧ x < p2_ ((G 0 3)) ∧ 0 ≤ (G 0 6) ∧ 0 ≤ (G 0 7) then KW G x else -1
theorem c_knowing {Q : Int → aM → aW → Prop} {M : aM} {W : aW} {G : Lnd} {D : Int → Int → Int} {c on w n tn fk fp L : Int} {wp wh wk tp : Int → Int} {x : Int} (h : clS c G D on w n wp wh wk tn tp fk fp L M W) (hi : inI x) (k : ∀ N, frC M N → clS c G D on w n wp wh wk tn tp fk fp L N W → Q (aKnowing G x) N W) : CallI 125 [vR 0, vI x] (M, W) Q := by
  obtain ⟨⟨h4, -⟩, hP, -⟩ := id h
  have kk := k M (frC_refl M) h
  unfold aKnowing at kk
  have hw := hP.2.2.1
  refine e_X11_knowing _ _ _ _ ?_
  rw [h4]
  refine ⟨ct_o hP.1, s_X3_hasWorld hP.1 hP.2.1 hw hi (fun r hr => ⟨by omega, fun hz => ?_, fun hz => ?_⟩)⟩
  · rw [if_neg (by omega)] at kk; exact kk
  · rw [h4]
    refine ⟨ct_o hP.1, s_X3_hasEnds hP.1 hP.2.1 hw (fun r2 hr2 => ⟨by omega, fun hz2 => ?_, fun hz2 => ?_⟩)⟩
    · rw [if_pos (by omega)] at kk
      exact s_X7_knowingOf hP (by omega) (by omega) (by omega) (fun p p0 p1 => by have := dW_rng (w := x) hw p0 p1; omega) kk
    · rw [if_neg (by omega)] at kk; exact kk
abbrev plE (G : Lnd) (plan : Int) : Prop := 0 ≤ plan ∧ plan ≤ 6 ∧ 0 ≤ (G 0 6) ∧ 0 ≤ (G 0 7)
noncomputable def aMean (G : Lnd) (D : Int → Int → Int) (plan : Int) : Int := if plE G plan then mnF (hoP G D plan) (wtG G) (p2_ ((G 0 3))).toNat else -1
theorem c_mean {Q : Int → aM → aW → Prop} {M : aM} {W : aW} {G : Lnd} {D : Int → Int → Int} {c on w n tn fk fp L : Int} {wp wh wk tp : Int → Int} {plan : Int} (h : clS c G D on w n wp wh wk tn tp fk fp L M W) (hi : inI plan) (k : ∀ N, frC M N → clS c G D on w n wp wh wk tn tp fk fp L N W → Q (aMean G D plan) N W) : CallL 126 [vR 0, vI plan] (M, W) Q := by
  obtain ⟨⟨h4, -⟩, hP, hS, -, -, hL, -⟩ := id h
  have hw := hP.2.2.1
  unfold aMean at k
  refine e_X11_mean _ _ _ _ ?_
  refine s_X11_lacksPlan h4 hP hi (fun r hr => ⟨by omega, fun hz => ?_, fun hz => ?_⟩)
  · rw [if_pos (show plE G plan by unfold plE; omega)] at k
    refine s_X7_prepare hP hS (by omega) (by omega) (fun _ => by omega) (fun N hpr hSN h1 => ?_)
    have hst := h.prep hpr hSN
    have hLN := hst.2.2.2.2.2.1
    exact s_X7_meanOf (hpr.P hP) (clD_of hw hSN hLN (by omega) (by omega) h1) (planOK_of hw hLN.1 (by omega) (by omega)) (by omega) (k N (frC_pr hpr) hst)
  · rw [if_neg (show ¬ plE G plan by unfold plE; omega)] at k; exact k M (frC_refl M) h
noncomputable def aWorst (G : Lnd) (D : Int → Int → Int) (plan : Int) : Int := if plE G plan then woF (hoP G D plan) (wtG G) (p2_ ((G 0 3))).toNat else -1
theorem c_worst {Q : Int → aM → aW → Prop} {M : aM} {W : aW} {G : Lnd} {D : Int → Int → Int} {c on w n tn fk fp L : Int} {wp wh wk tp : Int → Int} {plan : Int} (h : clS c G D on w n wp wh wk tn tp fk fp L M W) (hi : inI plan) (k : ∀ N, frC M N → clS c G D on w n wp wh wk tn tp fk fp L N W → Q (aWorst G D plan) N W) : CallI 127 [vR 0, vI plan] (M, W) Q := by
  obtain ⟨⟨h4, -⟩, hP, hS, -, -, hL, -⟩ := id h
  have hw := hP.2.2.1
  unfold aWorst at k
  refine e_X11_worst _ _ _ _ ?_
  refine s_X11_lacksPlan h4 hP hi (fun r hr => ⟨by omega, fun hz => ?_, fun hz => ?_⟩)
  · rw [if_pos (show plE G plan by unfold plE; omega)] at k
    refine s_X7_prepare hP hS (by omega) (by omega) (fun _ => by omega) (fun N hpr hSN h1 => ?_)
    have hst := h.prep hpr hSN
    have hLN := hst.2.2.2.2.2.1
    exact s_X7_worstOf (hpr.P hP) (clD_of hw hSN hLN (by omega) (by omega) h1) (planOK_of hw hLN.1 (by omega) (by omega)) (by omega) (k N (frC_pr hpr) hst)
  · rw [if_neg (show ¬ plE G plan by unfold plE; omega)] at k; exact k M (frC_refl M) h
noncomputable def aHours (G : Lnd) (D : Int → Int → Int) (plan x : Int) : Int := if plE G plan ∧ 0 ≤ x ∧ x < p2_ ((G 0 3)) ∧ 0 < wtG G x then hoP G D plan x else -1
theorem c_hours {Q : Int → aM → aW → Prop} {M : aM} {W : aW} {G : Lnd} {D : Int → Int → Int} {c on w n tn fk fp L : Int} {wp wh wk tp : Int → Int} {plan x : Int} (h : clS c G D on w n wp wh wk tn tp fk fp L M W) (hi : inI plan) (hx : inI x) (k : ∀ N, frC M N → clS c G D on w n wp wh wk tn tp fk fp L N W → Q (aHours G D plan x) N W) : CallI 128 [vR 0, vI plan, vI x] (M, W) Q := by
  obtain ⟨⟨h4, -⟩, hP, hS, -, -, hL, -⟩ := id h
  have hw := hP.2.2.1
  have h64 := p2_lt64 hw
  have kk := k M (frC_refl M) h
  unfold aHours at k kk
  refine e_X11_hours _ _ _ _ _ ?_
  refine s_X11_lacksPlan h4 hP hi (fun r hr => ⟨by omega, fun hz => ?_, fun hz => ?_⟩)
  · rw [if_neg (by unfold plE; omega)] at kk; exact kk
  · rw [h4]
    refine ⟨ct_o hP.1, s_X3_hasWorld hP.1 hP.2.1 hw hx (fun r2 hr2 => ⟨by omega, fun hz2 => ?_, fun hz2 => ?_⟩)⟩
    · rw [if_neg (by unfold plE; omega)] at kk; exact kk
    · have hwn := wtG_nn hw x
      have hwl := wtG_le hw (show 0 ≤ x by omega) (show x < p2_ ((G 0 3)) by omega)
      rw [hP.2.2.2.2.2.1 x (by omega) (by omega)]
      refine ⟨by omega, by omega, fun hp => ?_, fun hp => ?_⟩
      · rw [if_pos (by unfold plE; omega)] at k
        refine s_X7_prepare hP hS (by omega) (by omega) (fun _ => by omega) (fun N hpr hSN h1 => ?_)
        have hst := h.prep hpr hSN
        have hLN := hst.2.2.2.2.2.1
        exact s_X7_hoursIn (hpr.P hP) (clD_of hw hSN hLN (by omega) (by omega) h1) (planOK_of hw hLN.1 (by omega) (by omega)) (by omega) (by omega) (by omega) (by omega) (k N (frC_pr hpr) hst)
      · rw [if_neg (by unfold plE; omega)] at kk; exact kk
noncomputable def aTimes (G : Lnd) (D : Int → Int → Int) (plan what : Int) : Int := if plE G plan ∧ 0 ≤ what ∧ what ≤ 1 then (if gbP G D plan = true then -2 else if what = 0 then (gzP G D plan).1 else (gzP G D plan).2) else -1
theorem c_times {Q : Int → aM → aW → Prop} {M : aM} {W : aW} {G : Lnd} {D : Int → Int → Int} {c on w n tn fk fp L : Int} {wp wh wk tp : Int → Int} {plan what : Int} (h : clS c G D on w n wp wh wk tn tp fk fp L M W) (hi : inI plan) (hx : inI what) (k : ∀ N, frC M N → clS c G D on w n wp wh wk tn tp fk fp L N W → Q (aTimes G D plan what) N W) : CallI 129 [vR 0, vI plan, vI what] (M, W) Q := by
  obtain ⟨⟨h4, -⟩, hP, hS, -, -, hL, -⟩ := id h
  have hw := hP.2.2.1
  have kk := k M (frC_refl M) h
  unfold aTimes at k kk
  refine e_X11_times _ _ _ _ _ ?_
  refine s_X11_lacksPlan h4 hP hi (fun r hr => ⟨by omega, fun hz => ?_, fun hz => ⟨by omega, fun hneg => ?_, fun hpos => ⟨by omega, fun hle => ?_, fun hgt => ?_⟩⟩⟩)
  · rw [if_neg (by unfold plE; omega)] at kk; exact kk
  · rw [if_neg (by omega)] at kk; exact kk
  · rw [if_pos (by unfold plE; omega)] at k
    refine s_X7_prepare hP hS (by omega) (by omega) (fun _ => by omega) (fun N hpr hSN h1 => ?_)
    have hst := h.prep hpr hSN
    have hLN := hst.2.2.2.2.2.1
    refine s_X7_gauge (hpr.P hP) (clD_of hw hSN hLN (by omega) (by omega) h1) (planOK_of hw hLN.1 (by omega) (by omega)) (by omega) (fun y K hT hy => ?_)
    have k2 := k K (frC_tr (frC_pr hpr) (frC_pr (prF_T hT))) (hst.prep (prF_T hT) (slv_T hSN hT))
    rcases hy with ⟨y1, hb, e15, e16, -⟩ | ⟨y0, hb⟩
    · rw [if_neg (by rw [hb]; decide)] at k2
      refine ⟨by omega, fun _ => ⟨by omega, fun hne => ?_, fun he => ?_⟩, fun hno => by omega⟩
      · rw [if_neg hne] at k2; rw [e16]; exact k2
      · rw [if_pos (by omega)] at k2; rw [e15]; exact k2
    · rw [if_pos hb] at k2
      exact ⟨by omega, fun hno => by omega, fun _ => k2⟩
  · rw [if_neg (by omega)] at kk; exact kk
noncomputable def aNext (G : Lnd) (D : Int → Int → Int) (plan p x : Int) : Int := if plE G plan ∧ (0 ≤ p ∧ p < (G 0 0)) ∧ (0 ≤ x ∧ x < thr_ ((G 0 3)) ∧ 0 < lkG G x) ∧ fm_ x ((G 5 p)) < 0 then doF G D plan p x else -1
theorem c_next {Q : Int → aM → aW → Prop} {M : aM} {W : aW} {G : Lnd} {D : Int → Int → Int} {c on w n tn fk fp L : Int} {wp wh wk tp : Int → Int} {plan p x : Int} (h : clS c G D on w n wp wh wk tn tp fk fp L M W) (hi : inI plan) (hp : inI p) (hx : inI x) (k : ∀ N, frC M N → clS c G D on w n wp wh wk tn tp fk fp L N W → Q (aNext G D plan p x) N W) : CallI 130 [vR 0, vI plan, vI p, vI x] (M, W) Q := by
  obtain ⟨⟨h4, -⟩, hP, hS, -, -, hL, -⟩ := id h
  have hw := hP.2.2.1
  have hN := hw.N; unfold wfN at hN
  have ht := thrG hw
  have kk := k M (frC_refl M) h
  unfold aNext at k kk
  refine e_X11_next _ _ _ _ _ _ ?_
  refine s_X11_lacksPlan h4 hP hi (fun r hr => ⟨by omega, fun hz => ?_, fun hz => ?_⟩)
  · rw [if_neg (by unfold plE; omega)] at kk; exact kk
  · rw [h4]
    refine ⟨ct_o hP.1, s_X3_hasPlace hP.1 hP.2.1 hw hp (fun r2 hr2 => ⟨by omega, fun hz2 => ?_, fun hz2 => ?_⟩)⟩
    · rw [if_neg (by omega)] at kk; exact kk
    · refine s_X11_isLikely h4 hP hx (fun r3 hr3 => ⟨by omega, fun hz3 => ?_, fun hz3 => ?_⟩)
      · rw [h4, hP.2.1.2.2.2.2.2.1, ct_l5 hP.1]
        have hs64 := hw.sn64 (show 0 ≤ p by omega) (show p < 10 by omega)
        refine ⟨ct_o hP.1, ⟨ct_a5 hP.1, by omega, by omega⟩, s_X2_firstMissing hP.2.2.2.1 (by omega) (by omega) hs64.1 hs64.2 ⟨by rcases fm_cs x ((G 5 p)) with q | q <;> omega, fun hneg => ?_, fun hpos => ?_⟩⟩
        · rw [if_pos ⟨by unfold plE; omega, by omega, by omega, hneg⟩] at k
          refine s_X7_prepare hP hS (by omega) (by omega) (fun _ => by omega) (fun N hpr hSN h1 => ?_)
          have hst := h.prep hpr hSN
          have hLN := hst.2.2.2.2.2.1
          exact s_X7_does (hpr.P hP) (by omega) (by omega) (by omega) (by omega) (by omega) (by omega) (by omega) (clD_of hw hSN hLN (by omega) (by omega) h1) (k N (frC_pr hpr) hst)
        · rw [if_neg (fun q => hpos q.2.2.2)] at kk; exact kk
      · rw [if_neg (by omega)] at kk; exact kk
noncomputable def aFrom (G : Lnd) (p x : Int) : Int := if (0 ≤ p ∧ p < (G 0 0)) ∧ (0 ≤ x ∧ x < thr_ ((G 0 3)) ∧ 0 < lkG G x) ∧ 0 ≤ (G 0 7) then tolV (VB G x p) else -1
theorem c_from {Q : Int → aM → aW → Prop} {M : aM} {W : aW} {G : Lnd} {D : Int → Int → Int} {c on w n tn fk fp L : Int} {wp wh wk tp : Int → Int} {p x : Int} (h : clS c G D on w n wp wh wk tn tp fk fp L M W) (hp : inI p) (hx : inI x) (k : ∀ N, frC M N → clS c G D on w n wp wh wk tn tp fk fp L N W → Q (aFrom G p x) N W) : CallL 131 [vR 0, vI p, vI x] (M, W) Q := by
  obtain ⟨⟨h4, -⟩, hP, hS, -, -, hL, -⟩ := id h
  have hw := hP.2.2.1
  have hN := hw.N; unfold wfN at hN
  have ht := thrG hw
  have kk := k M (frC_refl M) h
  unfold aFrom at k kk
  refine e_X11_from _ _ _ _ _ ?_
  rw [h4]
  refine ⟨ct_o hP.1, s_X3_hasPlace hP.1 hP.2.1 hw hp (fun r2 hr2 => ⟨by omega, fun hz2 => ?_, fun hz2 => ?_⟩)⟩
  · rw [if_neg (by omega)] at kk; exact kk
  · refine s_X11_isLikely h4 hP hx (fun r3 hr3 => ⟨by omega, fun hz3 => ?_, fun hz3 => ?_⟩)
    · rw [if_neg (by omega)] at kk; exact kk
    · rw [h4, hP.2.1.1]
      refine ⟨ct_o hP.1, by omega, fun hg => ?_, fun hg => ?_⟩
      · rw [if_pos (by omega)] at k
        refine s_X7_prepare hP hS (by decide) (by decide) (fun hh => absurd hh (by decide)) (fun N hpr hSN h1 => ?_)
        have hst := h.prep hpr hSN
        have hb := (best_of hSN (h1 (by decide)) x (by omega) (by omega) (by omega) p (by omega) (by omega)).1
        have hr := VB_rng hw (lkG_ok hw) (show 0 ≤ x by omega) (by omega) (show 0 < lkG G x by omega) (show 0 ≤ p by omega) (show p < (G 0 0) by omega)
        refine s_X9_meanFrom (Or.inl rfl) (by omega) (by omega) (by omega) (by omega) (by rw [hb]; omega) ?_
        rw [hb]; exact k N (frC_pr hpr) hst
      · rw [if_neg (by omega)] at kk; exact kk
noncomputable def aCount (G : Lnd) (D : Int → Int → Int) (what : Int) : Int := if what = 0 then (G 0 0) else if what = 1 then (G 0 2) else if what = 2 then (G 0 3) else if what = 3 then (G 0 1) else if what = 4 then (G 0 5) else if what = 5 then (G 0 6) else if what = 6 then (G 0 7) else if what = 7 then D 30 0 else if what = 8 then D 10 0 else -1
theorem c_count {Q : Int → aM → aW → Prop} {M : aM} {W : aW} {G : Lnd} {D : Int → Int → Int} {c on w n tn fk fp L : Int} {wp wh wk tp : Int → Int} {what : Int} (h : clS c G D on w n wp wh wk tn tp fk fp L M W) (hi : inI what) (k : ∀ N, frC M N → clS c G D on w n wp wh wk tn tp fk fp L N W → Q (aCount G D what) N W) : CallI 147 [vR 0, vI what] (M, W) Q := by
  obtain ⟨⟨h4, -⟩, hP, -, -, -, hL, -⟩ := id h
  have kk := k M (frC_refl M) h
  unfold aCount at kk
  have ho := ct_o hP.1
  refine e_X11_count _ _ _ _ ?_
  rw [h4, hP.2.1.1, hP.2.1.1, hP.2.1.1, hP.2.1.1, hP.2.1.1, hP.2.1.1, hP.2.1.1, hL.2.1.1, hL.2.2.1]
  refine ⟨hi, fun e0 => ⟨ho, ?_⟩, fun n0 => ⟨fun e1 => ⟨ho, ?_⟩, fun n1 => ⟨fun e2 => ⟨ho, ?_⟩, fun n2 => ⟨fun e3 => ⟨ho, ?_⟩, fun n3 => ⟨fun e4 => ⟨ho, ?_⟩, fun n4 => ⟨fun e5 => ⟨ho, ?_⟩, fun n5 => ⟨fun e6 => ⟨ho, ?_⟩, fun n6 => ⟨fun e7 => ?_, fun n7 => ⟨fun e8 => ?_, fun n8 => ?_⟩⟩⟩⟩⟩⟩⟩⟩⟩
  · rw [if_pos e0] at kk; exact kk
  · rw [if_neg n0, if_pos e1] at kk; exact kk
  · rw [if_neg n0, if_neg n1, if_pos e2] at kk; exact kk
  · rw [if_neg n0, if_neg n1, if_neg n2, if_pos e3] at kk; exact kk
  · rw [if_neg n0, if_neg n1, if_neg n2, if_neg n3, if_pos e4] at kk; exact kk
  · rw [if_neg n0, if_neg n1, if_neg n2, if_neg n3, if_neg n4, if_pos e5] at kk; exact kk
  · rw [if_neg n0, if_neg n1, if_neg n2, if_neg n3, if_neg n4, if_neg n5, if_pos e6] at kk; exact kk
  · rw [if_neg n0, if_neg n1, if_neg n2, if_neg n3, if_neg n4, if_neg n5, if_neg n6, if_pos e7] at kk; exact kk
  · rw [if_neg n0, if_neg n1, if_neg n2, if_neg n3, if_neg n4, if_neg n5, if_neg n6, if_neg n7, if_pos e8] at kk; exact kk
  · rw [if_neg n0, if_neg n1, if_neg n2, if_neg n3, if_neg n4, if_neg n5, if_neg n6, if_neg n7, if_neg n8] at kk; exact kk
