/-! THE REFERENCE's calls: each answers what the class's does -/
theorem r_fault {Q : Int → aM → aW → Prop} {M : aM} {W : aW} {G : Lnd} {D : Int → Int → Int} {on w n tn fk fp : Int} {wp wh wk tp : Int → Int} {what : Int} (h : rfS G D on w n wp wh wk tn tp fk fp M) (hi : inI what) (k : ∀ N, frK M N → rfS G D on w n wp wh wk tn tp fk fp N → Q (aFault fk fp what) N W) : CallI 179 [vR 86, vI what] (M, W) Q := by
  have kk := k _ (frK_thr M 0) h.thr
  have e4 : up_ M 86 2 0 86 4 = fk := by rw [up_j _ _ _ (by decide)]; exact h.2.2.2.2.2.2.2.1.1
  have e5 : up_ M 86 2 0 86 5 = fp := by rw [up_j _ _ _ (by decide)]; exact h.2.2.2.2.2.2.2.1.2
  unfold aFault at kk
  refine e_X12_fault _ _ _ _ ?_
  rw [e4, e5]
  refine ⟨hi, fun q => ⟨hi, fun q2 => ?_, fun q2 => ?_⟩, fun q => ?_⟩
  · rw [if_neg q, if_neg q2] at kk; exact kk
  · rw [if_neg q, if_pos (by omega)] at kk; exact kk
  · rw [if_pos (by omega)] at kk; exact kk
theorem r_weight {Q : Int → aM → aW → Prop} {M : aM} {W : aW} {G : Lnd} {D : Int → Int → Int} {on w n tn fk fp : Int} {wp wh wk tp : Int → Int} {x : Int} (h : rfS G D on w n wp wh wk tn tp fk fp M) (hi : inI x) (k : ∀ N, frK M N → rfS G D on w n wp wh wk tn tp fk fp N → Q (aWeight G x) N W) : CallL 195 [vR 86, vI x] (M, W) Q := by
  have kk := k _ (frK_thr M 0) h.thr
  have ht := h.G.t
  unfold aWeight at kk
  refine e_X12_weight _ _ _ _ ?_
  refine s_X12_isWorld h.thr.G hi (fun r hr => ⟨by omega, fun q => ?_, fun q => ⟨by omega, ?_⟩⟩)
  · rw [if_neg (by omega)] at kk; exact kk
  · rw [if_pos (by omega)] at kk
    rw [(h.thr (v := 0)).Wt.1 x (by omega) (by omega)]; exact kk
theorem r_likely {Q : Int → aM → aW → Prop} {M : aM} {W : aW} {G : Lnd} {D : Int → Int → Int} {on w n tn fk fp : Int} {wp wh wk tp : Int → Int} {x : Int} (h : rfS G D on w n wp wh wk tn tp fk fp M) (hi : inI x) (k : ∀ N, frK M N → rfS G D on w n wp wh wk tn tp fk fp N → Q (aLikely G x) N W) : CallL 196 [vR 86, vI x] (M, W) Q := by
  have kk := k _ (frK_thr M 0) h.thr
  have ht := h.G.t
  unfold aLikely at kk
  refine e_X12_likely _ _ _ _ ?_
  refine s_X12_isKnowing h.thr.G hi (fun r hr => ⟨by omega, fun q => ?_, fun q => ⟨by omega, ?_⟩⟩)
  · rw [if_neg (by omega)] at kk; exact kk
  · rw [if_pos (by omega)] at kk
    rw [(h.thr (v := 0)).Wt.2 x (by omega) (by omega)]; exact kk
theorem r_shut {Q : Int → aM → aW → Prop} {M : aM} {W : aW} {G : Lnd} {D : Int → Int → Int} {on w n tn fk fp : Int} {wp wh wk tp : Int → Int} {x d : Int} (h : rfS G D on w n wp wh wk tn tp fk fp M) (hi : inI x) (hd : inI d) (k : ∀ N, frK M N → rfS G D on w n wp wh wk tn tp fk fp N → Q (aShut G x d) N W) : CallL 197 [vR 86, vI x, vI d] (M, W) Q := by
  have kk := k _ (frK_thr M 0) h.thr
  have h2 := h.thr (v := 0)
  have ht := h.G.t
  have hn := h.G.n
  unfold aShut at kk
  refine e_X12_shut _ _ _ _ _ ?_
  refine s_X12_isKnowing h2.G hi (fun r hr => ⟨by omega, fun q => ?_, fun q => s_X12_isDoubtful h2.G hd (fun r2 hr2 => ⟨by omega, fun q2 => ?_, fun q2 => ?_⟩)⟩)
  · rw [if_neg (by omega)] at kk; exact kk
  · rw [if_pos (by omega)] at kk
    have hdd := dg_rng x d
    refine s_X12_digit h2.G.D3 (by omega) (by omega) (by omega) (by omega) ⟨by omega, fun q3 => ⟨by omega, fun q4 => ⟨by omega, ?_⟩, fun q4 => ⟨by omega, ?_⟩⟩, fun q3 => ?_⟩
    · have hb := dg_lt (v := 2) (show 0 ≤ x by omega) (show (G 0 3) ≤ 6 by omega) (show x < thr_ ((G 0 3)) by omega) (show 0 ≤ d by omega) (by omega) (show dg x d = 0 by omega) (by decide)
      rw [if_pos (by omega)] at kk
      rw [h2.G.D3 d (by omega) (by omega), h2.Wt.2 _ hb.1 hb.2]
      exact ⟨by omega, kk⟩
    · rw [if_neg (by omega), if_neg (by omega)] at kk
      rw [h2.Wt.2 x (by omega) (by omega)]; exact kk
    · rw [if_neg (by omega), if_pos (by omega)] at kk; exact kk
  · rw [if_neg (by omega)] at kk; exact kk
theorem rfS.far {G : Lnd} {D : Int → Int → Int} {on w n tn fk fp : Int} {wp wh wk tp : Int → Int} {M N : aM} (h : rfS G D on w n wp wh wk tn tp fk fp M) (ha : ag 104 104 M N) : rfS G D on w n wp wh wk tn tp fk fp N := h.sc (fun b j c => ha b j (by unfold scR at c; omega))
theorem r_knowing {Q : Int → aM → aW → Prop} {M : aM} {W : aW} {G : Lnd} {D : Int → Int → Int} {on w n tn fk fp : Int} {wp wh wk tp : Int → Int} {x : Int} (h : rfS G D on w n wp wh wk tn tp fk fp M) (hi : inI x) (k : ∀ N, frK M N → rfS G D on w n wp wh wk tn tp fk fp N → Q (aKnowing G x) N W) : CallI 206 [vR 86, vI x] (M, W) Q := by
  have kk := k _ (frK_thr M 0) h.thr
  have h2 := h.thr (v := 0)
  have ht := h.G.t
  unfold aKnowing at kk k
  refine e_X12_knowing _ _ _ _ ?_
  refine s_X12_isWorld h2.G hi (fun r hr => ⟨by omega, fun q => ?_, fun q => s_X12_hasEnds h2.G (fun r2 hr2 => ⟨by omega, fun q2 => ?_, fun q2 => s_X12_knowingOf h2.G (by omega) (by omega) (by omega) (fun N ha => ?_)⟩)⟩)
  · rw [if_neg (by omega)] at kk; exact kk
  · rw [if_neg (by omega)] at kk; exact kk
  · have := k N (frK_tr (frK_thr M 0) (fun b j c => ha b j (by omega))) (h2.far ha)
    rw [if_pos (by omega)] at this; exact this
theorem r_mean {Q : Int → aM → aW → Prop} {M : aM} {W : aW} {G : Lnd} {D : Int → Int → Int} {on w n tn fk fp : Int} {wp wh wk tp : Int → Int} {plan : Int} (h : rfS G D on w n wp wh wk tn tp fk fp M) (hi : inI plan) (k : ∀ N, frK M N → rfS G D on w n wp wh wk tn tp fk fp N → Q (aMean G D plan) N W) : CallL 234 [vR 86, vI plan] (M, W) Q := by
  have kk := k _ (frK_thr M 0) h.thr
  have h2 := h.thr (v := 0)
  unfold aMean at kk k
  refine e_X12_mean _ _ _ _ ?_
  refine s_X12_isPlan hi (fun r hr => ⟨by omega, fun q => ?_, fun q => s_X12_hasEnds h2.G (fun r2 hr2 => ⟨by omega, fun q2 => ?_, fun q2 => ?_⟩)⟩)
  · rw [if_neg (show ¬ plE G plan by unfold plE; omega)] at kk; exact kk
  · refine s_X12_layPlan h2 (by omega) (by omega) (by omega) (by omega) (fun N fN hN hD => ?_)
    refine s_X12_meanOf hN.G (by omega) (by omega) hN.I hD (hN.ok (by omega) (by omega)) (by omega) hN.Wt (fun K fK IK => ?_)
    have := k K (frK_tr (frK_thr M 0) (frK_tr (frK_P fN) (frK_W fK))) (hN.wk fK IK)
    rw [if_pos (show plE G plan by unfold plE; omega)] at this; exact this
  · rw [if_neg (show ¬ plE G plan by unfold plE; omega)] at kk; exact kk
theorem r_worst {Q : Int → aM → aW → Prop} {M : aM} {W : aW} {G : Lnd} {D : Int → Int → Int} {on w n tn fk fp : Int} {wp wh wk tp : Int → Int} {plan : Int} (h : rfS G D on w n wp wh wk tn tp fk fp M) (hi : inI plan) (k : ∀ N, frK M N → rfS G D on w n wp wh wk tn tp fk fp N → Q (aWorst G D plan) N W) : CallI 235 [vR 86, vI plan] (M, W) Q := by
  have kk := k _ (frK_thr M 0) h.thr
  have h2 := h.thr (v := 0)
  unfold aWorst at kk k
  refine e_X12_worst _ _ _ _ ?_
  refine s_X12_isPlan hi (fun r hr => ⟨by omega, fun q => ?_, fun q => s_X12_hasEnds h2.G (fun r2 hr2 => ⟨by omega, fun q2 => ?_, fun q2 => ?_⟩)⟩)
  · rw [if_neg (show ¬ plE G plan by unfold plE; omega)] at kk; exact kk
  · refine s_X12_layPlan h2 (by omega) (by omega) (by omega) (by omega) (fun N fN hN hD => ?_)
    refine s_X12_worst31 hN.G (by omega) (by omega) hN.I hD (hN.ok (by omega) (by omega)) (by omega) hN.Wt (fun K fK IK => ?_)
    have := k K (frK_tr (frK_thr M 0) (frK_tr (frK_P fN) (frK_W fK))) (hN.wk fK IK)
    rw [if_pos (show plE G plan by unfold plE; omega)] at this; exact this
  · rw [if_neg (show ¬ plE G plan by unfold plE; omega)] at kk; exact kk
theorem r_hours {Q : Int → aM → aW → Prop} {M : aM} {W : aW} {G : Lnd} {D : Int → Int → Int} {on w n tn fk fp : Int} {wp wh wk tp : Int → Int} {plan x : Int} (h : rfS G D on w n wp wh wk tn tp fk fp M) (hi : inI plan) (hx : inI x) (k : ∀ N, frK M N → rfS G D on w n wp wh wk tn tp fk fp N → Q (aHours G D plan x) N W) : CallI 236 [vR 86, vI plan, vI x] (M, W) Q := by
  have kk := k _ (frK_thr M 0) h.thr
  have h2 := h.thr (v := 0)
  have ht := h.G.t
  unfold aHours at kk k
  refine e_X12_hours _ _ _ _ _ ?_
  refine s_X12_isPlan hi (fun r hr => ⟨by omega, fun q => ?_, fun q => s_X12_isWorld h2.G hx (fun r1 hr1 => ⟨by omega, fun q1 => ?_, fun q1 => s_X12_hasEnds h2.G (fun r2 hr2 => ⟨by omega, fun q2 => ?_, fun q2 => ?_⟩)⟩)⟩)
  · rw [if_neg (by unfold plE; omega)] at kk; exact kk
  · rw [if_neg (by omega)] at kk; exact kk
  · rw [if_neg (by unfold plE; omega)] at kk; exact kk
  · have hWn := wtG_nn h.G.W x
    have hWl := wtG_le h.G.W (w := x) (by omega) (by omega)
    rw [h2.Wt.1 x (by omega) (by omega)]
    refine ⟨by omega, by omega, fun q3 => ?_, fun q3 => ?_⟩
    · refine s_X12_layPlan h2 (by omega) (by omega) (by omega) (by omega) (fun N fN hN hD => ?_)
      refine s_X12_hoursIn hN.G (by omega) (by omega) hN.I hD (hN.ok (by omega) (by omega)) (by omega) (by omega) (by omega) (by omega) (fun K fK IK => ?_)
      have := k K (frK_tr (frK_thr M 0) (frK_tr (frK_P fN) (frK_W fK))) (hN.wk fK IK)
      rw [if_pos (by unfold plE; omega)] at this; exact this
    · rw [if_neg (by omega)] at kk; exact kk
theorem r_times {Q : Int → aM → aW → Prop} {M : aM} {W : aW} {G : Lnd} {D : Int → Int → Int} {on w n tn fk fp : Int} {wp wh wk tp : Int → Int} {plan what : Int} (h : rfS G D on w n wp wh wk tn tp fk fp M) (hi : inI plan) (hx : inI what) (k : ∀ N, frK M N → rfS G D on w n wp wh wk tn tp fk fp N → Q (aTimes G D plan what) N W) : CallI 237 [vR 86, vI plan, vI what] (M, W) Q := by
  have kk := k _ (frK_thr M 0) h.thr
  have h2 := h.thr (v := 0)
  unfold aTimes at kk k
  refine e_X12_times _ _ _ _ _ ?_
  refine s_X12_isPlan hi (fun r hr => ⟨by omega, fun q => ?_, fun q => s_X12_isIn hx (by decide) (by decide) (fun r1 hr1 => ⟨by omega, fun q1 => ?_, fun q1 => s_X12_hasEnds h2.G (fun r2 hr2 => ⟨by omega, fun q2 => ?_, fun q2 => ?_⟩)⟩)⟩)
  · rw [if_neg (by unfold plE; omega)] at kk; exact kk
  · rw [if_neg (by omega)] at kk; exact kk
  · refine s_X12_layPlan h2 (by omega) (by omega) (by omega) (by omega) (fun N fN hN hD => ?_)
    have nxt : ∀ K, frP N K → (∀ b j, 105 ≤ b → b ≤ 112 → K b j = N b j) → hopI G K → Q (if gbP G D plan = true then -2 else if what = 0 then (gzP G D plan).1 else (gzP G D plan).2) K W := fun K fK vK IK => by
      have hn := hN.G.n; have ht := hN.G.t
      have hq : thr_ ((G 0 3)) ≤ 729 ∧ (G 0 0) ≤ 10 := by omega
      have := k K (frK_tr (frK_thr M 0) (frK_tr (frK_P fN) (frK_P fK))) (hN.pl fK IK (hN.B.of hq (fun b j c => vK b j (by omega) (by omega))) (hN.U.of hq (fun b j c => vK b j (by omega) (by omega))) (hN.F.of hq (fun b j c => vK b j (by omega) (by omega))))
      rw [if_pos (by unfold plE; omega)] at this; exact this
    refine s_X12_layTimes hN.G (by omega) (by omega) hN.I hD (hN.ok (by omega) (by omega)) (by omega) hN.Wt (fun c K fK vK IK => ⟨by decide, fun y => absurd rfl y, fun _ => ?_⟩) (fun c K fK vK IK e38 e39 => ⟨by decide, fun _ => ⟨hx, fun z => ?_, fun z => ?_⟩, fun y => absurd (by decide) y⟩)
    · have := nxt K fK vK IK
      rw [if_pos c] at this; exact this
    · have := nxt K fK vK IK
      rw [if_neg (by rw [c]; decide), if_neg z] at this
      rw [e39]; exact this
    · have := nxt K fK vK IK
      rw [if_neg (by rw [c]; decide), if_pos (by omega)] at this
      rw [e38]; exact this
  · rw [if_neg (by unfold plE; omega)] at kk; exact kk
theorem r_next {Q : Int → aM → aW → Prop} {M : aM} {W : aW} {G : Lnd} {D : Int → Int → Int} {on w n tn fk fp : Int} {wp wh wk tp : Int → Int} {plan p x : Int} (h : rfS G D on w n wp wh wk tn tp fk fp M) (hi : inI plan) (hp : inI p) (hx : inI x) (k : ∀ N, frK M N → rfS G D on w n wp wh wk tn tp fk fp N → Q (aNext G D plan p x) N W) : CallI 238 [vR 86, vI plan, vI p, vI x] (M, W) Q := by
  have kk := k _ (frK_thr M 0) h.thr
  have h2 := h.thr (v := 0)
  have ht := h.G.t
  have hl := lkG_rng h.G.W x
  unfold aNext at kk k
  refine e_X12_next _ _ _ _ _ _ ?_
  refine s_X12_isPlan hi (fun r hr => ⟨by omega, fun q => ?_, fun q => s_X12_hasEnds h2.G (fun r1 hr1 => ⟨by omega, fun q1 => ?_, fun q1 => s_X12_isPlace h2.G hp (fun r2 hr2 => ⟨by omega, fun q2 => ?_, fun q2 => s_X12_isKnowing h2.G hx (fun r3 hr3 => ⟨by omega, fun q3 => ?_, fun q3 => ?_⟩)⟩)⟩)⟩)
  · rw [if_neg (by unfold plE; omega)] at kk; exact kk
  · rw [if_neg (by unfold plE; omega)] at kk; exact kk
  · rw [if_neg (by omega)] at kk; exact kk
  · rw [if_neg (by omega)] at kk; exact kk
  · rw [h2.Wt.2 x (by omega) (by omega)]
    refine ⟨by omega, by omega, fun q4 => ?_, fun q4 => s_X12_isSeen h2.G (by omega) (by omega) (by omega) (by omega) (fun hs => ⟨by decide, fun _ => ?_, fun y => absurd (by decide) y⟩) (fun hs => ⟨by decide, fun y => absurd rfl y, fun _ => ?_⟩)⟩
    · rw [if_neg (by omega)] at kk; exact kk
    · have hs' := seen_fm.mpr hs
      refine s_X12_layPlan h2 (by omega) (by omega) (by omega) (by omega) (fun N fN hN hD => ?_)
      have hn := hN.G.n
      rw [hN.G.N.2.2.2.2.2.2]
      refine ⟨by omega, fun z => ?_, fun z => ?_⟩
      · refine s_X12_actOf hN.G (by omega) hN.I hD (by omega) (by omega) (by omega) (by omega) z (by omega) (by omega) (by omega) hs' (fun K fK IK => ?_)
        have := k K (frK_tr (frK_thr M 0) (frK_tr (frK_P fN) (frK_W (frW_H fK)))) (hN.wk (frW_H fK) IK)
        rw [if_pos (by unfold plE; omega)] at this; exact this
      · have := k N (frK_tr (frK_thr M 0) (frK_P fN)) hN
        rw [if_pos (by unfold plE; omega)] at this
        unfold doF at this
        rw [if_pos (by omega)] at this; exact this
    · rw [if_neg (fun a => hs (seen_fm.mp a.2.2.2))] at kk; exact kk
theorem s_X12_told {M : aM} {W : aW} {Q : Int → aM → aW → Prop} {v : Int} (hv : -2000000000000000 ≤ v) (h : Q (tolV v) M W) : CallL 239 [vR 86, vL (upV v)] (M, W) Q := by
  have hr := upV_rng hv
  unfold tolV at h
  refine e_X12_told _ _ _ _ ?_
  refine ⟨by omega, fun q => ?_, fun q => ?_⟩
  · rcases upV_T (v := v) with ⟨a, b, -⟩ | ⟨a, b, -⟩
    · rw [if_pos a] at h; rw [b]; exact h
    · omega
  · rcases upV_T (v := v) with ⟨a, b, -⟩ | ⟨a, b, -⟩
    · omega
    · rw [if_neg (by omega)] at h; exact h
theorem VB_B {G : Lnd} (hw : WF G) {lik : Int → Int} (hl : likO G lik) : vB G lik (VV G 1 lik (fun _ => 0)) := VV_B hw hl enO_0
theorem VB_S {G : Lnd} (hw : WF G) {lik : Int → Int} (hl : likO G lik) {p : Int} (p0 : 0 ≤ p) (p1 : p < (G 0 0)) : vS G 1 lik (VV G 1 lik (fun _ => 0)) p := vS_of hw hl (VV_is hw 1 _ hl) enL_0 p0 p1
theorem r_from {Q : Int → aM → aW → Prop} {M : aM} {W : aW} {G : Lnd} {D : Int → Int → Int} {on w n tn fk fp : Int} {wp wh wk tp : Int → Int} {p x : Int} (h : rfS G D on w n wp wh wk tn tp fk fp M) (hp : inI p) (hx : inI x) (k : ∀ N, frK M N → rfS G D on w n wp wh wk tn tp fk fp N → Q (aFrom G p x) N W) : CallL 240 [vR 86, vI p, vI x] (M, W) Q := by
  have kk := k _ (frK_thr M 0) h.thr
  have h2 := h.thr (v := 0)
  have ht := h.G.t
  have hn := h.G.n
  have hw := h.G.W
  have hl := lkG_rng hw x
  have hq' : thr_ ((G 0 3)) ≤ 729 ∧ (G 0 0) ≤ 10 := by omega
  unfold aFrom at kk k
  refine e_X12_from _ _ _ _ _ ?_
  refine s_X12_isPlace h2.G hp (fun r2 hr2 => ⟨by omega, fun q2 => ?_, fun q2 => s_X12_isKnowing h2.G hx (fun r3 hr3 => ⟨by omega, fun q3 => ?_, fun q3 => ?_⟩)⟩)
  · rw [if_neg (by omega)] at kk; exact kk
  · rw [if_neg (by omega)] at kk; exact kk
  · rw [h2.Wt.2 x (by omega) (by omega), h2.G.N.2.2.2.2.2.2]
    refine ⟨by omega, by omega, fun q4 => ?_, fun q4 => ⟨by omega, fun q5 => ?_, fun q5 => ?_⟩⟩
    · rw [if_neg (by omega)] at kk; exact kk
    · refine s_X12_layBest h2.G (by omega) h2.Wt.2 h2.B (fun N fN rN e1 dN => ?_)
      have fP : frP (up_ M 86 2 0) N := fun b j c1 c2 => fN b j (by omega) (by omega) (by omega) (by omega) (by omega) (by omega)
      have hS := h2.pl fP (h2.I.of (fun j => fN 113 j (by decide) (by decide) (by decide) (by decide) (by decide) (by omega))) (Or.inr ⟨e1, dN⟩) (h2.U.of hq' (fun b j c => by
        rcases c with ⟨c | c, c2⟩ | c
        · rw [c]; exact (rN j (by omega)).1
        · rw [c]; exact (rN j (by omega)).2
        · exact fN b j (by omega) (by omega) (by omega) (by omega) (by omega) (by omega))) (h2.F.of hq' (fun b j c => by
        rcases c with ⟨c, c2⟩ | c
        · rw [c]; exact (rN j (by omega)).2
        · exact fN b j (by omega) (by omega) (by omega) (by omega) (by omega) (by omega)))
      have hb : -1000000000000000 ≤ VB G x p := (VB_B hw (lkG_ok hw) x (by omega) (by omega) (by omega) p (by omega) (by omega)).1
      refine s_X12_arrives (lik := lkG G) (v := VB G) hS.G (by decide) (by decide) (Or.inr rfl) (lkG_ok hw) hS.Wt.2 (VB_B hw (lkG_ok hw)) (VB_S hw (lkG_ok hw) (by omega) (by omega)) (by omega) (by omega) (by omega) (by omega) (by omega) (fun s s0 => rows_cp hw dN (by omega) (by omega) (by omega) (by omega)) (s_X12_told (by omega) ?_)
      have := k N (frK_tr (frK_thr M 0) (frK_P fP)) hS
      rw [if_pos (by omega)] at this; exact this
    · rw [if_neg (by omega)] at kk; exact kk
theorem r_count {Q : Int → aM → aW → Prop} {M : aM} {W : aW} {G : Lnd} {D : Int → Int → Int} {on w n tn fk fp : Int} {wp wh wk tp : Int → Int} {what : Int} (h : rfS G D on w n wp wh wk tn tp fk fp M) (hi : inI what) (k : ∀ N, frK M N → rfS G D on w n wp wh wk tn tp fk fp N → Q (aCount G D what) N W) : CallI 264 [vR 86, vI what] (M, W) Q := by
  have kk := k _ (frK_thr M 0) h.thr
  have h2 := h.thr (v := 0)
  obtain ⟨a0, a1, a2, a3, a5, a6, a7⟩ := h2.G.N
  obtain ⟨-, ⟨b1, -⟩, b2, -⟩ := h2.p
  unfold aCount at kk
  refine e_X12_count _ _ _ _ ?_
  rw [a0, a1, a2, a3, a5, a6, a7, b1, b2]
  refine ⟨hi, fun q0 => ?_, fun q0 => ⟨fun q1 => ?_, fun q1 => ⟨fun q2 => ?_, fun q2 => ⟨fun q3 => ?_, fun q3 => ⟨fun q4 => ?_, fun q4 => ⟨fun q5 => ?_, fun q5 => ⟨fun q6 => ?_, fun q6 => ⟨fun q7 => ?_, fun q7 => ⟨fun q8 => ?_, fun q8 => ?_⟩⟩⟩⟩⟩⟩⟩⟩⟩
  · rw [if_pos q0] at kk; exact kk
  · rw [if_neg q0, if_pos q1] at kk; exact kk
  · rw [if_neg q0, if_neg q1, if_pos q2] at kk; exact kk
  · rw [if_neg q0, if_neg q1, if_neg q2, if_pos q3] at kk; exact kk
  · rw [if_neg q0, if_neg q1, if_neg q2, if_neg q3, if_pos q4] at kk; exact kk
  · rw [if_neg q0, if_neg q1, if_neg q2, if_neg q3, if_neg q4, if_pos q5] at kk; exact kk
  · rw [if_neg q0, if_neg q1, if_neg q2, if_neg q3, if_neg q4, if_neg q5, if_pos q6] at kk; exact kk
  · rw [if_neg q0, if_neg q1, if_neg q2, if_neg q3, if_neg q4, if_neg q5, if_neg q6, if_pos q7] at kk; exact kk
  · rw [if_neg q0, if_neg q1, if_neg q2, if_neg q3, if_neg q4, if_neg q5, if_neg q6, if_neg q7, if_pos q8] at kk; exact kk
  · rw [if_neg q0, if_neg q1, if_neg q2, if_neg q3, if_neg q4, if_neg q5, if_neg q6, if_neg q7, if_neg q8] at kk; exact kk
