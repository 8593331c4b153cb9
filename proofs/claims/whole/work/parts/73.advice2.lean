/-! THE REFERENCE's calls: worth, scout -/
theorem s_X12_lay0 {Q : aM → aW → Prop} {M : aM} {W : aW} {G : Lnd} {D : Int → Int → Int} {on w n tn fk fp : Int} {wp wh wk tp : Int → Int} (h : rfS G D on w n wp wh wk tn tp fk fp M) (hg : 0 ≤ (G 0 7)) (k : ∀ N, frP M N → rfS G D on w n wp wh wk tn tp fk fp N → rowsD G 0 1 (lkG G) (VB G) N → Q N W) : CallV 218 [vR 86] (M, W) Q := by
  have hn := h.G.n
  have ht := h.G.t
  have hq' : thr_ ((G 0 3)) ≤ 729 ∧ (G 0 0) ≤ 10 := by omega
  refine s_X12_layBest h.G hg h.Wt.2 h.B (fun N fN rN e1 dN => ?_)
  have fP : frP M N := fun b j c1 c2 => fN b j (by omega) (by omega) (by omega) (by omega) (by omega) (by omega)
  have hS := h.pl fP (h.I.of (fun j => fN 113 j (by decide) (by decide) (by decide) (by decide) (by decide) (by omega))) (Or.inr ⟨e1, dN⟩) (h.U.of hq' (fun b j c => by
    rcases c with ⟨c | c, c2⟩ | c
    · rw [c]; exact (rN j (by omega)).1
    · rw [c]; exact (rN j (by omega)).2
    · exact fN b j (by omega) (by omega) (by omega) (by omega) (by omega) (by omega))) (h.F.of hq' (fun b j c => by
    rcases c with ⟨c, c2⟩ | c
    · rw [c]; exact (rN j (by omega)).2
    · exact fN b j (by omega) (by omega) (by omega) (by omega) (by omega) (by omega)))
  exact k N fP hS dN
theorem VB_q {G : Lnd} (hw : WF G) {k p : Int} (k0 : 0 ≤ k) (k1 : k < thr_ ((G 0 3))) (hlk : 0 < lkG G k) (p0 : 0 ≤ p) (p1 : p < (G 0 0)) : 0 ≤ VB G k p ∧ (VB G k p < 1152921504606846976 → VB G k p ≤ 218700000000000) := by
  have ht := thrG hw
  have hr : vR_ 1 (lkG G) k (729 - k) (VB G k p) := VV_rng hw (lkG_ok hw) (sm := 1) (en := fun _ => 0) enO_0 k k0 k1 hlk p p0 p1
  have e : eB 1 = 0 := if_neg (by decide)
  have hst : sT 1 (lkG G) k = lkG G k := if_neg (by decide)
  have hb := lkG_rng hw k
  have hm : (729 - k) * lkG G k ≤ 729 * 100000000 := Int.mul_le_mul (by omega) hb.2 hb.1 (by decide)
  unfold vR_ at hr
  rw [e, hst] at hr
  omega
theorem sub_le {w r : Int} (w0 : 0 ≤ w) (w1 : w < 64) (r0 : 0 ≤ r) (r1 : r < 64) (h : sDif w r = 0) : w ≤ r := by
  have hb : ∀ i, 0 ≤ i → i < 6 → bt w i ≤ bt r i := fun i i0 i6 => by
    have h2 := bt_sDif (a := w) (b := r) i0 i6
    rw [h, bt_hi (k := 0) (d := 0) (by decide) (by decide) (by decide) i0 i6] at h2
    have h3 := bt_cs w i; have h4 := bt_cs r i
    refine Classical.byContradiction (fun c => ?_)
    rw [if_pos ⟨by omega, by omega⟩] at h2
    omega
  rw [← bs_bt w0 w1, ← bs_bt r0 r1]
  have a0 := hb 0 (by decide) (by decide); have a1 := hb 1 (by decide) (by decide); have a2 := hb 2 (by decide) (by decide); have a3 := hb 3 (by decide) (by decide); have a4 := hb 4 (by decide) (by decide); have a5 := hb 5 (by decide) (by decide)
  unfold bs
  omega
theorem ngB_le {H Wt : Int → Int} {n m : Nat} (hnm : n ≤ m) (h : ∀ w : Int, n ≤ w → w < m → Wt w ≤ 0) : ngB H Wt m = ngB H Wt n := by
  cases hb : ngB H Wt n with
  | true =>
    obtain ⟨w, w0, w1, w2, w3⟩ := ngB_ex n hb
    exact ngB_t m w w0 (by omega) w2 w3
  | false =>
    cases hc : ngB H Wt m with
    | false => rfl
    | true =>
      obtain ⟨w, w0, w1, w2, w3⟩ := ngB_ex m hc
      by_cases c : w < n
      · have := ngB_cs n hb w w0 c w2; omega
      · have := h w (by omega) w1; omega
theorem mnF_le {H Wt : Int → Int} {n m : Nat} (hnm : n ≤ m) (h : ∀ w : Int, n ≤ w → w < m → Wt w ≤ 0) : mnF H Wt m = mnF H Wt n := by
  unfold mnF
  rw [ngB_le hnm h]
  have e : su_ (mnT H Wt) m = su_ (mnT H Wt) n := by
    obtain ⟨b, hb⟩ : ∃ b, m = n + b := ⟨m - n, by omega⟩
    rw [hb, su_app]
    have : su_ (fun i => mnT H Wt (i + n)) b = su_ (fun _ => 0) b := su_congr b (fun i i0 i1 => by
      unfold mnT; exact if_neg (by have := h (i + n) (by omega) (by omega); omega))
    rw [this, su_zero]; omega
  rw [e]
def ksV (x : Int) : Int := if x < 0 then 4000000000000000000 else x
/-- the sum over all worlds -/
theorem mwF_all {G : Lnd} (hw : WF G) {r : Int} (r0 : 0 ≤ r) (r1 : r < p2_ ((G 0 3))) : mwF G r = mnF (mwH G r) (mwW G r) (p2_ ((G 0 3))).toNat := by
  have h64 := p2_lt64 hw
  unfold mwF
  refine (mnF_le (by omega) (fun w w0 w1 => ?_)).symm
  unfold mwW
  rw [if_neg (fun a => by have := sub_le (w := w) (r := r) (by omega) (by omega) r0 (by omega) a.1; omega)]
  exact Int.le_refl 0
theorem mwS_bd {G : Lnd} (hw : WF G) {r : Int} (hs : 0 ≤ (G 0 6)) (r0 : 0 ≤ r) (r1 : r < p2_ ((G 0 3))) : ∀ n : Nat, n ≤ p2_ ((G 0 3)) → ngB (mwH G r) (mwW G r) n = false → 0 ≤ su_ (mnT (mwH G r) (mwW G r)) n ∧ su_ (mnT (mwH G r) (mwW G r)) n ≤ n * 218700000000000 := by
  have hN := hw.N; unfold wfN at hN
  intro n
  induction n with
  | zero => intro _ _; exact ⟨Int.le_refl 0, (by show (0 : Int) ≤ ((0 : Nat) : Int) * 218700000000000; omega)⟩
  | succ n ih =>
    intro hn hb
    have hb' : (ngB (mwH G r) (mwW G r) n || (decide (0 < mwW G r n) && decide (mwH G r n < 0))) = false := hb
    rw [Bool.or_eq_false_iff] at hb'
    have i1 := ih (by omega) hb'.1
    have hc := ngB_cs (n + 1) hb n (by omega) (by omega)
    show 0 ≤ su_ (mnT (mwH G r) (mwW G r)) n + mnT (mwH G r) (mwW G r) n ∧ su_ (mnT (mwH G r) (mwW G r)) n + mnT (mwH G r) (mwW G r) n ≤ ((n + 1 : Nat) : Int) * 218700000000000
    have hm : 0 ≤ mnT (mwH G r) (mwW G r) n ∧ mnT (mwH G r) (mwW G r) n ≤ 218700000000000 := by
      unfold mnT
      split
      · rename_i c
        have e1 : mwW G r n = 1 ∧ (sDif n r = 0 ∧ 0 < lkG G (tld r n)) := by
          unfold mwW at c ⊢
          split at c
          · rename_i d; exact ⟨if_pos d, d⟩
          · exact absurd c (by decide)
        have hq := VB_q hw (tld_rng r n).1 (tld_lt hw r0 r1) e1.2.2 hs (by omega)
        have h0 := hc c
        rw [e1.1]
        unfold mwH tolV at h0 ⊢
        split at h0
        · rename_i d; rw [if_pos d]; omega
        · exact absurd h0 (by decide)
      · omega
    omega
theorem mw_bd {G : Lnd} (hw : WF G) {r : Int} (hs : 0 ≤ (G 0 6)) (r0 : 0 ≤ r) (r1 : r < p2_ ((G 0 3))) : mwF G r = -2 ∨ (0 ≤ mwF G r ∧ mwF G r ≤ 20000000000000000) := by
  have h64 := p2_lt64 hw
  rw [mwF_all hw r0 r1]
  unfold mnF
  cases hb : ngB (mwH G r) (mwW G r) (p2_ ((G 0 3))).toNat with
  | true => exact Or.inl rfl
  | false =>
    have := mwS_bd hw hs r0 r1 (p2_ ((G 0 3))).toNat (by omega) hb
    rw [if_neg (by decide)]
    right; omega
def tlQ (r w n : Int) : Int := ds (fun i => if i < n ∧ bt r i = 1 then bt w i + 1 else 0)
theorem s_X12_knowingSome {Q : Int → aM → aW → Prop} {M : aM} {W : aW} {G : Lnd} {D : Int → Int → Int} {on w n tn fk fp : Int} {wp wh wk tp : Int → Int} {r : Int} (h : rfS G D on w n wp wh wk tn tp fk fp M) (hs : 0 ≤ (G 0 6)) (hg : 0 ≤ (G 0 7)) (r0 : 0 ≤ r) (r1 : r < p2_ ((G 0 3))) (k : ∀ N, frP M N → rfS G D on w n wp wh wk tn tp fk fp N → Q (ksV (mwF G r)) N W) : CallL 253 [vR 86, vI r] (M, W) Q := by
  have hn := h.G.n
  have ht := h.G.t
  have hw := h.G.W
  refine e_X12_knowingSome _ _ _ _ ?_
  refine s_X12_lay0 h hg (fun N fN hN dN => ?_)
  have hk := k N fN hN
  rw [mwF_all hw r0 r1] at hk
  unfold mnF at hk
  have l9 : ∀ (m : Nat) (x2 w : Int) (d5 d6 d7 : aL), 0 ≤ w → w ≤ p2_ ((G 0 3)) → (p2_ ((G 0 3)) - w).toNat = m → ngB (mwH G r) (mwW G r) w.toNat = false → x2 = su_ (mnT (mwH G r) (mwW G r)) w.toNat → Xs 253 (9, [some (some (vR 86)), some (some (vI r)), some (some (vL x2)), some none, some (some (vI w)), d5, d6, d7], [], (N, W)) (QL Q) := by
    intro m
    induction m with
    | zero =>
      intro x2 w d5 d6 d7 w0 w1 hm hb hx
      have e : w = p2_ ((G 0 3)) := by omega
      rw [e] at hb hx
      rw [hb, if_neg (by decide), ← hx] at hk
      have hbd := mwS_bd hw hs r0 r1 (p2_ ((G 0 3))).toNat (by omega) hb
      unfold ksV at hk
      rw [if_neg (by omega)] at hk
      refine k_X12_knowingSome_9 _ _ _ _ _ _ _ _ _ ?_
      rw [hN.G.o22]
      exact ⟨by omega, fun _ => hk, fun hlt => by omega⟩
    | succ m ih =>
      intro x2 w d5 d6 d7 w0 w1 hm hb hx
      have hdr := sDif_rng w r
      have skip : ∀ d5 d6 d7 : aL, ¬ (0 < mwW G r w) → Xs 253 (9, [some (some (vR 86)), some (some (vI r)), some (some (vL x2)), some none, some (some (vI (w + 1))), d5, d6, d7], [], (N, W)) (QL Q) := fun d5 d6 d7 hno => ih _ _ _ _ _ (by omega) (by omega) (by omega) (by rw [ngB_S _ _ w0, hb, decide_eq_false hno]; rfl) (by rw [su_succ _ w0, hx]; unfold mnT; rw [if_neg hno]; omega)
      refine k_X12_knowingSome_9 _ _ _ _ _ _ _ _ _ ?_
      rw [hN.G.o22, dif_e w0 (by omega) r0 (by omega)]
      refine ⟨by omega, fun hge => by omega, fun _ => ⟨by omega, fun hz => ?_, fun hnz => skip _ _ _ (fun a => ?_)⟩⟩
      · have l36 : ∀ (n : Nat) (x5 d : Int) (d7 : aL), 0 ≤ d → d ≤ (G 0 3) → ((G 0 3) - d).toNat = n → x5 = tlQ r w d → Xs 253 (36, [some (some (vR 86)), some (some (vI r)), some (some (vL x2)), some none, some (some (vI w)), some (some (vI x5)), some (some (vI d)), d7], [], (N, W)) (QL Q) := by
          intro n
          induction n with
          | zero =>
            intro x5 d d7 a0 a1 hnm hx5
            have ed : d = (G 0 3) := by omega
            have e5 : x5 = tld r w := by
              rw [hx5]
              refine ds_ext (fun i i0 i6 => ?_)
              by_cases c : bt r i = 1
              · have : i < d := by
                  refine Classical.byContradiction (fun hno => ?_)
                  have := bt_hi r0 (show 0 ≤ (G 0 3) by omega) r1 (i := i) (by omega) i6
                  omega
                rw [if_pos ⟨this, c⟩, if_pos c]
              · rw [if_neg (fun a => c a.2), if_neg c]
            have htr := tld_rng r w
            have htl := tld_lt hw (w := w) r0 r1
            have hlk := lkG_rng hw (tld r w)
            refine k_X12_knowingSome_36 _ _ _ _ _ _ _ _ _ ?_
            refine s_X12_doubts hN.G ⟨by omega, fun _ => ?_, fun hlt => by omega⟩
            rw [e5, hN.Wt.2 _ htr.1 htl, hN.G.N.2.2.2.2.2.1]
            refine ⟨by omega, by omega, fun hne => ?_, fun heq => skip _ _ _ (fun a => ?_)⟩
            · have hlp : 0 < lkG G (tld r w) := by omega
              have hW1 : mwW G r w = 1 := if_pos ⟨hz, hlp⟩
              have hq := VB_q hw htr.1 htl hlp hs (by omega)
              refine s_X12_arrives (lik := lkG G) (v := VB G) hN.G (by decide) (by decide) (Or.inr rfl) (lkG_ok hw) hN.Wt.2 (VB_B hw (lkG_ok hw)) (VB_S hw (lkG_ok hw) hs (by omega)) hs (by omega) htr.1 htl hlp (fun s s0 => rows_cp hw dN hs (by omega) htr.1 htl) ?_
              have hmH : mwH G r w = tolV (VB G (tld r w) ((G 0 6))) := rfl
              unfold tolV at hmH
              rcases upV_T (v := VB G (tld r w) ((G 0 6))) with ⟨a, b, -⟩ | ⟨a, b, -⟩
              · rw [if_pos a] at hmH
                rw [b]
                refine ⟨by omega, fun _ v ev => ih _ _ _ _ _ (by omega) (by omega) (by omega) ?_ ?_, fun hlt => by omega⟩
                · rw [ngB_S _ _ w0, hb, hmH, decide_eq_false (show ¬ VB G (tld r w) ((G 0 6)) < 0 by omega), Bool.and_false]; rfl
                · rw [ev, su_succ _ w0, hx]; unfold mnT; rw [if_pos (by omega), hW1, hmH]; omega
              · rw [if_neg (by omega)] at hmH
                rw [b]
                have hng : ngB (mwH G r) (mwW G r) (p2_ ((G 0 3))).toNat = true := ngB_t _ w w0 (by omega) (by omega) (by omega)
                rw [hng, if_pos rfl] at hk
                exact ⟨by decide, fun hlt => absurd hlt (by decide), fun _ => hk⟩
            · have heq' : lkG G (tld r w) = 0 := Classical.byContradiction heq
              unfold mwW at a; rw [if_neg (by omega)] at a; exact absurd a (by decide)
          | succ n ih2 =>
            intro x5 d d7 a0 a1 hnm hx5
            have hb0 := bt_cs r d
            refine k_X12_knowingSome_36 _ _ _ _ _ _ _ _ _ ?_
            refine s_X12_doubts hN.G ⟨by omega, fun hge => by omega, fun _ => ?_⟩
            rw [bit_e r0 (by omega) a0 (by omega), bit_e w0 (by omega) a0 (by omega), hN.G.D3 d a0 (by omega)]
            refine ⟨by omega, fun hne => ih2 _ _ _ (by omega) (by omega) (by omega) ?_, fun heq => ⟨by omega, fun v ev => ih2 _ _ _ (by omega) (by omega) (by omega) ?_⟩⟩
            · rw [hx5]
              refine ds_ext (fun i i0 i6 => ?_)
              by_cases c : i < d ∧ bt r i = 1
              · rw [if_pos c, if_pos ⟨by omega, c.2⟩]
              · rw [if_neg c, if_neg (fun a => c ⟨by
                  have : i ≠ d := fun e => by rw [e] at a; omega
                  omega, a.2⟩)]
            · rw [ev, hx5]
              refine (ds_add a0 (by omega) (fun i i0 i6 => ?_)).symm
              by_cases e : i = d
              · subst e; rw [if_pos rfl, if_pos ⟨by omega, by omega⟩, if_neg (fun a => by omega)]; omega
              · rw [if_neg e]
                by_cases a : i < d ∧ bt r i = 1
                · rw [if_pos a, if_pos ⟨by omega, a.2⟩]
                · rw [if_neg a, if_neg (fun b => a ⟨by omega, b.2⟩)]
        refine l36 _ 0 0 _ (by decide) (by omega) rfl ?_
        have e : tlQ r w 0 = ds (dg 0) := ds_ext (fun i i0 i6 => by rw [if_neg (fun a => by omega), dg0 i0 i6])
        rw [e, ds_dg (by decide) (by decide)]
      · unfold mwW at a; rw [if_neg (fun c => hnz c.1)] at a; exact absurd a (by decide)
  exact l9 _ 0 0 _ _ _ (by decide) (by omega) rfl rfl rfl
theorem r_worth {Q : Int → aM → aW → Prop} {M : aM} {W : aW} {G : Lnd} {D : Int → Int → Int} {on w n tn fk fp : Int} {wp wh wk tp : Int → Int} {d : Int} (h : rfS G D on w n wp wh wk tn tp fk fp M) (hi : inI d) (k : ∀ N, frK M N → rfS G D on w n wp wh wk tn tp fk fp N → Q (aWorth G d) N W) : CallL 254 [vR 86, vI d] (M, W) Q := by
  have kk := k _ (frK_thr M 0) h.thr
  have h2 := h.thr (v := 0)
  have hw := h2.G.W
  have hn := h2.G.n
  have ht := h2.G.t
  have fr := frK_thr M 0
  unfold aWorth at k kk
  refine e_X12_worth _ _ _ _ ?_
  generalize up_ M 86 2 0 = M1 at *
  refine s_X12_isDoubtful h2.G hi (fun r hr => ⟨by omega, fun q => ?_, fun q => s_X12_hasEnds h2.G (fun r2 hr2 => ⟨by omega, fun q2 => ?_, fun q2 => ?_⟩)⟩)
  · rw [if_neg (by omega)] at kk; exact kk
  · rw [shl_e (by omega) (by omega)]
    have hp := p2_lt hw (r := d) (by omega) (by omega)
    have b0 := mw_bd hw (r := 0) (by omega) (by decide) (by omega)
    have b1 := mw_bd hw (r := p2_ d) (by omega) hp.1 hp.2.1
    refine s_X12_knowingSome h2 (by omega) (by omega) (by decide) (by omega) (fun N fN hN => ?_)
    refine s_X12_knowingSome hN (by omega) (by omega) hp.1 hp.2.1 (fun K fK hK => ?_)
    have := k K (frK_tr fr (frK_tr (frK_P fN) (frK_P fK))) hK
    rw [if_pos (by omega)] at this
    unfold woG at this
    unfold ksV
    by_cases c0 : mwF G 0 < 0
    · rw [if_pos c0] at this ⊢
      exact ⟨by decide, fun _ => this, fun hlt => absurd (by decide) hlt⟩
    · rw [if_neg c0] at this ⊢
      refine ⟨by omega, fun hge => by omega, fun _ => ?_⟩
      by_cases c1 : mwF G (p2_ d) < 0
      · rw [if_pos c1] at this ⊢
        exact ⟨by decide, fun hlt => absurd hlt (by decide), fun _ => this⟩
      · rw [if_neg c1] at this ⊢
        exact ⟨by omega, fun _ => this, fun hlt => by omega⟩
  · rw [if_neg (by omega)] at kk; exact kk
def pcN (r n : Int) : Int := su_ (fun i => bt r i) n.toNat
theorem pcN_6 (r : Int) : pcN r 6 = pcn r := by
  show 0 + bt r 0 + bt r 1 + bt r 2 + bt r 3 + bt r 4 + bt r 5 = pcn r
  unfold pcn; omega
theorem pcN_n {r n : Int} (r0 : 0 ≤ r) (n0 : 0 ≤ n) (n6 : n ≤ 6) (r1 : r < p2_ n) : pcN r n = pcn r := by
  rw [← pcN_6]
  unfold pcN
  obtain ⟨b, hb⟩ : ∃ b, (6 : Int).toNat = n.toNat + b := ⟨(6 : Int).toNat - n.toNat, by omega⟩
  rw [hb, su_app]
  have : su_ (fun i => bt r (i + (n.toNat : Nat))) b = su_ (fun _ => 0) b := su_congr b (fun i i0 i1 => bt_hi r0 n0 r1 (by omega) (by omega))
  rw [this, su_zero]; omega
theorem r_scout {Q : Int → aM → aW → Prop} {M : aM} {W : aW} {G : Lnd} {D : Int → Int → Int} {on w n tn fk fp : Int} {wp wh wk tp : Int → Int} {x what : Int} (h : rfS G D on w n wp wh wk tn tp fk fp M) (hi : inI x) (hj : inI what) (k : ∀ N, frK M N → rfS G D on w n wp wh wk tn tp fk fp N → Q (aScout G x what) N W) : CallL 255 [vR 86, vI x, vI what] (M, W) Q := by
  have kk := k _ (frK_thr M 0) h.thr
  have h2 := h.thr (v := 0)
  have hw := h2.G.W
  have hn := h2.G.n
  have ht := h2.G.t
  have fr := frK_thr M 0
  unfold aScout at k kk
  refine e_X12_scout _ _ _ _ _ ?_
  generalize up_ M 86 2 0 = M1 at *
  have l0 := lkG_rng hw 0
  have l46 : (0 ≤ x ∧ x ≤ 99) → (0 ≤ what ∧ what ≤ 1) → 0 ≤ (G 0 6) → 0 ≤ (G 0 7) → ∀ (m : Nat) (x3 x4 x6 r : Int) (d8 d9 d10 d11 : aL) (N : aM), 0 ≤ r → r ≤ p2_ ((G 0 3)) → (p2_ ((G 0 3)) - r).toNat = m → frP M1 N → rfS G D on w n wp wh wk tn tp fk fp N → (x3, x4) = laR G x r.toNat → ((x3 = -1 ∧ x6 = 0) ∨ (0 ≤ x3 ∧ x3 < 64 ∧ x6 = pcn x3 ∧ -1 ≤ x4 ∧ x4 ≤ 30000000000000000)) → Xs 255 (46, [some (some (vR 86)), some (some (vI x)), some (some (vI what)), some (some (vI x3)), some (some (vL x4)), some none, some (some (vI x6)), some (some (vI r)), d8, d9, d10, d11], [], (N, W)) (QL Q) := by
    intro hx hwh hs hg m
    rw [if_pos ⟨hx.1, hx.2, hwh.1, hwh.2, hs, hg⟩] at k
    induction m with
    | zero =>
      intro x3 x4 x6 r d8 d9 d10 d11 N r0 r1 hm fN hN hx3 hc
      have e : r = p2_ ((G 0 3)) := by omega
      have kN := k N (frK_tr fr (frK_P fN)) hN
      unfold laF at kN
      rw [← e, ← hx3] at kN
      refine k_X12_scout_46 _ _ _ _ _ _ _ _ _ _ _ _ _ ?_
      rw [hN.G.o22]
      refine ⟨by omega, fun _ => ⟨by omega, fun hne => ⟨hj, fun hw1 => ?_, fun hw0 => ⟨by omega, ?_⟩⟩, fun heq => ?_⟩, fun hlt => by omega⟩
      · rw [if_neg (show ¬ x3 < 0 by omega), if_neg hw1] at kN; exact kN
      · rw [if_neg (show ¬ x3 < 0 by omega), if_pos (Classical.byContradiction hw0)] at kN; exact kN
      · rw [if_pos (show x3 < 0 by omega)] at kN; exact kN
    | succ m ih =>
      intro x3 x4 x6 r d8 d9 d10 d11 N r0 r1 hm fN hN hx3 hc
      have hb := mw_bd hw (r := r) hs r0 (by omega)
      have hla := laR_S G x r0
      rw [← hx3] at hla
      unfold laS at hla
      refine k_X12_scout_46 _ _ _ _ _ _ _ _ _ _ _ _ _ ?_
      rw [hN.G.o22]
      refine ⟨by omega, fun hge => by omega, fun _ => s_X12_knowingSome hN hs hg r0 (by omega) (fun K fK hK => ?_)⟩
      unfold ksV
      by_cases c0 : mwF G r < 0
      · rw [if_pos c0] at hla ⊢
        exact ⟨by decide, fun hlt => absurd hlt (by decide), fun _ => ih _ _ _ _ _ _ _ _ K (by omega) (by omega) (by omega) (frP_tr fN fK) hK hla.symm hc⟩
      · rw [if_neg c0] at hla ⊢
        refine ⟨by omega, fun _ => ?_, fun hlt => by omega⟩
        have hpr := pcn_rng r
        have hmul : 0 ≤ pcn r * x * lkG G 0 ∧ pcn r * x * lkG G 0 ≤ 60000000000 := by
          have a1 : 0 ≤ pcn r * x := Int.mul_nonneg hpr.1 hx.1
          have a2 : pcn r * x ≤ 6 * 99 := Int.mul_le_mul hpr.2 hx.2 hx.1 (by decide)
          have a3 : pcn r * x * lkG G 0 ≤ (6 * 99) * 100000000 := Int.mul_le_mul a2 l0.2 l0.1 (by decide)
          exact ⟨Int.mul_nonneg a1 l0.1, by omega⟩
        have l81 : ∀ (n : Nat) (x10 d : Int), 0 ≤ d → d ≤ (G 0 3) → ((G 0 3) - d).toNat = n → x10 = pcN r d → Xs 255 (81, [some (some (vR 86)), some (some (vI x)), some (some (vI what)), some (some (vI x3)), some (some (vL x4)), some none, some (some (vI x6)), some (some (vI r)), some (some (vL (mwF G r))), some none, some (some (vI x10)), some (some (vI d))], [], (K, W)) (QL Q) := by
          intro n
          induction n with
          | zero =>
            intro x10 d a0 a1 hnm hx10
            have ed : d = (G 0 3) := by omega
            have e10 : x10 = pcn r := by rw [hx10, ed, pcN_n r0 (by omega) (by omega) (by omega)]
            refine k_X12_scout_81 _ _ _ _ _ _ _ _ _ _ _ _ ?_
            refine s_X12_doubts hK.G ⟨by omega, fun _ => ?_, fun hlt => by omega⟩
            rw [e10, hK.Wt.2 0 (by decide) (by omega)]
            have new : ∀ d8 d9 d10 d11 : aL, laR G x (r + 1).toNat = (r, mwF G r + pcn r * x * lkG G 0) → Xs 255 (46, [some (some (vR 86)), some (some (vI x)), some (some (vI what)), some (some (vI r)), some (some (vL (mwF G r + pcn r * x * lkG G 0))), some none, some (some (vI (pcn r))), some (some (vI (r + 1))), d8, d9, d10, d11], [], (K, W)) (QL Q) := fun d8 d9 d10 d11 e => ih _ _ _ _ _ _ _ _ K (by omega) (by omega) (by omega) (frP_tr fN fK) hK e.symm (Or.inr ⟨r0, by omega, rfl, by omega, by omega⟩)
            have old : ∀ d8 d9 d10 d11 : aL, laR G x (r + 1).toNat = (x3, x4) → Xs 255 (46, [some (some (vR 86)), some (some (vI x)), some (some (vI what)), some (some (vI x3)), some (some (vL x4)), some none, some (some (vI x6)), some (some (vI (r + 1))), d8, d9, d10, d11], [], (K, W)) (QL Q) := fun d8 d9 d10 d11 e => ih _ _ _ _ _ _ _ _ K (by omega) (by omega) (by omega) (frP_tr fN fK) hK e.symm hc
            refine ⟨by omega, by omega, fun v ev => ?_⟩
            rw [ev]
            have g1 : (if x3 < 0 then (r, mwF G r + pcn r * x * lkG G 0) else if mwF G r + pcn r * x * lkG G 0 < x4 then (r, mwF G r + pcn r * x * lkG G 0) else if mwF G r + pcn r * x * lkG G 0 = x4 ∧ pcn r < pcn x3 then (r, mwF G r + pcn r * x * lkG G 0) else (x3, x4)) = laR G x (r + 1).toNat := hla.symm
            have hV : 0 ≤ mwF G r + pcn r * x * lkG G 0 ∧ mwF G r + pcn r * x * lkG G 0 ≤ 20000060000000000 := by omega
            have hp3 := pcn_rng x3
            generalize mwF G r + pcn r * x * lkG G 0 = V at *
            refine ⟨by omega, fun hz => new _ _ _ _ ?_, fun hnz => ⟨by omega, fun hgt => old _ _ _ _ ?_, fun hle => ⟨by omega, fun hne => new _ _ _ _ ?_, fun heq => ⟨by omega, fun hlt => new _ _ _ _ ?_, fun hge => old _ _ _ _ ?_⟩⟩⟩⟩
            · rw [← g1, if_pos (by omega)]
            · rw [← g1, if_neg (by omega), if_neg (by omega), if_neg (fun a => by omega)]
            · rw [← g1, if_neg (by omega), if_pos (by omega)]
            · rw [← g1, if_neg (by omega), if_neg (by omega), if_pos (by omega)]
            · rw [← g1, if_neg (by omega), if_neg (by omega), if_neg (fun a => by omega)]
          | succ n ih2 =>
            intro x10 d a0 a1 hnm hx10
            refine k_X12_scout_81 _ _ _ _ _ _ _ _ _ _ _ _ ?_
            refine s_X12_doubts hK.G ⟨by omega, fun hge => by omega, fun _ v ev => ih2 _ _ (by omega) (by omega) (by omega) ?_⟩
            rw [ev, bit_e r0 (by omega) a0 (by omega), hx10]
            exact (su_succ _ a0).symm
        exact l81 _ 0 0 (by decide) (by omega) rfl rfl
  refine s_X12_isIn hi (by decide) (by decide) (fun r hr => ⟨by omega, fun q => ?_, fun q => s_X12_isIn hj (by decide) (by decide) (fun r1 hr1 => ⟨by omega, fun q1 => ?_, fun q1 => s_X12_hasEnds h2.G (fun r2 hr2 => ⟨by omega, fun q2 => l46 (by omega) (by omega) (by omega) (by omega) _ (-1) 0 0 0 _ _ _ _ M1 (by decide) (by omega) rfl (frP_refl _) h2 rfl (Or.inl ⟨rfl, rfl⟩), fun q2 => ?_⟩)⟩)⟩)
  · rw [if_neg (by omega)] at kk; exact kk
  · rw [if_neg (by omega)] at kk; exact kk
  · rw [if_neg (by omega)] at kk; exact kk
