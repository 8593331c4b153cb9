/-! ADVICE: worth, looking ahead, a road kept open, edges -/
noncomputable abbrev VB (G : Lnd) : Int → Int → Int := VV G 1 (lkG G) (fun _ => 0)
theorem VB_rng {G : Lnd} (hw : WF G) {lik : Int → Int} (hl : likO G lik) {k p : Int} (k0 : 0 ≤ k) (k1 : k < thr_ ((G 0 3))) (hlk : 0 < lik k) (p0 : 0 ≤ p) (p1 : p < (G 0 0)) : 0 ≤ VV G 1 lik (fun _ => 0) k p ∧ VV G 1 lik (fun _ => 0) k p ≤ 1152921504606846976 ∧ -2 ≤ tolV (VV G 1 lik (fun _ => 0) k p) ∧ tolV (VV G 1 lik (fun _ => 0) k p) ≤ 100000000000000000 ∧ tolV (VV G 1 lik (fun _ => 0) k p) ≠ -1 := by
  have ht := thrG hw
  have hr := VV_rng hw hl (sm := 1) (en := fun _ => 0) (fun k k0 k1 hl => by unfold eB; rw [if_neg (by decide)]; exact ⟨(show -(0 : Int) ≤ 0 by decide), Int.le_refl _⟩) k k0 k1 hlk p p0 p1
  have e : eB 1 = 0 := if_neg (by decide)
  have hst : sT 1 lik k = lik k := if_neg (by decide)
  have hb := hl.1 k k0 k1
  have hm : (729 - k) * lik k ≤ 729 * 20000000000 := Int.mul_le_mul (by omega) hb.2 hb.1 (by decide)
  unfold vR_ at hr
  rw [e, hst] at hr
  unfold tolV
  refine ⟨by omega, by omega, ?_⟩
  split <;> omega
def mwW (G : Lnd) (r w : Int) : Int := if sDif w r = 0 ∧ 0 < lkG G (tld r w) then 1 else 0
noncomputable def mwH (G : Lnd) (r w : Int) : Int := tolV (VB G (tld r w) ((G 0 6)))
noncomputable def mwF (G : Lnd) (r : Int) : Int := mnF (mwH G r) (mwW G r) (r + 1).toNat
theorem tld_lt {G : Lnd} (hw : WF G) {r w : Int} (r0 : 0 ≤ r) (r1 : r < p2_ ((G 0 3))) : tld r w < thr_ ((G 0 3)) := by
  have hN := hw.N; unfold wfN at hN
  have hr := tld_rng r w
  refine lt_thr hr.1 hr.2 (by omega) (by omega) (fun i i0 i6 => ?_)
  rw [dg_tld (by omega) i6, bt_hi r0 (by omega) r1 i0 i6, if_neg (by decide)]
def bestM (G : Lnd) (M : aM) : Prop := slM 50 G 1 (lkG G) (fun _ => 0) M
theorem mwF_rng {G : Lnd} (hw : WF G) {r : Int} (hs : 0 ≤ (G 0 6)) (r0 : 0 ≤ r) (r1 : r < p2_ ((G 0 3))) : -2 ≤ mwF G r ∧ mwF G r ≤ 6400000000000000000 := by
  have hN := hw.N; unfold wfN at hN
  have h64 := p2_lt64 hw
  have hH : ∀ w, mwW G r w ≠ 0 → mwH G r w ≤ 100000000000000000 := fun w hne => by
    unfold mwW at hne
    by_cases hc : sDif w r = 0 ∧ 0 < lkG G (tld r w)
    · exact (VB_rng hw (lkG_ok hw) (tld_rng r w).1 (tld_lt hw r0 r1) hc.2 hs (by omega)).2.2.2.1
    · rw [if_neg hc] at hne; exact absurd rfl hne
  unfold mwF mnF
  cases hb : ngB (mwH G r) (mwW G r) (r + 1).toNat with
  | true => rw [if_pos rfl]; omega
  | false =>
    rw [if_neg (by decide)]
    have hnn : 0 ≤ su_ (mnT (mwH G r) (mwW G r)) (r + 1).toNat := su_nn _ (fun w w0 w1 => by
      unfold mnT
      by_cases hc : 0 < mwW G r w
      · rw [if_pos hc]; exact Int.mul_nonneg (by omega) (ngB_cs _ hb w w0 w1 hc)
      · rw [if_neg hc]; omega)
    have hle : su_ (mnT (mwH G r) (mwW G r)) (r + 1).toNat ≤ su_ (fun _ => 1 * 100000000000000000) (r + 1).toNat := su_le _ (fun w w0 w1 => by
      unfold mnT
      by_cases hc : 0 < mwW G r w
      · rw [if_pos hc]
        have e1 : mwW G r w = 1 := by unfold mwW at hc ⊢; split at hc <;> simp_all
        rw [e1]; have := hH w (by omega); omega
      · rw [if_neg hc]; omega)
    rw [su_mul] at hle
    have hone : ∀ n : Nat, su_ (fun _ => 1) n = n := by
      intro n; induction n with
      | zero => rfl
      | succ n ih => show su_ (fun _ => 1) n + 1 = ((n + 1 : Nat) : Int); rw [ih]; omega
    rw [hone] at hle
    omega
theorem s_X0_meanWith {M : aM} {W : aW} {Q : Int → aM → aW → Prop} {G : Lnd} {c r : Int} (hP : clP c G M) (m7 : M 65 7 = c) (hB : bestM G M) (hs : 0 ≤ (G 0 6)) (r0 : 0 ≤ r) (r1 : r < p2_ ((G 0 3))) (h : Q (mwF G r) M W) : CallL 2 [vR 65, vI r] (M, W) Q := by
  obtain ⟨hk, hG, hw, hc, m2, m38, m39, -⟩ := hP
  have hN := hw.N; unfold wfN at hN
  have h64 := p2_lt64 hw
  have ht := thrG hw
  have key : ∀ (n : Nat) (x2 x4 : Int) (d5 d6 d7 : aL), 0 ≤ x4 → x4 ≤ r + 1 → (r + 1 - x4).toNat = n → ngB (mwH G r) (mwW G r) x4.toNat = false → x2 = su_ (mnT (mwH G r) (mwW G r)) x4.toNat → Xs 2 (5, [some (some (vR 65)), some (some (vI r)), some (some (vL x2)), some none, some (some (vI x4)), d5, d6, d7], [], (M, W)) (QL Q) := by
    intro n; induction n using Nat.strongRecOn with
    | _ n ih =>
      intro x2 x4 d5 d6 d7 h0 h1 hn hb hx
      refine k_X0_meanWith_5 _ _ _ _ _ _ _ _ _ ?_
      refine ⟨by omega, fun hgt => ?_, fun hle => ?_⟩
      · have e : x4 = r + 1 := by omega
        rw [e] at hb hx
        unfold mwF mnF at h; rw [if_neg (by rw [hb]; decide), ← hx] at h; exact h
      · refine s_X2_told hc r0 (by omega) h0 (by omega) ?_
        rw [dif_e h0 (by omega) r0 (by omega)]
        have hdr := sDif_rng x4 r
        have skip : ∀ (d5 d6 d7 : aL), mwW G r x4 = 0 → Xs 2 (5, [some (some (vR 65)), some (some (vI r)), some (some (vL x2)), some none, some (some (vI (x4 + 1))), d5, d6, d7], [], (M, W)) (QL Q) := fun d5 d6 d7 hz => by
          refine ih (r + 1 - (x4 + 1)).toNat (by omega) x2 (x4 + 1) _ _ _ (by omega) (by omega) rfl ?_ ?_
          · rw [ngB_S _ _ h0, hb, decide_eq_false (show ¬ 0 < mwW G r x4 by omega)]; rfl
          · rw [su_succ _ h0, ← hx]; unfold mnT; rw [if_neg (by omega)]; omega
        have htl := tld_lt hw (w := x4) r0 r1
        have htr := tld_rng r x4
        have hlr := lkG_rng hw (tld r x4)
        refine ⟨by omega, fun hne => skip _ _ _ (by unfold mwW; rw [if_neg (fun q => hne q.1)]), fun he => ⟨by omega, ?_⟩⟩
        rw [m39 _ htr.1 htl, m7, hG.1]
        refine ⟨by omega, fun hle2 => skip _ _ _ (by unfold mwW; rw [if_neg (fun q => by have := q.2; omega)]), fun hgt2 => ⟨ct_o hk, ?_⟩⟩
        have hone : mwW G r x4 = 1 := by unfold mwW; rw [if_pos ⟨Classical.byContradiction he, by omega⟩]
        have hv : M (50 + 1) (tld r x4 * 10 + (G 0 6)) = VB G (tld r x4) ((G 0 6)) := (hB _ htr.1 htl (by omega) ((G 0 6)) hs (by omega)).1
        have hvr := VB_rng hw (lkG_ok hw) htr.1 htl (by omega) hs (show (G 0 6) < (G 0 0) by omega)
        refine s_X9_meanFrom (Or.inl rfl) htr.1 (by omega) hs (by omega) (by rw [hv]; show inL (VV G 1 (lkG G) (fun _ => 0) (tld r x4) ((G 0 6))); omega) ?_
        rw [hv]
        have hHe : mwH G r x4 = tolV (VB G (tld r x4) ((G 0 6))) := rfl
        have hvr2 : -2 ≤ tolV (VB G (tld r x4) ((G 0 6))) ∧ tolV (VB G (tld r x4) ((G 0 6))) ≤ 100000000000000000 := ⟨hvr.2.2.1, hvr.2.2.2.1⟩
        refine ⟨by omega, fun hge => fun v hv2 => ?_, fun hneg => ?_⟩
        · refine ih (r + 1 - (x4 + 1)).toNat (by omega) v (x4 + 1) _ _ _ (by omega) (by omega) rfl ?_ ?_
          · rw [ngB_S _ _ h0, hb, decide_eq_false (show ¬ mwH G r x4 < 0 by omega), Bool.and_false]; rfl
          · rw [su_succ _ h0, ← hx, hv2]; unfold mnT; rw [if_pos (by omega), hone, hHe]; omega
        · unfold mwF mnF at h; rw [if_pos (ngB_t _ x4 h0 (by omega) (by omega) (by omega))] at h; exact h
  refine e_X0_meanWith _ _ _ _ ?_
  exact key _ 0 0 _ _ _ (by omega) (by omega) rfl rfl rfl
noncomputable def woG (G : Lnd) (r : Int) : Int := if mwF G 0 < 0 then -2 else if mwF G (p2_ r) < 0 then -2 else mwF G 0 - mwF G (p2_ r)
theorem s_X0_worthOf {M : aM} {W : aW} {Q : Int → aM → aW → Prop} {G : Lnd} {c r : Int} (hP : clP c G M) (m7 : M 65 7 = c) (hB : bestM G M) (hs : 0 ≤ (G 0 6)) (r0 : 0 ≤ r) (r1 : r < (G 0 3)) (h : Q (woG G r) M W) : CallL 3 [vR 65, vI r] (M, W) Q := by
  have hw := hP.2.2.1
  have hN := hw.N; unfold wfN at hN
  have h64 := p2_lt64 hw
  have hp2 := p2_lt hw r0 r1
  have g1 := mwF_rng hw hs (r := 0) (by decide) (by omega)
  have g2 := mwF_rng hw hs hp2.1 hp2.2.1
  refine e_X0_worthOf _ _ _ _ ?_
  rw [shl_e r0 (by omega)]
  refine s_X0_meanWith hP m7 hB hs (by decide) (by omega) (s_X0_meanWith hP m7 hB hs hp2.1 hp2.2.1 ⟨by omega, fun hlt => ?_, fun hge => ⟨by omega, fun hge2 => ?_, fun hlt2 => ?_⟩⟩)
  · unfold woG at h; rw [if_pos hlt] at h; exact h
  · unfold woG at h; rw [if_neg hge, if_neg (by omega)] at h; exact h
  · unfold woG at h; rw [if_neg hge, if_pos (by omega)] at h; exact h
def pcn (r : Int) : Int := bt r 0 + bt r 1 + bt r 2 + bt r 3 + bt r 4 + bt r 5
set_option maxRecDepth 100000 in
theorem pcn_64 : ∀ a < 64, (let x := Int.ofNat a; let v1 := x - (and_ (ushr_ x 1) 1431655765); let v2 := (and_ v1 858993459) + (and_ (ushr_ v1 2) 858993459); let v3 := and_ (v2 + (ushr_ v2 4)) 252645135; let v4 := v3 + (ushr_ v3 8); let v5 := v4 + (ushr_ v4 16); and_ v5 63) = pcn (Int.ofNat a) := by decide +kernel
theorem s_J6_bitCount {M : aM} {W : aW} {Q : Int → aM → aW → Prop} {r : Int} (r0 : 0 ≤ r) (r1 : r < 64) (h : Q (pcn r) M W) : CallI 265 [vI r] (M, W) Q := by
  refine e_J6_bitCount_0f7a4 _ _ _ _ ?_
  intro v1 h1 v2 h2 v3 h3 v4 h4 v5 h5
  obtain ⟨n, rfl, hn⟩ := nat_of r0 r1
  have := pcn_64 n hn
  rw [h5, h4, h3, h2, h1]
  rw [← this] at h; exact h
theorem pcn_rng (r : Int) : 0 ≤ pcn r ∧ pcn r ≤ 6 := by
  have a0 := bt_rng r 0; have a1 := bt_rng r 1; have a2 := bt_rng r 2; have a3 := bt_rng r 3; have a4 := bt_rng r 4; have a5 := bt_rng r 5
  unfold pcn; omega
noncomputable def laS (G : Lnd) (hh : Int) (s : Int × Int) (r : Int) : Int × Int :=
  if mwF G r < 0 then s else if s.1 < 0 then (r, mwF G r + pcn r * hh * lkG G 0) else if mwF G r + pcn r * hh * lkG G 0 < s.2 then (r, mwF G r + pcn r * hh * lkG G 0) else if mwF G r + pcn r * hh * lkG G 0 = s.2 ∧ pcn r < pcn s.1 then (r, mwF G r + pcn r * hh * lkG G 0) else s
noncomputable def laR (G : Lnd) (hh : Int) : Nat → Int × Int
  | 0 => (-1, 0)
  | n + 1 => laS G hh (laR G hh n) n
theorem laR_S (G : Lnd) (hh : Int) {x : Int} (h : 0 ≤ x) : laR G hh (x + 1).toNat = laS G hh (laR G hh x.toNat) x := by
  have e : (x + 1).toNat = x.toNat + 1 := by omega
  have e2 : ((x.toNat : Nat) : Int) = x := by omega
  rw [e]; show laS G hh (laR G hh x.toNat) (x.toNat : Nat) = _; rw [e2]
noncomputable def laF (G : Lnd) (hh what : Int) : Int := if (laR G hh (p2_ ((G 0 3))).toNat).1 < 0 then -2 else if what = 0 then (laR G hh (p2_ ((G 0 3))).toNat).1 else (laR G hh (p2_ ((G 0 3))).toNat).2
theorem s_X0_lookAhead {M : aM} {W : aW} {Q : Int → aM → aW → Prop} {G : Lnd} {c hh what : Int} (hP : clP c G M) (m7 : M 65 7 = c) (hB : bestM G M) (hs : 0 ≤ (G 0 6)) (h0 : 0 ≤ hh) (h99 : hh ≤ 99) (hwi : inI what) (h : Q (laF G hh what) M W) : CallL 4 [vR 65, vI hh, vI what] (M, W) Q := by
  have hP' := hP
  obtain ⟨hk, hG, hw, hc, m2, m38, m39, -⟩ := hP
  have hN := hw.N; unfold wfN at hN
  have h64 := p2_lt64 hw
  have ht := thrG hw
  have hl0 := lkG_rng hw 0
  have key : ∀ (n : Nat) (x3 x4 x6 : Int) (d7 d8 d9 d10 : aL), 0 ≤ x6 → x6 ≤ p2_ ((G 0 3)) → (p2_ ((G 0 3)) - x6).toNat = n → (x3, x4) = laR G hh x6.toNat → (-1 ≤ x3 ∧ x3 < x6) → (-10 ≤ x4 ∧ x4 ≤ 6500000000000000000) → Xs 4 (8, [some (some (vR 65)), some (some (vI hh)), some (some (vI what)), some (some (vI x3)), some (some (vL x4)), some none, some (some (vI x6)), d7, d8, d9, d10], [], (M, W)) (QL Q) := by
    intro n; induction n using Nat.strongRecOn with
    | _ n ih =>
      intro x3 x4 x6 d7 d8 d9 d10 q0 q1 hn hx hr3 hr4
      refine k_X0_lookAhead_8 _ _ _ _ _ _ _ _ _ _ _ _ ?_
      rw [m7]
      refine ⟨ct_o hk, s_X3_worlds hk hG hw ⟨by omega, fun hge => ⟨by omega, fun hc3 => ⟨hwi, fun hne => ?_, fun he => ⟨by omega, ?_⟩⟩, fun hc3 => ?_⟩, fun hlt => ?_⟩⟩
      · have e : x6 = p2_ ((G 0 3)) := by omega
        rw [e] at hx
        unfold laF at h; rw [← hx, if_neg (show ¬ (x3, x4).1 < 0 by show ¬ x3 < 0; omega), if_neg hne] at h; exact h
      · have e : x6 = p2_ ((G 0 3)) := by omega
        rw [e] at hx
        unfold laF at h; rw [← hx, if_neg (show ¬ (x3, x4).1 < 0 by show ¬ x3 < 0; omega), if_pos (Classical.byContradiction he)] at h; exact h
      · have e : x6 = p2_ ((G 0 3)) := by omega
        rw [e] at hx
        unfold laF at h; rw [← hx, if_pos (show (x3, x4).1 < 0 by show x3 < 0; omega)] at h; exact h
      · have hmr := mwF_rng hw hs q0 (show x6 < p2_ ((G 0 3)) by omega)
        have hpc := pcn_rng x6
        have hp1 : 0 ≤ pcn x6 * hh ∧ pcn x6 * hh ≤ 6 * 99 := ⟨Int.mul_nonneg hpc.1 h0, Int.mul_le_mul hpc.2 h99 h0 (by decide)⟩
        have hp2 : 0 ≤ pcn x6 * hh * lkG G 0 ∧ pcn x6 * hh * lkG G 0 ≤ 594 * 100000000 := ⟨Int.mul_nonneg hp1.1 hl0.1, Int.mul_le_mul hp1.2 hl0.2 hl0.1 (by decide)⟩
        refine s_X0_meanWith hP' m7 hB hs q0 (by omega) (s_J6_bitCount q0 (by omega) ⟨by omega, by omega, fun v hv => ?_⟩)
        rw [m39 0 (by decide) (by omega)] at hv
        have same : laS G hh (x3, x4) x6 = (x3, x4) → ∀ (d7 d8 d9 d10 : aL), Xs 4 (8, [some (some (vR 65)), some (some (vI hh)), some (some (vI what)), some (some (vI x3)), some (some (vL x4)), some none, some (some (vI (x6 + 1))), d7, d8, d9, d10], [], (M, W)) (QL Q) := fun e d7 d8 d9 d10 =>
          ih (p2_ ((G 0 3)) - (x6 + 1)).toNat (by omega) x3 x4 (x6 + 1) _ _ _ _ (by omega) (by omega) rfl (by rw [laR_S _ _ q0, ← hx, e]) (by omega) hr4
        have take : laS G hh (x3, x4) x6 = (x6, v) → 0 ≤ mwF G x6 → ∀ (d7 d8 d9 d10 : aL), Xs 4 (8, [some (some (vR 65)), some (some (vI hh)), some (some (vI what)), some (some (vI x6)), some (some (vL v)), some none, some (some (vI (x6 + 1))), d7, d8, d9, d10], [], (M, W)) (QL Q) := fun e hm d7 d8 d9 d10 =>
          ih (p2_ ((G 0 3)) - (x6 + 1)).toNat (by omega) x6 v (x6 + 1) _ _ _ _ (by omega) (by omega) rfl (by rw [laR_S _ _ q0, ← hx, e]) (by omega) (by omega)
        refine ⟨by omega, fun hneg => same (by unfold laS; rw [if_pos hneg]) _ _ _ _, fun hpos => ⟨by omega, fun h3 => take (by unfold laS; rw [if_neg hpos, if_pos (show (x3, x4).1 < 0 from h3), hv]) (by omega) _ _ _ _, fun h3 => ⟨by omega, fun hlt4 => take (by unfold laS; rw [if_neg hpos, if_neg (show ¬ (x3, x4).1 < 0 from h3), if_pos (show _ < (x3, x4).2 by show _ < x4; omega), hv]) (by omega) _ _ _ _, fun hge4 => ⟨by omega, fun hne4 => same (by unfold laS; rw [if_neg hpos, if_neg (show ¬ (x3, x4).1 < 0 from h3), if_neg (show ¬ _ < (x3, x4).2 by show ¬ _ < x4; omega), if_neg (fun q => hne4 (by rw [hv]; exact q.1))]) _ _ _ _, fun he4 => ?_⟩⟩⟩⟩
        have hpc3 := pcn_rng x3
        refine s_J6_bitCount q0 (by omega) (s_J6_bitCount (by omega) (by omega) ⟨by omega, fun hge => same ?_ _ _ _ _, fun hlt => take ?_ (by omega) _ _ _ _⟩)
        · unfold laS; rw [if_neg hpos, if_neg (show ¬ (x3, x4).1 < 0 from h3), if_neg (show ¬ _ < (x3, x4).2 by show ¬ _ < x4; omega), if_neg (fun q => by have h' : pcn x6 < pcn x3 := q.2; omega)]
        · unfold laS; rw [if_neg hpos, if_neg (show ¬ (x3, x4).1 < 0 from h3), if_neg (show ¬ _ < (x3, x4).2 by show ¬ _ < x4; omega), if_pos ⟨by show _ = x4; omega, by show pcn x6 < pcn x3; omega⟩, hv]
  refine e_X0_lookAhead _ _ _ _ _ ?_
  exact key _ (-1) 0 0 _ _ _ _ (by omega) (by omega) rfl rfl (by decide) (by decide)
