/-! SOLVER, its loops -/
def fV (x k : Int) (N : aM) (q : Int) : Int := N (x + 1) (k * 10 + q)
def psM (x : Int) (G : Lnd) (k : Int) (M : aM) : Prop := ∀ p q, 0 ≤ p → p < 10 → 0 ≤ q → q < 10 → M (x + 3) (p * 10 + q) = pas G p q k
theorem psM.ag {x : Int} {G : Lnd} {k lo hi : Int} {M N : aM} (h : psM x G k M) (ha : ag lo hi M N) (hl : x + 3 < lo ∨ hi < x + 3) : psM x G k N := fun p q p0 p1 q0 q1 => by rw [ha _ _ (by omega)]; exact h p q p0 p1 q0 q1
theorem svM.ag {x c a lo hi : Int} {G : Lnd} {lik : Int → Int} {sm : Int} {M N : aM} (h : svM x c a G lik sm M) (ha : ag lo hi M N) (hl : x < lo ∨ hi < x) (hl2 : a < lo ∨ hi < a) : svM x c a G lik sm N := by
  obtain ⟨m4, m5, m6, ms, ml⟩ := h
  refine ⟨by rw [ha _ _ (by omega)]; exact m4, by rw [ha _ _ (by omega)]; exact m5, by rw [ha _ _ (by omega)]; exact m6, ms, fun k k0 k1 => by rw [ha _ _ (by omega)]; exact ml k k0 k1⟩
theorem chV.row {x : Int} {G : Lnd} {lik : Int → Int} {v : Int → Int → Int} {k : Int} {M N : aM} (h : chV x G lik v k M) (hN : (G 0 0) ≤ 10) (ha : ∀ j, k * 10 + 10 ≤ j → N (x + 1) j = M (x + 1) j) : chV x G lik v k N := fun k' a b c p p0 p1 => by rw [ha _ (by omega)]; exact h k' a b c p p0 p1
theorem csS_pos {sm k h : Int} {lik : Int → Int} (hlk : 0 < lik k) (hh : 0 < h) : 0 < csS sm lik k h := by
  unfold csS; split
  · exact hh
  · exact Int.mul_pos hh hlk
theorem csS_le {sm k h B : Int} {lik : Int → Int} (hlk : 0 < lik k) (hl2 : lik k ≤ 20000000000) (hh : 0 ≤ h) (hB : h ≤ B) : 0 ≤ csS sm lik k h ∧ csS sm lik k h ≤ B * 20000000000 := by
  unfold csS; split
  · omega
  · refine ⟨Int.mul_nonneg hh (by omega), ?_⟩
    have a1 : h * lik k ≤ h * 20000000000 := Int.mul_le_mul_of_nonneg_left hl2 hh
    have a2 : h * 20000000000 ≤ B * 20000000000 := Int.mul_le_mul_of_nonneg_right hB (by decide)
    omega
theorem csS_z {sm k : Int} {lik : Int → Int} : csS sm lik k 0 = 0 := by unfold csS; split <;> omega
theorem s_X9_improve {M : aM} {W : aW} {Q : Int → aM → aW → Prop} {G : Lnd} {x c a sm k p : Int} {lik : Int → Int} {v : Int → Int → Int} (hx : svO x) (ha : lkA a) (hk : cty c) (hG : clG c G M) (hw : WF G) (hcd : cdM M) (hm : svM x c a G lik sm M) (hl : likO G lik) (k0 : 0 ≤ k) (k1 : k < thr_ ((G 0 3))) (hlk : 0 < lik k) (p0 : 0 ≤ p) (p1 : p < (G 0 0)) (hps : psM x G k M) (hc : chV x G lik v k M) (hv : vOK G lik v k)
    (hf : ∀ q, 0 ≤ q → q < (G 0 0) → -2305843009213693952 ≤ fV x k M q ∧ fV x k M q ≤ 2305843009213693952)
    (h : ∀ r N, ag (x + 1) (x + 2) M N → fV x k N p = stq 1152921504606846976 (cS G sm lik k) (eS G sm lik v k) ((G 0 0)).toNat (fV x k M) p → (∀ j, j ≠ k * 10 + p → N (x + 1) j = M (x + 1) j) → N (x + 2) (k * 10 + p) = actF G sm lik v k (fV x k M) p → (∀ j, j ≠ k * 10 + p → N (x + 2) j = M (x + 2) j) →
      ((r = 1 ∧ stq 1152921504606846976 (cS G sm lik k) (eS G sm lik v k) ((G 0 0)).toNat (fV x k M) p < fV x k M p) ∨ (r = 0 ∧ fV x k M p ≤ stq 1152921504606846976 (cS G sm lik k) (eS G sm lik v k) ((G 0 0)).toNat (fV x k M) p)) → Q r N W) : CallI 111 [vR x, vI p, vI k] (M, W) Q := by
  have hN := hw.N; unfold wfN at hN
  have ht := thr_le hN.2.2.2.1.1 hN.2.2.2.1.2
  have hg := sv_g hx ha
  have m4 := hm.1
  have hlk2 := (hl.1 k k0 k1).2
  have hlow : ∀ n : Nat, (n : Int) ≤ (G 0 0) → -2305843009213693952 ≤ mn_ (cand 1152921504606846976 (cS G sm lik k) (fV x k M) p) 1152921504606846976 n := by
    intro n hn
    rcases mn_att (cand 1152921504606846976 (cS G sm lik k) (fV x k M) p) 1152921504606846976 n with e | ⟨i, i0, i1, e⟩
    · omega
    · rw [e]; unfold cand
      have a1 := hf i i0 (by omega)
      split <;> omega
  have k108 : ∀ (n : Nat) (x4 x6 x7 : Int) (d8 d9 d10 : aL), 0 ≤ x7 → x7 ≤ (G 0 5) → ((G 0 5) - x7).toNat = n → x4 = mn_ (wcS G sm lik v k p) (mn_ (cand 1152921504606846976 (cS G sm lik k) (fV x k M) p) 1152921504606846976 ((G 0 0)).toNat) x7.toNat → x6 = aw_ (wcS G sm lik v k p) (mn_ (cand 1152921504606846976 (cS G sm lik k) (fV x k M) p) 1152921504606846976 ((G 0 0)).toNat) (am_ (cand 1152921504606846976 (cS G sm lik k) (fV x k M) p) 1152921504606846976 (-2) ((G 0 0)).toNat) x7.toNat → -4611686018427387904 ≤ x4 → Xs 111 (108, [some (some (vR x)), some (some (vI p)), some (some (vI k)), some (some (vI (k * 10))), some (some (vL x4)), some none, some (some (vI x6)), some (some (vI x7)), d8, d9, d10], [], (M, W)) (QI Q) := by
    intro n; induction n using Nat.strongRecOn with
    | _ n ih =>
      intro x4 x6 x7 d8 d9 d10 h0 h1 hn h4 h6 hlo
      have hx4 : x4 ≤ 1152921504606846976 := by rw [h4]; exact Int.le_trans (mn_le_top _ _ _) (mn_le_top _ _ _)
      refine k_X9_improve_108 _ _ _ _ _ _ _ _ _ _ _ _ _ ?_
      rw [m4, hG.1]
      have hfp := hf p p0 p1
      refine ⟨sv_o hx, ct_o hk, by omega, fun hge => ?_, fun hlt => ⟨sv_o hx, ct_o hk, ⟨ct_a7 hk, h0, by rw [ct_l7 hk]; omega⟩, fun v1 hv1 => ⟨sv_o hx, ct_o hk, ⟨ct_a6 hk, h0, by rw [ct_l6 hk]; omega⟩, ?_⟩⟩⟩
      · have e7 : x7 = (G 0 5) := by omega
        rw [e7] at h4 h6
        rw [sv_l1 hx, sv_l2 hx]
        have hst : stq 1152921504606846976 (cS G sm lik k) (eS G sm lik v k) ((G 0 0)).toNat (fV x k M) p = x4 := by rw [stq_mn, ← h4]
        have fin : ∀ r, ((r = 1 ∧ x4 < fV x k M p) ∨ (r = 0 ∧ fV x k M p ≤ x4)) → Q r (up_ (up_ M (x + 1) (k * 10 + p) x4) (x + 2) (k * 10 + p) x6) W := by
          intro r hr
          refine h r _ (ag_tr (ag_up _ (by omega) (by omega)) (ag_up _ (by omega) (by omega))) ?_ (fun j hj => ?_) ?_ (fun j hj => ?_) ?_
          · unfold fV; rw [up_b _ _ _ _ (by omega), up_s]; exact hst.symm
          · rw [up_b _ _ _ _ (by omega), up_j _ _ _ hj]
          · rw [up_s, h6]; rfl
          · rw [up_j _ _ _ hj, up_b _ _ _ _ (by omega)]
          · rw [hst]; exact hr
        have hfe : fV x k M p = M (x + 1) (k * 10 + p) := rfl
        have b1 : okO 86 21 (x + 1) = true ∧ 0 ≤ k * 10 + p ∧ k * 10 + p < 7290 := ⟨sv_a1 hx, by omega, by omega⟩
        have b2 : okO 86 20 (x + 2) = true ∧ 0 ≤ k * 10 + p ∧ k * 10 + p < 7290 := ⟨sv_a2 hx, by omega, by omega⟩
        refine ⟨sv_o hx, b1, by omega, fun hc1 => ⟨sv_o hx, b1, sv_o hx, b2, Or.inl rfl, fin 0 (by omega)⟩, fun hc1 => ⟨sv_o hx, b1, sv_o hx, b2, Or.inr rfl, fin 1 (by omega)⟩⟩
      · rw [hG.2.2.2.2.2.2.2.1] at hv1
        rw [hG.2.2.2.2.2.2.1]
        have hW := hw.W x7 h0 (by omega)
        have skip : ∀ (d8 d9 d10 : aL), ¬ wcS G sm lik v k p x7 < x4 → Xs 111 (108, [some (some (vR x)), some (some (vI p)), some (some (vI k)), some (some (vI (k * 10))), some (some (vL x4)), some none, some (some (vI x6)), some (some (vI (x7 + 1))), d8, d9, d10], [], (M, W)) (QI Q) := by
          intro d8 d9 d10 hno
          refine ih ((G 0 5) - (x7 + 1)).toNat (by omega) x4 x6 (x7 + 1) _ _ _ (by omega) (by omega) rfl ?_ ?_ hlo
          · rw [mn_succ _ _ h0, if_neg (by rw [← h4]; exact hno)]; exact h4
          · rw [aw_succ _ _ _ h0, if_neg (by rw [← h4]; exact hno)]; exact h6
        refine ⟨by omega, fun hne => skip _ _ _ ?_, fun heq => ⟨sv_o hx, s_X2_digit hcd k0 (by omega) (by omega) (by omega) ⟨by have := dg_rng k v1; omega, fun hd => skip _ _ _ ?_, fun hd => ⟨sv_o hx, ?_⟩⟩⟩⟩
        · unfold wcS; rw [if_neg (fun q => hne q.1)]; omega
        · unfold wcS; rw [if_neg (fun q => hd (by rw [hv1]; exact q.2))]; omega
        · have hd0 : dg k v1 = 0 := Classical.byContradiction hd
          refine s_X9_learnt hx ha hw hm hl k0 k1 hlk p0 p1 (by omega) (by omega) hd0 hc hv (fun e1 e2 => ?_)
          have hwc : wcS G sm lik v k p x7 = leV sm lik v k p v1 + csS sm lik k (G 8 x7) := by
            unfold wcS; rw [if_pos ⟨Classical.byContradiction heq, by rw [← hv1]; exact hd0⟩, hv1]
          have hcs := csS_le (sm := sm) hlk hlk2 (show 0 ≤ G 8 x7 by omega) hW.2.2.2
          refine ⟨by omega, fun hbig => skip _ _ _ (by omega), fun hsm => ⟨sv_o hx, ?_⟩⟩
          rw [m4, hG.2.2.2.2.2.2.2.2, ct_l8 hk]
          refine ⟨ct_o hk, ⟨ct_a8 hk, h0, by omega⟩, sv_o hx, s_X9_cost hx ha hw hm k0 k1 (by omega) ?_⟩
          refine ⟨by omega, fun hge2 => skip _ _ _ (by omega), fun hlt2 => ?_⟩
          rw [m4, hG.2.2.2.2.2.2.2.2, ct_l8 hk]
          refine ⟨sv_o hx, ct_o hk, ⟨ct_a8 hk, h0, by omega⟩, sv_o hx, s_X9_cost hx ha hw hm k0 k1 (by omega) ?_⟩
          intro y hy z hz
          refine ih ((G 0 5) - (x7 + 1)).toNat (by omega) y z (x7 + 1) _ _ _ (by omega) (by omega) rfl ?_ ?_ (by omega)
          · rw [mn_succ _ _ h0, if_pos (by rw [← h4]; omega), hwc]; exact hy
          · rw [aw_succ _ _ _ h0, if_pos (by rw [← h4]; omega)]; exact hz
  have k17 : ∀ (n : Nat) (x4 x6 x7 : Int) (d8 d9 d10 : aL), 0 ≤ x7 → x7 ≤ (G 0 0) → ((G 0 0) - x7).toNat = n → x4 = mn_ (cand 1152921504606846976 (cS G sm lik k) (fV x k M) p) 1152921504606846976 x7.toNat → x6 = am_ (cand 1152921504606846976 (cS G sm lik k) (fV x k M) p) 1152921504606846976 (-2) x7.toNat → Xs 111 (17, [some (some (vR x)), some (some (vI p)), some (some (vI k)), some (some (vI (k * 10))), some (some (vL x4)), some none, some (some (vI x6)), some (some (vI x7)), d8, d9, d10], [], (M, W)) (QI Q) := by
    intro n; induction n using Nat.strongRecOn with
    | _ n ih =>
      intro x4 x6 x7 d8 d9 d10 h0 h1 hn h4 h6
      have hx4 : x4 ≤ 1152921504606846976 := by rw [h4]; exact mn_le_top _ _ _
      have hlo4 := hlow x7.toNat (by omega)
      refine k_X9_improve_17 _ _ _ _ _ _ _ _ _ _ _ _ _ ?_
      rw [m4, hG.1]
      have hf7 := fun q => hf x7 h0 q
      refine ⟨sv_o hx, ct_o hk, by omega, fun hge => ?_, fun hlt => ?_⟩
      · have e7 : x7 = (G 0 0) := by omega
        rw [e7] at h4 h6
        exact k108 _ x4 x6 0 _ _ _ (by omega) (by omega) rfl h4 (by rw [h6]; exact (if_neg (Int.lt_irrefl _)).symm) (by rw [e7] at hlo4; omega)
      · have hpr := pasB_rng hw p0 (show p < 10 by omega) h0 (show x7 < 10 by omega) (op := opn k) (sh := sht k)
        have hpe : pas G p x7 k = pasB G p x7 (opn k) (sht k) := rfl
        have hf7' := hf7 (by omega)
        have hfe : fV x k M x7 = M (x + 1) (k * 10 + x7) := rfl
        rw [sv_l3 hx, sv_l1 hx]
        refine ⟨sv_o hx, ⟨sv_a3 hx, by omega, by omega⟩, fun v1 hv1 => ?_⟩
        rw [hps p x7 p0 (by omega) h0 (by omega)] at hv1
        have skip : ∀ (d8 d9 d10 : aL), ¬ cand 1152921504606846976 (cS G sm lik k) (fV x k M) p x7 < x4 → Xs 111 (17, [some (some (vR x)), some (some (vI p)), some (some (vI k)), some (some (vI (k * 10))), some (some (vL x4)), some none, some (some (vI x6)), some (some (vI (x7 + 1))), d8, d9, d10], [], (M, W)) (QI Q) := by
          intro d8 d9 d10 hno
          refine ih ((G 0 0) - (x7 + 1)).toNat (by omega) x4 x6 (x7 + 1) _ _ _ (by omega) (by omega) rfl ?_ ?_
          · rw [mn_succ _ _ h0, if_neg (by rw [← h4]; exact hno)]; exact h4
          · rw [am_succ _ _ _ h0, if_neg (by rw [← h4]; exact hno)]; exact h6
        have b1 : okO 86 21 (x + 1) = true ∧ 0 ≤ k * 10 + x7 ∧ k * 10 + x7 < 7290 := ⟨sv_a1 hx, by omega, by omega⟩
        refine ⟨by omega, fun hle => skip _ _ _ ?_, fun hgt => ?_⟩
        · unfold cand cS; rw [hpe, ← hpe, show pas G p x7 k = 0 by omega, csS_z, if_neg (by decide)]; omega
        · have hcp := csS_pos (sm := sm) hlk (show 0 < pas G p x7 k by omega)
          have hcd2 : cand 1152921504606846976 (cS G sm lik k) (fV x k M) p x7 = fV x k M x7 + csS sm lik k v1 := by
            unfold cand cS; rw [if_pos hcp, hv1]
          have hcs := csS_le (sm := sm) hlk hlk2 (show 0 ≤ v1 by omega) (show v1 ≤ 198 by omega)
          refine ⟨sv_o hx, b1, by omega, fun hbig => skip _ _ _ (by omega), fun hsm => ⟨sv_o hx, b1, sv_o hx, s_X9_cost hx ha hw hm k0 k1 (by omega) (fun y hy => ⟨by omega, fun hge2 => skip _ _ _ (by omega), fun hlt2 => ?_⟩)⟩⟩
          refine ih ((G 0 0) - (x7 + 1)).toNat (by omega) y x7 (x7 + 1) _ _ _ (by omega) (by omega) rfl ?_ ?_
          · rw [mn_succ _ _ h0, if_pos (by rw [← h4]; omega), hcd2]; exact hy
          · rw [am_succ _ _ _ h0, if_pos (by rw [← h4]; omega)]
  refine e_X9_improve _ _ _ _ _ _ ?_
  intro v1 hv1
  rw [hv1]
  exact k17 _ _ _ 0 _ _ _ (by omega) (by omega) rfl rfl rfl
