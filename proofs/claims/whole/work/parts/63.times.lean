/-! THE REFERENCE: how a plan fares -/
/-- what laying plans may change -/
def frP (M N : aM) : Prop := ∀ b j, ¬ (104 ≤ b ∧ b ≤ 113) → ¬ (b = 86 ∧ ((38 ≤ j ∧ j ≤ 39) ∨ (45 ≤ j ∧ j ≤ 47))) → N b j = M b j
theorem frP_refl (M : aM) : frP M M := fun _ _ _ _ => rfl
theorem frP_tr {M N K : aM} (h1 : frP M N) (h2 : frP N K) : frP M K := fun b j a c => (h2 b j a c).trans (h1 b j a c)
theorem frP_W {M N : aM} (h : frW M N) : frP M N := fun b j a c => h b j (by omega) (by omega) (by omega)
theorem frP_ag {lo hi : Int} {M N : aM} (h : ag lo hi M N) (hl : 104 ≤ lo) (hh : hi ≤ 113) : frP M N := fun b j a c => h b j (by omega)
theorem frP.G {G : Lnd} {M N : aM} (h : frP M N) (hG : rfG G M) : rfG G N := hG.of (fun b j hb => h b j (by unfold inG at hb; omega) (by unfold inG at hb; omega))
theorem frP.rfW {G : Lnd} {M N : aM} (h : frP M N) (hW : rfW G M) : rfW G N := ⟨fun w w0 w1 => by rw [h _ _ (by decide) (by omega)]; exact hW.1 w w0 w1, fun k k0 k1 => by rw [h _ _ (by decide) (by omega)]; exact hW.2 k k0 k1⟩
theorem s_X12_meanOf {M : aM} {W : aW} {Q : Int → aM → aW → Prop} {G : Lnd} {D : Int → Int → Int} {plan : Int} (hG : rfG G M) (hg0 : 0 ≤ (G 0 7)) (hs : 0 ≤ (G 0 6)) (hH : hopI G M) (hD : rfD G D plan M) (hO : planOK G D plan) (pl1 : plan ≤ 6) (hW : rfW G M)
    (h : ∀ N, frW M N → hopI G N → Q (mnF (hoP G D plan) (wtG G) (p2_ ((G 0 3))).toNat) N W) : CallL 233 [vR 86, vI plan] (M, W) Q := by
  have hn := hG.n
  have ht := hG.t
  have hw := hG.W
  have key : ∀ (n : Nat) (x2 x4 : Int) (d5 d6 : aL) (N : aM), 0 ≤ x4 → x4 ≤ p2_ ((G 0 3)) → (p2_ ((G 0 3)) - x4).toNat = n → frW M N → hopI G N → ngB (hoP G D plan) (wtG G) x4.toNat = false → x2 = su_ (mnT (hoP G D plan) (wtG G)) x4.toNat → Xs 233 (5, [some (some (vR 86)), some (some (vI plan)), some (some (vL x2)), some none, some (some (vI x4)), d5, d6], [], (N, W)) (QL Q) := by
    intro n; induction n using Nat.strongRecOn with
    | _ n ih =>
      intro x2 x4 d5 d6 N h0 h1 hn2 hf hI hb hx
      have hGN := hf.G hG
      refine k_X12_meanOf_5 _ _ _ _ _ _ _ _ ?_
      rw [hGN.o22]
      refine ⟨by omega, fun hge => ?_, fun hlt => ?_⟩
      · have e : x4 = p2_ ((G 0 3)) := by omega
        rw [e] at hb hx
        have := h N hf hI
        unfold mnF at this; rw [if_neg (by rw [hb]; decide), ← hx] at this; exact this
      · have hWn := wtG_nn hw x4
        have hWl := wtG_le hw h0 (show x4 < p2_ ((G 0 3)) by omega)
        have e101 : N 101 x4 = wtG G x4 := by rw [hf _ _ (by decide) (by decide) (by omega)]; exact hW.1 x4 h0 (by omega)
        rw [e101]
        refine ⟨by omega, by omega, fun hne => ?_, fun he => ?_⟩
        · have hr := hoursF_rng hw hO h0 (show x4 < p2_ ((G 0 3)) by omega) (show 0 < wtG G x4 by omega) hs
          refine s_X12_hoursIn hGN hg0 hs hI (hf.D hD) hO pl1 h0 (by omega) (by omega) (fun K fK IK => ⟨by unfold hoP; omega, fun hp => ⟨by omega, fun v hv => ?_⟩, fun hneg => ?_⟩)
          · have e2 : K 101 x4 = wtG G x4 := by rw [fK _ _ (by decide) (by decide) (by omega)]; exact e101
            rw [e2] at hv
            refine ih (p2_ ((G 0 3)) - (x4 + 1)).toNat (by omega) v (x4 + 1) _ _ K (by omega) (by omega) rfl (frW_tr hf fK) IK ?_ ?_
            · rw [ngB_S _ _ h0, hb, decide_eq_false (show ¬ hoP G D plan x4 < 0 by omega), Bool.and_false]; rfl
            · rw [su_succ _ h0, ← hx, hv]; unfold mnT; rw [if_pos (by omega)]
          · have := h K (frW_tr hf fK) IK
            unfold mnF at this; rw [if_pos (ngB_t _ x4 h0 (by omega) (by omega) (by omega))] at this; exact this
        · refine ih (p2_ ((G 0 3)) - (x4 + 1)).toNat (by omega) x2 (x4 + 1) _ _ N (by omega) (by omega) rfl hf hI ?_ ?_
          · rw [ngB_S _ _ h0, hb, decide_eq_false (show ¬ 0 < wtG G x4 by omega)]; rfl
          · rw [su_succ _ h0, ← hx]; unfold mnT; rw [if_neg (by omega)]; omega
  refine e_X12_meanOf _ _ _ _ ?_
  exact key _ 0 0 _ _ M (by decide) (by omega) rfl (frW_refl M) hH rfl rfl
theorem s_X12_worst31 {M : aM} {W : aW} {Q : Int → aM → aW → Prop} {G : Lnd} {D : Int → Int → Int} {plan : Int} {d5 d6 : aL} (hG : rfG G M) (hg0 : 0 ≤ (G 0 7)) (hs : 0 ≤ (G 0 6)) (hH : hopI G M) (hD : rfD G D plan M) (hO : planOK G D plan) (pl1 : plan ≤ 6) (hW : rfW G M)
    (h : ∀ N, frW M N → hopI G N → Q (woF (hoP G D plan) (wtG G) (p2_ ((G 0 3))).toNat) N W) : Xs 235 (31, [some (some (vR 86)), some (some (vI plan)), some (some (vL 0)), some none, some (some (vI 0)), d5, d6], [], (M, W)) (QI Q) := by
  have hn := hG.n
  have ht := hG.t
  have hw := hG.W
  have key : ∀ (n : Nat) (x2 x4 : Int) (d5 d6 : aL) (N : aM), 0 ≤ x4 → x4 ≤ p2_ ((G 0 3)) → (p2_ ((G 0 3)) - x4).toNat = n → frW M N → hopI G N → ngB (hoP G D plan) (wtG G) x4.toNat = false → x2 = woR (hoP G D plan) (wtG G) x4.toNat → 0 ≤ x2 → x2 ≤ 19800 → Xs 235 (31, [some (some (vR 86)), some (some (vI plan)), some (some (vL x2)), some none, some (some (vI x4)), d5, d6], [], (N, W)) (QI Q) := by
    intro n; induction n using Nat.strongRecOn with
    | _ n ih =>
      intro x2 x4 d5 d6 N h0 h1 hn2 hf hI hb hx x20 x21
      have hGN := hf.G hG
      refine k_X12_worst_31 _ _ _ _ _ _ _ _ ?_
      rw [hGN.o22]
      refine ⟨by omega, fun hge => ?_, fun hlt => ?_⟩
      · have e : x4 = p2_ ((G 0 3)) := by omega
        rw [e] at hb hx
        have := h N hf hI
        unfold woF at this; rw [if_neg (by rw [hb]; decide), ← hx] at this; exact this
      · have hWn := wtG_nn hw x4
        have hWl := wtG_le hw h0 (show x4 < p2_ ((G 0 3)) by omega)
        have e101 : N 101 x4 = wtG G x4 := by rw [hf _ _ (by decide) (by decide) (by omega)]; exact hW.1 x4 h0 (by omega)
        have hws := woR_S (hoP G D plan) (wtG G) h0
        rw [e101]
        refine ⟨by omega, by omega, fun hne => ?_, fun he => ?_⟩
        · have hr := hoursF_rng hw hO h0 (show x4 < p2_ ((G 0 3)) by omega) (show 0 < wtG G x4 by omega) hs
          have hr' : -2 ≤ hoP G D plan x4 ∧ hoP G D plan x4 ≤ 19800 := by unfold hoP; omega
          rw [if_pos (show 0 < wtG G x4 by omega), ← hx] at hws
          refine s_X12_hoursIn hGN hg0 hs hI (hf.D hD) hO pl1 h0 (by omega) (by omega) (fun K fK IK => ⟨by omega, fun hp => ⟨by omega, fun y => ?_, fun y => ?_⟩, fun hneg => ?_⟩)
          · refine ih (p2_ ((G 0 3)) - (x4 + 1)).toNat (by omega) x2 (x4 + 1) _ _ K (by omega) (by omega) rfl (frW_tr hf fK) IK ?_ ?_ x20 x21
            · rw [ngB_S _ _ h0, hb, decide_eq_false (show ¬ hoP G D plan x4 < 0 by omega), Bool.and_false]; rfl
            · rw [hws]; unfold max_; rw [if_neg (by omega)]
          · refine ih (p2_ ((G 0 3)) - (x4 + 1)).toNat (by omega) _ (x4 + 1) _ _ K (by omega) (by omega) rfl (frW_tr hf fK) IK ?_ ?_ hp hr'.2
            · rw [ngB_S _ _ h0, hb, decide_eq_false (show ¬ hoP G D plan x4 < 0 by omega), Bool.and_false]; rfl
            · rw [hws]; unfold max_; rw [if_pos (by omega)]
          · have := h K (frW_tr hf fK) IK
            unfold woF at this; rw [if_pos (ngB_t _ x4 h0 (by omega) (by omega) (by omega))] at this; exact this
        · rw [if_neg (show ¬ 0 < wtG G x4 by omega), ← hx] at hws
          refine ih (p2_ ((G 0 3)) - (x4 + 1)).toNat (by omega) x2 (x4 + 1) _ _ N (by omega) (by omega) rfl hf hI ?_ hws.symm x20 x21
          rw [ngB_S _ _ h0, hb, decide_eq_false (show ¬ 0 < wtG G x4 by omega)]; rfl
  exact key _ 0 0 _ _ M (by decide) (by omega) rfl (frW_refl M) hH rfl rfl (by decide) (by decide)
theorem dW_pos {G : Lnd} (hw : WF G) {w p : Int} (p0 : 0 ≤ p) (p1 : p < (G 0 0)) (hg : p ≠ (G 0 7)) : 1 ≤ dW G w p := by
  have hd : dW G w p = stW G w (dW G w) p := (dW_is G w p p0 (by omega)).2 (decide_eq_false hg)
  rw [stW_e] at hd
  rcases mn_att (cand 1000000 (cW G w) (dW G w) p) 1000000 ((G 0 0)).toNat with h | ⟨q, q0, q1, h⟩
  · omega
  · have hq := dW_rng hw (w := w) q0 (show q < (G 0 0) by omega)
    rw [h] at hd
    unfold cand at hd
    split at hd <;> omega
theorem KW_gol {G : Lnd} (hw : WF G) {w : Int} (hs : 0 ≤ (G 0 6)) (h : (G 0 6) = (G 0 7)) : KW G w = 0 := by
  have hN := hw.N; unfold wfN at hN
  have e : dW G w ((G 0 6)) = 0 := (dW_is G w ((G 0 6)) hs (by omega)).1 (decide_eq_true h)
  unfold KW; rw [e]; rfl
theorem KW_pos {G : Lnd} (hw : WF G) {w : Int} (hs : 0 ≤ (G 0 6)) (h : (G 0 6) ≠ (G 0 7)) (hk : 0 ≤ KW G w) : 1 ≤ KW G w := by
  have hN := hw.N; unfold wfN at hN
  have := dW_pos hw (w := w) hs (by omega) h
  unfold KW at hk ⊢; split <;> split at hk <;> omega
theorem ho_gol {G : Lnd} {D : Int → Int → Int} {plan w : Int} (h : (G 0 6) = (G 0 7)) : hoP G D plan w = 0 := HI_gol G _ w h 100
theorem s_X12_layTimes {M : aM} {W : aW} {Q : Int → aM → aW → Prop} {G : Lnd} {D : Int → Int → Int} {plan : Int} (hG : rfG G M) (hg0 : 0 ≤ (G 0 7)) (hs : 0 ≤ (G 0 6)) (hH : hopI G M) (hD : rfD G D plan M) (hO : planOK G D plan) (pl1 : plan ≤ 6) (hW : rfW G M)
    (y0 : gbP G D plan = true → ∀ N, frP M N → (∀ b j, 105 ≤ b → b ≤ 112 → N b j = M b j) → hopI G N → Q 0 N W)
    (y1 : gbP G D plan = false → ∀ N, frP M N → (∀ b j, 105 ≤ b → b ≤ 112 → N b j = M b j) → hopI G N → N 86 38 = (gzP G D plan).1 → N 86 39 = (gzP G D plan).2 → Q 1 N W) : CallI 221 [vR 86, vI plan] (M, W) Q := by
  have hn := hG.n
  have ht := hG.t
  have hw := hG.W
  have key : ∀ (n : Nat) (x2 x3 : Int) (d4 d5 d6 : aL) (N : aM), 0 ≤ x3 → x3 ≤ p2_ ((G 0 3)) → (p2_ ((G 0 3)) - x3).toNat = n → frP M N → (∀ b j, 105 ≤ b → b ≤ 112 → N b j = M b j) → hopI G N → ngB (hk2 (hoP G D plan) (KW G)) (wtG G) x3.toNat = false → (N 86 38 = (gz (hoP G D plan) (KW G) (wtG G) x3.toNat).1 ∧ N 86 39 = (gz (hoP G D plan) (KW G) (wtG G) x3.toNat).2) → ((x2 = 0 ∧ gz (hoP G D plan) (KW G) (wtG G) x3.toNat = (0, 0)) ∨ (x2 = 1 ∧ ((G 0 6) ≠ (G 0 7) → 1 ≤ (gz (hoP G D plan) (KW G) (wtG G) x3.toNat).2))) → ((G 0 6) = (G 0 7) → gz (hoP G D plan) (KW G) (wtG G) x3.toNat = (0, 0)) → (0 ≤ (gz (hoP G D plan) (KW G) (wtG G) x3.toNat).1 ∧ (gz (hoP G D plan) (KW G) (wtG G) x3.toNat).1 ≤ 19800 ∧ 0 ≤ (gz (hoP G D plan) (KW G) (wtG G) x3.toNat).2 ∧ (gz (hoP G D plan) (KW G) (wtG G) x3.toNat).2 ≤ 1980) → Xs 221 (14, [some (some (vR 86)), some (some (vI plan)), some (some (vI x2)), some (some (vI x3)), d4, d5, d6], [], (N, W)) (QI Q) := by
    intro n; induction n using Nat.strongRecOn with
    | _ n ih =>
      intro x2 x3 d4 d5 d6 N h0 h1 hn2 hf hv hI hb hgz hx2 hsg hgr
      have hGN := hf.G hG
      have hbs := ngB_S (hk2 (hoP G D plan) (KW G)) (wtG G) h0
      have hgs := gz_S (hoP G D plan) (KW G) (wtG G) h0
      rw [hb] at hbs
      refine k_X12_layTimes_14 _ _ _ _ _ _ _ _ _ ?_
      rw [hGN.o22]
      refine ⟨by omega, fun hge => ?_, fun hlt => ?_⟩
      · have e : x3 = p2_ ((G 0 3)) := by omega
        rw [e] at hb hgz
        exact y1 hb N hf hv hI hgz.1 hgz.2
      · have hWn := wtG_nn hw x3
        have hWl := wtG_le hw h0 (show x3 < p2_ ((G 0 3)) by omega)
        have e101 : N 101 x3 = wtG G x3 := by rw [hf _ _ (by decide) (by omega)]; exact hW.1 x3 h0 (by omega)
        rw [e101]
        refine ⟨by omega, by omega, fun hne => ?_, fun he => ?_⟩
        · have hr := hoursF_rng hw hO h0 (show x3 < p2_ ((G 0 3)) by omega) (show 0 < wtG G x3 by omega) hs
          have hr' : -2 ≤ hoP G D plan x3 ∧ hoP G D plan x3 ≤ 19800 ∧ hoP G D plan x3 ≠ -1 := hr
          have hkr := KW_rng hw (w := x3) hs
          rw [if_pos (show 0 < wtG G x3 by omega)] at hgs
          have bad : (hoP G D plan x3 < 0 ∨ KW G x3 < 0) → gbP G D plan = true := fun c => ngB_t _ x3 h0 (by omega) (by omega) (by unfold hk2; split <;> omega)
          refine s_X12_hoursIn hGN hg0 hs hI (hD.of (fun b j c => by
            rcases c with c | c | c | c
            · exact hv b j (by omega) (by omega)
            · exact hf b j (by omega) (by omega)
            · exact hf b j (by omega) (by omega)
            · exact hf b j (by omega) (by omega))) hO pl1 h0 (by omega) (by omega) (fun K fK IK => s_X12_knowingOf (fK.G hGN) hs h0 (by omega) (fun L aL' => ?_))
          have e86 : ∀ j, 38 ≤ j → j ≤ 39 → L 86 j = N 86 j := fun j c1 c2 => by rw [aL' _ _ (by decide), fK _ _ (by decide) (by decide) (by omega)]
          have fL : frP M L := frP_tr hf (frP_tr (frP_W fK) (frP_ag aL' (by decide) (by decide)))
          have vL' : ∀ b j, 105 ≤ b → b ≤ 112 → L b j = M b j := fun b j c1 c2 => by rw [aL' b j (by omega), fK b j (by omega) (by omega) (by omega)]; exact hv b j c1 c2
          have IL : hopI G L := IK.of (fun j => aL' _ _ (by decide))
          refine ⟨by omega, fun y => y0 (bad (Or.inl y)) L fL vL' IL, fun y => ⟨by omega, fun y2 => ?_, fun y2 => y0 (bad (Or.inr (by omega))) L fL vL' IL⟩⟩
          rw [e86 38 (by decide) (by decide), e86 39 (by decide) (by decide), hgz.1, hgz.2]
          have hb2 : ngB (hk2 (hoP G D plan) (KW G)) (wtG G) (x3 + 1).toNat = false := by
            rw [hbs, decide_eq_false (show ¬ hk2 (hoP G D plan) (KW G) x3 < 0 by unfold hk2; split <;> omega), Bool.and_false]; rfl
          have hkp := fun c => KW_pos hw (w := x3) hs c y2
          -- the times are these now
          have set : ∀ (d4 d5 d6 : aL), gz (hoP G D plan) (KW G) (wtG G) (x3 + 1).toNat = (hoP G D plan x3, KW G x3) → Xs 221 (14, [some (some (vR 86)), some (some (vI plan)), some (some (vI 1)), some (some (vI (x3 + 1))), d4, d5, d6], [], ((up_ (up_ L 86 38 (hoP G D plan x3)) 86 39 (KW G x3)), W)) (QI Q) := fun d4 d5 d6 hg => by
            have fU : frP L (up_ (up_ L 86 38 (hoP G D plan x3)) 86 39 (KW G x3)) := fun b j c1 c2 => by unfold up_; rw [if_neg (by omega), if_neg (by omega)]
            refine ih (p2_ ((G 0 3)) - (x3 + 1)).toNat (by omega) 1 (x3 + 1) _ _ _ _ (by omega) (by omega) rfl (frP_tr fL fU) (fun b j c1 c2 => by rw [up_b _ _ _ _ (by omega), up_b _ _ _ _ (by omega)]; exact vL' b j c1 c2) (IL.of (fun j => by rw [up_b _ _ _ _ (by decide), up_b _ _ _ _ (by decide)])) hb2 ⟨?_, ?_⟩ (Or.inr ⟨rfl, fun c => ?_⟩) (fun c => ?_) ?_
            · rw [hg, up_j _ _ _ (by decide), up_s]
            · rw [hg, up_s]
            · rw [hg]; exact hkp c
            · rw [hg, ho_gol c, KW_gol hw hs c]
            · rw [hg]; dsimp only; omega
          have keep : ∀ (d4 d5 d6 : aL), x2 = 1 → gz (hoP G D plan) (KW G) (wtG G) (x3 + 1).toNat = gz (hoP G D plan) (KW G) (wtG G) x3.toNat → Xs 221 (14, [some (some (vR 86)), some (some (vI plan)), some (some (vI x2)), some (some (vI (x3 + 1))), d4, d5, d6], [], (L, W)) (QI Q) := fun d4 d5 d6 hx hg => by
            refine ih (p2_ ((G 0 3)) - (x3 + 1)).toNat (by omega) x2 (x3 + 1) _ _ _ L (by omega) (by omega) rfl fL vL' IL hb2 ⟨?_, ?_⟩ ?_ (fun c => ?_) ?_
            · rw [hg, e86 38 (by decide) (by decide)]; exact hgz.1
            · rw [hg, e86 39 (by decide) (by decide)]; exact hgz.2
            · rw [hg]; exact hx2
            · rw [hg]; exact hsg c
            · rw [hg]; exact hgr
          have p1 : inL (hoP G D plan x3 * (gz (hoP G D plan) (KW G) (wtG G) x3.toNat).2) := by
            have a1 := Int.mul_nonneg (show 0 ≤ hoP G D plan x3 by omega) hgr.2.2.1
            have a2 := Int.le_trans (Int.mul_le_mul_of_nonneg_right hr'.2.1 hgr.2.2.1) (Int.mul_le_mul_of_nonneg_left hgr.2.2.2 (show (0 : Int) ≤ 19800 by decide))
            omega
          have p2 : inL ((gz (hoP G D plan) (KW G) (wtG G) x3.toNat).1 * KW G x3) := by
            have a1 := Int.mul_nonneg hgr.1 (show 0 ≤ KW G x3 by omega)
            have a2 := Int.le_trans (Int.mul_le_mul_of_nonneg_right hgr.2.1 (show 0 ≤ KW G x3 by omega)) (Int.mul_le_mul_of_nonneg_left hkr.2 (show (0 : Int) ≤ 19800 by decide))
            omega
          rcases hx2 with ⟨q0, q1⟩ | ⟨q0, q1⟩
          · refine ⟨by omega, fun _ => ⟨by omega, set _ _ _ ?_⟩, fun z => absurd q0 z⟩
            rw [hgs, q1, if_pos (Or.inl rfl)]
          · refine ⟨by omega, fun z => by omega, fun _ => ⟨by omega, ⟨p1, p2⟩, fun z => ⟨by omega, set _ _ _ ?_⟩, fun z => keep _ _ _ q0 ?_⟩⟩
            · rw [hgs, if_pos (Or.inr (by omega))]
            · rw [hgs]
              by_cases c : (G 0 6) = (G 0 7)
              · rw [hsg c, if_pos (Or.inl rfl), ho_gol c, KW_gol hw hs c]
              · have := q1 c
                rw [if_neg (by omega)]
        · rw [if_neg (show ¬ 0 < wtG G x3 by omega)] at hgs
          refine ih (p2_ ((G 0 3)) - (x3 + 1)).toNat (by omega) x2 (x3 + 1) _ _ _ N (by omega) (by omega) rfl hf hv hI ?_ (by rw [hgs]; exact hgz) (by rw [hgs]; exact hx2) (by rw [hgs]; exact hsg) (by rw [hgs]; exact hgr)
          rw [hbs, decide_eq_false (show ¬ 0 < wtG G x3 by omega)]; rfl
  refine e_X12_layTimes _ _ _ _ ?_
  have fU : frP M (up_ (up_ M 86 38 0) 86 39 0) := fun b j c1 c2 => by unfold up_; rw [if_neg (by omega), if_neg (by omega)]
  exact key _ 0 0 _ _ _ _ (by decide) (by omega) rfl fU (fun b j c1 c2 => by rw [up_b _ _ _ _ (by omega), up_b _ _ _ _ (by omega)]) (hH.of (fun j => by rw [up_b _ _ _ _ (by decide), up_b _ _ _ _ (by decide)])) rfl ⟨by rw [up_j _ _ _ (by decide), up_s]; rfl, by rw [up_s]; rfl⟩ (Or.inl ⟨rfl, rfl⟩) (fun _ => rfl) (by show (0 : Int) ≤ 0 ∧ (0 : Int) ≤ 19800 ∧ (0 : Int) ≤ 0 ∧ (0 : Int) ≤ 1980; decide)
