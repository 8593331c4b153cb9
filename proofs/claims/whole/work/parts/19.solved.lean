/-! SOLVER: how great values are; the whole solving -/
theorem fix_low {I : Int} {c : Int → Int → Int} {e : Int → Int} {fx : Int → Bool} {b : Int → Int} {n : Nat} {D : Int → Int} {L : Int} (hD : isFix I c e fx b n D) (hI : L ≤ I) (hb : ∀ p : Int, 0 ≤ p → p < n → fx p = true → L ≤ b p) (he : ∀ p : Int, 0 ≤ p → p < n → L ≤ e p) : ∀ p : Int, 0 ≤ p → p < n → L ≤ D p := by
  intro p0 a0 b0
  refine Classical.byContradiction (fun hno => ?_)
  obtain ⟨p, a, bb, hp, hmin⟩ := least_ex (P := fun p => D p < L) (D := D) n ⟨p0, a0, b0, by omega⟩
  have hp' : D p < L := hp
  cases hx : fx p with
  | true => have q1 := (hD p a bb).1 hx; have := hb p a bb hx; omega
  | false =>
    have h2 := (hD p a bb).2 hx
    have hI2 : stq I c e n D p < I := by omega
    rcases stq_att hI2 with h3 | ⟨q, a1, b1, h3, h4⟩
    · have := he p a bb; omega
    · have hq : D q < L := by omega
      have := hmin q a1 b1 hq
      omega
def sT (sm : Int) (lik : Int → Int) (k : Int) : Int := if sm = 0 then 1 else lik k
def eB (sm : Int) : Int := if sm = 0 then 100000000000000 else 0
def enO (G : Lnd) (sm : Int) (lik en : Int → Int) : Prop := ∀ k, 0 ≤ k → k < thr_ ((G 0 3)) → 0 < lik k → - eB sm ≤ en k ∧ en k ≤ eB sm
theorem csS_sT {sm k h : Int} {lik : Int → Int} : csS sm lik k h = h * sT sm lik k := by
  unfold csS sT; split
  · omega
  · rfl
def vR_ (sm : Int) (lik : Int → Int) (k B y : Int) : Prop := - eB sm ≤ y ∧ y ≤ 1152921504606846976 ∧ (y < 1152921504606846976 → y ≤ eB sm + 3000 * (B * sT sm lik k))
theorem leV_rng {G : Lnd} (hw : WF G) {sm k p d : Int} {lik : Int → Int} {v : Int → Int → Int} (hl : likO G lik) (k0 : 0 ≤ k) (k1 : k < thr_ ((G 0 3))) (hlk : 0 < lik k) (d0 : 0 ≤ d) (d1 : d < (G 0 3)) (hd : dg k d = 0)
    (h : ∀ k', k < k' → k' < thr_ ((G 0 3)) → 0 < lik k' → vR_ sm lik k' (729 - k') (v k' p)) : vR_ sm lik k (728 - k) (leV sm lik v k p d) := by
  have hN := hw.N; unfold wfN at hN
  have ht := thr_le hN.2.2.2.1.1 hN.2.2.2.1.2
  have b1 := dg_lt (v := 1) k0 (by omega) k1 d0 d1 hd (by decide)
  have b2 := dg_lt (v := 2) k0 (by omega) k1 d0 d1 hd (by decide)
  have htd := thr_le d0 (show d ≤ 6 by omega)
  have hs := hl.2 k d k0 k1 d0 d1 hd
  have l0 := hl.1 k k0 k1
  have l1 := hl.1 (k + thr_ d) (by omega) (by omega)
  have l2 := hl.1 (k + 2 * thr_ d) (by omega) (by omega)
  have hE : 0 ≤ eB sm ∧ eB sm ≤ 100000000000000 := by unfold eB; split <;> omega
  -- the bound of one who knows more
  have mon : ∀ k', k < k' → k' < thr_ ((G 0 3)) → 0 < lik k' → lik k' ≤ lik k → (729 - k') * sT sm lik k' ≤ (728 - k) * sT sm lik k' ∧ (728 - k) * sT sm lik k' ≤ (728 - k) * sT sm lik k := by
    intro k' a b c e
    have hst : 0 ≤ sT sm lik k' := by unfold sT; split <;> omega
    have hst2 : sT sm lik k' ≤ sT sm lik k := by unfold sT; split <;> omega
    exact ⟨Int.mul_le_mul_of_nonneg_right (by omega) hst, Int.mul_le_mul_of_nonneg_left hst2 (by omega)⟩
  unfold leV
  by_cases c1 : lik (k + thr_ d) ≤ 0
  · rw [if_pos c1]
    have q := h (k + 2 * thr_ d) (by omega) (by omega) (by omega)
    have m := mon (k + 2 * thr_ d) (by omega) (by omega) (by omega) (by omega)
    unfold vR_ at q ⊢
    omega
  · rw [if_neg c1]
    have q1 := h (k + thr_ d) (by omega) (by omega) (by omega)
    have m1 := mon (k + thr_ d) (by omega) (by omega) (by omega) (by omega)
    by_cases c2 : lik (k + 2 * thr_ d) ≤ 0
    · rw [if_pos c2]
      unfold vR_ at q1 ⊢
      omega
    · rw [if_neg c2]
      have q2 := h (k + 2 * thr_ d) (by omega) (by omega) (by omega)
      have m2 := mon (k + 2 * thr_ d) (by omega) (by omega) (by omega) (by omega)
      unfold vR_ at q1 q2 ⊢
      split
      · omega
      · split
        · omega
        · split
          · unfold max_; split <;> omega
          · rename_i hsm
            have e0 : eB sm = 0 := by unfold eB; rw [if_neg hsm]
            have e1 : sT sm lik (k + thr_ d) = lik (k + thr_ d) := by unfold sT; rw [if_neg hsm]
            have e2 : sT sm lik (k + 2 * thr_ d) = lik (k + 2 * thr_ d) := by unfold sT; rw [if_neg hsm]
            have e3 : sT sm lik k = lik k := by unfold sT; rw [if_neg hsm]
            have e4 : (728 - k) * lik k = (728 - k) * lik (k + thr_ d) + (728 - k) * lik (k + 2 * thr_ d) := by rw [hs, Int.mul_add]
            have e5 : (728 - k) * lik k ≤ 728 * 20000000000 := Int.mul_le_mul (by omega) l0.2 l0.1 (by decide)
            rw [e1] at q1 m1; rw [e2] at q2 m2; rw [e3]
            omega
theorem VV_rng {G : Lnd} (hw : WF G) {sm : Int} {lik en : Int → Int} (hl : likO G lik) (he : enO G sm lik en) : ∀ k, 0 ≤ k → k < thr_ ((G 0 3)) → 0 < lik k → ∀ p, 0 ≤ p → p < (G 0 0) → vR_ sm lik k (729 - k) (VV G sm lik en k p) := by
  have hN := hw.N; unfold wfN at hN
  have ht := thr_le hN.2.2.2.1.1 hN.2.2.2.1.2
  have hE : 0 ≤ eB sm ∧ eB sm ≤ 100000000000000 := by unfold eB; split <;> omega
  have key : ∀ (n : Nat) (k : Int), 0 ≤ k → k < thr_ ((G 0 3)) → 0 < lik k → (thr_ ((G 0 3)) - k).toNat = n → ∀ p, 0 ≤ p → p < (G 0 0) → vR_ sm lik k (729 - k) (VV G sm lik en k p) := by
    intro n; induction n using Nat.strongRecOn with
    | _ n ih =>
      intro k k0 k1 hlk hn
      have hD := VV_is hw sm en hl k k0 k1 hlk
      have l0 := hl.1 k k0 k1
      have hst : 1 ≤ sT sm lik k ∧ sT sm lik k ≤ 20000000000 := by unfold sT; split <;> omega
      have hch : ∀ p, 0 ≤ p → p < (G 0 0) → ∀ k', k < k' → k' < thr_ ((G 0 3)) → 0 < lik k' → vR_ sm lik k' (729 - k') (VV G sm lik en k' p) := fun p p0 p1 k' a b c => ih (thr_ ((G 0 3)) - k').toNat (by omega) k' (by omega) b c rfl p p0 p1
      have hle : ∀ p d, 0 ≤ p → p < (G 0 0) → 0 ≤ d → d < (G 0 3) → dg k d = 0 → vR_ sm lik k (728 - k) (leV sm lik (VV G sm lik en) k p d) := fun p d p0 p1 d0 d1 hd => leV_rng hw hl k0 k1 hlk d0 d1 hd (hch p p0 p1)
      have hX : 0 ≤ (728 - k) * sT sm lik k ∧ (728 - k) * sT sm lik k ≤ 728 * 20000000000 := ⟨Int.mul_nonneg (by omega) (by omega), Int.mul_le_mul (by omega) hst.2 (by omega) (by decide)⟩
      have hX2 : (729 - k) * sT sm lik k = (728 - k) * sT sm lik k + sT sm lik k := by
        rw [show 729 - k = (728 - k) + 1 by omega, Int.add_mul, Int.one_mul]
      have hb : ∀ p : Int, 0 ≤ p → p < ((G 0 0)).toNat → fxS G k p = true → - eB sm ≤ bS G sm lik en (VV G sm lik en) k p ∧ bS G sm lik en (VV G sm lik en) k p ≤ 1152921504606846976 ∧ (bS G sm lik en (VV G sm lik en) k p < 1152921504606846976 → bS G sm lik en (VV G sm lik en) k p ≤ eB sm + 3000 * ((728 - k) * sT sm lik k) + 99 * sT sm lik k) := by
        intro p p0 p1 hfx
        unfold bS
        by_cases hg : p = (G 0 7)
        · rw [if_pos hg]; have := he k k0 k1 hlk; omega
        · rw [if_neg hg]
          have hm := fm_in hw p0 (show p < 10 by omega) (k := k) (by rcases of_decide_eq_true hfx with hh | hh <;> omega)
          have q := hle p _ p0 (by omega) (by rcases of_decide_eq_true hfx with hh | hh <;> omega) hm.1 hm.2.1
          unfold vR_ at q
          omega
      have hcs : ∀ h : Int, 0 ≤ h → 0 ≤ h * sT sm lik k := fun h hh => Int.mul_nonneg hh (by omega)
      have hes : ∀ p : Int, 0 ≤ p → p < ((G 0 0)).toNat → - eB sm ≤ eS G sm lik (VV G sm lik en) k p ∧ (eS G sm lik (VV G sm lik en) k p < 1152921504606846976 → eS G sm lik (VV G sm lik en) k p ≤ eB sm + 3000 * ((728 - k) * sT sm lik k) + 99 * sT sm lik k) := by
        intro p p0 p1
        unfold eS
        rcases mn_att (wcS G sm lik (VV G sm lik en) k p) 1152921504606846976 ((G 0 5)).toNat with e | ⟨w, w0, w1, e⟩
        · rw [e]; omega
        · rw [e]; unfold wcS
          have hW := hw.W w w0 (by omega)
          by_cases hc : G 6 w = p ∧ dg k (G 7 w) = 0
          · rw [if_pos hc]
            have q := hle p (G 7 w) p0 (by omega) hW.2.1.1 hW.2.1.2 hc.2
            unfold vR_ at q
            rw [csS_sT]
            have a1 := hcs (G 8 w) (by omega)
            have a2 : G 8 w * sT sm lik k ≤ 99 * sT sm lik k := Int.mul_le_mul_of_nonneg_right hW.2.2.2 (by omega)
            omega
          · rw [if_neg hc]; omega
      intro p p0 p1
      have low := fix_low hD (L := - eB sm) (by omega) (fun p p0 p1 hfx => (hb p p0 p1 hfx).1) (fun p p0 p1 => (hes p p0 p1).1) p p0 (by omega)
      have upI : VV G sm lik en k p ≤ 1152921504606846976 := by
        cases hfx : fxS G k p with
        | true => rw [(hD p p0 (by omega)).1 hfx]; exact (hb p p0 (by omega) hfx).2.1
        | false => rw [(hD p p0 (by omega)).2 hfx]; exact stq_le_I _ _ _ _ _ _
      have up := fix_bound hD (B := eB sm + 3000 * ((728 - k) * sT sm lik k) + 99 * sT sm lik k) (C := 198 * sT sm lik k) (by omega) (fun p p0 p1 hfx hI => (hb p p0 p1 hfx).2.2 hI) (fun p p0 p1 hI => (hes p p0 p1).2 hI) (fun p q p0 p1 q0 q1 => by
        have := pasB_rng hw p0 (show p < 10 by omega) q0 (show q < 10 by omega) (op := opn k) (sh := sht k)
        unfold cS; rw [csS_sT]
        exact Int.mul_le_mul_of_nonneg_right this.2 (by omega)) p p0 (by omega)
      have hcnt := cnt_le (fun q => decide (VV G sm lik en k q < VV G sm lik en k p)) ((G 0 0)).toNat
      have hm : 198 * sT sm lik k * (cnt_ (fun q => decide (VV G sm lik en k q < VV G sm lik en k p)) ((G 0 0)).toNat : Int) ≤ 198 * sT sm lik k * 10 := Int.mul_le_mul_of_nonneg_left (by omega) (by omega)
      refine ⟨low, upI, fun hI => ?_⟩
      have := up hI
      rw [hX2]
      omega
  exact fun k k0 k1 hlk => key _ k k0 k1 hlk rfl
def enA (a : Int) : Prop := a = 44 ∨ a = 69
theorem en_o {a : Int} (h : enA a) : okO 86 21 a = true := by rcases h with rfl | rfl <;> rfl
theorem en_l {a : Int} (h : enA a) : ln_ a = 729 := by rcases h with rfl | rfl <;> rfl
/-- the Solver at x has the values and acts -/
def slM (x : Int) (G : Lnd) (sm : Int) (lik en : Int → Int) (M : aM) : Prop := ∀ k, 0 ≤ k → k < thr_ ((G 0 3)) → 0 < lik k → ∀ p, 0 ≤ p → p < (G 0 0) → M (x + 1) (k * 10 + p) = VV G sm lik en k p ∧ M (x + 2) (k * 10 + p) = AA G sm lik en k p
theorem slM.ag {x lo hi : Int} {G : Lnd} {sm : Int} {lik en : Int → Int} {M N : aM} (h : slM x G sm lik en M) (ha : ag lo hi M N) (hl : x + 2 < lo ∨ hi < x + 1) : slM x G sm lik en N := fun k a b c p p0 p1 => by rw [ha _ _ (by omega), ha _ _ (by omega)]; exact h k a b c p p0 p1
theorem s_X9_solve {M : aM} {W : aW} {Q : aM → aW → Prop} {G : Lnd} {x c a sm e : Int} {lik en : Int → Int} (hx : svO x) (ha : lkA a) (hk : cty c) (hG : clG c G M) (hw : WF G) (hcd : cdM M) (hl : likO G lik) (hsm : sm = 0 ∨ sm = 1) (hml : ∀ k, 0 ≤ k → k < thr_ ((G 0 3)) → M a k = lik k) (he : enA e) (hme : ∀ k, 0 ≤ k → k < thr_ ((G 0 3)) → 0 < lik k → M e k = en k) (hen : enO G sm lik en)
    (h : ∀ N, ag x (x + 3) M N → svM x c a G lik sm N → slM x G sm lik en N → Q N W) : CallV 109 [vR x, vR c, vR a, vI sm, vR e] (M, W) Q := by
  have hN := hw.N; unfold wfN at hN
  have ht := thr_le hN.2.2.2.1.1 hN.2.2.2.1.2
  have hg := sv_g hx ha
  have hge : e = 44 ∨ e = 69 := he
  have hr := VV_rng hw hl hen
  have hst : ∀ k, 0 ≤ k → k < thr_ ((G 0 3)) → 0 < lik k → ∀ p, 0 ≤ p → p < (G 0 0) → -1000000000000000 ≤ VV G sm lik en k p ∧ VV G sm lik en k p ≤ 1152921504606846976 := fun k a b c p p0 p1 => by
    have q := hr k a b c p p0 p1
    have hE : 0 ≤ eB sm ∧ eB sm ≤ 100000000000000 := by unfold eB; split <;> omega
    unfold vR_ at q; omega
  have key : ∀ (n : Nat) (x5 : Int) (N : aM), -1 ≤ x5 → x5 < thr_ ((G 0 3)) → (x5 + 1).toNat = n → ag x (x + 3) M N → svM x c a G lik sm N → (∀ k, x5 < k → k < thr_ ((G 0 3)) → 0 < lik k → ∀ p, 0 ≤ p → p < (G 0 0) → N (x + 1) (k * 10 + p) = VV G sm lik en k p ∧ N (x + 2) (k * 10 + p) = AA G sm lik en k p) → Xs 109 (26, [some (some (vR x)), some (some (vR c)), some (some (vR a)), some (some (vI sm)), some (some (vR e)), some (some (vI x5))], [], (N, W)) (QV Q) := by
    intro n; induction n using Nat.strongRecOn with
    | _ n ih =>
      intro x5 N h0 h1 hn hag hm hi
      have hcN := hcd.ag hag (by omega)
      have hGN := hG.ag hk hag (by omega)
      refine k_X9_solve_26 _ _ _ _ _ _ _ _ _ ?_
      refine ⟨by omega, fun hlt => h N hag hm (fun k k0 k1 hlk => hi k (by omega) k1 hlk), fun hge => ⟨sv_o hx, ?_⟩⟩
      rw [hm.2.1, hm.1, hm.2.2.2.2 x5 (by omega) h1, (hcN.1 x5 (by omega) (by omega)).1, (hcN.1 x5 (by omega) (by omega)).2]
      have l0 := hl.1 x5 (by omega) h1
      refine ⟨⟨lk_o ha, by omega, by rw [lk_l ha]; omega⟩, by omega, fun hz => ?_, fun hz => ⟨sv_o hx, sv_o hx, sv_o hx, by omega, sv_o hx, by omega, ct_o hk, ?_⟩⟩
      · refine ih (x5 + (-1) + 1).toNat (by omega) _ N (by omega) (by omega) rfl hag hm (fun k k0 k1 hlk => ?_)
        by_cases hk5 : k = x5
        · rw [hk5] at hlk; omega
        · exact hi k (by omega) k1 hlk
      · refine s_X3_fillPasses hk hGN hw (sv_ps hx) (opn_rng _).1 (opn_rng _).2 (sht_rng _).1 (sht_rng _).2 (fun K hK hp => ?_)
        have hmK := hm.ag hK (by omega) (by omega)
        have hGK := hGN.ag hk hK (by omega)
        have hcK := hcN.ag hK (by omega)
        refine ⟨⟨en_o he, by omega, by rw [en_l he]; omega⟩, sv_o hx, ?_⟩
        rw [hK e _ (by omega), hag e _ (by omega), hme x5 (by omega) h1 (by omega)]
        refine s_X9_solveKnown (v := VV G sm lik en) hx ha hk hGK hw hcK hmK hl (by omega) h1 (by omega) hp (fun k' a1 b1 c1 p p0 p1 => ?_) (fun k' a1 b1 c1 p p0 p1 => hst k' (by omega) b1 c1 p p0 p1) (VV_is hw sm en hl x5 (by omega) h1 (by omega)) (fun p p0 p1 => hst x5 (by omega) h1 (by omega) p p0 p1) (fun L hL hout hfin => ?_)
        · rw [hK _ _ (by omega)]; exact (hi k' a1 b1 c1 p p0 p1).1
        · refine ih (x5 + (-1) + 1).toNat (by omega) _ L (by omega) (by omega) rfl (ag_tr hag (ag_tr (ag_wk hK (by omega) (by omega)) (ag_wk hL (by omega) (by omega)))) (hmK.ag hL (by omega) (by omega)) (fun k k0 k1 hlk p p0 p1 => ?_)
          by_cases hk5 : k = x5
          · rw [hk5]; exact hfin p p0 p1
          · have ho := hout (k * 10 + p) (by omega)
            rw [ho.1, ho.2, hK _ _ (by omega), hK _ _ (by omega)]
            exact hi k (by omega) k1 hlk p p0 p1
  have hag0 : ag x (x + 3) M (up_ (up_ (up_ M x 4 c) x 5 a) x 6 sm) := ag_tr (ag_tr (ag_up _ (by omega) (by omega)) (ag_up _ (by omega) (by omega))) (ag_up _ (by omega) (by omega))
  have hm0 : svM x c a G lik sm (up_ (up_ (up_ M x 4 c) x 5 a) x 6 sm) := by
    refine ⟨?_, ?_, up_s _ _ _ _, hsm, fun k k0 k1 => ?_⟩
    · rw [up_j _ _ _ (by decide), up_j _ _ _ (by decide), up_s]
    · rw [up_j _ _ _ (by decide), up_s]
    · rw [hag0 a _ (by omega)]; exact hml k k0 k1
  have hG0 := hG.ag hk hag0 (by omega)
  refine e_X9_solve _ _ _ _ _ _ _ _ ?_
  rw [hm0.1]
  refine ⟨sv_o hx, sv_o hx, ⟨sv_o hx, hsm⟩, sv_o hx, ct_o hk, s_X3_knowns hk hG0 hw (fun y hy => ?_)⟩
  exact key _ y _ (by omega) (by omega) rfl hag0 hm0 (fun k a b => by omega)
theorem s_X9_act {M : aM} {W : aW} {Q : Int → aM → aW → Prop} {x p k : Int} (hx : svO x) (k0 : 0 ≤ k) (k1 : k < 729) (p0 : 0 ≤ p) (p1 : p < 10) (h : Q (M (x + 2) (k * 10 + p)) M W) : CallI 105 [vR x, vI p, vI k] (M, W) Q := by
  refine e_X9_act _ _ _ _ _ _ ?_
  exact ⟨sv_o hx, ⟨sv_a2 hx, by omega, by rw [sv_l2 hx]; omega⟩, h⟩
theorem s_X9_value {M : aM} {W : aW} {Q : Int → aM → aW → Prop} {x p k : Int} (hx : svO x) (k0 : 0 ≤ k) (k1 : k < 729) (p0 : 0 ≤ p) (p1 : p < 10) (h : Q (M (x + 1) (k * 10 + p)) M W) : CallL 106 [vR x, vI p, vI k] (M, W) Q := by
  refine e_X9_value _ _ _ _ _ _ ?_
  exact ⟨sv_o hx, ⟨sv_a1 hx, by omega, by rw [sv_l1 hx]; omega⟩, h⟩
/-- a value, told -/
def tolV (v : Int) : Int := if v < 1152921504606846976 then v else -2
theorem s_X9_meanFrom {M : aM} {W : aW} {Q : Int → aM → aW → Prop} {x p k : Int} (hx : svO x) (k0 : 0 ≤ k) (k1 : k < 729) (p0 : 0 ≤ p) (p1 : p < 10) (hr : inL (M (x + 1) (k * 10 + p))) (h : Q (tolV (M (x + 1) (k * 10 + p))) M W) : CallL 107 [vR x, vI p, vI k] (M, W) Q := by
  refine e_X9_meanFrom _ _ _ _ _ _ ?_
  unfold tolV at h
  refine ⟨sv_o hx, s_X9_value hx k0 k1 p0 p1 ⟨⟨hr, by decide⟩, fun hc => ?_, fun hc => ?_⟩⟩
  · rw [if_pos hc] at h; exact h
  · rw [if_neg hc] at h; exact h
theorem s_X9_stayEverywhere {M : aM} {W : aW} {Q : aM → aW → Prop} {x : Int} (hx : svO x) (h : ∀ N, ag (x + 2) (x + 2) M N → (∀ j, 0 ≤ j → j < 7290 → N (x + 2) j = -2) → Q N W) : CallV 108 [vR x] (M, W) Q := by
  have key : ∀ (n : Nat) (x1 : Int) (N : aM), 0 ≤ x1 → x1 ≤ 7290 → (7290 - x1).toNat = n → ag (x + 2) (x + 2) M N → (∀ j, 0 ≤ j → j < x1 → N (x + 2) j = -2) → Xs 108 (2, [some (some (vR x)), some (some (vI x1))], [], (N, W)) (QV Q) := by
    intro n; induction n using Nat.strongRecOn with
    | _ n ih =>
      intro x1 N h0 h1 hn hag hi
      refine k_X9_stayEverywhere_2 _ _ _ _ _ ?_
      rw [sv_l2 hx]
      refine ⟨sv_o hx, sv_a2 hx, by omega, fun hge => h N hag (fun j j0 j1 => hi j j0 (by omega)), fun hlt => ⟨sv_o hx, ⟨sv_a2 hx, by omega, by omega⟩, ?_⟩⟩
      refine ih (7290 - (x1 + 1)).toNat (by omega) _ _ (by omega) (by omega) rfl (ag_tr hag (ag_up _ (Int.le_refl _) (Int.le_refl _))) (fun j j0 j1 => ?_)
      by_cases he : j = x1
      · rw [he, up_s]
      · rw [up_j _ _ _ he]; exact hi j j0 (by omega)
  refine e_X9_stayEverywhere _ _ _ _ ?_
  exact key _ 0 M (by omega) (by omega) rfl (ag_refl _ _ _) (fun j a b => by omega)
