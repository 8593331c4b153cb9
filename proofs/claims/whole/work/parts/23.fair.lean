/-! FAIR: ends by worlds, what following the acts comes to, how LEAST TIMES are found -/
def mxE (P : Int → Bool) (e : Int → Int) : Nat → Int
  | 0 => -1000000000000000
  | n + 1 => if P n = true ∧ mxE P e n < e n then e n else mxE P e n
theorem mxE_low (P : Int → Bool) (e : Int → Int) : ∀ n, -1000000000000000 ≤ mxE P e n := by
  intro n; induction n with
  | zero => exact Int.le_refl _
  | succ n ih => unfold mxE; split <;> omega
theorem mxE_ge {P : Int → Bool} {e : Int → Int} : ∀ (n : Nat) (w : Int), 0 ≤ w → w < n → P w = true → e w ≤ mxE P e n := by
  intro n; induction n with
  | zero => intro w a b; omega
  | succ n ih =>
    intro w a b h
    unfold mxE
    by_cases hw : w = (n : Int)
    · subst hw
      by_cases hc : P n = true ∧ mxE P e n < e n
      · rw [if_pos hc]; exact Int.le_refl _
      · rw [if_neg hc]; exact Int.not_lt.mp (fun hl => hc ⟨h, hl⟩)
    · have := ih w a (by omega) h
      split <;> omega
theorem mxE_att (P : Int → Bool) (e : Int → Int) : ∀ n : Nat, mxE P e n = -1000000000000000 ∨ ∃ w : Int, 0 ≤ w ∧ w < n ∧ P w = true ∧ mxE P e n = e w := by
  intro n; induction n with
  | zero => exact Or.inl rfl
  | succ n ih =>
    unfold mxE
    by_cases hc : P n = true ∧ mxE P e n < e n
    · rw [if_pos hc]; exact Or.inr ⟨n, by omega, by omega, hc.1, rfl⟩
    · rw [if_neg hc]
      rcases ih with ih | ⟨w, a, b, c, d⟩
      · exact Or.inl ih
      · exact Or.inr ⟨w, a, by omega, c, d⟩
theorem mxE_le {P : Int → Bool} {e : Int → Int} {B : Int} (n : Nat) (hB : -1000000000000000 ≤ B) (h : ∀ w : Int, 0 ≤ w → w < n → P w = true → e w ≤ B) : mxE P e n ≤ B := by
  rcases mxE_att P e n with h1 | ⟨w, a, b, c, d⟩
  · omega
  · rw [d]; exact h w a b c
noncomputable def enP (G : Lnd) (k w : Int) : Bool := agB k w && decide (0 < wtG G w)
noncomputable def enG (G : Lnd) (e : Int → Int) (k : Int) : Int := mxE (enP G k) e (p2_ ((G 0 3))).toNat
theorem enP_iff {G : Lnd} {k w : Int} : enP G k w = true ↔ agB k w = true ∧ 0 < wtG G w := by
  unfold enP; rw [Bool.and_eq_true, decide_eq_true_eq]
theorem enG_ge {G : Lnd} (hw : WF G) {e : Int → Int} {k w : Int} (w0 : 0 ≤ w) (w1 : w < p2_ ((G 0 3))) (ha : agB k w = true) (hW : 0 < wtG G w) : e w ≤ enG G e k := mxE_ge _ w w0 (by have := p2_lt64 hw; omega) (enP_iff.mpr ⟨ha, hW⟩)
theorem enG_split {G : Lnd} (hw : WF G) {e : Int → Int} {k d : Int} (k0 : 0 ≤ k) (k1 : k < 729) (d0 : 0 ≤ d) (d6 : d < 6) (hd : dg k d = 0) : enG G e k = max_ (enG G e (k + thr_ d)) (enG G e (k + 2 * thr_ d)) := by
  have hs := fun w => agB_split (w := w) k0 k1 d0 d6 hd
  have l1 := mxE_low (enP G (k + thr_ d)) e (p2_ ((G 0 3))).toNat
  have l2 := mxE_low (enP G (k + 2 * thr_ d)) e (p2_ ((G 0 3))).toNat
  have a1 : enG G e k ≤ max_ (enG G e (k + thr_ d)) (enG G e (k + 2 * thr_ d)) := by
    refine mxE_le _ (by unfold max_ enG; split <;> omega) (fun w w0 w1 hp => ?_)
    rw [enP_iff] at hp
    rcases (hs w).1.mp hp.1 with h | h
    · have : e w ≤ enG G e (k + thr_ d) := mxE_ge _ w w0 w1 (enP_iff.mpr ⟨h, hp.2⟩)
      unfold max_; split <;> omega
    · have : e w ≤ enG G e (k + 2 * thr_ d) := mxE_ge _ w w0 w1 (enP_iff.mpr ⟨h, hp.2⟩)
      unfold max_; split <;> omega
  have a2 : enG G e (k + thr_ d) ≤ enG G e k := mxE_le _ (mxE_low _ _ _) (fun w w0 w1 hp => by
    rw [enP_iff] at hp
    exact mxE_ge _ w w0 w1 (enP_iff.mpr ⟨(hs w).1.mpr (Or.inl hp.1), hp.2⟩))
  have a3 : enG G e (k + 2 * thr_ d) ≤ enG G e k := mxE_le _ (mxE_low _ _ _) (fun w w0 w1 hp => by
    rw [enP_iff] at hp
    exact mxE_ge _ w w0 w1 (enP_iff.mpr ⟨(hs w).1.mpr (Or.inr hp.1), hp.2⟩))
  unfold max_ at a1 ⊢
  split <;> rename_i hc
  · rw [if_pos hc] at a1; omega
  · rw [if_neg hc] at a1; omega
theorem enG_none {G : Lnd} (hw : WF G) {e : Int → Int} {k : Int} (h : lkG G k ≤ 0) : enG G e k = -1000000000000000 := by
  have hp := p2_lt64 hw
  rcases mxE_att (enP G k) e (p2_ ((G 0 3))).toNat with h1 | ⟨w, a, b, c, -⟩
  · exact h1
  · rw [enP_iff] at c
    have := lkG_pos hw a (by omega) c.2 c.1
    omega
/-- who has some weight has a world that has some -/
theorem lkG_ex {G : Lnd} (hw : WF G) {k : Int} (h : 0 < lkG G k) : ∃ w : Int, 0 ≤ w ∧ w < p2_ ((G 0 3)) ∧ agB k w = true ∧ 0 < wtG G w := by
  have hp := p2_lt64 hw
  obtain ⟨w, a, b, c⟩ := su_pos (f := fun w => if agB k w = true then wtG G w else 0) (p2_ ((G 0 3))).toNat (fun i _ _ => by
    have := wtG_nn hw i
    show 0 ≤ if agB k i = true then wtG G i else 0
    split <;> omega) h
  have c' : 0 < if agB k w = true then wtG G w else 0 := c
  by_cases ha : agB k w = true
  · rw [if_pos ha] at c'; exact ⟨w, a, by omega, ha, c'⟩
  · rw [if_neg ha] at c'; omega
theorem enG_rng {G : Lnd} (hw : WF G) {e : Int → Int} {B k : Int} (he : ∀ w, 0 ≤ w → w < p2_ ((G 0 3)) → 0 < wtG G w → -B ≤ e w ∧ e w ≤ B) (h : 0 < lkG G k) (hB : B < 1000000000000000) : -B ≤ enG G e k ∧ enG G e k ≤ B := by
  have hp := p2_lt64 hw
  obtain ⟨w, a, b, c, d⟩ := lkG_ex hw h
  have h1 := enG_ge hw (e := e) a b c d
  have h2 := he w a b d
  refine ⟨by omega, mxE_le _ (by omega) (fun w w0 w1 hP => (he w w0 (by omega) (enP_iff.mp hP).2).2)⟩
theorem enG_ful {G : Lnd} (hw : WF G) {e : Int → Int} {k : Int} (k0 : 0 ≤ k) (k1 : k < thr_ ((G 0 3))) (hf : ful ((G 0 3)) k) (h : 0 < lkG G k) (he : -1000000000000000 < e (sht k)) : enG G e k = e (sht k) := by
  have hN := hw.N; unfold wfN at hN
  have hp := p2_lt64 hw
  obtain ⟨w, a, b, c, d⟩ := lkG_ex hw h
  have hws : w = sht k := (agB_ful (by omega) (by omega) k0 k1 a b hf).mp c
  have h1 := enG_ge hw (e := e) a b c d
  rw [hws] at h1
  refine Int.le_antisymm (mxE_le _ (by omega) (fun w w0 w1 hP => ?_)) h1
  rw [(agB_ful (by omega) (by omega) k0 k1 w0 (by omega) hf).mp (enP_iff.mp hP).1]; exact Int.le_refl _
-- following the acts of the least worst
theorem lrn_one {k d w : Int} (k0 : 0 ≤ k) (k1 : k < 729) (d0 : 0 ≤ d) (d6 : d < 6) (hd : dg k d = 0) : lrn k (p2_ d) w = k + (bt w d + 1) * thr_ d := by
  have hb := bt_rng w d
  have hr := lrn_rng k (p2_ d) w
  have hl := dg_lt (v := bt w d + 1) (d := 6) k0 (by decide) (show k < thr_ 6 from k1) d0 d6 hd (by omega)
  refine dg_ext hr.1 hr.2 hl.1 (show _ < thr_ 6 from hl.2) (fun i i0 i6 => ?_)
  rw [dg_lrn i0 i6, dg_add k0 k1 d0 d6 i0 i6 hd (by omega), bt_p2 d0 d6 i0 i6]
  by_cases hi : i = d
  · rw [if_pos hi, if_pos hi, hi, hd, if_pos (by omega)]
  · rw [if_neg hi, if_neg hi, if_neg (by omega)]
theorem lrn_id {k r w : Int} (k0 : 0 ≤ k) (k1 : k < 729) (h : ∀ i, 0 ≤ i → i < 6 → bt r i = 1 → dg k i ≠ 0) : lrn k r w = k := by
  have hr := lrn_rng k r w
  refine dg_ext hr.1 hr.2 k0 k1 (fun i i0 i6 => ?_)
  rw [dg_lrn i0 i6]
  by_cases hb : dg k i = 0 ∧ bt r i = 1
  · exact absurd hb.1 (h i i0 i6 hb.2)
  · rw [if_neg hb]
theorem lrn_two {k r w d : Int} (k0 : 0 ≤ k) (k1 : k < 729) (d0 : 0 ≤ d) (d6 : d < 6) (hd : dg k d = 0) (hb : bt r d = 1) : lrn (k + (bt w d + 1) * thr_ d) r w = lrn k r w := by
  have hbr := bt_rng w d
  have hr := lrn_rng k r w
  have hr2 := lrn_rng (k + (bt w d + 1) * thr_ d) r w
  refine dg_ext hr2.1 hr2.2 hr.1 hr.2 (fun i i0 i6 => ?_)
  rw [dg_lrn i0 i6, dg_lrn i0 i6, dg_add k0 k1 d0 d6 i0 i6 hd (by omega)]
  by_cases hi : i = d
  · rw [if_pos hi, hi, hd, hb, if_neg (by omega), if_pos (by omega)]
  · rw [if_neg hi]
/-- who comes to know what is so in a world is no worse off than feared -/
theorem leV_ge {G : Lnd} (hw : WF G) {lik : Int → Int} {v : Int → Int → Int} {k p d w : Int} (d0 : 0 ≤ d) (hl : 0 < lik (k + (bt w d + 1) * thr_ d)) (hv : ∀ k' p', v k' p' ≤ 1152921504606846976 ∨ ¬ 0 < lik k') : v (k + (bt w d + 1) * thr_ d) p ≤ leV 0 lik v k p d := by
  have h1 := hv (k + thr_ d) p; have h2 := hv (k + 2 * thr_ d) p
  unfold leV
  rcases bt_cs w d with hb | hb
  · rw [hb] at hl ⊢
    rw [show ((0 : Int) + 1) * thr_ d = thr_ d by omega] at hl ⊢
    rw [if_neg (by omega)]
    split
    · omega
    · split
      · omega
      · split
        · omega
        · rw [if_pos rfl]; unfold max_; split <;> omega
  · rw [hb] at hl ⊢
    rw [show ((1 : Int) + 1) * thr_ d = 2 * thr_ d by omega] at hl ⊢
    split
    · omega
    · rw [if_neg (by omega)]
      split
      · omega
      · split
        · omega
        · rw [if_pos rfl]; unfold max_; split <;> omega
def unk (G : Lnd) (k : Int) : Nat := cnt_ (fun i => decide (dg k i = 0)) ((G 0 3)).toNat
theorem unk_lt {G : Lnd} {k k' j : Int} (j0 : 0 ≤ j) (j1 : j < (G 0 3)) (h : ∀ i, 0 ≤ i → i < (G 0 3) → dg k' i = 0 → dg k i = 0) (hj : dg k j = 0) (hj' : dg k' j ≠ 0) : unk G k' < unk G k := by
  refine cnt_lt _ j j0 (by omega) (fun i i0 i1 hi => ?_) (decide_eq_false hj') (decide_eq_true hj)
  rw [decide_eq_true_eq] at hi ⊢
  exact h i i0 (by omega) hi
theorem unk_lrn {G : Lnd} (hw : WF G) {k r w j : Int} (j0 : 0 ≤ j) (j1 : j < (G 0 3)) (hj : dg k j = 0) (hb : bt r j = 1) : unk G (lrn k r w) < unk G k := by
  have hN := hw.N; unfold wfN at hN
  have hbr := bt_rng w j
  refine unk_lt j0 j1 (fun i i0 i1 hi => ?_) hj ?_
  · rw [dg_lrn i0 (by omega)] at hi
    have := bt_rng w i
    split at hi
    · omega
    · exact hi
  · rw [dg_lrn j0 (by omega), if_pos ⟨hj, hb⟩]; omega
noncomputable abbrev VF (G : Lnd) (e : Int → Int) : Int → Int → Int := VV G 0 (lkG G) (enG G e)
theorem V_learn {G : Lnd} (hw : WF G) {e : Int → Int} {w q : Int} (he : enO G 0 (lkG G) (enG G e)) (w0 : 0 ≤ w) (w1 : w < p2_ ((G 0 3))) (hW : 0 < wtG G w) (q0 : 0 ≤ q) (q1 : q < (G 0 0)) (hq : q ≠ (G 0 7)) : ∀ (n : Nat) (k : Int), unk G k = n → 0 ≤ k → k < thr_ ((G 0 3)) → agB k w = true → VF G e (lrn k ((G 5 q)) w) q ≤ VF G e k q := by
  have hN := hw.N; unfold wfN at hN
  have ht := thrG hw
  have hr := VV_rng hw (lkG_ok hw) he
  intro n; induction n using Nat.strongRecOn with
  | _ n ih =>
    intro k hn k0 k1 hag
    by_cases hf : fm_ k ((G 5 q)) < 0
    · rw [lrn_id k0 (by omega) (seen_fm.mp hf)]; exact Int.le_refl _
    · have hm := fm_in hw q0 (show q < 10 by omega) (k := k) (by omega)
      generalize hdd : fm_ k ((G 5 q)) = d at *
      have hbr := bt_rng w d
      have hlt := dg_lt (v := bt w d + 1) k0 (by omega) k1 (show 0 ≤ d by omega) hm.1 hm.2.1 (by omega)
      have hth := thr_le (show 0 ≤ d by omega) (show d ≤ 6 by omega)
      have hagk : agB (k + (bt w d + 1) * thr_ d) w = true := by
        rw [← lrn_one k0 (by omega) (by omega) (by omega) hm.2.1]; exact lrn_ag hag
      have hu : unk G (k + (bt w d + 1) * thr_ d) < n := by
        rw [← hn, ← lrn_one (w := w) k0 (by omega) (by omega) (by omega) hm.2.1]
        exact unk_lrn hw (show 0 ≤ d by omega) hm.1 hm.2.1 (by rw [bt_p2 (by omega) (by omega) (by omega) (by omega), if_pos rfl])
      have h1 := ih _ hu _ rfl hlt.1 hlt.2 hagk
      rw [lrn_two k0 (by omega) (by omega) (by omega) hm.2.1 hm.2.2] at h1
      have hlk := lkG_pos hw w0 w1 hW hag
      have hD := (VV_is hw 0 (enG G e) (lkG_ok hw) k k0 k1 hlk) q q0 (by omega)
      have hfx : fxS G k q = true := decide_eq_true (Or.inr (by omega))
      have h2 : VF G e k q = leV 0 (lkG G) (VF G e) k q d := by
        show VV G 0 (lkG G) (enG G e) k q = _
        rw [hD.1 hfx]; unfold bS; rw [if_neg hq, hdd]
      rw [h2]
      refine Int.le_trans h1 ?_
      have hlk1 := lkG_pos hw w0 w1 hW hagk
      have hmul : thr_ d ≤ (bt w d + 1) * thr_ d ∧ (bt w d + 1) * thr_ d ≤ 2 * thr_ d := by
        rcases bt_cs w d with e1 | e1 <;> rw [e1] <;> omega
      -- the values of who knows more are at most the top
      unfold leV
      have g1 : 0 < lkG G (k + thr_ d) → VF G e (k + thr_ d) q ≤ 1152921504606846976 := fun hp => by
        have b1 := dg_lt (v := 1) k0 (by omega) k1 (show 0 ≤ d by omega) hm.1 hm.2.1 (by decide)
        exact (hr _ (by omega) (by omega) hp q q0 q1).2.1
      have g2 : 0 < lkG G (k + 2 * thr_ d) → VF G e (k + 2 * thr_ d) q ≤ 1152921504606846976 := fun hp => by
        have b2 := dg_lt (v := 2) k0 (by omega) k1 (show 0 ≤ d by omega) hm.1 hm.2.1 (by decide)
        exact (hr _ (by omega) (by omega) hp q q0 q1).2.1
      rcases bt_cs w d with hb | hb
      · rw [hb] at hlk1 ⊢
        rw [show ((0 : Int) + 1) * thr_ d = thr_ d by omega] at hlk1 ⊢
        rw [if_neg (by omega)]
        have := g1 hlk1
        split
        · omega
        · split
          · omega
          · split
            · omega
            · rw [if_pos rfl]; unfold max_; split <;> omega
      · rw [hb] at hlk1 ⊢
        rw [show ((1 : Int) + 1) * thr_ d = 2 * thr_ d by omega] at hlk1 ⊢
        have := g2 hlk1
        split
        · omega
        · rw [if_neg (by omega)]
          split
          · omega
          · split
            · omega
            · rw [if_pos rfl]; unfold max_; split <;> omega
