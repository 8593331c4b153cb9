/-! CODES and the small words of a Country -/
def tld (r w : Int) : Int := ds (fun i => if bt r i = 1 then bt w i + 1 else 0)
def lrn (k r w : Int) : Int := ds (fun i => if dg k i = 0 ∧ bt r i = 1 then bt w i + 1 else dg k i)
theorem lrn_f (k r w i : Int) : 0 ≤ (if dg k i = 0 ∧ bt r i = 1 then bt w i + 1 else dg k i) ∧ (if dg k i = 0 ∧ bt r i = 1 then bt w i + 1 else dg k i) < 3 := by
  have h1 := dg_rng k i; have h2 := bt_rng w i; split <;> omega
theorem tld_f (r w i : Int) : 0 ≤ (if bt r i = 1 then bt w i + 1 else 0) ∧ (if bt r i = 1 then bt w i + 1 else 0) < 3 := by
  have h2 := bt_rng w i; split <;> omega
theorem lrn_rng (k r w : Int) : 0 ≤ lrn k r w ∧ lrn k r w < 729 := ds_rng (fun i _ _ => lrn_f k r w i)
theorem dg_lrn {k r w i : Int} (i0 : 0 ≤ i) (i6 : i < 6) : dg (lrn k r w) i = if dg k i = 0 ∧ bt r i = 1 then bt w i + 1 else dg k i := dg_ds (fun i _ _ => lrn_f k r w i) i0 i6
theorem tld_rng (r w : Int) : 0 ≤ tld r w ∧ tld r w < 729 := ds_rng (fun i _ _ => tld_f r w i)
theorem dg_tld {r w i : Int} (i0 : 0 ≤ i) (i6 : i < 6) : dg (tld r w) i = if bt r i = 1 then bt w i + 1 else 0 := dg_ds (fun i _ _ => tld_f r w i) i0 i6
theorem tld_e (r w : Int) : spr (sDif r w) + 2 * spr (sAnd r w) = tld r w := by
  have t : ∀ i, 0 ≤ i → i < 6 → bt (sDif r w) i + 2 * bt (sAnd r w) i = if bt r i = 1 then bt w i + 1 else 0 := by
    intro i i0 i6
    rw [bt_sDif i0 i6, bt_sAnd i0 i6]
    rcases bt_cs r i with h | h <;> rcases bt_cs w i with h2 | h2 <;> simp [h, h2]
  have t0 := t 0 (by decide) (by decide); have t1 := t 1 (by decide) (by decide); have t2 := t 2 (by decide) (by decide)
  have t3 := t 3 (by decide) (by decide); have t4 := t 4 (by decide) (by decide); have t5 := t 5 (by decide) (by decide)
  unfold spr tld ds
  dsimp only
  omega
theorem lrn_e {k : Int} (k0 : 0 ≤ k) (k1 : k < 729) (r w : Int) : k + tld (sDif r (sOr (opn k) (sht k))) w = lrn k r w := by
  have t : ∀ i, 0 ≤ i → i < 6 → dg k i + (if bt (sDif r (sOr (opn k) (sht k))) i = 1 then bt w i + 1 else 0) = if dg k i = 0 ∧ bt r i = 1 then bt w i + 1 else dg k i := by
    intro i i0 i6
    rw [bt_sDif i0 i6, bt_sOr i0 i6, bt_opn i0 i6, bt_sht i0 i6]
    rcases bt_cs r i with h | h <;> rcases dg_cs k i with h2 | h2 | h2 <;> simp [h, h2]
  have t0 := t 0 (by decide) (by decide); have t1 := t 1 (by decide) (by decide); have t2 := t 2 (by decide) (by decide)
  have t3 := t 3 (by decide) (by decide); have t4 := t 4 (by decide) (by decide); have t5 := t 5 (by decide) (by decide)
  have e := ds_dg k0 k1
  unfold ds at e
  unfold tld lrn ds
  dsimp only
  omega
/-- the first of these that is not known -/
abbrev mis (k r i : Int) : Prop := bt r i = 1 ∧ dg k i = 0
def fm_ (k r : Int) : Int := if bt r 0 = 1 ∧ dg k 0 = 0 then 0 else if bt r 1 = 1 ∧ dg k 1 = 0 then 1 else if bt r 2 = 1 ∧ dg k 2 = 0 then 2 else if bt r 3 = 1 ∧ dg k 3 = 0 then 3 else if bt r 4 = 1 ∧ dg k 4 = 0 then 4 else if bt r 5 = 1 ∧ dg k 5 = 0 then 5 else -1
theorem fm_eq {k r x : Int} (x0 : 0 ≤ x) (x6 : x < 6) (h : mis k r x) (h2 : ∀ i, 0 ≤ i → i < x → ¬ mis k r i) : fm_ k r = x := by
  have a0 := h2 0 (by decide); have a1 := h2 1 (by decide); have a2 := h2 2 (by decide); have a3 := h2 3 (by decide); have a4 := h2 4 (by decide)
  unfold mis at *
  unfold fm_
  rcases six_ x0 x6 with rfl | rfl | rfl | rfl | rfl | rfl
  · rw [if_pos h]
  · rw [if_neg (a0 (by decide)), if_pos h]
  · rw [if_neg (a0 (by decide)), if_neg (a1 (by decide)), if_pos h]
  · rw [if_neg (a0 (by decide)), if_neg (a1 (by decide)), if_neg (a2 (by decide)), if_pos h]
  · rw [if_neg (a0 (by decide)), if_neg (a1 (by decide)), if_neg (a2 (by decide)), if_neg (a3 (by decide)), if_pos h]
  · rw [if_neg (a0 (by decide)), if_neg (a1 (by decide)), if_neg (a2 (by decide)), if_neg (a3 (by decide)), if_neg (a4 (by decide)), if_pos h]
theorem fm_no {k r : Int} (h2 : ∀ i, 0 ≤ i → i < 6 → ¬ mis k r i) : fm_ k r = -1 := by
  have a0 := h2 0 (by decide) (by decide); have a1 := h2 1 (by decide) (by decide); have a2 := h2 2 (by decide) (by decide); have a3 := h2 3 (by decide) (by decide); have a4 := h2 4 (by decide) (by decide); have a5 := h2 5 (by decide) (by decide)
  unfold mis at *
  unfold fm_
  rw [if_neg a0, if_neg a1, if_neg a2, if_neg a3, if_neg a4, if_neg a5]
theorem fm_cs (k r : Int) : (fm_ k r = -1 ∧ ∀ i, 0 ≤ i → i < 6 → ¬ mis k r i) ∨ (0 ≤ fm_ k r ∧ fm_ k r < 6 ∧ mis k r (fm_ k r) ∧ ∀ i, 0 ≤ i → i < fm_ k r → ¬ mis k r i) := by
  have key : ∀ n : Nat, n ≤ 6 → (∀ i : Int, 0 ≤ i → i < n → ¬ mis k r i) ∨ ∃ x : Int, 0 ≤ x ∧ x < n ∧ mis k r x ∧ ∀ i, 0 ≤ i → i < x → ¬ mis k r i := by
    intro n; induction n with
    | zero => intro _; exact Or.inl (fun i a b => by omega)
    | succ n ih =>
      intro hn
      rcases ih (by omega) with h | ⟨x, a, b, c, d⟩
      · by_cases hm : mis k r n
        · exact Or.inr ⟨n, by omega, by omega, hm, h⟩
        · refine Or.inl (fun i a b => ?_)
          by_cases hi : i = (n : Int)
          · subst hi; exact hm
          · exact h i a (by omega)
      · exact Or.inr ⟨x, a, by omega, c, d⟩
  rcases key 6 (by decide) with h | ⟨x, a, b, c, d⟩
  · exact Or.inl ⟨fm_no h, h⟩
  · rw [fm_eq a b c d]; exact Or.inr ⟨a, b, c, d⟩
theorem s_X2_digit {M : aM} {W : aW} {Q : Int → aM → aW → Prop} {k d : Int} (hc : cdM M) (k0 : 0 ≤ k) (k1 : k < 729) (d0 : 0 ≤ d) (d6 : d < 6) (h : Q (dg k d) M W) : CallI 22 [vR 27, vI k, vI d] (M, W) Q := by
  refine e_X2_digit _ _ _ _ _ ?_
  refine ⟨⟨k0, k1⟩, ⟨k0, k1⟩, ?_⟩
  rw [(hc.1 k k0 k1).1, (hc.1 k k0 k1).2, bit_e (opn_rng k).1 (opn_rng k).2 d0 d6, bit_e (sht_rng k).1 (sht_rng k).2 d0 d6, bt_opn d0 d6, bt_sht d0 d6]
  have e : (if dg k d = 1 then 1 else 0) + (2 : Int) * (if dg k d = 2 then 1 else 0) = dg k d := by rcases dg_cs k d with q | q | q <;> simp [q]
  rw [e]; exact h
theorem s_X2_told {M : aM} {W : aW} {Q : Int → aM → aW → Prop} {r w : Int} (hc : cdM M) (r0 : 0 ≤ r) (r1 : r < 64) (w0 : 0 ≤ w) (w1 : w < 64) (h : Q (tld r w) M W) : CallI 23 [vR 27, vI r, vI w] (M, W) Q := by
  refine e_X2_told _ _ _ _ _ ?_
  rw [dif_e r0 r1 w0 w1, and_e r0 r1 w0 w1, hc.2 _ (sDif_rng r w).1 (sDif_rng r w).2, hc.2 _ (sAnd_rng r w).1 (sAnd_rng r w).2, tld_e]
  exact ⟨sDif_rng r w, sAnd_rng r w, h⟩
theorem mis_e {M : aM} {k r : Int} (hc : cdM M) (k0 : 0 ≤ k) (k1 : k < 729) (r0 : 0 ≤ r) (r1 : r < 64) : and_ r (xor_ (or_ (M 28 k) (M 29 k)) (-1)) = sDif r (sOr (opn k) (sht k)) := by
  rw [(hc.1 k k0 k1).1, (hc.1 k k0 k1).2, or_e (opn_rng k).1 (opn_rng k).2 (sht_rng k).1 (sht_rng k).2, dif_e r0 r1 (sOr_rng _ _).1 (sOr_rng _ _).2]
theorem bt_mis {k r i : Int} (i0 : 0 ≤ i) (i6 : i < 6) : bt (sDif r (sOr (opn k) (sht k))) i = if mis k r i then 1 else 0 := by
  rw [bt_sDif i0 i6, bt_sOr i0 i6, bt_opn i0 i6, bt_sht i0 i6]
  unfold mis
  rcases bt_cs r i with h | h <;> rcases dg_cs k i with h2 | h2 | h2 <;> simp [h, h2]
theorem s_X2_seeing {M : aM} {W : aW} {Q : Int → aM → aW → Prop} {k r w : Int} (hc : cdM M) (k0 : 0 ≤ k) (k1 : k < 729) (r0 : 0 ≤ r) (r1 : r < 64) (w0 : 0 ≤ w) (w1 : w < 64) (h : Q (lrn k r w) M W) : CallI 24 [vR 27, vI k, vI r, vI w] (M, W) Q := by
  refine e_X2_seeing _ _ _ _ _ _ ?_
  rw [mis_e hc k0 k1 r0 r1]
  refine ⟨⟨k0, k1⟩, ⟨k0, k1⟩, s_X2_told hc (sDif_rng _ _).1 (sDif_rng _ _).2 w0 w1 ?_⟩
  rw [lrn_e k0 k1]; exact h
theorem s_X2_firstMissing {M : aM} {W : aW} {Q : Int → aM → aW → Prop} {k r : Int} (hc : cdM M) (k0 : 0 ≤ k) (k1 : k < 729) (r0 : 0 ≤ r) (r1 : r < 64) (h : Q (fm_ k r) M W) : CallI 25 [vR 27, vI k, vI r] (M, W) Q := by
  refine e_X2_firstMissing _ _ _ _ _ ?_
  rw [mis_e hc k0 k1 r0 r1]
  refine ⟨⟨k0, k1⟩, ⟨k0, k1⟩, fun v hv => ?_⟩
  subst hv
  have key : ∀ (n : Nat) (x : Int), 0 ≤ x → x ≤ 6 → (6 - x).toNat = n → (∀ i, 0 ≤ i → i < x → ¬ mis k r i) → Xs 25 (21, [some (some (vR 27)), some (some (vI k)), some (some (vI r)), some (some (vI (sDif r (sOr (opn k) (sht k))))), some (some (vI x))], [], (M, W)) (QI Q) := by
    intro n; induction n using Nat.strongRecOn with
    | _ n ih =>
      intro x x0 x6 hn hx
      refine k_X2_firstMissing_21 _ _ _ _ _ _ _ ?_
      refine ⟨by omega, fun hge => ?_, fun hlt => ?_⟩
      · have e := fm_no (k := k) (r := r) (fun i a b => hx i a (by omega))
        rw [e] at h; exact h
      · rw [bit_e (sDif_rng _ _).1 (sDif_rng _ _).2 x0 (by omega), bt_mis x0 (by omega)]
        refine ⟨by split <;> decide, fun h0 => ?_, fun h0 => ?_⟩
        · have hm : ¬ mis k r x := fun q => by rw [if_pos q] at h0; exact absurd h0 (by decide)
          refine ih (6 - (x + 1)).toNat (by omega) (x + 1) (by omega) (by omega) rfl (fun i a b => ?_)
          by_cases hi : i = x
          · subst hi; exact hm
          · exact hx i a (by omega)
        · have hm : mis k r x := Classical.byContradiction (fun q => h0 (if_neg q))
          rw [fm_eq x0 (by omega) hm hx] at h; exact h
  exact key _ 0 (by omega) (by omega) rfl (fun i a b => by omega)
-- Country
theorem s_X3_hasPlace {M : aM} {W : aW} {Q : Int → aM → aW → Prop} {G : Lnd} {c p : Int} (hk : cty c) (hG : clG c G M) (hw : WF G) (p0 : inI p) (h : ∀ r, (r = 1 ∧ 0 ≤ p ∧ p < (G 0 0)) ∨ (r = 0 ∧ ¬ (0 ≤ p ∧ p < (G 0 0))) → Q r M W) : CallI 28 [vR c, vI p] (M, W) Q := by
  have hN := hw.N; unfold wfN at hN
  refine e_X3_hasPlace _ _ _ _ _ ?_
  simp only [hG.1]
  repeat' (first | apply And.intro | intro _)
  all_goals (try (first | (exact h _ (by omega)) | omega | exact Or.inl trivial | exact Or.inr trivial | exact Or.inl rfl | exact Or.inr rfl))
  all_goals (try (first | omega | exact ct_o hk | exact ct_a1 hk | exact ct_a2 hk | exact ct_a3 hk | exact ct_a4 hk | exact ct_a5 hk | exact ct_a6 hk | exact ct_a7 hk | exact ct_a8 hk | (rw [ct_l1 hk]; omega) | (rw [ct_l2 hk]; omega) | (rw [ct_l3 hk]; omega) | (rw [ct_l4 hk]; omega) | (rw [ct_l5 hk]; omega) | (rw [ct_l6 hk]; omega) | (rw [ct_l7 hk]; omega) | (rw [ct_l8 hk]; omega)))
theorem s_X3_hasDoubtful {M : aM} {W : aW} {Q : Int → aM → aW → Prop} {G : Lnd} {c p : Int} (hk : cty c) (hG : clG c G M) (hw : WF G) (p0 : inI p) (h : ∀ r, (r = 1 ∧ 0 ≤ p ∧ p < (G 0 3)) ∨ (r = 0 ∧ ¬ (0 ≤ p ∧ p < (G 0 3))) → Q r M W) : CallI 29 [vR c, vI p] (M, W) Q := by
  have hN := hw.N; unfold wfN at hN
  refine e_X3_hasDoubtful _ _ _ _ _ ?_
  simp only [hG.1]
  repeat' (first | apply And.intro | intro _)
  all_goals (try (first | (exact h _ (by omega)) | omega | exact Or.inl trivial | exact Or.inr trivial | exact Or.inl rfl | exact Or.inr rfl))
  all_goals (try (first | omega | exact ct_o hk | exact ct_a1 hk | exact ct_a2 hk | exact ct_a3 hk | exact ct_a4 hk | exact ct_a5 hk | exact ct_a6 hk | exact ct_a7 hk | exact ct_a8 hk | (rw [ct_l1 hk]; omega) | (rw [ct_l2 hk]; omega) | (rw [ct_l3 hk]; omega) | (rw [ct_l4 hk]; omega) | (rw [ct_l5 hk]; omega) | (rw [ct_l6 hk]; omega) | (rw [ct_l7 hk]; omega) | (rw [ct_l8 hk]; omega)))
theorem s_X3_hasEnds {M : aM} {W : aW} {Q : Int → aM → aW → Prop} {G : Lnd} {c : Int} (hk : cty c) (hG : clG c G M) (hw : WF G) (h : ∀ r, (r = 1 ∧ 0 ≤ (G 0 6) ∧ 0 ≤ (G 0 7)) ∨ (r = 0 ∧ ¬ (0 ≤ (G 0 6) ∧ 0 ≤ (G 0 7))) → Q r M W) : CallI 32 [vR c] (M, W) Q := by
  have hN := hw.N; unfold wfN at hN
  refine e_X3_hasEnds _ _ _ _ ?_
  simp only [hG.1]
  repeat' (first | apply And.intro | intro _)
  all_goals (try (first | (exact h _ (by omega)) | omega | exact Or.inl trivial | exact Or.inr trivial | exact Or.inl rfl | exact Or.inr rfl))
  all_goals (try (first | omega | exact ct_o hk | exact ct_a1 hk | exact ct_a2 hk | exact ct_a3 hk | exact ct_a4 hk | exact ct_a5 hk | exact ct_a6 hk | exact ct_a7 hk | exact ct_a8 hk | (rw [ct_l1 hk]; omega) | (rw [ct_l2 hk]; omega) | (rw [ct_l3 hk]; omega) | (rw [ct_l4 hk]; omega) | (rw [ct_l5 hk]; omega) | (rw [ct_l6 hk]; omega) | (rw [ct_l7 hk]; omega) | (rw [ct_l8 hk]; omega)))
theorem s_X3_worlds {M : aM} {W : aW} {Q : Int → aM → aW → Prop} {G : Lnd} {c : Int} (hk : cty c) (hG : clG c G M) (hw : WF G) (h : Q (p2_ ((G 0 3))) M W) : CallI 33 [vR c] (M, W) Q := by
  have hN := hw.N; unfold wfN at hN
  refine e_X3_worlds _ _ _ _ ?_
  simp only [hG.1]
  refine ⟨ct_o hk, ?_⟩
  rw [shl_e (by omega) (by omega)]; exact h
theorem s_X3_knowns {M : aM} {W : aW} {Q : Int → aM → aW → Prop} {G : Lnd} {c : Int} (hk : cty c) (hG : clG c G M) (hw : WF G) (h : Q (thr_ ((G 0 3))) M W) : CallI 34 [vR c] (M, W) Q := by
  have hN := hw.N; unfold wfN at hN
  refine e_X3_knowns _ _ _ _ ?_
  simp only [hG.1]
  exact ⟨ct_o hk, by omega, h⟩
theorem s_X3_hasWorld {M : aM} {W : aW} {Q : Int → aM → aW → Prop} {G : Lnd} {c p : Int} (hk : cty c) (hG : clG c G M) (hw : WF G) (p0 : inI p) (h : ∀ r, (r = 1 ∧ 0 ≤ p ∧ p < p2_ ((G 0 3))) ∨ (r = 0 ∧ ¬ (0 ≤ p ∧ p < p2_ ((G 0 3)))) → Q r M W) : CallI 30 [vR c, vI p] (M, W) Q := by
  have hN := hw.N; unfold wfN at hN
  have h64 := p2_le hN.2.2.2.1.1 hN.2.2.2.1.2
  refine e_X3_hasWorld _ _ _ _ _ ?_
  refine ⟨p0, fun hlt => ⟨Or.inl rfl, h 0 (by omega)⟩, fun hge => ⟨ct_o hk, s_X3_worlds hk hG hw ?_⟩⟩
  repeat' (first | apply And.intro | intro _)
  all_goals (try (first | (exact h _ (by omega)) | omega | exact Or.inl trivial | exact Or.inr trivial | exact Or.inl rfl | exact Or.inr rfl))
theorem s_X3_hasKnown {M : aM} {W : aW} {Q : Int → aM → aW → Prop} {G : Lnd} {c p : Int} (hk : cty c) (hG : clG c G M) (hw : WF G) (p0 : inI p) (h : ∀ r, (r = 1 ∧ 0 ≤ p ∧ p < thr_ ((G 0 3))) ∨ (r = 0 ∧ ¬ (0 ≤ p ∧ p < thr_ ((G 0 3)))) → Q r M W) : CallI 31 [vR c, vI p] (M, W) Q := by
  have hN := hw.N; unfold wfN at hN
  have h64 := thr_le hN.2.2.2.1.1 hN.2.2.2.1.2
  refine e_X3_hasKnown _ _ _ _ _ ?_
  refine ⟨p0, fun hlt => ⟨Or.inl rfl, h 0 (by omega)⟩, fun hge => ⟨ct_o hk, s_X3_knowns hk hG hw ?_⟩⟩
  repeat' (first | apply And.intro | intro _)
  all_goals (try (first | (exact h _ (by omega)) | omega | exact Or.inl trivial | exact Or.inr trivial | exact Or.inl rfl | exact Or.inr rfl))
theorem s_X3_roadFact {M : aM} {W : aW} {Q : Int → aM → aW → Prop} {G : Lnd} {c r f : Int} (hk : cty c) (hG : clG c G M) (r0 : 0 ≤ r) (r1 : r < 24) (f0 : 0 ≤ f) (f1 : f < 7) (h : Q ((G 2 (r * 7 + f))) M W) : CallI 35 [vR c, vI r, vI f] (M, W) Q := by
  refine e_X3_roadFact _ _ _ _ _ _ ?_
  rw [hG.2.2.1, ct_l2 hk]
  exact ⟨ct_o hk, ⟨ct_a2 hk, by omega, by omega⟩, h⟩
theorem s_X3_doubtOf {M : aM} {W : aW} {Q : Int → aM → aW → Prop} {G : Lnd} {c d : Int} (hk : cty c) (hG : clG c G M) (hw : WF G) (d0 : 0 ≤ d) (d1 : d < (G 0 3)) (h : Q ((G 2 ((G 3 d) * 7 + 3))) M W) : CallI 36 [vR c, vI d] (M, W) Q := by
  have hN := hw.N; unfold wfN at hN
  have hD := hw.D d d0 d1
  refine e_X3_doubtOf _ _ _ _ _ ?_
  rw [hG.2.2.2.1, ct_l3 hk]
  exact ⟨ct_o hk, ⟨ct_a3 hk, by omega, by omega⟩, ct_o hk, s_X3_roadFact hk hG (by omega) (by omega) (by omega) (by omega) h⟩
theorem s_X3_causeOf {M : aM} {W : aW} {Q : Int → aM → aW → Prop} {G : Lnd} {c d : Int} (hk : cty c) (hG : clG c G M) (hw : WF G) (d0 : 0 ≤ d) (d1 : d < (G 0 3)) (h : Q ((G 2 ((G 3 d) * 7 + 4))) M W) : CallI 37 [vR c, vI d] (M, W) Q := by
  have hN := hw.N; unfold wfN at hN
  have hD := hw.D d d0 d1
  refine e_X3_causeOf _ _ _ _ _ ?_
  rw [hG.2.2.2.1, ct_l3 hk]
  exact ⟨ct_o hk, ⟨ct_a3 hk, by omega, by omega⟩, ct_o hk, s_X3_roadFact hk hG (by omega) (by omega) (by omega) (by omega) h⟩
theorem s_X3_passBetween {M : aM} {W : aW} {Q : Int → aM → aW → Prop} {G : Lnd} {c p q op sh : Int} (hk : cty c) (hG : clG c G M) (hw : WF G) (p0 : 0 ≤ p) (p1 : p < 10) (q0 : 0 ≤ q) (q1 : q < 10) (o0 : 0 ≤ op) (o1 : op < 64) (s0 : 0 ≤ sh) (s1 : sh < 64) (h : Q (pasB G p q op sh) M W) : CallI 38 [vR c, vI p, vI q, vI op, vI sh] (M, W) Q := by
  have hN := hw.N; unfold wfN at hN
  have hb := hw.btw_lt p0 p1 q0 q1
  refine e_X3_passBetween _ _ _ _ _ _ _ _ ?_
  rw [hG.2.2.2.2.1, ct_l4 hk]
  refine ⟨ct_o hk, ⟨ct_a4 hk, by omega, by omega⟩, fun v hv => ?_⟩
  subst hv
  refine ⟨by omega, fun hge => ?_, fun hlt => ?_⟩
  · have hR := hw.R _ hge hb.2
    rw [hG.2.2.1, hG.2.2.1, hG.2.2.1, ct_l2 hk]
    refine ⟨ct_o hk, ⟨ct_a2 hk, by omega, by omega⟩, fun v hv => ?_⟩
    subst hv
    refine ⟨ct_o hk, ⟨ct_a2 hk, by omega, by omega⟩, fun v hv => ?_⟩
    subst hv
    refine ⟨by omega, fun hn => ?_, fun hn => ?_⟩
    · unfold pasB at h; rw [if_neg (by omega), if_pos hn] at h; exact h
    · rw [bit_e o0 o1 (by omega) (by omega), bit_e s0 s1 (by omega) (by omega)]
      have b1 := bt_rng op ((G 2 (((G 4 (p * 10 + q))) * 7 + 6))); have b2 := bt_rng sh ((G 2 (((G 4 (p * 10 + q))) * 7 + 6)))
      refine ⟨by omega, fun hb0 => ?_, fun hb0 => ?_⟩
      · refine ⟨ct_o hk, ⟨ct_a2 hk, by omega, by omega⟩, fun v hv => ?_⟩
        subst hv
        refine ⟨by omega, fun hs => ?_, fun hs => ⟨by omega, fun hv => ?_, fun hv => ?_⟩⟩
        · unfold pasB at h; rw [if_neg (by omega), if_neg hn, if_neg (by omega), if_neg (by omega)] at h; exact h
        · unfold pasB at h; rw [if_neg (by omega), if_neg hn, if_neg (by omega), if_neg (by omega)] at h; exact h
        · unfold pasB at h; rw [if_neg (by omega), if_neg hn, if_neg (by omega), if_pos ⟨by omega, by omega⟩] at h; exact h
      · unfold pasB at h; rw [if_neg (by omega), if_neg hn, if_pos (by omega)] at h; exact h
  · unfold pasB at h; rw [if_pos (by omega)] at h; exact h
