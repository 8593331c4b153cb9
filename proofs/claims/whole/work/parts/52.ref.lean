/-! THE REFERENCE: its land, its small words -/
def D3 (M : aM) : Prop := ∀ i, 0 ≤ i → i < 7 → M 99 i = thr_ i
/-- the order of knowns: those with fewer unknown ones first -/
def trnO (G : Lnd) (M : aM) : Prop := (∀ i, 0 ≤ i → i < thr_ ((G 0 3)) → 0 ≤ M 100 i ∧ M 100 i < thr_ ((G 0 3))) ∧ (∀ i j, 0 ≤ i → i < j → j < thr_ ((G 0 3)) → unk G (M 100 i) < unk G (M 100 j) ∨ (unk G (M 100 i) = unk G (M 100 j) ∧ M 100 i < M 100 j)) ∧ (∀ k, 0 ≤ k → k < thr_ ((G 0 3)) → ∃ i : Int, 0 ≤ i ∧ i < thr_ ((G 0 3)) ∧ M 100 i = k)
def rfN (G : Lnd) (M : aM) : Prop := M 89 0 = (G 0 0) ∧ M 89 1 = (G 0 1) ∧ M 89 2 = (G 0 2) ∧ M 89 3 = (G 0 3) ∧ M 89 5 = (G 0 5) ∧ M 89 6 = (G 0 6) ∧ M 89 7 = (G 0 7)
def rfG (G : Lnd) (M : aM) : Prop := WF G ∧ rfN G M ∧ (∀ c, 0 ≤ c → c < (G 0 1) → M 92 c = G 1 c) ∧ (∀ r f, 0 ≤ r → r < (G 0 2) → 0 ≤ f → f < 7 → M 93 (7 * r + f) = (G 2 (r * 7 + f))) ∧ (∀ d, 0 ≤ d → d < (G 0 3) → M 94 d = G 3 d) ∧ (∀ w, 0 ≤ w → w < (G 0 5) → M 96 (3 * w) = G 6 w ∧ M 96 (3 * w + 1) = G 7 w ∧ M 96 (3 * w + 2) = G 8 w) ∧ (∀ p q, 0 ≤ p → p < 10 → 0 ≤ q → q < 10 → M 98 (10 * p + q) = (G 4 (p * 10 + q))) ∧ (∀ p, 0 ≤ p → p < 10 → M 97 p = (G 5 p)) ∧ (M 86 22 = p2_ ((G 0 3)) ∧ M 86 23 = thr_ ((G 0 3))) ∧ D3 M ∧ trnO G M
theorem rfG.W {G : Lnd} {M : aM} (h : rfG G M) : WF G := h.1
theorem rfG.N {G : Lnd} {M : aM} (h : rfG G M) : rfN G M := h.2.1
theorem rfG.c92 {G : Lnd} {M : aM} (h : rfG G M) {c : Int} (c0 : 0 ≤ c) (c1 : c < (G 0 1)) : M 92 c = G 1 c := h.2.2.1 c c0 c1
theorem rfG.r93 {G : Lnd} {M : aM} (h : rfG G M) {r f : Int} (r0 : 0 ≤ r) (r1 : r < (G 0 2)) (f0 : 0 ≤ f) (f1 : f < 7) : M 93 (7 * r + f) = (G 2 (r * 7 + f)) := h.2.2.2.1 r f r0 r1 f0 f1
theorem rfG.r930 {G : Lnd} {M : aM} (h : rfG G M) {r : Int} (r0 : 0 ≤ r) (r1 : r < (G 0 2)) : M 93 (7 * r) = (G 2 (r * 7 + 0)) := by
  have := h.r93 r0 r1 (Int.le_refl 0) (by decide); rw [show 7 * r + 0 = 7 * r by omega] at this; exact this
theorem rfG.d94 {G : Lnd} {M : aM} (h : rfG G M) {d : Int} (d0 : 0 ≤ d) (d1 : d < (G 0 3)) : M 94 d = G 3 d := h.2.2.2.2.1 d d0 d1
theorem rfG.w96 {G : Lnd} {M : aM} (h : rfG G M) {w : Int} (w0 : 0 ≤ w) (w1 : w < (G 0 5)) : M 96 (3 * w) = G 6 w ∧ M 96 (3 * w + 1) = G 7 w ∧ M 96 (3 * w + 2) = G 8 w := h.2.2.2.2.2.1 w w0 w1
theorem rfG.b98 {G : Lnd} {M : aM} (h : rfG G M) {p q : Int} (p0 : 0 ≤ p) (p1 : p < 10) (q0 : 0 ≤ q) (q1 : q < 10) : M 98 (10 * p + q) = (G 4 (p * 10 + q)) := h.2.2.2.2.2.2.1 p q p0 p1 q0 q1
theorem rfG.s97 {G : Lnd} {M : aM} (h : rfG G M) {p : Int} (p0 : 0 ≤ p) (p1 : p < 10) : M 97 p = (G 5 p) := h.2.2.2.2.2.2.2.1 p p0 p1
theorem rfG.o22 {G : Lnd} {M : aM} (h : rfG G M) : M 86 22 = p2_ ((G 0 3)) := h.2.2.2.2.2.2.2.2.1.1
theorem rfG.o23 {G : Lnd} {M : aM} (h : rfG G M) : M 86 23 = thr_ ((G 0 3)) := h.2.2.2.2.2.2.2.2.1.2
theorem rfG.D3 {G : Lnd} {M : aM} (h : rfG G M) : D3 M := h.2.2.2.2.2.2.2.2.2.1
theorem rfG.T {G : Lnd} {M : aM} (h : rfG G M) : trnO G M := h.2.2.2.2.2.2.2.2.2.2
def inG (b j : Int) : Prop := (b = 89 ∧ 0 ≤ j ∧ j < 8) ∨ (b = 92 ∧ 0 ≤ j ∧ j < 2) ∨ (b = 93 ∧ 0 ≤ j ∧ j < 168) ∨ (b = 94 ∧ 0 ≤ j ∧ j < 6) ∨ (b = 96 ∧ 0 ≤ j ∧ j < 18) ∨ (97 ≤ b ∧ b ≤ 100) ∨ (b = 86 ∧ (j = 22 ∨ j = 23))
theorem trnO.of {G : Lnd} {M N : aM} (h : trnO G M) (e : ∀ j, N 100 j = M 100 j) : trnO G N := by
  obtain ⟨a, b, c⟩ := h
  refine ⟨fun i i0 i1 => by rw [e]; exact a i i0 i1, fun i j i0 ij j1 => by rw [e, e]; exact b i j i0 ij j1, fun k k0 k1 => ?_⟩
  obtain ⟨i, i0, i1, hi⟩ := c k k0 k1
  exact ⟨i, i0, i1, by rw [e]; exact hi⟩
theorem rfG.of {G : Lnd} {M N : aM} (h : rfG G M) (hN : ∀ b j, inG b j → N b j = M b j) : rfG G N := by
  have hw := h.W
  have hn := hw.N; unfold wfN at hn
  obtain ⟨a0, a1, a2, a3, a5, a6, a7⟩ := h.N
  refine ⟨hw, ⟨?_, ?_, ?_, ?_, ?_, ?_, ?_⟩, fun c c0 c1 => ?_, fun r f r0 r1 f0 f1 => ?_, fun d d0 d1 => ?_, fun w w0 w1 => ?_, fun p q p0 p1 q0 q1 => ?_, fun p p0 p1 => ?_, ⟨?_, ?_⟩, fun i i0 i1 => ?_, h.T.of (fun j => hN 100 j (by unfold inG; omega))⟩
  · rw [hN 89 0 (by unfold inG; omega)]; exact a0
  · rw [hN 89 1 (by unfold inG; omega)]; exact a1
  · rw [hN 89 2 (by unfold inG; omega)]; exact a2
  · rw [hN 89 3 (by unfold inG; omega)]; exact a3
  · rw [hN 89 5 (by unfold inG; omega)]; exact a5
  · rw [hN 89 6 (by unfold inG; omega)]; exact a6
  · rw [hN 89 7 (by unfold inG; omega)]; exact a7
  · rw [hN 92 c (by unfold inG; omega)]; exact h.c92 c0 c1
  · rw [hN 93 _ (by unfold inG; omega)]; exact h.r93 r0 r1 f0 f1
  · rw [hN 94 _ (by unfold inG; omega)]; exact h.d94 d0 d1
  · rw [hN 96 _ (by unfold inG; omega), hN 96 _ (by unfold inG; omega), hN 96 _ (by unfold inG; omega)]; exact h.w96 w0 w1
  · rw [hN 98 _ (by unfold inG; omega)]; exact h.b98 p0 p1 q0 q1
  · rw [hN 97 _ (by unfold inG; omega)]; exact h.s97 p0 p1
  · rw [hN 86 22 (by unfold inG; omega)]; exact h.o22
  · rw [hN 86 23 (by unfold inG; omega)]; exact h.o23
  · rw [hN 99 _ (by unfold inG; omega)]; exact h.D3 i i0 i1
theorem rfG.ag {G : Lnd} {lo hi : Int} {M N : aM} (h : rfG G M) (ha : ag lo hi M N) (hl : 100 < lo) : rfG G N := h.of (fun b j hb => ha b j (by unfold inG at hb; omega))
theorem rfG.n {G : Lnd} {M : aM} (h : rfG G M) : ((0 ≤ (G 0 0) ∧ (G 0 0) ≤ 10) ∧ (0 ≤ (G 0 1) ∧ (G 0 1) ≤ 2) ∧ (0 ≤ (G 0 2) ∧ (G 0 2) ≤ 24) ∧ (0 ≤ (G 0 3) ∧ (G 0 3) ≤ 6) ∧ (0 ≤ (G 0 5) ∧ (G 0 5) ≤ 6) ∧ (-1 ≤ (G 0 6) ∧ (G 0 6) < (G 0 0)) ∧ (-1 ≤ (G 0 7) ∧ (G 0 7) < (G 0 0))) := h.W.N
theorem rfG.t {G : Lnd} {M : aM} (h : rfG G M) : (1 ≤ thr_ ((G 0 3)) ∧ thr_ ((G 0 3)) ≤ 729) ∧ (1 ≤ p2_ ((G 0 3)) ∧ p2_ ((G 0 3)) ≤ 64) := ⟨thrG h.W, p2_lt64 h.W⟩
theorem cnt_succ (P : Int → Bool) {x : Int} (h : 0 ≤ x) : cnt_ P (x + 1).toNat = cnt_ P x.toNat + (if P x = true then 1 else 0) := by
  rw [show (x + 1).toNat = x.toNat + 1 by omega]
  show cnt_ P x.toNat + (if P (x.toNat : Int) = true then 1 else 0) = _
  rw [show (x.toNat : Int) = x by omega]
theorem cnt_none {P : Int → Bool} : ∀ n : Nat, (∀ i : Int, 0 ≤ i → i < n → P i = false) → cnt_ P n = 0
  | 0, _ => rfl
  | n + 1, h => by
    show cnt_ P n + (if P (n : Int) = true then 1 else 0) = 0
    rw [cnt_none n (fun i a b => h i a (by omega)), h n (by omega) (by omega)]; rfl
theorem unk_0 {G : Lnd} {k : Int} : unk G k = 0 ↔ ful ((G 0 3)) k := by
  unfold unk ful
  constructor
  · intro h i i0 i1 hd
    have := cnt_pos (P := fun i => decide (dg k i = 0)) ((G 0 3)).toNat i i0 (by omega) (decide_eq_true hd)
    omega
  · intro h
    exact cnt_none _ (fun i a b => decide_eq_false (h i a (by omega)))
theorem not_ful {nd k : Int} (h : ¬ ful nd k) : ∃ i : Int, 0 ≤ i ∧ i < nd ∧ dg k i = 0 := by
  refine Classical.byContradiction (fun hno => h (fun i i0 i1 hd => hno ⟨i, i0, i1, hd⟩))
theorem s_X12_digit {M : aM} {W : aW} {Q : Int → aM → aW → Prop} {k d : Int} (h3 : D3 M) (k0 : 0 ≤ k) (k1 : k < 2147483648) (d0 : 0 ≤ d) (d1 : d ≤ 6) (h : Q (dg k d) M W) : CallI 183 [vR 86, vI k, vI d] (M, W) Q := by
  have ht := thr_le d0 d1
  have e1 : Int.tdiv k (thr_ d) = k / thr_ d := Int.tdiv_eq_ediv_of_nonneg k0
  have q0 : 0 ≤ k / thr_ d := Int.ediv_nonneg k0 (by omega)
  have q1 : k / thr_ d ≤ k := Int.ediv_le_self _ k0
  have e2 : Int.tmod (k / thr_ d) 3 = k / thr_ d % 3 := Int.tmod_eq_emod_of_nonneg q0
  refine e_X12_digit _ _ _ _ _ ?_
  rw [h3 d d0 (by omega), e1, e2]
  exact ⟨by omega, ⟨by omega, by omega, by omega⟩, ⟨by omega, by omega, by decide⟩, h⟩
theorem s_X12_doubts {M : aM} {W : aW} {Q : Int → aM → aW → Prop} {G : Lnd} (hG : rfG G M) (h : Q ((G 0 3)) M W) : CallI 181 [vR 86] (M, W) Q := by
  refine e_X12_doubts _ _ _ ?_
  rw [hG.N.2.2.2.1]; exact h
theorem s_X12_places {M : aM} {W : aW} {Q : Int → aM → aW → Prop} {G : Lnd} (hG : rfG G M) (h : Q ((G 0 0)) M W) : CallI 180 [vR 86] (M, W) Q := by
  refine e_X12_places _ _ _ ?_
  rw [hG.N.1]; exact h
theorem s_X12_openIn {M : aM} {W : aW} {Q : Int → aM → aW → Prop} {G : Lnd} {k : Int} (hG : rfG G M) (k0 : 0 ≤ k) (k1 : k < 2147483648) (h : Q (unk G k) M W) : CallI 184 [vR 86, vI k] (M, W) Q := by
  have hn := hG.n
  have key : ∀ (n : Nat) (x2 x3 : Int), 0 ≤ x3 → x3 ≤ (G 0 3) → ((G 0 3) - x3).toNat = n → x2 = (cnt_ (fun i => decide (dg k i = 0)) x3.toNat : Int) → Xs 184 (4, [some (some (vR 86)), some (some (vI k)), some (some (vI x2)), some (some (vI x3))], [], (M, W)) (QI Q) := by
    intro n; induction n using Nat.strongRecOn with
    | _ n ih =>
      intro x2 x3 h0 h1 hn2 hx
      have hs := cnt_succ (fun i => decide (dg k i = 0)) h0
      refine k_X12_openIn_4 _ _ _ _ _ _ ?_
      refine s_X12_doubts hG ⟨by omega, fun hge => ?_, fun hlt => s_X12_digit hG.D3 k0 k1 h0 (by omega) ?_⟩
      · have e : x3 = (G 0 3) := by omega
        subst e; rw [hx]; exact h
      · have hd := dg_rng k x3
        refine ⟨by omega, fun hz v hv => ?_, fun hz v hv => ?_⟩
        · rw [if_neg (by rw [decide_eq_true_eq]; exact hz)] at hs
          exact ih ((G 0 3) - (x3 + 1)).toNat (by omega) v (x3 + 1) (by omega) (by omega) rfl (by omega)
        · rw [if_pos (by rw [decide_eq_true_eq]; omega)] at hs
          exact ih ((G 0 3) - (x3 + 1)).toNat (by omega) v (x3 + 1) (by omega) (by omega) rfl (by omega)
  refine e_X12_openIn _ _ _ _ ?_
  exact key _ 0 0 (by decide) (by omega) rfl rfl
theorem s_X12_unknownIn {M : aM} {W : aW} {Q : Int → aM → aW → Prop} {G : Lnd} {k : Int} (hG : rfG G M) (k0 : 0 ≤ k) (k1 : k < 2147483648) (hf : ¬ ful ((G 0 3)) k) (h : ∀ d, 0 ≤ d → d < (G 0 3) → dg k d = 0 → (∀ i, 0 ≤ i → i < d → dg k i ≠ 0) → Q d M W) : CallI 188 [vR 86, vI k] (M, W) Q := by
  have hn := hG.n
  obtain ⟨z, z0, z1, hz⟩ := not_ful hf
  have key : ∀ (n : Nat) (x2 : Int), 0 ≤ x2 → x2 ≤ z → (z - x2).toNat = n → (∀ i, 0 ≤ i → i < x2 → dg k i ≠ 0) → Xs 188 (2, [some (some (vR 86)), some (some (vI k)), some (some (vI x2))], [], (M, W)) (QI Q) := by
    intro n; induction n using Nat.strongRecOn with
    | _ n ih =>
      intro x2 h0 h1 hn2 hx
      refine k_X12_unknownIn_2 _ _ _ _ _ ?_
      have hd := dg_rng k x2
      refine s_X12_digit hG.D3 k0 k1 h0 (by omega) ⟨by omega, fun q => h x2 h0 (by omega) q hx, fun q => ?_⟩
      have hne : x2 ≠ z := fun e => q (by rw [e]; exact hz)
      refine ih (z - (x2 + 1)).toNat (by omega) (x2 + 1) (by omega) (by omega) rfl (fun i i0 i1 => ?_)
      by_cases e : i = x2
      · rw [e]; exact q
      · exact hx i i0 (by omega)
  refine e_X12_unknownIn _ _ _ _ ?_
  exact key _ 0 (by decide) z0 rfl (fun i a b => by omega)
def shN (k n : Int) : Int := bs (fun i => if i < n ∧ dg k i = 2 then 1 else 0)
theorem shN_rng (k n : Int) : 0 ≤ shN k n ∧ shN k n < 64 := bs_rng (fun i _ _ => by split <;> simp)
theorem bt_shN {k n i : Int} (i0 : 0 ≤ i) (i6 : i < 6) : bt (shN k n) i = if i < n ∧ dg k i = 2 then 1 else 0 := bt_bs (fun i _ _ => by split <;> simp) i0 i6
theorem p2_64 {i : Int} (i0 : 0 ≤ i) (i6 : i < 6) : 0 ≤ p2_ i ∧ p2_ i < 64 := by
  rcases six_ i0 i6 with rfl | rfl | rfl | rfl | rfl | rfl <;> decide
theorem shN_s {k n : Int} (n0 : 0 ≤ n) (n6 : n < 6) (h : dg k n = 2) : or_ (shN k n) (p2_ n) = shN k (n + 1) := by
  have r1 := shN_rng k n; have r2 := p2_64 n0 n6; have r3 := shN_rng k (n + 1); have r4 := sOr_rng (shN k n) (p2_ n)
  rw [or_e r1.1 r1.2 r2.1 r2.2]
  refine bt_ext r4.1 r4.2 r3.1 r3.2 (fun i i0 i6 => ?_)
  rw [bt_sOr i0 i6, bt_shN i0 i6, bt_shN i0 i6, bt_p2 n0 n6 i0 i6]
  by_cases e : i = n
  · subst e; rw [if_pos rfl, if_pos (Or.inr rfl), if_pos ⟨by omega, h⟩]
  · rw [if_neg e]
    by_cases hq : i < n ∧ dg k i = 2
    · rw [if_pos hq, if_pos (Or.inl rfl), if_pos ⟨by omega, hq.2⟩]
    · rw [if_neg hq, if_neg (by omega), if_neg (fun q => hq ⟨by omega, q.2⟩)]
theorem shN_n {k n : Int} (h : dg k n ≠ 2) : shN k n = shN k (n + 1) := by
  unfold shN
  refine bs_ext (fun i i0 i6 => ?_)
  by_cases e : i = n
  · subst e; rw [if_neg (by omega), if_neg (fun q => h q.2)]
  · by_cases hq : i < n ∧ dg k i = 2
    · rw [if_pos hq, if_pos ⟨by omega, hq.2⟩]
    · rw [if_neg hq, if_neg (fun q => hq ⟨by omega, q.2⟩)]
theorem s_X12_worldOf {M : aM} {W : aW} {Q : Int → aM → aW → Prop} {G : Lnd} {k : Int} (hG : rfG G M) (k0 : 0 ≤ k) (k1 : k < thr_ ((G 0 3))) (h : Q (sht k) M W) : CallI 189 [vR 86, vI k] (M, W) Q := by
  have hn := hG.n
  have ht := hG.t
  have key : ∀ (n : Nat) (x2 x3 : Int), 0 ≤ x3 → x3 ≤ (G 0 3) → ((G 0 3) - x3).toNat = n → x2 = shN k x3 → Xs 189 (4, [some (some (vR 86)), some (some (vI k)), some (some (vI x2)), some (some (vI x3))], [], (M, W)) (QI Q) := by
    intro n; induction n using Nat.strongRecOn with
    | _ n ih =>
      intro x2 x3 h0 h1 hn2 hx
      refine k_X12_worldOf_4 _ _ _ _ _ _ ?_
      refine s_X12_doubts hG ⟨by omega, fun hge => ?_, fun hlt => s_X12_digit hG.D3 k0 (by omega) h0 (by omega) ?_⟩
      · have e : x2 = sht k := by
          rw [hx]
          refine bs_ext (fun i i0 i6 => ?_)
          by_cases q : dg k i = 2
          · have : i < x3 := by
              refine Classical.byContradiction (fun hno => ?_)
              have := dg_hi k0 (show 0 ≤ (G 0 3) by omega) k1 (i := i) (by omega) i6
              omega
            rw [if_pos ⟨this, q⟩, if_pos q]
          · rw [if_neg (fun a => q a.2), if_neg q]
        rw [e]; exact h
      · have hd := dg_rng k x3
        have hr := shN_rng k x3
        refine ⟨by omega, fun hz v hv => ?_, fun hz v hv => ?_⟩
        · refine ih ((G 0 3) - (x3 + 1)).toNat (by omega) v (x3 + 1) (by omega) (by omega) rfl ?_
          rw [hv, hx, or_e hr.1 hr.2 (by decide) (by decide), sOr_0 hr.1 hr.2]
          exact shN_n hz
        · refine ih ((G 0 3) - (x3 + 1)).toNat (by omega) v (x3 + 1) (by omega) (by omega) rfl ?_
          rw [hv, hx, shl_e h0 (by omega)]
          exact shN_s h0 (by omega) (by omega)
  refine e_X12_worldOf _ _ _ _ ?_
  refine key _ 0 0 (by decide) (by omega) rfl ?_
  unfold shN
  rw [bs_ext (g := fun _ => 0) (fun i i0 _ => if_neg (fun q => by omega))]; rfl
theorem s_X12_isWorld {M : aM} {W : aW} {Q : Int → aM → aW → Prop} {G : Lnd} {x : Int} (hG : rfG G M) (hx : inI x) (h : ∀ r, (r = 1 ∧ 0 ≤ x ∧ x < p2_ ((G 0 3))) ∨ (r = 0 ∧ ¬ (0 ≤ x ∧ x < p2_ ((G 0 3)))) → Q r M W) : CallI 191 [vR 86, vI x] (M, W) Q := by
  have ht := hG.t
  refine e_X12_isWorld _ _ _ _ ?_
  rw [hG.o22]
  exact ⟨hx, fun q => ⟨Or.inl rfl, h 0 (by omega)⟩, fun q => ⟨by omega, fun q2 => ⟨Or.inl rfl, h 0 (by omega)⟩, fun q2 => ⟨Or.inr rfl, h 1 (by omega)⟩⟩⟩
theorem s_X12_isKnowing {M : aM} {W : aW} {Q : Int → aM → aW → Prop} {G : Lnd} {x : Int} (hG : rfG G M) (hx : inI x) (h : ∀ r, (r = 1 ∧ 0 ≤ x ∧ x < thr_ ((G 0 3))) ∨ (r = 0 ∧ ¬ (0 ≤ x ∧ x < thr_ ((G 0 3)))) → Q r M W) : CallI 192 [vR 86, vI x] (M, W) Q := by
  have ht := hG.t
  refine e_X12_isKnowing _ _ _ _ ?_
  rw [hG.o23]
  exact ⟨hx, fun q => ⟨Or.inl rfl, h 0 (by omega)⟩, fun q => ⟨by omega, fun q2 => ⟨Or.inl rfl, h 0 (by omega)⟩, fun q2 => ⟨Or.inr rfl, h 1 (by omega)⟩⟩⟩
theorem s_X12_isDoubtful {M : aM} {W : aW} {Q : Int → aM → aW → Prop} {G : Lnd} {x : Int} (hG : rfG G M) (hx : inI x) (h : ∀ r, (r = 1 ∧ 0 ≤ x ∧ x < (G 0 3)) ∨ (r = 0 ∧ ¬ (0 ≤ x ∧ x < (G 0 3))) → Q r M W) : CallI 193 [vR 86, vI x] (M, W) Q := by
  have ht := hG.n
  refine e_X12_isDoubtful _ _ _ _ ?_
  exact ⟨hx, fun q => ⟨Or.inl rfl, h 0 (by omega)⟩, fun q => s_X12_doubts hG ⟨by omega, fun q2 => ⟨Or.inl rfl, h 0 (by omega)⟩, fun q2 => ⟨Or.inr rfl, h 1 (by omega)⟩⟩⟩
theorem s_X12_isPlace {M : aM} {W : aW} {Q : Int → aM → aW → Prop} {G : Lnd} {x : Int} (hG : rfG G M) (hx : inI x) (h : ∀ r, (r = 1 ∧ 0 ≤ x ∧ x < (G 0 0)) ∨ (r = 0 ∧ ¬ (0 ≤ x ∧ x < (G 0 0))) → Q r M W) : CallI 194 [vR 86, vI x] (M, W) Q := by
  have ht := hG.n
  refine e_X12_isPlace _ _ _ _ ?_
  exact ⟨hx, fun q => ⟨Or.inl rfl, h 0 (by omega)⟩, fun q => s_X12_places hG ⟨by omega, fun q2 => ⟨Or.inl rfl, h 0 (by omega)⟩, fun q2 => ⟨Or.inr rfl, h 1 (by omega)⟩⟩⟩
theorem s_X12_hasEnds {M : aM} {W : aW} {Q : Int → aM → aW → Prop} {G : Lnd} (hG : rfG G M) (h : ∀ r, (r = 1 ∧ 0 ≤ (G 0 6) ∧ 0 ≤ (G 0 7)) ∨ (r = 0 ∧ ¬ (0 ≤ (G 0 6) ∧ 0 ≤ (G 0 7))) → Q r M W) : CallI 200 [vR 86] (M, W) Q := by
  have ht := hG.n
  refine e_X12_hasEnds _ _ _ ?_
  rw [hG.N.2.2.2.2.2.1, hG.N.2.2.2.2.2.2]
  exact ⟨by omega, fun q => ⟨Or.inl rfl, h 0 (by omega)⟩, fun q => ⟨by omega, fun q2 => ⟨Or.inl rfl, h 0 (by omega)⟩, fun q2 => ⟨Or.inr rfl, h 1 (by omega)⟩⟩⟩
theorem s_X12_isIn {M : aM} {W : aW} {Q : Int → aM → aW → Prop} {x a b : Int} (hx : inI x) (ha : inI a) (hb : inI b) (h : ∀ r, (r = 1 ∧ a ≤ x ∧ x ≤ b) ∨ (r = 0 ∧ ¬ (a ≤ x ∧ x ≤ b)) → Q r M W) : CallI 155 [vI x, vI a, vI b] (M, W) Q := by
  refine e_X12_isIn _ _ _ _ _ _ ?_
  exact ⟨⟨hx, ha⟩, fun q => ⟨Or.inl rfl, h 0 (by omega)⟩, fun q => ⟨⟨hx, hb⟩, fun q2 => ⟨Or.inl rfl, h 0 (by omega)⟩, fun q2 => ⟨Or.inr rfl, h 1 (by omega)⟩⟩⟩
theorem s_X12_isPlan {M : aM} {W : aW} {Q : Int → aM → aW → Prop} {x : Int} (hx : inI x) (h : ∀ r, (r = 1 ∧ 0 ≤ x ∧ x ≤ 6) ∨ (r = 0 ∧ ¬ (0 ≤ x ∧ x ≤ 6)) → Q r M W) : CallI 232 [vI x] (M, W) Q := by
  refine e_X12_isPlan _ _ _ _ ?_
  exact ⟨hx, fun q => ⟨Or.inl rfl, h 0 (by omega)⟩, fun q => ⟨by omega, fun q2 => ⟨Or.inl rfl, h 0 (by omega)⟩, fun q2 => ⟨Or.inr rfl, h 1 (by omega)⟩⟩⟩
theorem s_X12_isSeen {M : aM} {W : aW} {Q : Int → aM → aW → Prop} {G : Lnd} {p k : Int} (hG : rfG G M) (p0 : 0 ≤ p) (p1 : p < (G 0 0)) (k0 : 0 ≤ k) (k1 : k < 2147483648) (y1 : seenOK G p k → Q 1 M W) (y0 : ¬ seenOK G p k → Q 0 M W) : CallI 207 [vR 86, vI p, vI k] (M, W) Q := by
  have hn := hG.n
  have ht := hG.t
  have hS := hG.W.S.1 p p0 (by omega)
  have key : ∀ (n : Nat) (x3 : Int), 0 ≤ x3 → x3 ≤ (G 0 3) → ((G 0 3) - x3).toNat = n → (∀ i, 0 ≤ i → i < x3 → bt ((G 5 p)) i = 1 → dg k i ≠ 0) → Xs 207 (2, [some (some (vR 86)), some (some (vI p)), some (some (vI k)), some (some (vI x3))], [], (M, W)) (QI Q) := by
    intro n; induction n using Nat.strongRecOn with
    | _ n ih =>
      intro x3 h0 h1 hn2 hx
      have nxt : ∀ (_ : x3 < (G 0 3)), (bt ((G 5 p)) x3 = 1 → dg k x3 ≠ 0) → Xs 207 (2, [some (some (vR 86)), some (some (vI p)), some (some (vI k)), some (some (vI (x3 + 1)))], [], (M, W)) (QI Q) := by
        intro hl hq
        refine ih ((G 0 3) - (x3 + 1)).toNat (by omega) (x3 + 1) (by omega) (by omega) rfl (fun i i0 i1 => ?_)
        by_cases e : i = x3
        · rw [e]; exact hq
        · exact hx i i0 (by omega)
      refine k_X12_isSeen_2 _ _ _ _ _ _ ?_
      refine s_X12_doubts hG ⟨by omega, fun hge => y1 (fun i i0 i6 hb => ?_), fun hlt => ?_⟩
      · refine hx i i0 ?_ hb
        refine Classical.byContradiction (fun hno => ?_)
        have := bt_hi hS.1 (show 0 ≤ (G 0 3) by omega) hS.2 (i := i) (by omega) i6
        omega
      · rw [hG.s97 p0 (by omega), bit_e hS.1 (by omega) h0 (by omega)]
        have hb := bt_rng ((G 5 p)) x3
        refine ⟨by omega, by omega, fun hz => nxt (by omega) (fun q => absurd q hz), fun hz => s_X12_digit hG.D3 k0 k1 h0 (by omega) ?_⟩
        have hd := dg_rng k x3
        exact ⟨by omega, fun q => nxt (by omega) (fun _ => q), fun q => y0 (fun hs => hs x3 h0 (by omega) (by omega) (by omega))⟩
  refine e_X12_isSeen _ _ _ _ _ ?_
  exact key _ 0 (by decide) (by omega) rfl (fun i a b => by omega)
/-- the hours of a road by sets of what is open and shut; -1: none -/
def hrB (G : Lnd) (r op sh : Int) : Int := if (G 2 (r * 7 + 6)) < 0 then (G 2 (r * 7 + 2)) else if bt op ((G 2 (r * 7 + 6))) = 1 then (G 2 (r * 7 + 2)) else if bt sh ((G 2 (r * 7 + 6))) = 1 ∧ 0 < (G 2 (r * 7 + 5)) then (G 2 (r * 7 + 2)) + (G 2 (r * 7 + 5)) else -1
theorem hrB_rng {G : Lnd} (hw : WF G) {r op sh : Int} (r0 : 0 ≤ r) (r1 : r < (G 0 2)) : hrB G r op sh = -1 ∨ (1 ≤ hrB G r op sh ∧ hrB G r op sh ≤ 198) := by
  have hR := hw.R r r0 r1
  unfold hrB
  split
  · omega
  · split
    · omega
    · split <;> omega
/-- a way by its road -/
theorem pasB_hr {G : Lnd} (hw : WF G) {p q op sh : Int} (p0 : 0 ≤ p) (p1 : p < 10) (q0 : 0 ≤ q) (q1 : q < 10) : ((G 4 (p * 10 + q)) < 0 → pasB G p q op sh = 0) ∧ (0 ≤ (G 4 (p * 10 + q)) → (G 4 (p * 10 + q)) < (G 0 2) ∧ ((hrB G ((G 4 (p * 10 + q))) op sh = -1 ∧ pasB G p q op sh = 0) ∨ (1 ≤ hrB G ((G 4 (p * 10 + q))) op sh ∧ pasB G p q op sh = hrB G ((G 4 (p * 10 + q))) op sh))) := by
  have hb := hw.btw_lt p0 p1 q0 q1
  unfold pasB
  refine ⟨fun h => if_pos h, fun h => ⟨hb.2, ?_⟩⟩
  rw [if_neg (by omega)]
  have hR := hw.R ((G 4 (p * 10 + q))) h hb.2
  unfold hrB
  by_cases h1 : (G 2 (((G 4 (p * 10 + q))) * 7 + 6)) < 0
  · rw [if_pos h1, if_pos h1]; omega
  · rw [if_neg h1, if_neg h1]
    by_cases h2 : bt op ((G 2 (((G 4 (p * 10 + q))) * 7 + 6))) = 1
    · rw [if_pos h2, if_pos h2]; omega
    · rw [if_neg h2, if_neg h2]
      by_cases h3 : bt sh ((G 2 (((G 4 (p * 10 + q))) * 7 + 6))) = 1 ∧ 0 < (G 2 (((G 4 (p * 10 + q))) * 7 + 5))
      · rw [if_pos h3, if_pos h3]; omega
      · rw [if_neg h3, if_neg h3]; omega
theorem s_X12_hoursOf {M : aM} {W : aW} {Q : Int → aM → aW → Prop} {G : Lnd} {r k : Int} (hG : rfG G M) (r0 : 0 ≤ r) (r1 : r < (G 0 2)) (k0 : 0 ≤ k) (k1 : k < 2147483648) (h : Q (hrB G r (opn k) (sht k)) M W) : CallI 201 [vR 86, vI r, vI k] (M, W) Q := by
  have hn := hG.n
  have hR := hG.W.R r r0 r1
  unfold hrB at h
  refine e_X12_hoursOf _ _ _ _ _ ?_
  rw [hG.r93 r0 r1 (by decide) (by decide), hG.r93 r0 r1 (by decide) (by decide)]
  refine ⟨by omega, fun v hv => ⟨by omega, fun q => ⟨by omega, ?_⟩, fun q => ?_⟩⟩
  · rw [if_pos (by omega)] at h; exact h
  · rw [if_neg (by omega)] at h
    have d0 : 0 ≤ (G 2 (r * 7 + 6)) := by omega
    have d6 : (G 2 (r * 7 + 6)) < 6 := by omega
    rw [bt_opn d0 d6, bt_sht d0 d6] at h
    rw [hv]
    have hd := dg_rng k ((G 2 (r * 7 + 6)))
    refine s_X12_digit hG.D3 k0 k1 d0 (by omega) ⟨by omega, fun q1 => ?_, fun q1 => ⟨by omega, ?_⟩⟩
    · have e1 : ¬ (if dg k ((G 2 (r * 7 + 6))) = 1 then (1 : Int) else 0) = 1 := by rw [if_neg q1]; decide
      rw [if_neg e1] at h
      refine s_X12_digit hG.D3 k0 k1 d0 (by omega) ⟨by omega, fun q2 => ?_, fun q2 => ?_⟩
      · rw [if_neg (by rw [if_neg q2]; omega)] at h; exact h
      · rw [hG.r93 r0 r1 (by decide) (by decide), hG.r93 r0 r1 (by decide) (by decide)]
        refine ⟨by omega, by omega, fun q3 => ?_, fun q3 => ⟨by omega, by omega, ?_⟩⟩
        · rw [if_neg (by omega)] at h; exact h
        · rw [if_pos ⟨if_pos (by omega), by omega⟩] at h; exact h
    · rw [hG.r93 r0 r1 (by decide) (by decide)]
      rw [if_pos (if_pos (by omega))] at h; exact h
/-- a world as what is not known counts, by x: 6 open, a road open, all shut -/
def asX (G : Lnd) (k x w : Int) : Prop := (0 ≤ w ∧ w < p2_ ((G 0 3))) ∧ ∀ i, 0 ≤ i → i < (G 0 3) → (dg k i = 1 → bt w i = 0) ∧ (dg k i = 2 → bt w i = 1) ∧ (dg k i = 0 → (x = 6 ∨ x = i → bt w i = 0) ∧ (x ≠ 6 → x ≠ i → bt w i = 1))
theorem bt_allw {G : Lnd} (hw : WF G) {w i : Int} (i0 : 0 ≤ i) (i1 : i < (G 0 3)) : bt (sDif (allD G) w) i = 1 - bt w i := by
  have hN := hw.N; unfold wfN at hN
  have hb := bt_rng w i
  rw [bt_sDif i0 (by omega)]
  unfold allD
  rw [bt_all (by omega) (by omega) i0 (by omega), if_pos i1]
  by_cases q : bt w i = 0
  · rw [if_pos ⟨rfl, q⟩]; omega
  · rw [if_neg (fun a => q a.2)]; omega
theorem s_X12_hoursAs {M : aM} {W : aW} {Q : Int → aM → aW → Prop} {G : Lnd} {r k x w : Int} (hG : rfG G M) (r0 : 0 ≤ r) (r1 : r < (G 0 2)) (k0 : 0 ≤ k) (k1 : k < 2147483648) (hx : inI x) (hA : asX G k x w) (h : Q (hrB G r (sDif (allD G) w) w) M W) : CallI 202 [vR 86, vI r, vI k, vI x] (M, W) Q := by
  have hn := hG.n
  have hR := hG.W.R r r0 r1
  unfold hrB at h
  refine e_X12_hoursAs _ _ _ _ _ _ ?_
  rw [hG.r93 r0 r1 (by decide) (by decide)]
  refine ⟨by omega, fun v hv => ⟨by omega, fun q => ?_, fun q => ?_⟩⟩
  · refine s_X12_hoursOf hG r0 r1 k0 k1 ?_
    unfold hrB
    rw [if_pos (by omega)] at h ⊢; exact h
  · rw [if_neg (by omega)] at h
    have d0 : 0 ≤ (G 2 (r * 7 + 6)) := by omega
    have d6 : (G 2 (r * 7 + 6)) < 6 := by omega
    have hi := hA.2 ((G 2 (r * 7 + 6))) d0 (by omega)
    have hbr := bt_rng w ((G 2 (r * 7 + 6)))
    rw [bt_allw hG.W d0 (by omega)] at h
    rw [hv]
    have hd := dg_rng k ((G 2 (r * 7 + 6)))
    refine s_X12_digit hG.D3 k0 k1 d0 (by omega) ⟨by omega, fun q1 => ⟨hx, fun q2 => ?_, fun q2 => ⟨by omega, fun q3 => ?_, fun q3 => ?_⟩⟩, fun q1 => ?_⟩
    · rw [hG.r93 r0 r1 (by decide) (by decide)]
      rw [if_pos (by omega)] at h; exact ⟨by omega, h⟩
    · rw [hG.r93 r0 r1 (by decide) (by decide), hG.r93 r0 r1 (by decide) (by decide)]
      rw [if_neg (by omega)] at h
      refine ⟨by omega, by omega, fun q4 => ?_, fun q4 => ⟨by omega, by omega, ?_⟩⟩
      · rw [if_neg (by omega)] at h; exact h
      · rw [if_pos (by omega)] at h; exact h
    · rw [hG.r93 r0 r1 (by decide) (by decide)]
      rw [if_pos (by omega)] at h; exact ⟨by omega, h⟩
    · refine s_X12_hoursOf hG r0 r1 k0 k1 ?_
      unfold hrB
      rw [if_neg (show ¬ (G 2 (r * 7 + 6)) < 0 by omega), bt_opn d0 d6, bt_sht d0 d6]
      rcases dg_cs k ((G 2 (r * 7 + 6))) with e | e | e
      · exact absurd e q1
      · rw [if_pos (if_pos e)]; rw [if_pos (by omega)] at h; exact h
      · rw [if_neg (by rw [if_neg (by omega)]; decide)]; rw [if_neg (by omega)] at h
        rw [if_pos e]
        by_cases h5 : 0 < (G 2 (r * 7 + 5))
        · rw [if_pos ⟨by omega, h5⟩] at h; rw [if_pos ⟨rfl, h5⟩]; exact h
        · rw [if_neg (by omega)] at h; rw [if_neg (by omega)]; exact h
