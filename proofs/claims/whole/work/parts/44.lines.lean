/-! THE CLASS: Reader, lines -/
theorem up_c (M : aM) (G : Lnd) {c r i v r0 j : Int} (h : M (c + r0) j = G r0 j) : up_ M (c + r) i v (c + r0) j = up_ G r i v r0 j := by
  unfold up_
  by_cases g : r0 = r ∧ j = i
  · rw [if_pos g, if_pos ⟨by omega, g.2⟩]
  · rw [if_neg g, if_neg (fun x => g ⟨by omega, x.2⟩)]; exact h
theorem clG.up {c r i v : Int} {G : Lnd} {M : aM} (h : clG c G M) : clG c (up_ G r i v) (up_ M (c + r) i v) := by
  obtain ⟨h0, h1, h2, h3, h4, h5, h6, h7, h8⟩ := h
  refine ⟨fun j => ?_, fun j => up_c M G (h1 j), fun j => up_c M G (h2 j), fun j => up_c M G (h3 j), fun j => up_c M G (h4 j), fun j => up_c M G (h5 j), fun j => up_c M G (h6 j), fun j => up_c M G (h7 j), fun j => up_c M G (h8 j)⟩
  have g := up_c M G (c := c) (r := r) (i := i) (v := v) (r0 := 0) (j := j) (by rw [show c + 0 = c by omega]; exact h0 j)
  rw [show c + 0 = c by omega] at g; exact g
theorem clG.up0 {c i v : Int} {G : Lnd} {M : aM} (h : clG c G M) : clG c (up_ G 0 i v) (up_ M c i v) := by
  have g := h.up (r := 0) (i := i) (v := v)
  rw [show c + 0 = c by omega] at g; exact g
theorem clG.hi {c r i v : Int} {G : Lnd} {M : aM} (h : clG c G M) (hr : 8 < r) : clG c (up_ G r i v) M := by
  obtain ⟨h0, h1, h2, h3, h4, h5, h6, h7, h8⟩ := h
  refine ⟨fun j => ?_, fun j => ?_, fun j => ?_, fun j => ?_, fun j => ?_, fun j => ?_, fun j => ?_, fun j => ?_, fun j => ?_⟩
  all_goals rw [up_b _ _ _ _ (by omega)]
  · exact h0 j
  · exact h1 j
  · exact h2 j
  · exact h3 j
  · exact h4 j
  · exact h5 j
  · exact h6 j
  · exact h7 j
  · exact h8 j
theorem clG.off {c a i v : Int} {G : Lnd} {M : aM} (h : clG c G M) (hk : cty c) (ha : 19 < a) : clG c G (up_ M a i v) := h.ag hk (lo := a) (hi := a) (fun b j hb => up_b _ _ _ _ (by omega)) (by omega)
theorem rdS.gr {tp : Int → Int} {n c a : Int} {G H : Lnd} {M N : aM} (h : rdS tp n c a G M) (hk : cty c) (hf : ∀ b j, (b < c ∨ c + 8 < b) → b ≠ 25 → b ≠ 26 → N b j = M b j) (hG : clG c H N) (hN : rdN H N) (hw : pW H) : rdS tp n c a H N := by
  obtain ⟨h1, h2, ⟨t1, t2, t3⟩, h4, h5, h6, h7, h8⟩ := h
  have hc := ct_rng hk
  have f20 : ∀ j, N 20 j = M 20 j := fun j => hf 20 j (by omega) (by decide) (by decide)
  refine ⟨fun i i0 i1 hp => ?_, ?_, ⟨?_, ?_, ?_⟩, ?_, hG, hN, h7, hw⟩
  · rw [hf 22 i (by omega) (by decide) (by decide), hf 23 i (by omega) (by decide) (by decide), hf 24 i (by omega) (by decide) (by decide)]; exact h1 i i0 i1 hp
  · rw [f20]; exact h2
  · rw [f20]; exact t1
  · rw [f20]; exact t2
  · rw [f20]; exact t3
  · rw [f20, f20]; exact h4
theorem s_X3_addRoad {M : aM} {W : aW} {Q : aM → aW → Prop} {G : Lnd} {c p q h d e w : Int} (hk : cty c) (hG : clG c G M) (hw : WF G) (hR : (G 0 2) < 24) (hD : (0 < d ∨ 0 ≤ e) → (G 0 3) < 6) (p0 : 0 ≤ p) (p1 : p < 10) (q0 : 0 ≤ q) (q1 : q < 10) (hpq : p ≠ q) (di : inI d) (ei : inI e) (k : ∀ N, ag c (c + 8) M N → clG c (addR G p q h d e w) N → Q N W) : CallV 40 [vR c, vI p, vI q, vI h, vI d, vI e, vI w] (M, W) Q := by
  have hc := ct_rng hk
  have hN := hw.N; unfold wfN at hN
  have key : ∀ (H : Lnd) (N : aM) (m : Int) (x : aL), clG c H N → ag c (c + 8) M N → (H 0 2) = (G 0 2) → (∀ K, ag c (c + 8) M K → clG c (addL H p q h d e w m) K → Q K W) → Xs 40 (66, [some (some (vR c)), some (some (vI p)), some (some (vI q)), some (some (vI h)), some (some (vI d)), some (some (vI e)), some (some (vI w)), some (some (vI m)), x], [], (N, W)) (QV Q) := by
    intro H N m x hH ha hr kk
    refine k_X3_addRoad_66 _ _ _ _ _ _ _ _ _ _ _ _ ?_
    have e2 : N c 2 = (G 0 2) := by rw [hH.1 2]; exact hr
    rw [e2]
    refine ⟨ct_o hk, fun v hv => ?_⟩
    rw [hv]
    have E : ∀ (K : aM) (i v : Int), up_ K (c + 2) i v c 2 = K c 2 := fun K i v => up_b _ _ _ _ (by omega)
    have E4 : ∀ (K : aM) (i v : Int), up_ K (c + 4) i v c 2 = K c 2 := fun K i v => up_b _ _ _ _ (by omega)
    simp only [E, E4, e2]
    have l2 := ct_l2 hk
    have l4 := ct_l4 hk
    have o2 := ct_a2 hk
    have o4 := ct_a4 hk
    have o := ct_o hk
    refine ⟨o, ⟨o2, by omega, by omega⟩, o, ⟨o2, by omega, by omega⟩, o, ⟨o2, by omega, by omega⟩, o, ⟨o2, by omega, by omega⟩, o, ⟨o2, by omega, by omega⟩, o, ⟨o2, by omega, by omega⟩, o, ⟨o2, by omega, by omega⟩, o, o, ⟨o4, by omega, by omega⟩, o, o, ⟨o4, by omega, by omega⟩, o, o, kk _ ?_ ?_⟩
    · refine fun b j hb => ?_
      rw [up_b _ _ _ _ (by omega), up_b _ _ _ _ (by omega), up_b _ _ _ _ (by omega), up_b _ _ _ _ (by omega), up_b _ _ _ _ (by omega), up_b _ _ _ _ (by omega), up_b _ _ _ _ (by omega), up_b _ _ _ _ (by omega), up_b _ _ _ _ (by omega), up_b _ _ _ _ (by omega)]
      exact ha b j hb
    · have g := (((((((((hH.up (r := 2) (i := (G 0 2) * 7 + 0) (v := p)).up (r := 2) (i := (G 0 2) * 7 + 1) (v := q)).up (r := 2) (i := (G 0 2) * 7 + 2) (v := h)).up (r := 2) (i := (G 0 2) * 7 + 3) (v := d)).up (r := 2) (i := (G 0 2) * 7 + 4) (v := e)).up (r := 2) (i := (G 0 2) * 7 + 5) (v := w)).up (r := 2) (i := (G 0 2) * 7 + 6) (v := m)).up (r := 4) (i := p * 10 + q) (v := (G 0 2))).up (r := 4) (i := q * 10 + p) (v := (G 0 2))).up0 (i := 2) (v := (G 0 2) + 1)
      unfold addL
      rw [hr]; exact g
  have hdb : ∀ (x : aL), (0 < d ∨ 0 ≤ e) → ∀ v, v = M c 3 → clG c (addD G p q) (up_ (up_ (up_ (up_ M (c + 3) v (M c 2)) (c + 5) p (or_ ((up_ M (c + 3) v (M c 2)) (c + 5) p) (shl_ 1 v))) (c + 5) q (or_ ((up_ (up_ M (c + 3) v (M c 2)) (c + 5) p (or_ ((up_ M (c + 3) v (M c 2)) (c + 5) p) (shl_ 1 v))) (c + 5) q) (shl_ 1 v))) c 3 (((up_ (up_ (up_ M (c + 3) v (M c 2)) (c + 5) p (or_ ((up_ M (c + 3) v (M c 2)) (c + 5) p) (shl_ 1 v))) (c + 5) q (or_ ((up_ (up_ M (c + 3) v (M c 2)) (c + 5) p (or_ ((up_ M (c + 3) v (M c 2)) (c + 5) p) (shl_ 1 v))) (c + 5) q) (shl_ 1 v))) c 3) + 1)) ∧ ag c (c + 8) M (up_ (up_ (up_ (up_ M (c + 3) v (M c 2)) (c + 5) p (or_ ((up_ M (c + 3) v (M c 2)) (c + 5) p) (shl_ 1 v))) (c + 5) q (or_ ((up_ (up_ M (c + 3) v (M c 2)) (c + 5) p (or_ ((up_ M (c + 3) v (M c 2)) (c + 5) p) (shl_ 1 v))) (c + 5) q) (shl_ 1 v))) c 3 (((up_ (up_ (up_ M (c + 3) v (M c 2)) (c + 5) p (or_ ((up_ M (c + 3) v (M c 2)) (c + 5) p) (shl_ 1 v))) (c + 5) q (or_ ((up_ (up_ M (c + 3) v (M c 2)) (c + 5) p (or_ ((up_ M (c + 3) v (M c 2)) (c + 5) p) (shl_ 1 v))) (c + 5) q) (shl_ 1 v))) c 3) + 1)) := by
    intro x hd v hv
    have hd6 := hD hd
    have e3 : v = (G 0 3) := by rw [hv]; exact hG.1 3
    have e2 : M c 2 = (G 0 2) := hG.1 2
    rw [e2, e3]
    have sp := hw.sn64 p0 p1
    have sq := hw.sn64 q0 q1
    have p64 := p2_le hN.2.2.2.1.1 (show (G 0 3) ≤ 6 by omega)
    have pl : p2_ ((G 0 3)) < 64 := by
      have := p2_mo (i := (G 0 3)) (d := 5) hN.2.2.2.1.1 (by omega) (by decide)
      have : p2_ 5 = 32 := rfl
      omega
    rw [show up_ M (c + 3) ((G 0 3)) ((G 0 2)) (c + 5) p = (G 5 p) by rw [up_b _ _ _ _ (by omega)]; exact hG.2.2.2.2.2.1 p, shl_e hN.2.2.2.1.1 (by omega), or_e sp.1 sp.2 (by omega) pl]
    rw [show up_ (up_ M (c + 3) ((G 0 3)) ((G 0 2))) (c + 5) p (sOr ((G 5 p)) (p2_ ((G 0 3)))) (c + 5) q = (G 5 q) by rw [up_j _ _ _ (by omega), up_b _ _ _ _ (by omega)]; exact hG.2.2.2.2.2.1 q, or_e sq.1 sq.2 (by omega) pl]
    rw [show up_ (up_ (up_ M (c + 3) ((G 0 3)) ((G 0 2))) (c + 5) p (sOr ((G 5 p)) (p2_ ((G 0 3))))) (c + 5) q (sOr ((G 5 q)) (p2_ ((G 0 3)))) c 3 = (G 0 3) by rw [up_b _ _ _ _ (by omega), up_b _ _ _ _ (by omega), up_b _ _ _ _ (by omega)]; exact hG.1 3]
    refine ⟨?_, fun b j hb => ?_⟩
    · exact (((hG.up (r := 3) (i := (G 0 3)) (v := (G 0 2))).up (r := 5) (i := p) (v := oBit ((G 5 p)) ((G 0 3)))).up (r := 5) (i := q) (v := oBit ((G 5 q)) ((G 0 3)))).up0 (i := 3) (v := (G 0 3) + 1)
    · rw [up_b _ _ _ _ (by omega), up_b _ _ _ _ (by omega), up_b _ _ _ _ (by omega), up_b _ _ _ _ (by omega)]
  have rD : ((addD G p q) 0 2) = (G 0 2) := addD_R G p q
  have l3 := ct_l3 hk
  have l5 := ct_l5 hk
  have o3 := ct_a3 hk
  have o5 := ct_a5 hk
  have o := ct_o hk
  have hM3 : M c 3 = (G 0 3) := hG.1 3
  refine e_X3_addRoad _ _ _ _ _ _ _ _ _ _ ?_
  refine ⟨di, fun g => ⟨o, fun v hv => ?_⟩, fun g => ⟨ei, fun g2 => ?_, fun g2 => ⟨o, fun v hv => ?_⟩⟩⟩
  · have hd : 0 < d ∨ 0 ≤ e := Or.inl g
    have := hD hd
    have hh := hdb none hd v hv
    have e0 : v = (G 0 3) := hv.trans hM3
    refine ⟨o, o, ⟨o3, by omega, by omega⟩, o, ⟨o5, by omega, by omega⟩, ⟨o5, by omega, by omega⟩, o, ⟨o5, by omega, by omega⟩, ⟨o5, by omega, by omega⟩, o, o, ?_⟩
    refine key (addD G p q) _ v none hh.1 hh.2 rD (fun K a1 a2 => k K a1 ?_)
    unfold addR; rw [if_pos hd, ← e0]; exact a2
  · have hd : ¬ (0 < d ∨ 0 ≤ e) := by omega
    refine key G M (-1) none hG (ag_refl _ _ _) rfl (fun K a1 a2 => k K a1 ?_)
    unfold addR; rw [if_neg hd]; exact a2
  · have hd : 0 < d ∨ 0 ≤ e := Or.inr (by omega)
    have := hD hd
    have hh := hdb none hd v hv
    have e0 : v = (G 0 3) := hv.trans hM3
    refine ⟨o, o, ⟨o3, by omega, by omega⟩, o, ⟨o5, by omega, by omega⟩, ⟨o5, by omega, by omega⟩, o, ⟨o5, by omega, by omega⟩, ⟨o5, by omega, by omega⟩, o, o, ?_⟩
    refine key (addD G p q) _ v none hh.1 hh.2 rD (fun K a1 a2 => k K a1 ?_)
    unfold addR; rw [if_pos hd, ← e0]; exact a2
theorem s_X3_addWord {M : aM} {W : aW} {Q : aM → aW → Prop} {G : Lnd} {c l d t : Int} (hk : cty c) (hG : clG c G M) (hw : WF G) (hW : (G 0 5) < 6) (k : ∀ N, ag c (c + 8) M N → clG c (addW G l d t) N → Q N W) : CallV 41 [vR c, vI l, vI d, vI t] (M, W) Q := by
  have hc := ct_rng hk
  have hN := hw.N; unfold wfN at hN
  have l6 := ct_l6 hk
  have l7 := ct_l7 hk
  have l8 := ct_l8 hk
  have o := ct_o hk
  refine e_X3_addWord _ _ _ _ _ _ _ ?_
  have e5 : M c 5 = (G 0 5) := hG.1 5
  have E : ∀ (K : aM) (r i v : Int), 1 ≤ r → up_ K (c + r) i v c 5 = K c 5 := fun K r i v hr => up_b _ _ _ _ (by omega)
  have E6 : ∀ (K : aM) (i v : Int), up_ K (c + 6) i v c 5 = K c 5 := fun K i v => E K 6 i v (by decide)
  have E7 : ∀ (K : aM) (i v : Int), up_ K (c + 7) i v c 5 = K c 5 := fun K i v => E K 7 i v (by decide)
  have E8 : ∀ (K : aM) (i v : Int), up_ K (c + 8) i v c 5 = K c 5 := fun K i v => E K 8 i v (by decide)
  simp only [E6, E7, E8, e5]
  refine ⟨o, o, ⟨ct_a6 hk, by omega, by omega⟩, o, o, ⟨ct_a7 hk, by omega, by omega⟩, o, o, ⟨ct_a8 hk, by omega, by omega⟩, o, o, k _ (fun b j hb => ?_) ?_⟩
  · rw [up_b _ _ _ _ (by omega), up_b _ _ _ _ (by omega), up_b _ _ _ _ (by omega), up_b _ _ _ _ (by omega)]
  · exact (((hG.up (r := 6) (i := (G 0 5)) (v := l)).up (r := 7) (i := (G 0 5)) (v := d)).up (r := 8) (i := (G 0 5)) (v := t)).up0 (i := 5) (v := (G 0 5) + 1)
