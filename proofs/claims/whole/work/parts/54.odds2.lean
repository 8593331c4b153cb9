/-! THE REFERENCE: weights, LIKELY -/
def dnT (M : aM) (x k : Int) : Prop := ∃ j : Int, 0 ≤ j ∧ j < x ∧ M 100 j = k
theorem dnT_0 {M : aM} {k : Int} : ¬ dnT M 0 k := fun ⟨j, a, b, _⟩ => by omega
theorem dnT_s {M : aM} {x k : Int} (h : dnT M (x + 1) k) : dnT M x k ∨ k = M 100 x := by
  obtain ⟨j, a, b, e⟩ := h
  by_cases q : j = x
  · exact Or.inr (by rw [← e, q])
  · exact Or.inl ⟨j, a, by omega, e⟩
theorem dnT.of {M N : aM} {x k : Int} (h : dnT N x k) (e : ∀ j, N 100 j = M 100 j) : dnT M x k := by
  obtain ⟨j, a, b, q⟩ := h
  exact ⟨j, a, b, by rw [← e]; exact q⟩
theorem dnT_all {G : Lnd} {M : aM} (hT : trnO G M) {k : Int} (k0 : 0 ≤ k) (k1 : k < thr_ ((G 0 3))) : dnT M (thr_ ((G 0 3))) k := hT.2.2 k k0 k1
theorem dnT_lt {G : Lnd} {M : aM} (hT : trnO G M) {x k : Int} (x0 : 0 ≤ x) (x1 : x < thr_ ((G 0 3))) (k0 : 0 ≤ k) (k1 : k < thr_ ((G 0 3))) (h : unk G k < unk G (M 100 x)) : dnT M x k := by
  obtain ⟨j, a, b, e⟩ := hT.2.2 k k0 k1
  refine ⟨j, a, ?_, e⟩
  refine Classical.byContradiction (fun hno => ?_)
  by_cases q : j = x
  · rw [q] at e; rw [e] at h; omega
  · have := hT.2.1 x j x0 (by omega) b
    rw [e] at this; omega
theorem dnT_no {G : Lnd} {M : aM} (hT : trnO G M) {x : Int} (x1 : x < thr_ ((G 0 3))) : ¬ dnT M x (M 100 x) := by
  rintro ⟨j, a, b, e⟩
  have := hT.2.1 j x a b x1
  rw [e] at this; omega
theorem unk_add {G : Lnd} (hw : WF G) {k d v : Int} (k0 : 0 ≤ k) (k1 : k < thr_ ((G 0 3))) (d0 : 0 ≤ d) (d1 : d < (G 0 3)) (hd : dg k d = 0) (v0 : 1 ≤ v) (v1 : v < 3) : unk G (k + v * thr_ d) < unk G k := by
  have hN := hw.N; unfold wfN at hN
  have ht := thrG hw
  refine unk_lt (j := d) d0 d1 (fun i i0 i1 h => ?_) hd ?_
  · rw [dg_add k0 (by omega) d0 (by omega) i0 (by omega) hd ⟨by omega, v1⟩] at h
    by_cases e : i = d
    · rw [if_pos e] at h; omega
    · rw [if_neg e] at h; exact h
  · rw [dg_add k0 (by omega) d0 (by omega) d0 (by omega) hd ⟨by omega, v1⟩, if_pos rfl]; omega
theorem s_X12_layLikely {M : aM} {W : aW} {Q : aM → aW → Prop} {G : Lnd} {u : Int → Int} (hG : rfG G M) (hu : ∀ w, 0 ≤ w → w < p2_ ((G 0 3)) → M 102 w = u w)
    (h : ∀ N, ag 103 103 M N → (∀ k, 0 ≤ k → k < thr_ ((G 0 3)) → N 103 k = lk u ((G 0 3)) k) → Q N W) : CallV 190 [vR 86] (M, W) Q := by
  have hn := hG.n
  have ht := hG.t
  have hw := hG.W
  have key : ∀ (n : Nat) (x1 : Int) (d2 d3 : aL) (N : aM), 0 ≤ x1 → x1 ≤ thr_ ((G 0 3)) → (thr_ ((G 0 3)) - x1).toNat = n → ag 103 103 M N → (∀ k, 0 ≤ k → k < thr_ ((G 0 3)) → dnT N x1 k → N 103 k = lk u ((G 0 3)) k) → Xs 190 (2, [some (some (vR 86)), some (some (vI x1)), d2, d3], [], (N, W)) (QV Q) := by
    intro n; induction n using Nat.strongRecOn with
    | _ n ih =>
      intro x1 d2 d3 N h0 h1 hn2 hag hi
      have hGN := hG.ag hag (by decide)
      refine k_X12_layLikely_2 _ _ _ _ _ _ ?_
      rw [hGN.o23]
      refine ⟨by omega, fun hge => ?_, fun hlt => ⟨by omega, fun v hv => ?_⟩⟩
      · have e : x1 = thr_ ((G 0 3)) := by omega
        subst e
        exact h N hag (fun k k0 k1 => hi k k0 k1 (dnT_all hGN.T k0 k1))
      · have hvr := hGN.T.1 x1 h0 (by omega)
        rw [← hv] at hvr
        have nxt : ∀ y d3, y = lk u ((G 0 3)) v → Xs 190 (2, [some (some (vR 86)), some (some (vI (x1 + 1))), some (some (vI v)), d3], [], ((up_ N 103 v y), W)) (QV Q) := by
          intro y d3 hy
          refine ih (thr_ ((G 0 3)) - (x1 + 1)).toNat (by omega) (x1 + 1) _ _ _ (by omega) (by omega) rfl (ag_tr hag (ag_up _ (by decide) (by decide))) (fun k k0 k1 hd => ?_)
          by_cases e : k = v
          · subst e; rw [up_s]; exact hy
          · rw [up_j _ _ _ e]
            rcases dnT_s (hd.of (M := N) (fun j => up_b _ _ _ _ (by decide))) with q | q
            · exact hi k k0 k1 q
            · exact absurd (q.trans hv.symm) e
        refine s_X12_openIn hGN (by omega) (by omega) ⟨by have := cnt_le (fun i => decide (dg v i = 0)) ((G 0 3)).toNat; unfold unk; omega, fun q => ?_, fun q => ?_⟩
        · refine s_X12_unknownIn hGN (by omega) (by omega) (fun hf => q (by rw [unk_0.mpr hf]; rfl)) (fun d d0 d1 hd _ => ?_)
          have b1 := dg_lt (v := 1) hvr.1 (by omega) hvr.2 d0 d1 hd (by decide)
          have b2 := dg_lt (v := 2) hvr.1 (by omega) hvr.2 d0 d1 hd (by decide)
          have u1 := unk_add hw hvr.1 hvr.2 d0 d1 hd (v := 1) (by decide) (by decide)
          have u2 := unk_add hw hvr.1 hvr.2 d0 d1 hd (v := 2) (by decide) (by decide)
          rw [hv] at u1 u2
          have t1 := dnT_lt hGN.T h0 (by omega) (k := N 100 x1 + 1 * thr_ d) (by rw [← hv]; exact b1.1) (by rw [← hv]; exact b1.2) u1
          have t2 := dnT_lt hGN.T h0 (by omega) (k := N 100 x1 + 2 * thr_ d) (by rw [← hv]; exact b2.1) (by rw [← hv]; exact b2.2) u2
          rw [← hv] at t1 t2
          have e1 := hi _ b1.1 b1.2 t1
          have e2 := hi _ b2.1 b2.2 t2
          rw [hGN.D3 d d0 (by omega)]
          rw [show v + 1 * thr_ d = v + thr_ d by omega] at e1 b1
          refine ⟨by omega, by omega, by omega, by omega, by omega, nxt _ _ ?_⟩
          rw [e1, e2, ← lk_split hvr.1 (by omega) d0 (by omega) hd]
        · have hf : ful ((G 0 3)) v := unk_0.mp (by omega)
          have hs := sht_lt (by omega) (by omega) hvr.1 hvr.2
          have hsr := sht_rng v
          refine s_X12_worldOf hGN hvr.1 hvr.2 ⟨by omega, by omega, nxt _ _ ?_⟩
          rw [hag 102 _ (by decide), hu _ hsr.1 hs, lk_ful (by omega) (by omega) hvr.1 hvr.2 hf]
  refine e_X12_layLikely _ _ _ ?_
  exact key _ 0 _ _ M (by decide) (by omega) rfl (ag_refl _ _ _) (fun k _ _ hd => absurd hd dnT_0)
theorem s_X12_layUse {M : aM} {W : aW} {Q : aM → aW → Prop} {G : Lnd} {o od : Int} (hG : rfG G M) (oi : inI o) (ho : 0 ≤ od ∧ od ≤ 10) (h2 : ∀ d, d = o → 0 ≤ d → d < (G 0 3) → 0 < (G 2 ((G 3 d) * 7 + 3)) ∧ 0 < od)
    (h : ∀ N, ag 102 103 M N → (∀ w, 0 ≤ w → w < p2_ ((G 0 3)) → N 102 w = wt G o od w) → (∀ k, 0 ≤ k → k < thr_ ((G 0 3)) → N 103 k = lk (wt G o od) ((G 0 3)) k) → Q N W) : CallV 185 [vR 86, vI o, vI od] (M, W) Q := by
  have hn := hG.n
  have ht := hG.t
  have hw := hG.W
  have hC4 : 1 ≤ p2_ ((G 0 1)) ∧ p2_ ((G 0 1)) ≤ 4 := by
    rcases (show (G 0 1) = 0 ∨ (G 0 1) = 1 ∨ (G 0 1) = 2 by omega) with e | e | e <;> rw [e] <;> decide
  have l2 : ∀ (n : Nat) (x3 : Int) (d4 d5 d6 d7 d8 d9 d10 d11 d12 d13 d14 : aL) (N : aM), 0 ≤ x3 → x3 ≤ p2_ ((G 0 3)) → (p2_ ((G 0 3)) - x3).toNat = n → ag 102 102 M N → (∀ w, 0 ≤ w → w < x3 → N 102 w = wt G o od w) → Xs 185 (2, [some (some (vR 86)), some (some (vI o)), some (some (vI od)), some (some (vI x3)), d4, d5, d6, d7, d8, d9, d10, d11, d12, d13, d14], [], (N, W)) (QV Q) := by
    intro n; induction n using Nat.strongRecOn with
    | _ n ih =>
      intro x3 d4 d5 d6 d7 d8 d9 d10 d11 d12 d13 d14 N h0 h1 hn2 hag hi
      have hGN := hG.ag hag (by decide)
      refine k_X12_layUse_2 _ _ _ _ _ _ _ _ _ _ _ _ _ _ _ _ _ ?_
      rw [hGN.o22]
      refine ⟨by omega, fun hge => ?_, fun hlt => ?_⟩
      · refine s_X12_layLikely hGN (u := wt G o od) (fun w w0 w1 => hi w w0 (by omega)) (fun K hag2 hK => ?_)
        refine h K (ag_tr (ag_wk hag (by decide) (by decide)) (ag_wk hag2 (by decide) (by decide))) (fun w w0 w1 => ?_) hK
        rw [hag2 _ _ (by decide)]; exact hi w w0 (by omega)
      · have l16 : ∀ (m : Nat) (x4 x6 : Int) (d7 d8 d9 d10 d11 d12 d13 d14 : aL), 0 ≤ x6 → x6 ≤ p2_ ((G 0 1)) → (p2_ ((G 0 1)) - x6).toNat = m → x4 = su_ (fun come => wrw G o od x3 come ((G 0 3)).toNat) x6.toNat → Xs 185 (16, [some (some (vR 86)), some (some (vI o)), some (some (vI od)), some (some (vI x3)), some (some (vL x4)), some none, some (some (vI x6)), d7, d8, d9, d10, d11, d12, d13, d14], [], (N, W)) (QV Q) := by
          intro m; induction m using Nat.strongRecOn with
          | _ m ih2 =>
            intro x4 x6 d7 d8 d9 d10 d11 d12 d13 d14 k0 k1 hm hx4
            refine k_X12_layUse_16 _ _ _ _ _ _ _ _ _ _ _ _ _ _ _ _ ?_
            rw [hGN.N.2.1, shl_e (by omega) (by omega)]
            refine ⟨by omega, fun hge => ⟨by omega, ?_⟩, fun hlt6 => ?_⟩
            · have e6 : x6 = p2_ ((G 0 1)) := by omega
              refine ih (p2_ ((G 0 3)) - (x3 + 1)).toNat (by omega) (x3 + 1) _ _ _ _ _ _ _ _ _ _ _ _ (by omega) (by omega) rfl (ag_tr hag (ag_up _ (by decide) (by decide))) (fun w w0 w1 => ?_)
              by_cases he : w = x3
              · subst he; rw [up_s, hx4, e6]; rfl
              · rw [up_j _ _ _ he]; exact hi w w0 (by omega)
            · have l93 : ∀ (k : Nat) (x7 x9 : Int) (d10 d11 d12 d13 d14 : aL), 0 ≤ x9 → x9 ≤ (G 0 3) → ((G 0 3) - x9).toNat = k → x7 = wrw G o od x3 x6 x9.toNat → Xs 185 (93, [some (some (vR 86)), some (some (vI o)), some (some (vI od)), some (some (vI x3)), some (some (vL x4)), some none, some (some (vI x6)), some (some (vL x7)), some none, some (some (vI x9)), d10, d11, d12, d13, d14], [], (N, W)) (QV Q) := by
                intro k; induction k using Nat.strongRecOn with
                | _ k ih3 =>
                  intro x7 x9 d10 d11 d12 d13 d14 j0 j1 hkk hx7
                  refine k_X12_layUse_93 _ _ _ _ _ _ _ _ _ _ _ _ _ _ _ ?_
                  refine s_X12_doubts hGN ⟨by omega, fun hge v hv => ?_, fun hlt9 => ?_⟩
                  · have e9 : x9 = (G 0 3) := by omega
                    refine ih2 (p2_ ((G 0 1)) - (x6 + 1)).toNat (by omega) v (x6 + 1) _ _ _ _ _ _ _ _ (by omega) (by omega) rfl ?_
                    rw [su_succ _ k0, hv, hx4, hx7, e9]
                  · have hD := hw.D x9 j0 (by omega)
                    have hR := hw.R _ hD.1 hD.2.1
                    have hdr := dbt_rng (o := o) hw ho j0 (show x9 < (G 0 3) by omega)
                    have hb3 := bt_cs x3 x9
                    have r3 := hGN.r93 (f := 3) hD.1 hD.2.1 (by decide) (by decide)
                    have r4 := hGN.r93 (f := 4) hD.1 hD.2.1 (by decide) (by decide)
                    have hro : ((G 2 ((G 3 x9) * 7 + 3)) ≤ 0 → dbt G o od x9 = 0) ∧ (0 < (G 2 ((G 3 x9) * 7 + 3)) → dbt G o od x9 ≠ 0) := by
                      unfold dbt
                      by_cases e : x9 = o
                      · have := h2 x9 e j0 (by omega)
                        rw [if_pos e]; omega
                      · rw [if_neg e]; omega
                    have nxt : ∀ (x10 x11 x12 x13 x14 v : Int), v = x7 * rrb G o od x6 x9 (bt x3 x9) → Xs 185 (282, [some (some (vR 86)), some (some (vI o)), some (some (vI od)), some (some (vI x3)), some (some (vL x4)), some none, some (some (vI x6)), some (some (vL v)), some none, some (some (vI x9)), some (some (vI x10)), some (some (vI x11)), some (some (vI x12)), some (some (vI x13)), some (some (vI x14))], [], (N, W)) (QV Q) := by
                      intro x10 x11 x12 x13 x14 v hv
                      refine k_X12_layUse_282 _ _ _ _ _ _ _ _ _ _ _ _ _ _ _ ?_
                      refine ih3 ((G 0 3) - (x9 + 1)).toNat (by omega) v (x9 + 1) _ _ _ _ _ (by omega) (by omega) rfl ?_
                      unfold wrw at hx7 ⊢
                      rw [pr_succ _ _ j0, ← hx7, hv]
                    have l189 : ∀ (x12 : Int) (d14 : aL), x12 = csd G x6 x9 → Xs 185 (189, [some (some (vR 86)), some (some (vI o)), some (some (vI od)), some (some (vI x3)), some (some (vL x4)), some none, some (some (vI x6)), some (some (vL x7)), some none, some (some (vI x9)), some (some (vI (7 * G 3 x9))), some (some (vI (dbt G o od x9))), some (some (vI x12)), some (some (vI (bt x3 x9))), d14], [], (N, W)) (QV Q) := by
                      intro x12 d14 h12
                      have hcs := csd_cs G x6 x9
                      have l208 : ∀ (x14 : Int), (x14 = 0 ∧ dbt G o od x9 = 0) ∨ (x14 = 1 ∧ dbt G o od x9 ≠ 0) → Xs 185 (208, [some (some (vR 86)), some (some (vI o)), some (some (vI od)), some (some (vI x3)), some (some (vL x4)), some none, some (some (vI x6)), some (some (vL x7)), some none, some (some (vI x9)), some (some (vI (7 * G 3 x9))), some (some (vI (dbt G o od x9))), some (some (vI x12)), some (some (vI (bt x3 x9))), some (some (vI x14))], [], (N, W)) (QV Q) := by
                        intro x14 h14
                        refine k_X12_layUse_208 _ _ _ _ _ _ _ _ _ _ _ _ _ _ _ ?_
                        refine ⟨by omega, fun q12 => ⟨by omega, fun q13 => ⟨by omega, fun q14 v hv => nxt _ _ _ _ _ v ?_, fun q14 => ⟨by omega, fun v hv => nxt _ _ _ _ _ v ?_⟩⟩, fun q13 => ⟨by omega, fun q14 v hv => nxt _ _ _ _ _ v ?_, fun q14 => ⟨by omega, fun v hv => nxt _ _ _ _ _ v ?_⟩⟩⟩, fun q12 => ⟨by omega, fun q13 => ⟨by omega, fun q14 v hv => nxt _ _ _ _ _ v ?_, fun q14 v hv => nxt _ _ _ _ _ v ?_⟩, fun q13 v hv => nxt _ _ _ _ _ v ?_⟩⟩ <;> rw [hv] <;> unfold rrb rrv
                        · rw [← h12, if_pos q12, if_pos (show dbt G o od x9 = 0 by omega), if_pos q13]
                        · rw [← h12, if_pos q12, if_neg (show ¬ dbt G o od x9 = 0 by omega), if_pos q13]
                        · rw [← h12, if_pos q12, if_pos (show dbt G o od x9 = 0 by omega), if_neg q13]
                        · rw [← h12, if_pos q12, if_neg (show ¬ dbt G o od x9 = 0 by omega), if_neg q13]
                        · rw [← h12, if_neg q12, if_neg q13, if_pos (show dbt G o od x9 ≤ 0 by omega)]
                        · rw [← h12, if_neg q12, if_neg q13, if_neg (show ¬ dbt G o od x9 ≤ 0 by omega)]
                        · rw [← h12, if_neg q12, if_pos (show bt x3 x9 = 0 by omega)]
                      refine k_X12_layUse_189 _ _ _ _ _ _ _ _ _ _ _ _ _ _ _ ?_
                      rw [r3]
                      exact ⟨by omega, by omega, fun q => l208 0 (Or.inl ⟨rfl, hro.1 q⟩), fun q => l208 1 (Or.inr ⟨rfl, hro.2 (by omega)⟩)⟩
                    have l172 : ∀ (x12 : Int) (d13 d14 : aL), x12 = csd G x6 x9 → Xs 185 (172, [some (some (vR 86)), some (some (vI o)), some (some (vI od)), some (some (vI x3)), some (some (vL x4)), some none, some (some (vI x6)), some (some (vL x7)), some none, some (some (vI x9)), some (some (vI (7 * G 3 x9))), some (some (vI (dbt G o od x9))), some (some (vI x12)), d13, d14], [], (N, W)) (QV Q) := by
                      intro x12 d13 d14 h12
                      have hz := l189 x12 d14 h12
                      refine k_X12_layUse_172 _ _ _ _ _ _ _ _ _ _ _ _ _ _ _ ?_
                      rw [bit_e h0 (by omega) j0 (by omega)]
                      refine ⟨by omega, fun q => ?_, fun q => ?_⟩
                      · rw [show bt x3 x9 = 0 by omega] at hz; exact hz
                      · rw [show bt x3 x9 = 1 by omega] at hz; exact hz
                    have go : ∀ (v5 x11 : Int), v5 = 7 * G 3 x9 → x11 = dbt G o od x9 → Xs 185 (135, [some (some (vR 86)), some (some (vI o)), some (some (vI od)), some (some (vI x3)), some (some (vL x4)), some none, some (some (vI x6)), some (some (vL x7)), some none, some (some (vI x9)), some (some (vI v5)), some (some (vI x11)), d12, d13, d14], [], (N, W)) (QV Q) := by
                      intro v5 x11 e5 e11
                      subst e5; subst e11
                      refine k_X12_layUse_135 _ _ _ _ _ _ _ _ _ _ _ _ _ _ _ ?_
                      rw [r4]
                      refine ⟨by omega, by omega, fun q => l172 0 _ _ (by unfold csd; rw [if_neg (by omega)]), fun q => ?_⟩
                      rw [bit_e k0 (by omega) (by omega) (by omega)]
                      have hb5 := bt_cs x6 ((G 2 ((G 3 x9) * 7 + 4)))
                      exact ⟨by omega, by omega, fun y => l172 0 _ _ (by unfold csd; rw [if_neg (by omega)]), fun y => l172 1 _ _ (by unfold csd; rw [if_pos (by omega)])⟩
                    rw [hGN.d94 j0 (by omega)]
                    refine ⟨by omega, fun v5 e5 => ⟨by omega, fun q => ?_, fun q v7 e7 => go v5 v7 e5 (by rw [e7]; unfold dbt; rw [if_pos (by omega)])⟩⟩
                    rw [e5, r3]
                    refine ⟨by omega, fun v6 e6 => ?_⟩
                    exact go _ v6 rfl (by rw [e6]; unfold dbt; rw [if_neg q])
              have l35 : ∀ (k : Nat) (x7 x9 : Int) (d10 d11 d12 d13 d14 : aL), 0 ≤ x9 → x9 ≤ (G 0 1) → ((G 0 1) - x9).toNat = k → x7 = crw G x6 x9.toNat → Xs 185 (35, [some (some (vR 86)), some (some (vI o)), some (some (vI od)), some (some (vI x3)), some (some (vL x4)), some none, some (some (vI x6)), some (some (vL x7)), some none, some (some (vI x9)), d10, d11, d12, d13, d14], [], (N, W)) (QV Q) := by
                intro k; induction k using Nat.strongRecOn with
                | _ k ih3 =>
                  intro x7 x9 d10 d11 d12 d13 d14 j0 j1 hkk hx7
                  refine k_X12_layUse_35 _ _ _ _ _ _ _ _ _ _ _ _ _ _ _ ?_
                  rw [hGN.N.2.1]
                  refine ⟨by omega, fun hge => ?_, fun hlt9 => ?_⟩
                  · have e9 : x9 = (G 0 1) := by omega
                    exact l93 _ x7 0 _ _ _ _ _ (by decide) (by omega) rfl (by rw [hx7, e9]; rfl)
                  · have hC := hw.C x9 j0 (by omega)
                    rw [hGN.c92 j0 (by omega), bit_e k0 (by omega) j0 (by omega)]
                    have hb := bt_rng x6 x9
                    refine ⟨by omega, fun q => ⟨by omega, by omega, fun v hv => ?_⟩, fun q => ⟨by omega, by omega, fun v hv => ?_⟩⟩
                    · refine ih3 ((G 0 1) - (x9 + 1)).toNat (by omega) v (x9 + 1) _ _ _ _ _ (by omega) (by omega) rfl ?_
                      unfold crw at hx7 ⊢
                      rw [pr_succ _ _ j0, ← hx7, hv]; unfold crf; rw [if_neg q]
                    · refine ih3 ((G 0 1) - (x9 + 1)).toNat (by omega) v (x9 + 1) _ _ _ _ _ (by omega) (by omega) rfl ?_
                      unfold crw at hx7 ⊢
                      rw [pr_succ _ _ j0, ← hx7, hv]; unfold crf; rw [if_pos (by omega)]
              exact l35 _ 1 0 _ _ _ _ _ (by decide) (by omega) rfl rfl
        exact l16 _ 0 0 _ _ _ _ _ _ _ _ (by decide) (by omega) rfl rfl
  refine e_X12_layUse _ _ _ _ _ ?_
  exact l2 _ 0 _ _ _ _ _ _ _ _ _ _ _ M (by decide) (by omega) rfl (ag_refl _ _ _) (fun w a b => by omega)
/-- weights and LIKELY as told -/
def rfW (G : Lnd) (M : aM) : Prop := (∀ w, 0 ≤ w → w < p2_ ((G 0 3)) → M 101 w = wtG G w) ∧ ∀ k, 0 ≤ k → k < thr_ ((G 0 3)) → M 103 k = lkG G k
theorem s_X12_layWeights {M : aM} {W : aW} {Q : aM → aW → Prop} {G : Lnd} (hG : rfG G M) (h : ∀ N, ag 101 103 M N → rfW G N → Q N W) : CallV 186 [vR 86] (M, W) Q := by
  have hn := hG.n
  have ht := hG.t
  refine e_X12_layWeights _ _ _ ?_
  refine s_X12_layUse hG (by decide) (by decide) (fun d e d0 _ => by omega) (fun N1 hag1 hu hl => ?_)
  have key : ∀ (n : Nat) (x1 : Int) (N : aM), 0 ≤ x1 → x1 ≤ 64 → (64 - x1).toNat = n → ag 101 101 N1 N → (∀ w, 0 ≤ w → w < x1 → w < p2_ ((G 0 3)) → N 101 w = wtG G w) → Xs 186 (8, [some (some (vR 86)), some (some (vI x1))], [], (N, W)) (QV Q) := by
    intro n; induction n using Nat.strongRecOn with
    | _ n ih =>
      intro x1 N h0 h1 hn2 hag hi
      have hGN := (hG.ag hag1 (by decide)).ag hag (by decide)
      have nxt : ∀ v, x1 < 64 → (x1 < p2_ ((G 0 3)) → v = wtG G x1) → Xs 186 (8, [some (some (vR 86)), some (some (vI (x1 + 1)))], [], ((up_ N 101 x1 v), W)) (QV Q) := by
        intro v hl hv
        refine ih (64 - (x1 + 1)).toNat (by omega) (x1 + 1) _ (by omega) (by omega) rfl (ag_tr hag (ag_up _ (by decide) (by decide))) (fun w w0 w1 w2 => ?_)
        by_cases e : w = x1
        · subst e; rw [up_s]; exact hv w2
        · rw [up_j _ _ _ e]; exact hi w w0 (by omega) w2
      refine k_X12_layWeights_8 _ _ _ _ ?_
      rw [hGN.o22]
      refine ⟨by omega, fun hge => ?_, fun hlt => ⟨by omega, fun q => ⟨by omega, nxt _ (by omega) (fun y => by omega)⟩, fun q => ⟨by omega, by omega, nxt _ (by omega) (fun y => ?_)⟩⟩⟩
      · refine h N (ag_tr (ag_wk hag1 (by decide) (by decide)) (ag_wk hag (by decide) (by decide))) ⟨fun w w0 w1 => hi w w0 (by omega) w1, fun k k0 k1 => ?_⟩
        rw [hag _ _ (by decide)]; exact hl k k0 k1
      · rw [hag _ _ (by decide)]; exact hu x1 h0 (by omega)
  exact key _ 0 N1 (by decide) (by decide) rfl (ag_refl _ _ _) (fun w a b => by omega)
theorem s_X12_useAsTold {M : aM} {W : aW} {Q : aM → aW → Prop} {G : Lnd} (hG : rfG G M) (hW : ∀ w, 0 ≤ w → w < p2_ ((G 0 3)) → M 101 w = wtG G w) (h : ∀ N, ag 102 103 M N → rfW G N → Q N W) : CallV 187 [vR 86] (M, W) Q := by
  have hn := hG.n
  have ht := hG.t
  have key : ∀ (n : Nat) (x1 : Int) (N : aM), 0 ≤ x1 → x1 ≤ p2_ ((G 0 3)) → (p2_ ((G 0 3)) - x1).toNat = n → ag 102 102 M N → (∀ w, 0 ≤ w → w < x1 → N 102 w = wtG G w) → Xs 187 (2, [some (some (vR 86)), some (some (vI x1))], [], (N, W)) (QV Q) := by
    intro n; induction n using Nat.strongRecOn with
    | _ n ih =>
      intro x1 N h0 h1 hn2 hag hi
      have hGN := hG.ag hag (by decide)
      refine k_X12_useAsTold_2 _ _ _ _ ?_
      rw [hGN.o22]
      refine ⟨by omega, fun hge => ?_, fun hlt => ⟨by omega, by omega, ?_⟩⟩
      · refine s_X12_layLikely hGN (u := wtG G) (fun w w0 w1 => hi w w0 (by omega)) (fun K hag2 hK => ?_)
        refine h K (ag_tr (ag_wk hag (by decide) (by decide)) (ag_wk hag2 (by decide) (by decide))) ⟨fun w w0 w1 => ?_, hK⟩
        rw [hag2 _ _ (by decide), hag _ _ (by decide)]; exact hW w w0 w1
      · refine ih (p2_ ((G 0 3)) - (x1 + 1)).toNat (by omega) (x1 + 1) _ (by omega) (by omega) rfl (ag_tr hag (ag_up _ (by decide) (by decide))) (fun w w0 w1 => ?_)
        by_cases e : w = x1
        · subst e; rw [up_s, hag _ _ (by decide)]; exact hW w w0 (by omega)
        · rw [up_j _ _ _ e]; exact hi w w0 (by omega)
  refine e_X12_useAsTold _ _ _ ?_
  exact key _ 0 M (by decide) (by omega) rfl (ag_refl _ _ _) (fun w a b => by omega)
