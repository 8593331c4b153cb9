/-! SOLVER: a known's places, then all knowns -/
theorem actF_congr {G : Lnd} {sm k p : Int} {lik : Int → Int} {v : Int → Int → Int} {f g : Int → Int} (h : ∀ q, 0 ≤ q → q < (G 0 0) → f q = g q) : actF G sm lik v k f p = actF G sm lik v k g p := by
  have e : ∀ i : Int, 0 ≤ i → i < ((G 0 0)).toNat → cand 1152921504606846976 (cS G sm lik k) f p i = cand 1152921504606846976 (cS G sm lik k) g p i := fun i i0 i1 => by unfold cand; rw [h i i0 (by omega)]
  unfold actF
  rw [mn_congr _ e, am_congr _ e]
def RS (x : Int) (G : Lnd) (sm : Int) (lik en : Int → Int) (v : Int → Int → Int) (k : Int) (M N : aM) : Prop := ag (x + 1) (x + 2) M N ∧ (∀ j, (j < k * 10 ∨ k * 10 + 10 ≤ j) → N (x + 1) j = M (x + 1) j ∧ N (x + 2) j = M (x + 2) j) ∧ ∀ q, 0 ≤ q → q < (G 0 0) → (v k q ≤ fV x k N q ∧ fV x k N q ≤ 1152921504606846976) ∧ (fxS G k q = true → fV x k N q = bS G sm lik en v k q ∧ N (x + 2) (k * 10 + q) = -2) ∧ (fxS G k q = false → stq 1152921504606846976 (cS G sm lik k) (eS G sm lik v k) ((G 0 0)).toNat (fV x k N) q ≤ fV x k N q)
def cnS (x : Int) (G : Lnd) (v : Int → Int → Int) (k : Int) (N : aM) : Nat := cnt_ (fun p => decide (fV x k N p = v k p)) ((G 0 0)).toNat
def finS (x : Int) (G : Lnd) (sm : Int) (lik : Int → Int) (v : Int → Int → Int) (k : Int) (N : aM) : Prop := ∀ q, 0 ≤ q → q < (G 0 0) → fV x k N q = v k q ∧ N (x + 2) (k * 10 + q) = actS G sm lik v k q
abbrev stS (G : Lnd) (sm : Int) (lik : Int → Int) (v : Int → Int → Int) (k : Int) (f : Int → Int) (p : Int) : Int := stq 1152921504606846976 (cS G sm lik k) (eS G sm lik v k) ((G 0 0)).toNat f p
theorem s_X9_solveKnown {M : aM} {W : aW} {Q : aM → aW → Prop} {G : Lnd} {x c a sm k : Int} {lik en : Int → Int} {v : Int → Int → Int} (hx : svO x) (ha : lkA a) (hk : cty c) (hG : clG c G M) (hw : WF G) (hcd : cdM M) (hm : svM x c a G lik sm M) (hl : likO G lik) (k0 : 0 ≤ k) (k1 : k < thr_ ((G 0 3))) (hlk : 0 < lik k) (hps : psM x G k M) (hc : chV x G lik v k M) (hv : vOK G lik v k) (hvk : isVk G sm lik en v k (v k))
    (hvr : ∀ p, 0 ≤ p → p < (G 0 0) → -1000000000000000 ≤ v k p ∧ v k p ≤ 1152921504606846976)
    (h : ∀ N, ag (x + 1) (x + 2) M N → (∀ j, (j < k * 10 ∨ k * 10 + 10 ≤ j) → N (x + 1) j = M (x + 1) j ∧ N (x + 2) j = M (x + 2) j) → finS x G sm lik v k N → Q N W) : CallV 110 [vR x, vI k, vL (en k)] (M, W) Q := by
  have hN := hw.N; unfold wfN at hN
  have ht := thr_le hN.2.2.2.1.1 hN.2.2.2.1.2
  have hg := sv_g hx ha
  have hNm : ∀ N, ag (x + 1) (x + 2) M N → svM x c a G lik sm N := fun N hag => hm.ag hag (by omega) (by omega)
  have hNG : ∀ N, ag (x + 1) (x + 2) M N → clG c G N := fun N hag => hG.ag hk hag (by omega)
  have hNc : ∀ N, ag (x + 1) (x + 2) M N → cdM N := fun N hag => hcd.ag hag (by omega)
  have l121 : ∀ (n : Nat) (x5 x6 : Int) (d7 d8 : aL) (N : aM), 0 ≤ x6 → x6 ≤ (G 0 0) + 1 → ((G 0 0) + 2 - x6).toNat = n → RS x G sm lik en v k M N → ((x5 = 1 ∧ x6 ≤ cnS x G v k N) ∨ (x5 = 0 ∧ finS x G sm lik v k N)) → Xs 110 (121, [some (some (vR x)), some (some (vI k)), some (some (vL (en k))), some none, some (some (vI (k * 10))), some (some (vI x5)), some (some (vI x6)), d7, d8], [], (N, W)) (QV Q) := by
    intro n; induction n using Nat.strongRecOn with
    | _ n ih =>
      intro x5' x6 d7 d8 N h0 h1 hn hR hxx
      have hGN := hNG N hR.1
      have hcl : cnS x G v k N ≤ ((G 0 0)).toNat := cnt_le _ _
      refine k_X9_solveKnown_121 _ _ _ _ _ _ _ _ _ _ _ ?_
      rw [(hNm N hR.1).1, hGN.1]
      refine ⟨sv_o hx, ct_o hk, by omega, fun hge => ?_, fun hlt => ⟨by omega, fun hz => ?_, fun hz => ?_⟩⟩
      · rcases hxx with ⟨-, hxx⟩ | ⟨-, hxx⟩
        · omega
        · exact h N hR.1 hR.2.1 hxx
      · rcases hxx with ⟨hxx, -⟩ | ⟨-, hxx⟩
        · omega
        · exact h N hR.1 hR.2.1 hxx
      · have hcn : x6 ≤ cnS x G v k N := by omega
        have l144 : ∀ (m : Nat) (x5 x7 : Int) (d8 : aL) (K : aM), 0 ≤ x7 → x7 ≤ (G 0 0) → ((G 0 0) - x7).toNat = m → RS x G sm lik en v k M K → (x5 = 0 ∨ x5 = 1) → (∀ q, 0 ≤ q → q < (G 0 0) → fV x k K q ≤ fV x k N q) → (∀ q, 0 ≤ q → q < x7 → fxS G k q = false → fV x k K q ≤ stS G sm lik v k (fV x k N) q) → (∀ q, x7 ≤ q → q < (G 0 0) → fV x k K q = fV x k N q) →
            (x5 = 0 → (∀ q, 0 ≤ q → q < (G 0 0) → fV x k K q = fV x k N q) ∧ ∀ q, 0 ≤ q → q < x7 → fxS G k q = false → fV x k N q ≤ stS G sm lik v k (fV x k N) q ∧ K (x + 2) (k * 10 + q) = actF G sm lik v k (fV x k N) q) →
            (x5 = 1 → exW ((G 0 0)) (fV x k K) (fV x k N)) → Xs 110 (144, [some (some (vR x)), some (some (vI k)), some (some (vL (en k))), some none, some (some (vI (k * 10))), some (some (vI x5)), some (some (vI x6)), some (some (vI x7)), d8], [], (K, W)) (QV Q) := by
          intro m; induction m using Nat.strongRecOn with
          | _ m ih2 =>
            intro x5 x7 d8 K j0 j1 hmm hRK hx5 hle hdone hrest hz0 hz1
            have hGK := hNG K hRK.1
            have hmK := hNm K hRK.1
            have hcK := hNc K hRK.1
            refine k_X9_solveKnown_144 _ _ _ _ _ _ _ _ _ _ _ ?_
            rw [hmK.1, hGK.1, hGK.1]
            -- a fixed place is passed over
            have skip : ∀ d8 : aL, x7 < (G 0 0) → fxS G k x7 = true → Xs 110 (144, [some (some (vR x)), some (some (vI k)), some (some (vL (en k))), some none, some (some (vI (k * 10))), some (some (vI x5)), some (some (vI x6)), some (some (vI (x7 + 1))), d8], [], (K, W)) (QV Q) := by
              intro d8 hlt hfx
              refine ih2 ((G 0 0) - (x7 + 1)).toNat (by omega) x5 (x7 + 1) d8 K (by omega) (by omega) rfl hRK hx5 hle (fun q q0 q1 hq => ?_) (fun q q0 q1 => hrest q (by omega) q1) (fun hz => ⟨(hz0 hz).1, fun q q0 q1 hq => ?_⟩) hz1
              · by_cases he : q = x7
                · rw [he] at hq; rw [hq] at hfx; exact absurd hfx (by decide)
                · exact hdone q q0 (by omega) hq
              · by_cases he : q = x7
                · rw [he] at hq; rw [hq] at hfx; exact absurd hfx (by decide)
                · exact (hz0 hz).2 q q0 (by omega) hq
            refine ⟨sv_o hx, ct_o hk, by omega, fun hge => ?_, fun hlt2 => ⟨sv_o hx, ct_o hk, by omega, fun hgo => ⟨by decide, fun _ => skip _ (by omega) (decide_eq_true (Or.inl hgo)), fun hno => absurd (by decide) hno⟩, fun hgo => ⟨sv_o hx, sv_o hx, ct_o hk, ⟨ct_a5 hk, j0, by rw [ct_l5 hk]; omega⟩, ?_⟩⟩⟩
            · have e5 : x7 = (G 0 0) := by omega
              subst e5
              refine ih ((G 0 0) + 2 - (x6 + 1)).toNat (by omega) x5 (x6 + 1) _ _ K (by omega) (by omega) rfl hRK ?_
              rcases hx5 with hx5 | hx5
              · refine Or.inr ⟨hx5, ?_⟩
                obtain ⟨e1, e2⟩ := hz0 hx5
                have hfix : isVk G sm lik en v k (fV x k N) := by
                  intro p p0 p1
                  have hp1 : p < (G 0 0) := by omega
                  refine ⟨fun hh => ((hR.2.2 p p0 hp1).2.1 hh).1, fun hh => ?_⟩
                  exact Int.le_antisymm (e2 p p0 hp1 hh).1 ((hR.2.2 p p0 hp1).2.2 hh)
                have heq := fix_uniq hfix hvk
                intro q q0 q1
                refine ⟨by rw [e1 q q0 q1]; exact heq q q0 (by omega), ?_⟩
                cases hfx : fxS G k q with
                | true =>
                  rw [((hRK.2.2 q q0 q1).2.1 hfx).2]
                  unfold actS
                  rcases of_decide_eq_true hfx with hq | hq
                  · rw [if_pos hq]
                  · split
                    · rfl
                    · first | rfl | rw [if_pos hq]
                | false =>
                  have hno := of_decide_eq_false hfx
                  rw [(e2 q q0 q1 hfx).2]
                  unfold actS
                  rw [if_neg (fun hq => hno (Or.inl hq)), if_neg (fun hq => hno (Or.inr hq))]
                  exact actF_congr (fun i i0 i1 => heq i i0 (by omega))
              · refine Or.inl ⟨hx5, ?_⟩
                obtain ⟨q, q0, q1, hq⟩ := hz1 hx5
                have hr := fix_round hvk (f := fV x k N) (f' := fV x k K) (fun p p0 p1 => by
                  have hp1 : p < (G 0 0) := by omega
                  refine ⟨(hRK.2.2 p p0 hp1).1.1, hle p p0 hp1, fun hh => ((hR.2.2 p p0 hp1).2.1 hh).1, fun hh => ⟨(hR.2.2 p p0 hp1).1.2, hdone p p0 hp1 hh⟩⟩) (fun hall => by
                  have a1 := hall q q0 (by omega); have a2 := (hRK.2.2 q q0 q1).1.1; omega)
                unfold cnS at hcn ⊢
                omega
            · rw [hGK.2.2.2.2.2.1]
              have hs64 := hw.sn64 j0 (show x7 < 10 by omega)
              refine s_X2_firstMissing hcK k0 (by omega) hs64.1 hs64.2 ?_
              have hfm := fm_cs k ((G 5 x7))
              have hfmr : -1 ≤ fm_ k ((G 5 x7)) ∧ fm_ k ((G 5 x7)) < 6 := by rcases hfm with hh | hh <;> omega
              refine ⟨by omega, fun hneg => ⟨by decide, fun hno => absurd rfl hno, fun _ => ⟨sv_o hx, ?_⟩⟩, fun hpos => ⟨by decide, fun _ => skip _ (by omega) (decide_eq_true (Or.inr (by omega))), fun hno => absurd (by decide) hno⟩⟩
              have hfx : fxS G k x7 = false := decide_eq_false (fun hh => by rcases hh with hh | hh <;> omega)
              refine s_X9_improve hx ha hk hGK hw hcK hmK hl k0 k1 hlk j0 (by omega) (hps.ag hRK.1 (by omega)) (hc.row (by omega) (fun j hj => (hRK.2.1 j (by omega)).1)) hv (fun q q0 q1 => by
                have a1 := (hRK.2.2 q q0 q1).1; have a2 := hvr q q0 q1; omega) ?_
              intro r L hag hvv hv2 hac ha2 hr
              have hK7 := (hRK.2.2 x7 j0 (by omega)).1
              have hsl : stS G sm lik v k (fV x k K) x7 ≤ fV x k K x7 := (hRK.2.2 x7 j0 (by omega)).2.2 hfx
              have hsI : stS G sm lik v k (fV x k K) x7 ≤ 1152921504606846976 := stq_le_I _ _ _ _ _ _
              have hsD : v k x7 ≤ stS G sm lik v k (fV x k K) x7 := fix_above hvk (fun p p0 p1 => (hRK.2.2 p p0 (by omega)).1.1) j0 (by omega) hfx
              have eL : ∀ q, q ≠ x7 → fV x k L q = fV x k K q := fun q hq => hv2 _ (by omega)
              have eL5 : fV x k L x7 = stS G sm lik v k (fV x k K) x7 := hvv
              have hLK : ∀ q, 0 ≤ q → q < (G 0 0) → fV x k L q ≤ fV x k K q := fun q q0 q1 => by
                by_cases hq : q = x7
                · subst hq; omega
                · rw [eL q hq]; exact Int.le_refl _
              have hRL : RS x G sm lik en v k M L := by
                refine ⟨ag_tr hRK.1 hag, fun j hj => ?_, fun q q0 q1 => ?_⟩
                · rw [hv2 j (by omega), ha2 j (by omega)]; exact hRK.2.1 j hj
                · by_cases hq : q = x7
                  · subst hq
                    refine ⟨by omega, fun hh => ?_, fun _ => ?_⟩
                    · rw [hfx] at hh; exact absurd hh (by decide)
                    · rw [eL5]; exact stq_mono _ (fun i i0 i1 => hLK i i0 (by omega))
                  · have hh := hRK.2.2 q q0 q1
                    rw [eL q hq, ha2 _ (by omega)]
                    exact ⟨hh.1, hh.2.1, fun hg2 => Int.le_trans (stq_mono _ (fun i i0 i1 => hLK i i0 (by omega))) (hh.2.2 hg2)⟩
              have hd2 : ∀ q, 0 ≤ q → q < x7 + 1 → fxS G k q = false → fV x k L q ≤ stS G sm lik v k (fV x k N) q := fun q q0 q1 hq => by
                by_cases he : q = x7
                · subst he; rw [eL5]; exact stq_mono _ (fun i i0 i1 => hle i i0 (by omega))
                · rw [eL q he]; exact hdone q q0 (by omega) hq
              have hle2 : ∀ q, 0 ≤ q → q < (G 0 0) → fV x k L q ≤ fV x k N q := fun q q0 q1 => Int.le_trans (hLK q q0 q1) (hle q q0 q1)
              have hr2 : ∀ q, x7 + 1 ≤ q → q < (G 0 0) → fV x k L q = fV x k N q := fun q q0 q1 => by rw [eL q (by omega)]; exact hrest q (by omega) q1
              have hN5 := hrest x7 (Int.le_refl _) (by omega)
              have hr' : (r = 1 ∧ stS G sm lik v k (fV x k K) x7 < fV x k K x7) ∨ (r = 0 ∧ fV x k K x7 ≤ stS G sm lik v k (fV x k K) x7) := hr
              refine ⟨by omega, fun hr0 => ?_, fun hr0 => ?_⟩
              · have e5 : fV x k L x7 = fV x k K x7 := by omega
                refine ih2 ((G 0 0) - (x7 + 1)).toNat (by omega) x5 (x7 + 1) _ L (by omega) (by omega) rfl hRL hx5 hle2 hd2 hr2 (fun hz => ?_) (fun hz => ?_)
                · obtain ⟨e1, e2⟩ := hz0 hz
                  have e3 : ∀ q, 0 ≤ q → q < (G 0 0) → fV x k L q = fV x k N q := fun q q0 q1 => by
                    by_cases he : q = x7
                    · subst he; rw [e5]; exact e1 q q0 q1
                    · rw [eL q he]; exact e1 q q0 q1
                  refine ⟨e3, fun q q0 q1 hq => ?_⟩
                  by_cases he : q = x7
                  · subst he
                    have e4 : stS G sm lik v k (fV x k K) q = stS G sm lik v k (fV x k N) q := Int.le_antisymm (stq_mono _ (fun i i0 i1 => hle i i0 (by omega))) (stq_mono _ (fun i i0 i1 => by rw [e1 i i0 (by omega)]; exact Int.le_refl _))
                    refine ⟨by omega, ?_⟩
                    rw [hac]; exact actF_congr e1
                  · rw [ha2 _ (by omega)]; exact e2 q q0 (by omega) hq
                · obtain ⟨q, q0, q1, hq⟩ := hz1 hz
                  exact ⟨q, q0, q1, by have := hLK q q0 q1; omega⟩
              · refine ih2 ((G 0 0) - (x7 + 1)).toNat (by omega) 1 (x7 + 1) _ L (by omega) (by omega) rfl hRL (Or.inr rfl) hle2 hd2 hr2 (fun hz => absurd hz (by decide)) (fun _ => ⟨x7, j0, by omega, by omega⟩)
        refine l144 _ 0 0 _ N (by omega) (by omega) rfl hR (Or.inl rfl) (fun q _ _ => Int.le_refl _) (fun q a b => by omega) (fun q _ _ => rfl) (fun _ => ⟨fun q _ _ => rfl, fun q a b => by omega⟩) (fun hz => absurd hz (by decide))
  have l9 : ∀ (n : Nat) (x5 : Int) (d6 d7 d8 : aL) (N : aM), 0 ≤ x5 → x5 ≤ (G 0 0) → ((G 0 0) - x5).toNat = n → ag (x + 1) (x + 2) M N → (∀ j, (j < k * 10 ∨ k * 10 + 10 ≤ j) → N (x + 1) j = M (x + 1) j ∧ N (x + 2) j = M (x + 2) j) → (∀ q, 0 ≤ q → q < x5 → fV x k N q = (if fxS G k q = true then bS G sm lik en v k q else 1152921504606846976) ∧ N (x + 2) (k * 10 + q) = -2) → Xs 110 (9, [some (some (vR x)), some (some (vI k)), some (some (vL (en k))), some none, some (some (vI (k * 10))), some (some (vI x5)), d6, d7, d8], [], (N, W)) (QV Q) := by
    intro n; induction n using Nat.strongRecOn with
    | _ n ih =>
      intro x5 d6 d7 d8 N h0 h1 hn hag hout hi
      have hGN := hNG N hag
      have hmN := hNm N hag
      have hcN := hNc N hag
      have hag1 : ag (x + 1) (x + 2) M (up_ N (x + 2) (k * 10 + x5) (-2)) := ag_tr hag (ag_up _ (by omega) (by omega))
      have hm1 := hNm _ hag1
      have hG1 := hNG _ hag1
      refine k_X9_solveKnown_9 _ _ _ _ _ _ _ _ _ _ _ ?_
      rw [hmN.1, hGN.1]
      have go : ∀ (val : Int) (d6 : aL), x5 < (G 0 0) → val = (if fxS G k x5 = true then bS G sm lik en v k x5 else 1152921504606846976) → Xs 110 (9, [some (some (vR x)), some (some (vI k)), some (some (vL (en k))), some none, some (some (vI (k * 10))), some (some (vI (x5 + 1))), d6, d7, d8], [], ((up_ (up_ N (x + 2) (k * 10 + x5) (-2)) (x + 1) (k * 10 + x5) val), W)) (QV Q) := by
        intro val d6 hlt hval
        refine ih ((G 0 0) - (x5 + 1)).toNat (by omega) (x5 + 1) d6 d7 d8 _ (by omega) (by omega) rfl (ag_tr hag1 (ag_up _ (by omega) (by omega))) (fun j hj => ?_) (fun q q0 q1 => ?_)
        · rw [up_j _ _ _ (by omega), up_b _ _ _ _ (by omega), up_b _ _ _ _ (by omega), up_j _ _ _ (by omega)]; exact hout j hj
        · unfold fV
          rw [up_b _ _ _ (b := x + 2) _ (by omega)]
          by_cases he : q = x5
          · subst he; rw [up_s, up_s]; exact ⟨hval, rfl⟩
          · rw [up_j _ _ _ (by omega), up_b _ _ _ _ (by omega), up_j _ _ _ (by omega)]; exact hi q q0 (by omega)
      have hb1 : x5 < (G 0 0) → okO 86 21 (x + 1) = true ∧ 0 ≤ k * 10 + x5 ∧ k * 10 + x5 < ln_ (x + 1) := fun _ => ⟨sv_a1 hx, by omega, by rw [sv_l1 hx]; omega⟩
      refine ⟨sv_o hx, ct_o hk, by omega, fun hge => ?_, fun hlt => ⟨sv_o hx, sv_o hx, ct_o hk, ⟨ct_a5 hk, h0, by rw [ct_l5 hk]; omega⟩, ?_⟩⟩
      · have e3 : x5 = (G 0 0) := by omega
        subst e3
        have hD : ∀ q, 0 ≤ q → q < (G 0 0) → v k q ≤ fV x k N q ∧ fV x k N q ≤ 1152921504606846976 := fun q q0 q1 => by
          rw [(hi q q0 q1).1]
          have hd := hvk q q0 (by omega)
          have hr := hvr q q0 q1
          cases hfx : fxS G k q with
          | true => rw [if_pos rfl]; rw [hd.1 hfx] at hr ⊢; omega
          | false => rw [if_neg (by decide)]; omega
        refine l121 _ 1 0 d7 d8 N (by omega) (by omega) rfl ⟨hag, hout, fun q q0 q1 => ⟨hD q q0 q1, fun hfx => ?_, fun hfx => ?_⟩⟩ (Or.inl ⟨rfl, by omega⟩)
        · have := hi q q0 q1; rw [if_pos hfx] at this; exact this
        · have := hi q q0 q1; rw [if_neg (by rw [hfx]; decide)] at this
          rw [this.1]; exact stq_le_I _ _ _ _ _ _
      · have hs64 := hw.sn64 h0 (show x5 < 10 by omega)
        rw [hGN.2.2.2.2.2.1]
        refine s_X2_firstMissing hcN k0 (by omega) hs64.1 hs64.2 ?_
        have hfm := fm_cs k ((G 5 x5))
        have hfmr : -1 ≤ fm_ k ((G 5 x5)) ∧ fm_ k ((G 5 x5)) < 6 := by rcases hfm with hh | hh <;> omega
        rw [hm1.1, hG1.1]
        refine ⟨sv_o hx, ⟨sv_a2 hx, by omega, by rw [sv_l2 hx]; omega⟩, sv_o hx, ct_o hk, by omega, fun hne => ⟨sv_o hx, by omega, fun hge0 => ⟨sv_o hx, ?_⟩, fun hlt0 => ⟨hb1 (by omega), go _ _ (by omega) ?_⟩⟩, fun heq => ⟨sv_o hx, hb1 (by omega), go _ _ (by omega) ?_⟩⟩
        · have hm := fm_in hw h0 (show x5 < 10 by omega) (k := k) (by omega)
          refine s_X9_learnt hx ha hw hm1 hl k0 k1 hlk h0 (by omega) (by omega) hm.1 hm.2.1 (hc.row (by omega) (fun j hj => ?_)) hv (fun e1 e2 => ⟨hb1 (by omega), go _ _ (by omega) ?_⟩)
          · rw [up_b _ _ _ _ (by omega)]; exact (hout j (by omega)).1
          · rw [if_pos (show fxS G k x5 = true from decide_eq_true (Or.inr (by omega)))]
            unfold bS; rw [if_neg hne]
        · rw [if_neg (show ¬ fxS G k x5 = true from fun hh => by rcases of_decide_eq_true hh with hh | hh <;> omega)]
        · have hgo : x5 = (G 0 7) := Classical.byContradiction heq
          rw [if_pos (show fxS G k x5 = true from decide_eq_true (Or.inl hgo))]
          unfold bS; rw [if_pos hgo]
  refine e_X9_solveKnown _ _ _ _ _ _ ?_
  intro v1 hv1
  rw [hv1]
  exact l9 _ 0 _ _ _ M (by omega) (by omega) rfl (ag_refl _ _ _) (fun _ _ => ⟨rfl, rfl⟩) (fun q a b => by omega)
