/-! THE REFERENCE: a known is laid -/
def frO (M N : aM) : Prop := ∀ b j, b ≠ 105 → b ≠ 106 → b ≠ 110 → b ≠ 111 → b ≠ 112 → N b j = M b j
theorem frO_refl (M : aM) : frO M M := fun _ _ _ _ _ _ _ => rfl
theorem frO_tr {M N K : aM} (h1 : frO M N) (h2 : frO N K) : frO M K := fun b j a1 a2 a3 a4 a5 => (h2 b j a1 a2 a3 a4 a5).trans (h1 b j a1 a2 a3 a4 a5)
theorem frO_up {M : aM} {b i v : Int} (h : b = 105 ∨ b = 106 ∨ b = 110 ∨ b = 111 ∨ b = 112) : frO M (up_ M b i v) := fun x j a1 a2 a3 a4 a5 => up_b _ _ _ _ (by omega)
theorem frO.G {G : Lnd} {M N : aM} (h : frO M N) (hG : rfG G M) : rfG G N := hG.of (fun b j hb => h b j (by unfold inG at hb; omega) (by unfold inG at hb; omega) (by unfold inG at hb; omega) (by unfold inG at hb; omega) (by unfold inG at hb; omega))
/-- rows of values and acts but for one known's -/
def rowE (at1 : Int) (M N : aM) : Prop := ∀ j, (j < at1 ∨ at1 + 10 ≤ j) → N 105 j = M 105 j ∧ N 106 j = M 106 j
/-- what a known's row says when it is laid -/
def rowD (G : Lnd) (sl sm : Int) (lik : Int → Int) (v : Int → Int → Int) (k : Int) (N : aM) : Prop := ∀ p, 0 ≤ p → p < (G 0 0) → fm_ k ((G 5 p)) < 0 → N 105 (7290 * sl + 10 * k + p) = upV (v k p) ∧ N 106 (7290 * sl + 10 * k + p) = actS G sm lik v k p
theorem seen_le {G : Lnd} (hw : WF G) {k d s p : Int} (k0 : 0 ≤ k) (k1 : k < thr_ ((G 0 3))) (d0 : 0 ≤ d) (d1 : d < (G 0 3)) (hd : dg k d = 0) (s0 : 1 ≤ s) (s1 : s < 3) (h : fm_ k ((G 5 p)) < 0) : fm_ (k + s * thr_ d) ((G 5 p)) < 0 := by
  have hN := hw.N; unfold wfN at hN
  have ht := thrG hw
  rw [seen_fm] at h ⊢
  intro i i0 i6 hb
  rw [dg_add k0 (by omega) d0 (by omega) i0 i6 hd ⟨by omega, s1⟩]
  by_cases e : i = d
  · rw [if_pos e]; omega
  · rw [if_neg e]; exact h i i0 i6 hb
set_option maxHeartbeats 1000000 in
theorem s_X12_layOne {M : aM} {W : aW} {Q : aM → aW → Prop} {G : Lnd} {sl sm k : Int} {lik en : Int → Int} {v : Int → Int → Int} (hG : rfG G M) (hg0 : 0 ≤ (G 0 7)) (sl0 : 0 ≤ sl) (sl1 : sl < 4) (hsm : sm = 0 ∨ sm = 1) (hl : likO G lik) (hml : ∀ k, 0 ≤ k → k < thr_ ((G 0 3)) → M 103 k = lik k) (hB : vB G lik v) (hS : ∀ p, 0 ≤ p → p < (G 0 0) → vS G sm lik v p) (k0 : 0 ≤ k) (k1 : k < thr_ ((G 0 3))) (hlk : 0 < lik k) (hvk : isVk G sm lik en v k (v k)) (he0 : sm = 0 → M 109 k = en k) (he1 : sm ≠ 0 → en k = 0) (hen : en k < 1000000000000000000)
    (hT : ∀ k', 0 ≤ k' → k' < thr_ ((G 0 3)) → 0 < lik k' → unk G k' < unk G k → rowD G sl sm lik v k' M) (hI : ∀ p, 0 ≤ p → p < (G 0 0) → M 105 (7290 * sl + 10 * k + p) = 4000000000000000000 ∧ M 106 (7290 * sl + 10 * k + p) = -2)
    (h : ∀ N, frO M N → rowE (7290 * sl + 10 * k) M N → rowD G sl sm lik v k N → Q N W) : CallV 214 [vR 86, vI sl, vI sm, vI k] (M, W) Q := by
  have hn := hG.n
  have ht := hG.t
  have hw := hG.W
  have hst := st_rng (sm := sm) hl k0 k1 hlk
  have hbk := hB k k0 k1 hlk
  have fixD := fixR hw hl hB k0 k1 hlk hvk
  have a0 : 0 ≤ 7290 * sl + 10 * k := by omega
  have a1 : 7290 * sl + 10 * k ≤ 29150 := by omega
  generalize hat : 7290 * sl + 10 * k = at1 at a0 a1
  have hrow : ∀ k' q, 0 ≤ k' → k' < thr_ ((G 0 3)) → k' ≠ k → 0 ≤ q → q < (G 0 0) → 7290 * sl + 10 * k' + q < at1 ∨ at1 + 10 ≤ 7290 * sl + 10 * k' + q := fun k' q b1 b2 b3 b4 b5 => by omega
  have hdR : ∀ p, 0 ≤ p → p < (G 0 0) → -2000000000000000 ≤ upV (v k p) ∧ upV (v k p) ≤ 4000000000000000000 := fun p p0 p1 => upV_rng (by have := hbk p p0 p1; omega)
  have hbo : ∀ w, 0 ≤ w → w < (G 0 5) → dg k (G 7 w) = 0 → fm_ k ((G 5 (G 6 w))) < 0 → rO (boV G sm lik v k w) := fun w w0 w1 hd _ => by
    have hWw := hw.W w w0 w1
    have := leV_B hw (sm := sm) hl hB k0 k1 hlk hWw.2.1.1 hWw.2.1.2 hd hWw.1.1 hWw.1.2
    have := upV_rng this.1
    unfold boV rO; omega
  -- the acts
  have l320 : ∀ (n : Nat) (x7 x8 : Int) (d9 d10 : aL) (N : aM), 0 ≤ x8 → x8 ≤ (G 0 0) → ((G 0 0) - x8).toNat = n → frO M N → scM G k (boV G sm lik v k) N → rowE at1 M N → (∀ q, 0 ≤ q → q < (G 0 0) → rvR G at1 k N q = upV (v k q)) → (∀ q, 0 ≤ q → q < x8 → fm_ k ((G 5 q)) < 0 → N 106 (at1 + q) = actS G sm lik v k q) → (∀ q, x8 ≤ q → q < (G 0 0) → N 106 (at1 + q) = -2) → Xs 214 (320, [some (some (vR 86)), some (some (vI sl)), some (some (vI sm)), some (some (vI k)), some (some (vI at1)), some (some (vL (sT sm lik k))), some none, some (some (vI x7)), some (some (vI x8)), d9, d10], [], (N, W)) (QV Q) := by
    intro n; induction n using Nat.strongRecOn with
    | _ n ih =>
      intro x7 x8 d9 d10 N h0 h1 hn2 hf hsc hre hR hdn hre2
      have hGN := hf.G hG
      have nxt : (fm_ k ((G 5 x8)) < 0 → N 106 (at1 + x8) = actS G sm lik v k x8) → x8 < (G 0 0) → Xs 214 (320, [some (some (vR 86)), some (some (vI sl)), some (some (vI sm)), some (some (vI k)), some (some (vI at1)), some (some (vL (sT sm lik k))), some none, some (some (vI x7)), some (some (vI (x8 + 1))), d9, d10], [], (N, W)) (QV Q) := fun hq hlt => ih ((G 0 0) - (x8 + 1)).toNat (by omega) x7 (x8 + 1) _ _ N (by omega) (by omega) rfl hf hsc hre hR (fun q q0 q1 hs => by
        by_cases e : q = x8
        · subst e; exact hq hs
        · exact hdn q q0 (by omega) hs) (fun q q0 q1 => hre2 q (by omega) q1)
      refine k_X12_layOne_320 _ _ _ _ _ _ _ _ _ _ _ _ ?_
      refine s_X12_places hGN ⟨by omega, fun hge => ?_, fun hlt => ⟨by omega, ?_⟩⟩
      · refine h N hf (by rw [hat]; exact hre) (fun p p0 p1 hs => ?_)
        have e := hR p p0 p1
        unfold rvR at e
        rw [if_pos hs] at e
        rw [hat]
        exact ⟨e, hdn p p0 (by omega) hs⟩
      · have h111 := hsc.1 x8 h0 (by omega)
        by_cases hs : fm_ k ((G 5 x8)) < 0
        · rw [if_pos hs] at h111
          rw [h111, hGN.N.2.2.2.2.2.2]
          refine ⟨by decide, fun y => absurd rfl y, fun _ => ⟨by omega, fun y => nxt (fun _ => ?_) (by omega), fun y => ⟨by omega, ?_⟩⟩⟩
          · rw [hre2 x8 (Int.le_refl _) (by omega)]; unfold actS; rw [if_pos y]
          · have hRx := hR x8 h0 (by omega)
            have e5 : N 105 (at1 + x8) = upV (v k x8) := by unfold rvR at hRx; rw [if_pos hs] at hRx; exact hRx
            have hd := hdR x8 h0 (by omega)
            have hx : fxS G k x8 = false := decide_eq_false (by omega)
            have hst2 : v k x8 = stq 1152921504606846976 (cS G sm lik k) (eS G sm lik v k) ((G 0 0)).toNat (v k) x8 := (hvk x8 h0 (by omega)).2 hx
            have hact : actS G sm lik v k x8 = actF G sm lik v k (v k) x8 := by unfold actS; rw [if_neg y, if_neg (by omega)]
            have hRf : rvR G at1 k N = rvR G at1 k N := rfl
            have hgo : ∀ j, 0 ≤ j → j < (G 0 0) → goF G (sT sm lik k) k (rvR G at1 k N) x8 j = goF G (sT sm lik k) k (fun q => upV (v k q)) x8 j := fun j j0 j1 => by
              unfold goF; rw [hR j j0 j1]
            rw [e5]
            refine ⟨by omega, fun z => nxt (fun _ => ?_) (by omega), fun z => ?_⟩
            · rw [hre2 x8 (Int.le_refl _) (by omega), hact]
              exact (act_top hst2 (by rcases upV_T (v := v k x8) with q | q <;> omega)).symm
            · have hV : v k x8 < 1152921504606846976 ∧ upV (v k x8) = v k x8 := by rcases upV_T (v := v k x8) with q | q <;> omega
              have stp : ∀ a, a = actS G sm lik v k x8 → (0 ≤ at1 + x8 ∧ at1 + x8 < 29160) ∧ Xs 214 (320, [some (some (vR 86)), some (some (vI sl)), some (some (vI sm)), some (some (vI k)), some (some (vI at1)), some (some (vL (sT sm lik k))), some none, some (some (vI x7)), some (some (vI (x8 + 1))), d9, d10], [], ((up_ N 106 (at1 + x8) a), W)) (QV Q) := by
                intro a ha
                refine ⟨by omega, ih ((G 0 0) - (x8 + 1)).toNat (by omega) x7 (x8 + 1) _ _ _ (by omega) (by omega) rfl (frO_tr hf (frO_up (by decide))) ⟨fun q q0 q1 => by rw [up_b _ _ _ _ (by decide)]; exact hsc.1 q q0 q1, fun w w0 w1 b1 b2 => by rw [up_b _ _ _ _ (by decide)]; exact hsc.2 w w0 w1 b1 b2⟩ (fun j hj => ⟨by rw [up_b _ _ _ _ (by decide)]; exact (hre j hj).1, by rw [up_j _ _ _ (by omega)]; exact (hre j hj).2⟩) (fun q q0 q1 => ?_) (fun q q0 q1 hs2 => ?_) (fun q q0 q1 => ?_)⟩
                · have := hR q q0 q1
                  unfold rvR at this ⊢
                  rw [up_b _ _ _ _ (by decide), up_b _ _ _ _ (by decide)]; exact this
                · by_cases e : q = x8
                  · subst e; rw [up_s]; exact ha
                  · rw [up_j _ _ _ (by omega)]; exact hdn q q0 (by omega) hs2
                · rw [up_j _ _ _ (by omega)]; exact hre2 q (by omega) q1
              refine s_X12_firstOf hGN hsc a0 a1 (by omega) hst.2 h0 (by omega) hs k0 (by omega) (fun q q0 q1 => ?_) hbo (by rw [e5]; omega) (by rw [e5]; omega) (fun q q0 q1 c1 c2 => stp _ ?_) (fun w c0 w0 w1 c1 c2 => stp _ ?_) (fun c0 c1 => ?_)
              · rw [hR q q0 q1]; have := hdR q q0 q1; unfold rO; omega
              · rw [e5, hV.2] at c1 c2
                rw [hact]
                exact (act_q hw hl hB k0 k1 hlk h0 (by omega) hst2 hV.1 q0 q1 (by rw [← hgo q q0 q1]; exact c1) (fun j j0 j1 => by rw [← hgo j j0 (by omega)]; exact c2 j j0 j1)).symm
              · rw [e5, hV.2] at c0 c1 c2
                rw [hact]
                exact (act_w hw hl hB k0 k1 hlk h0 (by omega) hst2 hV.1 (fun j j0 j1 => by rw [← hgo j j0 j1]; exact c0 j j0 j1) w0 w1 c1 c2).symm
              · rw [e5, hV.2] at c0 c1
                exact (act_n hw hl hB k0 k1 hlk h0 (by omega) hst2 hV.1 (fun j j0 j1 => by rw [← hgo j j0 j1]; exact c0 j j0 j1) c1).elim
        · rw [if_neg hs] at h111
          rw [h111]
          exact ⟨by decide, fun _ => nxt (fun q => absurd q hs) (by omega), fun y => absurd (by decide) y⟩
  -- the rounds
  have l219 : ∀ (n : Nat) (x7 : Int) (d8 d9 d10 : aL) (N : aM), ((G 0 0)).toNat + 1 - cnt_ (fun q => decide (rvR G at1 k N q = upV (v k q))) ((G 0 0)).toNat + (if x7 = 0 then 0 else 1) = n → (x7 = 0 ∨ x7 = 1) → frO M N → scM G k (boV G sm lik v k) N → rowE at1 M N → (∀ q, 0 ≤ q → q < (G 0 0) → N 106 (at1 + q) = -2) → (∀ q, 0 ≤ q → q < (G 0 0) → (upV (v k q) ≤ rvR G at1 k N q ∧ rvR G at1 k N q ≤ 4000000000000000000) ∧ (fxS G k q = true → rvR G at1 k N q = upV (v k q)) ∧ (fxS G k q = false → stR G sm lik k (boV G sm lik v k) (rvR G at1 k N) q ≤ rvR G at1 k N q)) → (x7 = 0 → ∀ q, 0 ≤ q → q < (G 0 0) → rvR G at1 k N q = upV (v k q)) → Xs 214 (219, [some (some (vR 86)), some (some (vI sl)), some (some (vI sm)), some (some (vI k)), some (some (vI at1)), some (some (vL (sT sm lik k))), some none, some (some (vI x7)), d8, d9, d10], [], (N, W)) (QV Q) := by
    intro n; induction n using Nat.strongRecOn with
    | _ n ih =>
      intro x7 d8 d9 d10 N hn2 hx7 hf hsc hre h106 hR hz
      have hGN := hf.G hG
      refine k_X12_layOne_219 _ _ _ _ _ _ _ _ _ _ _ _ ?_
      refine ⟨by omega, fun q => ?_, fun q => ?_⟩
      · exact l320 _ x7 0 _ _ N (by decide) (by omega) rfl hf hsc hre (hz q) (fun q a b => by omega) (fun q q0 q1 => h106 q q0 q1)
      · have l230 : ∀ (m : Nat) (y7 x8 : Int) (d9 d10 : aL) (K : aM), 0 ≤ x8 → x8 ≤ (G 0 0) → ((G 0 0) - x8).toNat = m → (y7 = 0 ∨ y7 = 1) → frO M K → scM G k (boV G sm lik v k) K → rowE at1 M K → (∀ q, 0 ≤ q → q < (G 0 0) → K 106 (at1 + q) = -2) → (∀ q, 0 ≤ q → q < (G 0 0) → (upV (v k q) ≤ rvR G at1 k K q ∧ rvR G at1 k K q ≤ 4000000000000000000) ∧ (fxS G k q = true → rvR G at1 k K q = upV (v k q)) ∧ (fxS G k q = false → stR G sm lik k (boV G sm lik v k) (rvR G at1 k K) q ≤ rvR G at1 k K q)) → (∀ q, 0 ≤ q → q < (G 0 0) → rvR G at1 k K q ≤ rvR G at1 k N q) → (∀ q, 0 ≤ q → q < x8 → fxS G k q = false → rvR G at1 k K q ≤ stR G sm lik k (boV G sm lik v k) (rvR G at1 k N) q) → (∀ q, x8 ≤ q → q < (G 0 0) → rvR G at1 k K q = rvR G at1 k N q) → (y7 = 0 → ∀ q, 0 ≤ q → q < (G 0 0) → rvR G at1 k K q = rvR G at1 k N q) → (y7 = 1 → exW ((G 0 0)) (rvR G at1 k K) (rvR G at1 k N)) → Xs 214 (230, [some (some (vR 86)), some (some (vI sl)), some (some (vI sm)), some (some (vI k)), some (some (vI at1)), some (some (vL (sT sm lik k))), some none, some (some (vI y7)), some (some (vI x8)), d9, d10], [], (K, W)) (QV Q) := by
          intro m; induction m using Nat.strongRecOn with
          | _ m ih2 =>
            intro y7 x8 d9 d10 K h0 h1 hm hy7 hfK hscK hreK h106K hRK hle hdone hrest hz0 hz1
            have hGK := hfK.G hG
            refine k_X12_layOne_230 _ _ _ _ _ _ _ _ _ _ _ _ ?_
            refine s_X12_places hGK ⟨by omega, fun hge => ?_, fun hlt => ⟨by omega, ?_⟩⟩
            · have e8 : x8 = (G 0 0) := by omega
              subst e8
              rcases hy7 with hy | hy
              · -- nothing has changed
                have e1 := hz0 hy
                have hfix : isFix 4000000000000000000 (cR G sm lik k) (eR G (sT sm lik k) k (boV G sm lik v k)) (fxS G k) (fun p => upV (v k p)) ((G 0 0)).toNat (rvR G at1 k K) := by
                  intro p p0 p1
                  have hp := hRK p p0 (by omega)
                  refine ⟨hp.2.1, fun hx => ?_⟩
                  have q1 := hp.2.2 hx
                  have q2 := hdone p p0 (by omega) hx
                  have q3 : stR G sm lik k (boV G sm lik v k) (rvR G at1 k N) p = stR G sm lik k (boV G sm lik v k) (rvR G at1 k K) p := Int.le_antisymm (stq_mono _ (fun i i0 i1 => by rw [e1 i i0 (by omega)]; exact Int.le_refl _)) (stq_mono _ (fun i i0 i1 => by rw [e1 i i0 (by omega)]; exact Int.le_refl _))
                  show rvR G at1 k K p = stR G sm lik k (boV G sm lik v k) (rvR G at1 k K) p
                  omega
                have heq := fix_uniq hfix fixD
                have hall : ∀ q, 0 ≤ q → q < (G 0 0) → rvR G at1 k K q = upV (v k q) := fun q q0 q1 => heq q q0 (by omega)
                have c1 := cnt_le (fun q => decide (rvR G at1 k K q = upV (v k q))) ((G 0 0)).toNat
                have c2 : cnt_ (fun q => decide (rvR G at1 k K q = upV (v k q))) ((G 0 0)).toNat = cnt_ (fun q => decide (rvR G at1 k N q = upV (v k q))) ((G 0 0)).toNat := by
                  refine Nat.le_antisymm (cnt_mono _ (fun i i0 i1 hi => ?_)) (cnt_mono _ (fun i i0 i1 hi => ?_))
                  · rw [e1 i i0 (by omega)] at hi; exact hi
                  · rw [e1 i i0 (by omega)]; exact hi
                refine ih _ ?_ y7 _ _ _ K rfl (Or.inl hy) hfK hscK hreK h106K hRK (fun _ => hall)
                rw [if_pos hy, c2]; rw [if_neg q] at hn2; omega
              · obtain ⟨z, z0, z1, hzz⟩ := hz1 hy
                have hr := fix_round fixD (f := rvR G at1 k N) (f' := rvR G at1 k K) (fun p p0 p1 => by
                  have hp1 : p < (G 0 0) := by omega
                  refine ⟨(hRK p p0 hp1).1.1, hle p p0 hp1, (hR p p0 hp1).2.1, fun hx => ⟨(hR p p0 hp1).1.2, hdone p p0 hp1 hx⟩⟩) (fun hall => by
                  have b1 := hall z z0 (by omega); have b2 := (hRK z z0 z1).1.1
                  have b3 : rvR G at1 k N z = upV (v k z) := b1
                  omega)
                have c1 := cnt_le (fun q => decide (rvR G at1 k K q = upV (v k q))) ((G 0 0)).toNat
                have hr' : cnt_ (fun q => decide (rvR G at1 k N q = upV (v k q))) ((G 0 0)).toNat < cnt_ (fun q => decide (rvR G at1 k K q = upV (v k q))) ((G 0 0)).toNat := hr
                refine ih _ ?_ y7 _ _ _ K rfl (Or.inr hy) hfK hscK hreK h106K hRK (fun e => by omega)
                rw [if_neg (by omega)]; rw [if_neg q] at hn2; omega
            · have h111 := hscK.1 x8 h0 (by omega)
              have skip : fxS G k x8 = true → Xs 214 (230, [some (some (vR 86)), some (some (vI sl)), some (some (vI sm)), some (some (vI k)), some (some (vI at1)), some (some (vL (sT sm lik k))), some none, some (some (vI y7)), some (some (vI (x8 + 1))), d9, d10], [], (K, W)) (QV Q) := fun hx => ih2 ((G 0 0) - (x8 + 1)).toNat (by omega) y7 (x8 + 1) _ _ K (by omega) (by omega) rfl hy7 hfK hscK hreK h106K hRK hle (fun q q0 q1 hq => by
                by_cases e : q = x8
                · rw [e, hx] at hq; cases hq
                · exact hdone q q0 (by omega) hq) (fun q q0 q1 => hrest q (by omega) q1) hz0 hz1
              by_cases hs : fm_ k ((G 5 x8)) < 0
              · rw [if_pos hs] at h111
                rw [h111, hGK.N.2.2.2.2.2.2]
                refine ⟨by decide, fun y => absurd rfl y, fun _ => ⟨by omega, fun hgx => ?_, fun y => skip (decide_eq_true (Or.inl (by omega)))⟩⟩
                have hx : fxS G k x8 = false := decide_eq_false (by omega)
                have hK8 := hRK x8 h0 (by omega)
                have e5 : rvR G at1 k K x8 = K 105 (at1 + x8) := if_pos hs
                refine s_X12_least hGK hscK a0 a1 (by omega) hst.2 h0 (by omega) hs k0 (by omega) (fun q q0 q1 => ?_) hbo (fun hi => ?_)
                · have := hRK q q0 q1; have := hdR q q0 q1; unfold rO; omega
                · rw [lsF_st hw hl k0 k1 hlk h0 (by omega)] at hi ⊢
                  have hls := hK8.2.2 hx
                  have hlD : upV (v k x8) ≤ stR G sm lik k (boV G sm lik v k) (rvR G at1 k K) x8 := fix_above fixD (fun p p0 p1 => (hRK p p0 (by omega)).1.1) h0 (by omega) hx
                  rw [← e5]
                  have hdx := hdR x8 h0 (by omega)
                  have hrx := hrest x8 (Int.le_refl _) (by omega)
                  have mono : stR G sm lik k (boV G sm lik v k) (rvR G at1 k K) x8 ≤ stR G sm lik k (boV G sm lik v k) (rvR G at1 k N) x8 := stq_mono _ (fun i i0 i1 => hle i i0 (by omega))
                  refine ⟨by omega, ⟨hi, by omega⟩, fun y => ?_, fun y => ⟨by omega, ?_⟩⟩
                  · refine ih2 ((G 0 0) - (x8 + 1)).toNat (by omega) y7 (x8 + 1) _ _ K (by omega) (by omega) rfl hy7 hfK hscK hreK h106K hRK hle (fun q q0 q1 hq => ?_) (fun q q0 q1 => hrest q (by omega) q1) hz0 hz1
                    by_cases e : q = x8
                    · subst e; omega
                    · exact hdone q q0 (by omega) hq
                  · generalize hyy : stR G sm lik k (boV G sm lik v k) (rvR G at1 k K) x8 = yv at hi hls hlD mono y
                    have eL : ∀ q, 0 ≤ q → q < (G 0 0) → rvR G at1 k (up_ K 105 (at1 + x8) yv) q = if q = x8 then yv else rvR G at1 k K q := fun q q0 q1 => by
                      unfold rvR
                      rw [up_b _ _ _ _ (show (110 : Int) ≠ 105 by decide)]
                      by_cases e : q = x8
                      · subst e; rw [if_pos hs, if_pos rfl, up_s]
                      · rw [if_neg e, up_j _ _ _ (by omega)]
                    have hLK : ∀ q, 0 ≤ q → q < (G 0 0) → rvR G at1 k (up_ K 105 (at1 + x8) yv) q ≤ rvR G at1 k K q := fun q q0 q1 => by
                      rw [eL q q0 q1]; split
                      · rename_i e; subst e; omega
                      · exact Int.le_refl _
                    refine ih2 ((G 0 0) - (x8 + 1)).toNat (by omega) 1 (x8 + 1) _ _ _ (by omega) (by omega) rfl (Or.inr rfl) (frO_tr hfK (frO_up (by decide))) ⟨fun q q0 q1 => by rw [up_b _ _ _ _ (by decide)]; exact hscK.1 q q0 q1, fun w w0 w1 b1 b2 => by rw [up_b _ _ _ _ (by decide)]; exact hscK.2 w w0 w1 b1 b2⟩ (fun j hj => ⟨by rw [up_j _ _ _ (by omega)]; exact (hreK j hj).1, by rw [up_b _ _ _ _ (by decide)]; exact (hreK j hj).2⟩) (fun q q0 q1 => by rw [up_b _ _ _ _ (by decide)]; exact h106K q q0 q1) (fun q q0 q1 => ?_) (fun q q0 q1 => Int.le_trans (hLK q q0 q1) (hle q q0 q1)) (fun q q0 q1 hq => ?_) (fun q q0 q1 => ?_) (fun e => by omega) (fun _ => ⟨x8, h0, by omega, ?_⟩)
                    · have hq := hRK q q0 q1
                      have hm : stR G sm lik k (boV G sm lik v k) (rvR G at1 k (up_ K 105 (at1 + x8) yv)) q ≤ stR G sm lik k (boV G sm lik v k) (rvR G at1 k K) q := stq_mono _ (fun i i0 i1 => hLK i i0 (by omega))
                      rw [eL q q0 q1]
                      by_cases e : q = x8
                      · subst e
                        rw [if_pos rfl]
                        exact ⟨⟨hlD, by omega⟩, fun z => (by rw [hx] at z; cases z), fun _ => by omega⟩
                      · rw [if_neg e]
                        exact ⟨hq.1, hq.2.1, fun z => Int.le_trans hm (hq.2.2 z)⟩
                    · rw [eL q q0 (by omega)]
                      by_cases e : q = x8
                      · subst e; rw [if_pos rfl]; exact mono
                      · rw [if_neg e]; exact hdone q q0 (by omega) hq
                    · rw [eL q (by omega) q1, if_neg (by omega)]; exact hrest q (by omega) q1
                    · rw [eL x8 h0 (by omega), if_pos rfl]; omega
              · rw [if_neg hs] at h111
                rw [h111]
                exact ⟨by decide, fun _ => skip (decide_eq_true (Or.inr (by omega))), fun y => absurd (by decide) y⟩
        exact l230 _ 0 0 _ _ N (by decide) (by omega) rfl (Or.inl rfl) hf hsc hre h106 hR (fun q _ _ => Int.le_refl _) (fun q a b => by omega) (fun q _ _ => rfl) (fun _ q _ _ => rfl) (fun e => by omega)
  -- what comes in by words
  have l97 : ∀ (n : Nat) (x7 : Int) (d8 d9 d10 : aL) (N : aM), 0 ≤ x7 → x7 ≤ (G 0 5) → ((G 0 5) - x7).toNat = n → (∀ b j, b ≠ 110 → b ≠ 111 → b ≠ 112 → N b j = M b j) → (∀ q, 0 ≤ q → q < (G 0 0) → N 111 q = (if fm_ k ((G 5 q)) < 0 then 0 else 1) ∧ (0 ≤ fm_ k ((G 5 q)) → N 110 q = upV (v k q))) → (∀ w, 0 ≤ w → w < x7 → dg k (G 7 w) = 0 → fm_ k ((G 5 (G 6 w))) < 0 → N 112 w = boV G sm lik v k w) → Xs 214 (97, [some (some (vR 86)), some (some (vI sl)), some (some (vI sm)), some (some (vI k)), some (some (vI at1)), some (some (vL (sT sm lik k))), some none, some (some (vI x7)), d8, d9, d10], [], (N, W)) (QV Q) := by
    intro n; induction n using Nat.strongRecOn with
    | _ n ih =>
      intro x7 d8 d9 d10 N h0 h1 hn2 hfr hnw hbw
      have hfN : frO M N := fun b j _ _ c3 c4 c5 => hfr b j c3 c4 c5
      have hGN := hfN.G hG
      refine k_X12_layOne_97 _ _ _ _ _ _ _ _ _ _ _ _ ?_
      rw [hGN.N.2.2.2.2.1, hGN.N.2.2.2.2.2.2]
      refine ⟨by omega, fun hge => ⟨by omega, ?_⟩, fun hlt => ?_⟩
      · have fin : ∀ y, (fm_ k ((G 5 ((G 0 7)))) < 0 → y = en k) → (0 ≤ fm_ k ((G 5 ((G 0 7)))) → y = 4000000000000000000) → Xs 214 (219, [some (some (vR 86)), some (some (vI sl)), some (some (vI sm)), some (some (vI k)), some (some (vI at1)), some (some (vL (sT sm lik k))), some none, some (some (vI 1)), d8, d9, d10], [], ((up_ N 105 (at1 + (G 0 7)) y), W)) (QV Q) := by
          intro y hy1 hy2
          have hb : ∀ b j, b ≠ 105 → up_ N 105 (at1 + (G 0 7)) y b j = N b j := fun b j c => up_b _ _ _ _ c
          have eR1 : ∀ q, 0 ≤ q → q < (G 0 0) → rvR G at1 k (up_ N 105 (at1 + (G 0 7)) y) q = if fxS G k q = true then upV (v k q) else 4000000000000000000 := fun q q0 q1 => by
            unfold rvR
            rw [hb 110 q (by decide)]
            by_cases hs : fm_ k ((G 5 q)) < 0
            · rw [if_pos hs]
              by_cases e : q = (G 0 7)
              · have hx : fxS G k q = true := decide_eq_true (Or.inl e)
                have e1 : v k q = bS G sm lik en v k q := (hvk q q0 (by omega)).1 hx
                unfold bS at e1
                rw [if_pos e] at e1
                rw [if_pos hx, e, up_s, hy1 (by rw [← e]; exact hs), ← e, e1]
                have := hbk q q0 q1
                unfold upV; rw [if_pos (by omega)]
              · have hx : ¬ fxS G k q = true := fun c => by have := of_decide_eq_true c; omega
                rw [if_neg hx, up_j _ _ _ (by omega), hfr 105 _ (by decide) (by decide) (by decide), ← hat]
                exact (hI q q0 q1).1
            · have hx : fxS G k q = true := decide_eq_true (Or.inr (by omega))
              rw [if_neg hs, if_pos hx]; exact (hnw q q0 q1).2 (by omega)
          refine l219 _ 1 _ _ _ _ rfl (Or.inr rfl) (frO_tr hfN (frO_up (by decide))) ⟨fun q q0 q1 => by rw [hb 111 _ (by decide)]; exact (hnw q q0 q1).1, fun w w0 w1 c1 c2 => by rw [hb 112 _ (by decide)]; exact hbw w w0 (by omega) c1 c2⟩ (fun j hj => ⟨by rw [up_j _ _ _ (by omega)]; exact hfr 105 _ (by decide) (by decide) (by decide), by rw [hb 106 _ (by decide)]; exact hfr 106 _ (by decide) (by decide) (by decide)⟩) (fun q q0 q1 => by rw [hb 106 _ (by decide), hfr 106 _ (by decide) (by decide) (by decide), ← hat]; exact (hI q q0 q1).2) (fun q q0 q1 => ?_) (fun e => absurd e (by decide))
          have hd := hdR q q0 q1
          rw [eR1 q q0 q1]
          cases hx : fxS G k q with
          | true => rw [if_pos rfl]; exact ⟨⟨Int.le_refl _, hd.2⟩, fun _ => rfl, fun z => (by cases z)⟩
          | false =>
            rw [if_neg (by decide)]
            exact ⟨⟨hd.2, Int.le_refl _⟩, fun z => (by cases z), fun _ => stq_le_I _ _ _ _ _ _⟩
        have h111 := (hnw ((G 0 7)) hg0 (by omega)).1
        rw [h111]
        by_cases hs : fm_ k ((G 5 ((G 0 7)))) < 0
        · rw [if_pos hs]
          refine ⟨by decide, fun _ => ⟨by omega, fun z => ⟨by omega, by omega, fin _ (fun _ => ?_) (fun c => by omega)⟩, fun z => ⟨by omega, fin _ (fun _ => (he1 z).symm) (fun c => by omega)⟩⟩, fun y => absurd rfl y⟩
          rw [hfr 109 _ (by decide) (by decide) (by decide)]; exact he0 z
        · rw [if_neg hs]
          exact ⟨by decide, fun y => absurd y (by decide), fun _ => ⟨by omega, fin _ (fun c => absurd c hs) (fun _ => rfl)⟩⟩
      · have hWw := hw.W x7 h0 (by omega)
        have skip : ¬ (dg k (G 7 x7) = 0 ∧ fm_ k ((G 5 (G 6 x7))) < 0) → Xs 214 (97, [some (some (vR 86)), some (some (vI sl)), some (some (vI sm)), some (some (vI k)), some (some (vI at1)), some (some (vL (sT sm lik k))), some none, some (some (vI (x7 + 1))), d8, d9, d10], [], (N, W)) (QV Q) := fun hq => ih ((G 0 5) - (x7 + 1)).toNat (by omega) (x7 + 1) _ _ _ N (by omega) (by omega) rfl hfr hnw (fun w w0 w1 c1 c2 => by
          by_cases e : w = x7
          · subst e; exact absurd ⟨c1, c2⟩ hq
          · exact hbw w w0 (by omega) c1 c2)
        rw [(hGN.w96 h0 (by omega)).1]
        refine ⟨by omega, s_X12_isSold hGN h0 (by omega) (by omega) k0 (by omega) (fun z1 z2 => ⟨by decide, fun y => absurd y (by decide), fun _ => ?_⟩) (fun z => ⟨by decide, fun _ => skip (fun a => z ⟨rfl, a.1⟩), fun y => absurd rfl y⟩)⟩
        rw [(hGN.w96 h0 (by omega)).1]
        refine ⟨by omega, by omega, ?_⟩
        have h111 := (hnw (G 6 x7) hWw.1.1 hWw.1.2).1
        rw [h111]
        by_cases hs : fm_ k ((G 5 (G 6 x7))) < 0
        · rw [if_pos hs]
          refine ⟨by decide, fun y => absurd rfl y, fun _ => s_X12_buys (lik := lik) (v := v) hGN sl0 sl1 hsm hl (fun k' c0 c1 => by rw [hfr 103 _ (by decide) (by decide) (by decide)]; exact hml k' c0 c1) hB h0 (by omega) k0 k1 hlk z2 (fun s s0 s1 hlp => ?_) ⟨by omega, ?_⟩⟩
          · have hb := dg_lt (v := s) k0 (by omega) k1 hWw.2.1.1 hWw.2.1.2 z2 ⟨by omega, s1⟩
            rw [hfr 105 _ (by decide) (by decide) (by decide)]
            exact (hT _ hb.1 hb.2 hlp (unk_add hw k0 k1 hWw.2.1.1 hWw.2.1.2 z2 s0 s1) (G 6 x7) hWw.1.1 hWw.1.2 (seen_le hw k0 k1 hWw.2.1.1 hWw.2.1.2 z2 s0 s1 hs)).1
          · refine ih ((G 0 5) - (x7 + 1)).toNat (by omega) (x7 + 1) _ _ _ _ (by omega) (by omega) rfl (fun b j c1 c2 c3 => by rw [up_b _ _ _ _ c3]; exact hfr b j c1 c2 c3) (fun q q0 q1 => by rw [up_b _ _ _ _ (by decide), up_b _ _ _ _ (by decide)]; exact hnw q q0 q1) (fun w w0 w1 c1 c2 => ?_)
            by_cases e : w = x7
            · subst e; rw [up_s]; rfl
            · rw [up_j _ _ _ e]; exact hbw w w0 (by omega) c1 c2
        · rw [if_neg hs]
          exact ⟨by decide, fun _ => skip (fun a => hs a.2), fun y => absurd (by decide) y⟩
  -- what is news
  have l31 : ∀ (n : Nat) (x7 : Int) (d8 d9 d10 : aL) (N : aM), 0 ≤ x7 → x7 ≤ (G 0 0) → ((G 0 0) - x7).toNat = n → ag 110 111 M N → (∀ q, 0 ≤ q → q < x7 → N 111 q = (if fm_ k ((G 5 q)) < 0 then 0 else 1) ∧ (0 ≤ fm_ k ((G 5 q)) → N 110 q = upV (v k q))) → Xs 214 (31, [some (some (vR 86)), some (some (vI sl)), some (some (vI sm)), some (some (vI k)), some (some (vI at1)), some (some (vL (sT sm lik k))), some none, some (some (vI x7)), d8, d9, d10], [], (N, W)) (QV Q) := by
    intro n; induction n using Nat.strongRecOn with
    | _ n ih =>
      intro x7 d8 d9 d10 N h0 h1 hn2 hag hnw
      have hGN := hG.ag hag (by decide)
      refine k_X12_layOne_31 _ _ _ _ _ _ _ _ _ _ _ _ ?_
      refine s_X12_places hGN ⟨by omega, fun hge => ?_, fun hlt => s_X12_isSeen hGN h0 (by omega) k0 (by omega) (fun hs => ⟨by decide, fun _ => ?_, fun y => absurd (by decide) y⟩) (fun hs => ⟨by decide, fun y => absurd rfl y, fun _ => ?_⟩)⟩
      · exact l97 _ 0 _ _ _ N (by decide) (by omega) rfl (fun b j c1 c2 c3 => hag b j (by omega)) (fun q q0 q1 => hnw q q0 (by omega)) (fun w a b => by omega)
      · have hs' := seen_fm.mpr hs
        rw [up_s]
        refine ⟨by omega, by omega, by decide, fun _ => ?_, fun y => absurd rfl y⟩
        refine ih ((G 0 0) - (x7 + 1)).toNat (by omega) (x7 + 1) _ _ _ _ (by omega) (by omega) rfl (ag_tr hag (ag_up _ (by decide) (by decide))) (fun q q0 q1 => ?_)
        by_cases e : q = x7
        · subst e; rw [up_s, if_pos hs']; exact ⟨rfl, fun c => by omega⟩
        · rw [up_j _ _ _ e, up_b _ _ _ _ (by decide)]; exact hnw q q0 (by omega)
      · have hs' : ¬ fm_ k ((G 5 x7)) < 0 := fun c => hs (seen_fm.mp c)
        have hfr : ∀ b j, b ≠ 110 → b ≠ 111 → up_ N 111 x7 1 b j = M b j := fun b j c1 c2 => by rw [up_b _ _ _ _ c2]; exact hag b j (by omega)
        have hG2 := hGN.ag (ag_up (lo := 111) (hi := 111) N (a := 111) (i := x7) (v := 1) (by decide) (by decide)) (by decide)
        have hfm := fm_in hw h0 (show x7 < 10 by omega) (show 0 ≤ fm_ k ((G 5 x7)) by omega)
        rw [up_s]
        refine ⟨by omega, by omega, by decide, fun y => absurd y (by decide), fun _ => s_X12_arrives (lik := lik) (v := v) hG2 sl0 sl1 hsm hl (fun k' c0 c1 => by rw [hfr 103 _ (by decide) (by decide)]; exact hml k' c0 c1) hB (hS x7 h0 (by omega)) h0 (by omega) k0 k1 hlk (fun s s0 hlp => ?_) ⟨by omega, ?_⟩⟩
        · have hSn := hw.S.1 x7 h0 (by omega)
          have c1 := cp_rng k ((G 5 x7)) s
          have c2 := cp_lt hw (s := s) k0 k1 hSn.1 hSn.2
          rw [hfr 105 _ (by decide) (by decide)]
          exact (hT _ c1.1 c2 hlp (cp_unk hw (by omega) hfm.1 ⟨hfm.2.2, hfm.2.1⟩) x7 h0 (by omega) (seen_fm.mpr cp_seen)).1
        · refine ih ((G 0 0) - (x7 + 1)).toNat (by omega) (x7 + 1) _ _ _ _ (by omega) (by omega) rfl (ag_tr (ag_tr hag (ag_up _ (by decide) (by decide))) (ag_up _ (by decide) (by decide))) (fun q q0 q1 => ?_)
          rw [up_b _ _ _ _ (show (111 : Int) ≠ 110 by decide)]
          by_cases e : q = x7
          · subst e; rw [up_s, up_s, if_neg hs']; exact ⟨rfl, fun _ => rfl⟩
          · rw [up_j _ _ _ e, up_j _ _ _ e, up_b _ _ _ _ (by decide)]; exact hnw q q0 (by omega)
  refine e_X12_layOne _ _ _ _ _ _ ?_
  refine fun v1 e1 => ?_
  rw [hat] at e1
  subst e1
  have e : sT sm lik k = if sm = 0 then 1 else lik k := rfl
  refine ⟨by omega, fun q => ?_, fun q => ⟨by omega, ?_⟩⟩
  · rw [if_pos q] at e
    rw [← e]
    exact l31 _ 0 _ _ _ M (by decide) (by omega) rfl (ag_refl _ _ _) (fun q a b => by omega)
  · rw [if_neg q] at e
    rw [hml k k0 k1, ← e]
    exact l31 _ 0 _ _ _ M (by decide) (by omega) rfl (ag_refl _ _ _) (fun q a b => by omega)
