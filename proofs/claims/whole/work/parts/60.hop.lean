/-! THE REFERENCE: where to go as if, by hand; what a plan does -/
def wX (G : Lnd) (k x : Int) : Int := bs (fun i => if i < (G 0 3) ∧ (dg k i = 2 ∨ (dg k i = 0 ∧ x ≠ 6 ∧ x ≠ i)) then 1 else 0)
theorem bt_wX {G : Lnd} {k x i : Int} (i0 : 0 ≤ i) (i6 : i < 6) : bt (wX G k x) i = if i < (G 0 3) ∧ (dg k i = 2 ∨ (dg k i = 0 ∧ x ≠ 6 ∧ x ≠ i)) then 1 else 0 := bt_bs (fun i _ _ => by split <;> simp) i0 i6
theorem wX_rng (G : Lnd) (k x : Int) : 0 ≤ wX G k x ∧ wX G k x < 64 := bs_rng (fun i _ _ => by split <;> simp)
theorem wX_lt {G : Lnd} (hw : WF G) (k x : Int) : wX G k x < p2_ ((G 0 3)) := by
  have hN := hw.N; unfold wfN at hN
  have hr := wX_rng G k x
  refine lt_p2 hr.1 hr.2 (by omega) (by omega) (fun i i0 i6 => ?_)
  rw [bt_wX (by omega) i6, if_neg (fun a => by omega)]
theorem wX_as {G : Lnd} (hw : WF G) (k x : Int) : asX G k x (wX G k x) := by
  have hN := hw.N; unfold wfN at hN
  refine ⟨⟨(wX_rng G k x).1, wX_lt hw k x⟩, fun i i0 i1 => ?_⟩
  rw [bt_wX i0 (by omega)]
  have hd := dg_rng k i
  refine ⟨fun q => if_neg (fun a => by omega), fun q => if_pos ⟨i1, Or.inl q⟩, fun q => ⟨fun z => if_neg (fun a => ?_), fun z1 z2 => if_pos ⟨i1, Or.inr ⟨q, z1, z2⟩⟩⟩⟩
  rcases a.2 with b | ⟨-, b, c⟩
  · omega
  · rcases z with z | z
    · exact b z
    · exact c z
theorem asX_wX {G : Lnd} (hw : WF G) {k x w : Int} (h : asX G k x w) : w = wX G k x := by
  have hN := hw.N; unfold wfN at hN
  have h2 := wX_as hw k x
  have hr := wX_rng G k x
  have h64 := p2_lt64 hw
  obtain ⟨⟨w0, w1⟩, hi⟩ := h
  refine bt_ext w0 (by omega) hr.1 hr.2 (fun i i0 i6 => ?_)
  by_cases q : i < (G 0 3)
  · have a := hi i i0 q; have b := h2.2 i i0 q
    have hd := dg_rng k i
    rcases (show dg k i = 0 ∨ dg k i = 1 ∨ dg k i = 2 by omega) with e | e | e
    · by_cases z : x = 6 ∨ x = i
      · rw [(a.2.2 e).1 z, (b.2.2 e).1 z]
      · rw [(a.2.2 e).2 (fun c => z (Or.inl c)) (fun c => z (Or.inr c)), (b.2.2 e).2 (fun c => z (Or.inl c)) (fun c => z (Or.inr c))]
    · rw [a.1 e, b.1 e]
    · rw [a.2.1 e, b.2.1 e]
  · rw [bt_hi w0 (by omega) w1 (by omega) i6, bt_hi hr.1 (show 0 ≤ (G 0 3) by omega) (wX_lt hw k x) (by omega) i6]
theorem nxW_rng {G : Lnd} {w p : Int} (hP : 0 ≤ (G 0 0)) : nxW G w p = -2 ∨ (0 ≤ nxW G w p ∧ nxW G w p < (G 0 0)) := by
  unfold nxW
  split
  · exact Or.inl rfl
  · by_cases h : mn_ (cand 1000000 (cW G w) (dW G w) p) 1000000 ((G 0 0)).toNat < 1000000
    · have := am_first (g := cand 1000000 (cW G w) (dW G w) p) (top := 1000000) (d := -2) ((G 0 0)).toNat h
      exact Or.inr ⟨this.1, by omega⟩
    · have h2 := mn_le_top (cand 1000000 (cW G w) (dW G w) p) 1000000 ((G 0 0)).toNat
      exact Or.inl (am_dfl _ (by omega))
/-- how a next place is kept -/
noncomputable def hpV (y : Int) : Int := if y = -2 then 1 else y + 2
noncomputable def hpF (G : Lnd) (k x p : Int) : Int := hpV (nxW G (wX G k x) p)
def hopI (G : Lnd) (M : aM) : Prop := ∀ k x p, 0 ≤ k → k < thr_ ((G 0 3)) → -1 ≤ x → x ≤ 6 → 0 ≤ p → p < (G 0 0) → M 113 (80 * k + 10 * (x + 1) + p) = 0 ∨ M 113 (80 * k + 10 * (x + 1) + p) = hpF G k x p
def frH (M N : aM) : Prop := ∀ b j, b ≠ 104 → b ≠ 113 → N b j = M b j
theorem frH_refl (M : aM) : frH M M := fun _ _ _ _ => rfl
theorem frH_tr {M N K : aM} (h1 : frH M N) (h2 : frH N K) : frH M K := fun b j a c => (h2 b j a c).trans (h1 b j a c)
theorem frH.G {G : Lnd} {M N : aM} (h : frH M N) (hG : rfG G M) : rfG G N := hG.of (fun b j hb => h b j (by unfold inG at hb; omega) (by unfold inG at hb; omega))
/-- q may be the next place -/
def nxP (G : Lnd) (w a q : Int) : Prop := 0 < cW G w a q ∧ dW G w a < 1000000 ∧ dW G w q + cW G w a q = dW G w a
theorem nx_of {G : Lnd} (hw : WF G) {w a z : Int} (a0 : 0 ≤ a) (a1 : a < (G 0 0)) (hg : a ≠ (G 0 7)) (z0 : 0 ≤ z) (z1 : z < (G 0 0)) (h1 : nxP G w a z) (h2 : ∀ q, 0 ≤ q → q < z → ¬ nxP G w a q) : nxW G w a = z := by
  have hd : dW G w a = stW G w (dW G w) a := (dW_is G w a a0 (by omega)).2 (decide_eq_false hg)
  rw [stW_e] at hd
  unfold nxW
  rw [if_neg hg]
  obtain ⟨b0, b1, b2, b3⟩ := am_first (g := cand 1000000 (cW G w) (dW G w) a) (top := 1000000) (d := -2) ((G 0 0)).toNat (by have := h1.2.1; omega)
  have hc : ∀ q, nxP G w a q → cand 1000000 (cW G w) (dW G w) a q = dW G w a := fun q hq => by
    unfold cand; rw [if_pos hq.1]; exact hq.2.2
  have hc2 : ∀ q, cand 1000000 (cW G w) (dW G w) a q = dW G w a → nxP G w a q := fun q hq => by
    unfold cand at hq
    have := h1.2.1
    by_cases c : 0 < cW G w a q
    · rw [if_pos c] at hq; exact ⟨c, this, hq⟩
    · rw [if_neg c] at hq; omega
  exact first_uniq (v := dW G w a) b0 z0 (by omega) (hc z h1) (fun j j0 j1 => by have := b3 j j0 j1; omega) (fun j j0 j1 e => h2 j j0 j1 (hc2 j e))
theorem nx_no {G : Lnd} (hw : WF G) {w a : Int} (a0 : 0 ≤ a) (a1 : a < (G 0 0)) (h2 : a ≠ (G 0 7) → ∀ q, 0 ≤ q → q < (G 0 0) → ¬ nxP G w a q) : nxW G w a = -2 := by
  unfold nxW
  by_cases hg : a = (G 0 7)
  · rw [if_pos hg]
  · rw [if_neg hg]
    have hd : dW G w a = stW G w (dW G w) a := (dW_is G w a a0 (by omega)).2 (decide_eq_false hg)
    rw [stW_e] at hd
    have t := mn_le_top (cand 1000000 (cW G w) (dW G w) a) 1000000 ((G 0 0)).toNat
    by_cases h : mn_ (cand 1000000 (cW G w) (dW G w) a) 1000000 ((G 0 0)).toNat < 1000000
    · obtain ⟨b0, b1, b2, b3⟩ := am_first (g := cand 1000000 (cW G w) (dW G w) a) (top := 1000000) (d := -2) ((G 0 0)).toNat h
      exfalso
      refine h2 hg _ b0 (by omega) ?_
      unfold cand at b2
      by_cases c : 0 < cW G w a (am_ (cand 1000000 (cW G w) (dW G w) a) 1000000 (-2) ((G 0 0)).toNat)
      · unfold cand at c
        rw [if_pos c] at b2
        exact ⟨c, by omega, by unfold cand; unfold cand at hd; omega⟩
      · unfold cand at c
        rw [if_neg c] at b2
        unfold cand at h
        omega
    · exact am_dfl _ (by omega)
theorem s_X12_hopAt {M : aM} {W : aW} {Q : Int → aM → aW → Prop} {G : Lnd} {k x p : Int} (hG : rfG G M) (hH : hopI G M) (k0 : 0 ≤ k) (k1 : k < thr_ ((G 0 3))) (x0 : -1 ≤ x) (x1 : x ≤ 6) (p0 : 0 ≤ p) (p1 : p < (G 0 0))
    (h : ∀ N, frH M N → hopI G N → Q (nxW G (wX G k x) p) N W) : CallI 224 [vR 86, vI k, vI x, vI p] (M, W) Q := by
  have hn := hG.n
  have ht := hG.t
  have hw := hG.W
  have hA := wX_as hw k x
  have ans : ∀ N, frH M N → hopI G N → N 113 (80 * k + 10 * (x + 1) + p) = hpF G k x p → (0 ≤ 80 * k + 10 * (x + 1) + p ∧ 80 * k + 10 * (x + 1) + p < 58320) ∧ inI (N 113 (80 * k + 10 * (x + 1) + p)) ∧ ((N 113 (80 * k + 10 * (x + 1) + p) ≠ 1 → (0 ≤ 80 * k + 10 * (x + 1) + p ∧ 80 * k + 10 * (x + 1) + p < 58320) ∧ Q (N 113 (80 * k + 10 * (x + 1) + p) - 2) N W) ∧ (¬ N 113 (80 * k + 10 * (x + 1) + p) ≠ 1 → Q (-2) N W)) := by
    intro N hf hI e
    have hq := h N hf hI
    have hr := nxW_rng (G := G) (w := wX G k x) (p := p) (by omega)
    rw [e]
    unfold hpF hpV
    generalize nxW G (wX G k x) p = y at hq hr
    by_cases c : y = -2
    · rw [if_pos c]
      exact ⟨by omega, by decide, fun z => absurd rfl z, fun _ => by rw [c] at hq; exact hq⟩
    · rw [if_neg c]
      exact ⟨by omega, by omega, fun _ => ⟨by omega, by rw [show y + 2 - 2 = y by omega]; exact hq⟩, fun z => by omega⟩
  have l34 : ∀ (n : Nat) (x5 : Int) (d6 d7 d8 : aL) (N : aM), 0 ≤ x5 → x5 ≤ (G 0 0) → ((G 0 0) - x5).toNat = n → frH M N → hopI G N → eqF G (wX G k x) N → (∀ q, 0 ≤ q → q < x5 → N 113 (80 * k + 10 * (x + 1) + q) = hpF G k x q) → Xs 224 (34, [some (some (vR 86)), some (some (vI k)), some (some (vI x)), some (some (vI p)), some (some (vI (80 * k + 10 * (x + 1)))), some (some (vI x5)), d6, d7, d8], [], (N, W)) (QI Q) := by
    intro n; induction n using Nat.strongRecOn with
    | _ n ih =>
      intro x5 d6 d7 d8 N h0 h1 hn2 hf hI hN2 hd
      have hGN := hf.G hG
      refine k_X12_hopAt_34 _ _ _ _ _ _ _ _ _ _ _ ?_
      refine s_X12_places hGN ⟨by omega, fun hge => ?_, fun hlt => ⟨by omega, ?_⟩⟩
      · have := ans N hf hI (hd p p0 (by omega))
        exact this
      · have hf2 : frH M (up_ N 113 (80 * k + 10 * (x + 1) + x5) 1) := frH_tr hf (fun b j c1 c2 => up_b _ _ _ _ c2)
        refine s_X12_places (hf2.G hG) (fun v7 e7 => ?_)
        have l62 : ∀ (m : Nat) (x6 : Int) (d7 d8 : aL) (K : aM), -1 ≤ x6 → x6 < (G 0 0) → (x6 + 1).toNat = m → frH M K → (∀ j, j ≠ 80 * k + 10 * (x + 1) + x5 → K 113 j = N 113 j) → eqF G (wX G k x) K → ((K 113 (80 * k + 10 * (x + 1) + x5) = 1 ∧ (x5 ≠ (G 0 7) → ∀ q, x6 < q → q < (G 0 0) → ¬ nxP G (wX G k x) x5 q)) ∨ (x5 ≠ (G 0 7) ∧ x6 < K 113 (80 * k + 10 * (x + 1) + x5) - 2 ∧ K 113 (80 * k + 10 * (x + 1) + x5) - 2 < (G 0 0) ∧ nxP G (wX G k x) x5 (K 113 (80 * k + 10 * (x + 1) + x5) - 2) ∧ ∀ q, x6 < q → q < K 113 (80 * k + 10 * (x + 1) + x5) - 2 → ¬ nxP G (wX G k x) x5 q)) → Xs 224 (62, [some (some (vR 86)), some (some (vI k)), some (some (vI x)), some (some (vI p)), some (some (vI (80 * k + 10 * (x + 1)))), some (some (vI x5)), some (some (vI x6)), d7, d8], [], (K, W)) (QI Q) := by
          intro m; induction m using Nat.strongRecOn with
          | _ m ih2 =>
            intro x6 d7 d8 K j0 j1 hm hfK h113 hK2 hP
            have hGK := hfK.G hG
            -- the row is done
            have done : (x6 = -1 ∨ x5 = (G 0 7)) → Xs 224 (34, [some (some (vR 86)), some (some (vI k)), some (some (vI x)), some (some (vI p)), some (some (vI (80 * k + 10 * (x + 1)))), some (some (vI (x5 + 1))), some (some (vI x6)), d7, d8], [], (K, W)) (QI Q) := by
              intro hx
              have hv : K 113 (80 * k + 10 * (x + 1) + x5) = hpF G k x x5 := by
                unfold hpF hpV
                rcases hP with ⟨a, b⟩ | ⟨a, b1, b2, b3, b4⟩
                · rw [nx_no hw h0 (by omega) (fun c q q0 q1 => b c q (by rcases hx with e | e <;> omega) q1), if_pos rfl]; exact a
                · rw [nx_of hw h0 (by omega) a (by rcases hx with e | e <;> omega) b2 b3 (fun q q0 q1 => b4 q (by rcases hx with e | e <;> omega) q1), if_neg (by rcases hx with e | e <;> omega)]; omega
              refine ih ((G 0 0) - (x5 + 1)).toNat (by omega) (x5 + 1) _ _ _ K (by omega) (by omega) rfl hfK (fun k' x' p' a1 a2 a3 a4 a5 a6 => ?_) hK2 (fun q q0 q1 => ?_)
              · by_cases e : 80 * k' + 10 * (x' + 1) + p' = 80 * k + 10 * (x + 1) + x5
                · have e1 : p' = x5 := by omega
                  have e2 : x' = x := by omega
                  have e3 : k' = k := by omega
                  subst e1; subst e2; subst e3
                  exact Or.inr hv
                · rw [h113 _ e]; exact hI k' x' p' a1 a2 a3 a4 a5 a6
              · by_cases e : q = x5
                · subst e; exact hv
                · rw [h113 _ (by omega)]; exact hd q q0 (by omega)
            refine k_X12_hopAt_62 _ _ _ _ _ _ _ _ _ _ _ ?_
            refine ⟨by omega, fun hlt6 => done (Or.inl (by omega)), fun hge6 => ?_⟩
            rw [hGK.N.2.2.2.2.2.2, hGK.b98 h0 (by omega) (by omega) (by omega)]
            have hbl := hw.btw_lt h0 (show x5 < 10 by omega) (show 0 ≤ x6 by omega) (show x6 < 10 by omega)
            have hb := pasB_hr hw (p := x5) (q := x6) (op := sDif (allD G) (wX G k x)) (sh := wX G k x) h0 (by omega) (by omega) (by omega)
            refine ⟨by omega, fun y => done (Or.inr y), fun hg => ⟨by omega, fun v1 e1 => ?_⟩⟩
            -- not the next place
            have skip : ∀ (d7 d8 : aL), ¬ nxP G (wX G k x) x5 x6 → Xs 224 (62, [some (some (vR 86)), some (some (vI k)), some (some (vI x)), some (some (vI p)), some (some (vI (80 * k + 10 * (x + 1)))), some (some (vI x5)), some (some (vI (x6 + (-1)))), d7, d8], [], (K, W)) (QI Q) := by
              intro d7 d8 hno
              refine ih2 (x6 + (-1) + 1).toNat (by omega) (x6 + (-1)) _ _ K (by omega) (by omega) rfl hfK h113 hK2 ?_
              rcases hP with ⟨a, b⟩ | ⟨a, b1, b2, b3, b4⟩
              · refine Or.inl ⟨a, fun c q q0 q1 => ?_⟩
                by_cases e : q = x6
                · rw [e]; exact hno
                · exact b c q (by omega) q1
              · refine Or.inr ⟨a, by omega, b2, b3, fun q q0 q1 => ?_⟩
                by_cases e : q = x6
                · rw [e]; exact hno
                · exact b4 q (by omega) q1
            have hda := dW_rng hw (w := wX G k x) h0 (show x5 < (G 0 0) by omega)
            have hdq := dW_rng hw (w := wX G k x) (show 0 ≤ x6 by omega) j1
            refine ⟨by omega, fun z => ?_, fun z => ⟨by decide, fun _ => skip _ _ (fun a => ?_), fun y => absurd (by decide) y⟩⟩
            · obtain ⟨hb1, hb2⟩ := hb.2 (by omega)
              rw [← e1] at hb1 hb2
              have hrr := hrB_rng hw (op := sDif (allD G) (wX G k x)) (sh := wX G k x) (r := v1) (by omega) hb1
              refine s_X12_hoursAs hGK (by omega) hb1 k0 (by omega) (by omega) hA ⟨by omega, fun y => skip _ _ (fun a => ?_), fun y => ?_⟩
              · have := a.1; unfold cW at this; rcases hb2 with b | b <;> omega
              · have ec : cW G (wX G k x) x5 x6 = hrB G v1 (sDif (allD G) (wX G k x)) (wX G k x) := by unfold cW; rcases hb2 with b | b <;> omega
                have hcp : 0 < cW G (wX G k x) x5 x6 := by rcases hb2 with b | b <;> omega
                have hcl : hrB G v1 (sDif (allD G) (wX G k x)) (wX G k x) ≤ 198 := by have := hrB_rng hw (op := sDif (allD G) (wX G k x)) (sh := wX G k x) (r := v1) (by omega) hb1; omega
                rw [hK2 x5 h0 (by omega), hK2 x6 (by omega) j1]
                refine ⟨by omega, by omega, fun y2 => skip _ _ (fun a => by have := a.2.1; omega), fun y2 => ⟨by omega, by omega, by omega, fun y3 => skip _ _ (fun a => ?_), fun y3 => ⟨by omega, ?_⟩⟩⟩
                · have := a.2.2; rw [ec] at this; omega
                · refine ih2 (x6 + (-1) + 1).toNat (by omega) (x6 + (-1)) _ _ _ (by omega) (by omega) rfl (frH_tr hfK (fun b j c1 c2 => up_b _ _ _ _ c2)) (fun j hj => by rw [up_j _ _ _ hj]; exact h113 j hj) (fun q q0 q1 => by rw [up_b _ _ _ _ (by decide)]; exact hK2 q q0 q1) (Or.inr ?_)
                  rw [up_s, show x6 + 2 - 2 = x6 by omega]
                  exact ⟨hg, by omega, j1, ⟨hcp, by omega, by rw [ec]; omega⟩, fun q q0 q1 => by omega⟩
            · have := a.1; unfold cW at this; have := hb.1 (by omega); omega
        rw [e7]
        refine l62 _ ((G 0 0) - 1) _ _ _ (by omega) (by omega) rfl hf2 (fun j hj => up_j _ _ _ hj) (fun q q0 q1 => by rw [up_b _ _ _ _ (by decide)]; exact hN2 q q0 q1) (Or.inl ⟨up_s _ _ _ _, fun _ q q0 q1 => by omega⟩)
  refine e_X12_hopAt _ _ _ _ _ _ ?_
  refine fun v1 e1 => ?_
  subst e1
  have hc := hH k x p k0 k1 x0 x1 p0 p1
  have hr := nxW_rng (G := G) (w := wX G k x) (p := p) (by omega)
  have hpr : 1 ≤ hpF G k x p ∧ hpF G k x p ≤ 12 := by unfold hpF hpV; split <;> omega
  refine ⟨by omega, by rcases hc with a | a <;> omega, fun q => ?_, fun q => ?_⟩
  · rcases hc with a | a
    · exact absurd a q
    · exact ans M (frH_refl M) hH a
  · refine s_X12_layFar hG k0 (by omega) (by omega) hA (fun N hag hN => ?_)
    exact l34 _ 0 _ _ _ N (by decide) (by omega) rfl (fun b j c1 c2 => hag b j (by omega)) (fun k' x' p' a1 a2 a3 a4 a5 a6 => by rw [hag _ _ (by decide)]; exact hH k' x' p' a1 a2 a3 a4 a5 a6) hN (fun q a b => by omega)
