/-! THE REFERENCE: the hours to the goal, where to go first -/
def RF (G : Lnd) (w : Int) (M N : aM) : Prop := ag 104 104 M N ∧ ∀ q, 0 ≤ q → q < (G 0 0) → (dW G w q ≤ N 104 q ∧ N 104 q ≤ 1000000) ∧ (q = (G 0 7) → N 104 q = 0)
noncomputable def cnF (G : Lnd) (w : Int) (N : aM) : Nat := cnt_ (fun p => decide (N 104 p = dW G w p)) ((G 0 0)).toNat
def eqF (G : Lnd) (w : Int) (N : aM) : Prop := ∀ q, 0 ≤ q → q < (G 0 0) → N 104 q = dW G w q
theorem RF.up {G : Lnd} {w a v : Int} {M N : aM} (hw : WF G) (h : RF G w M N) (a0 : 0 ≤ a) (a1 : a < (G 0 0)) (h1 : dW G w a ≤ v) (h2 : v ≤ N 104 a) : RF G w M (up_ N 104 a v) := by
  refine ⟨ag_tr h.1 (ag_up _ (by decide) (by decide)), fun q q0 q1 => ?_⟩
  have hq := h.2 q q0 q1
  by_cases e : q = a
  · subst e
    have := dW_rng hw (w := w) q0 q1
    rw [up_s]
    exact ⟨⟨h1, by omega⟩, fun g => by have := hq.2 g; omega⟩
  · rw [up_j _ _ _ e]; exact hq
theorem dW_tri {G : Lnd} (hw : WF G) {w p q : Int} (p0 : 0 ≤ p) (p1 : p < (G 0 0)) (q0 : 0 ≤ q) (q1 : q < (G 0 0)) (hc : 0 < cW G w p q) : dW G w p ≤ dW G w q + cW G w p q := by
  have hd := dW_is G w p p0 (by omega)
  by_cases hg : p = (G 0 7)
  · have e : dW G w p = 0 := hd.1 (decide_eq_true hg)
    have := dW_rng hw (w := w) q0 q1; omega
  · rw [hd.2 (decide_eq_false hg)]
    exact stq_le_c q0 (by omega) hc
/-- a road's hours are its ways' -/
theorem cW_road {G : Lnd} (hw : WF G) {w r : Int} (r0 : 0 ≤ r) (r1 : r < (G 0 2)) : (hrB G r (sDif (allD G) w) w < 0 → cW G w ((G 2 (r * 7 + 0))) ((G 2 (r * 7 + 1))) = 0) ∧ (0 ≤ hrB G r (sDif (allD G) w) w → cW G w ((G 2 (r * 7 + 0))) ((G 2 (r * 7 + 1))) = hrB G r (sDif (allD G) w) w ∧ cW G w ((G 2 (r * 7 + 1))) ((G 2 (r * 7 + 0))) = hrB G r (sDif (allD G) w) w ∧ 1 ≤ hrB G r (sDif (allD G) w) w) := by
  have hN := hw.N; unfold wfN at hN
  have hR := hw.R r r0 r1
  have hB := hw.B.2 r r0 r1
  have h1 := (pasB_hr hw (p := (G 2 (r * 7 + 0))) (q := (G 2 (r * 7 + 1))) (op := sDif (allD G) w) (sh := w) (by omega) (by omega) (by omega) (by omega)).2
  have h2 := (pasB_hr hw (p := (G 2 (r * 7 + 1))) (q := (G 2 (r * 7 + 0))) (op := sDif (allD G) w) (sh := w) (by omega) (by omega) (by omega) (by omega)).2
  rw [hB.1] at h1; rw [hB.2] at h2
  have h1' := h1 r0; have h2' := h2 r0
  unfold cW
  omega
theorem s_X12_layFar {M : aM} {W : aW} {Q : aM → aW → Prop} {G : Lnd} {k x w : Int} (hG : rfG G M) (k0 : 0 ≤ k) (k1 : k < 2147483648) (hx : inI x) (hA : asX G k x w)
    (h : ∀ N, ag 104 104 M N → eqF G w N → Q N W) : CallV 203 [vR 86, vI k, vI x] (M, W) Q := by
  have hw := hG.W
  have hn := hG.n
  have l42 : ∀ (n : Nat) (x3 : Int) (d4 d5 d6 d7 : aL) (N : aM), 0 ≤ x3 → x3 ≤ (G 0 0) → ((G 0 0) - x3).toNat = n → RF G w M N → (x3 ≤ cnF G w N ∨ eqF G w N) → Xs 203 (42, [some (some (vR 86)), some (some (vI k)), some (some (vI x)), some (some (vI x3)), d4, d5, d6, d7], [], (N, W)) (QV Q) := by
    intro n; induction n using Nat.strongRecOn with
    | _ n ih =>
      intro x3 d4 d5 d6 d7 N h0 h1 hn2 hR hc
      have hGN := hG.ag hR.1 (by decide)
      refine k_X12_layFar_42 _ _ _ _ _ _ _ _ _ _ ?_
      refine s_X12_places hGN ⟨by omega, fun hge => ?_, fun hlt => ?_⟩
      · refine h N hR.1 ?_
        rcases hc with hc | hc
        · have e : x3 = (G 0 0) := by omega
          have := cnt_full (P := fun p => decide (N 104 p = dW G w p)) ((G 0 0)).toNat (by unfold cnF at hc; omega)
          exact fun q q0 q1 => of_decide_eq_true (this q q0 (by omega))
        · exact hc
      · have l53 : ∀ (m : Nat) (x4 : Int) (d5 d6 d7 : aL) (K : aM), 0 ≤ x4 → x4 ≤ (G 0 2) → ((G 0 2) - x4).toNat = m → RF G w M K → (∀ q, 0 ≤ q → q < (G 0 0) → K 104 q ≤ N 104 q) → (∀ r, 0 ≤ r → r < x4 → 0 ≤ hrB G r (sDif (allD G) w) w → K 104 ((G 2 (r * 7 + 0))) ≤ N 104 ((G 2 (r * 7 + 1))) + hrB G r (sDif (allD G) w) w ∧ K 104 ((G 2 (r * 7 + 1))) ≤ N 104 ((G 2 (r * 7 + 0))) + hrB G r (sDif (allD G) w) w) → Xs 203 (53, [some (some (vR 86)), some (some (vI k)), some (some (vI x)), some (some (vI x3)), some (some (vI x4)), d5, d6, d7], [], (K, W)) (QV Q) := by
          intro m; induction m using Nat.strongRecOn with
          | _ m ih2 =>
            intro x4 d5 d6 d7 K j0 j1 hm hRK hle hdn
            have hGK := hG.ag hRK.1 (by decide)
            refine k_X12_layFar_53 _ _ _ _ _ _ _ _ _ _ ?_
            rw [hGK.N.2.2.1]
            refine ⟨by omega, fun hge => ?_, fun hlt4 => ?_⟩
            · have e4 : x4 = (G 0 2) := by omega
              subst e4
              refine ih ((G 0 0) - (x3 + 1)).toNat (by omega) (x3 + 1) _ _ _ _ K (by omega) (by omega) rfl hRK ?_
              rcases hc with hc | hc
              · by_cases ha : eqF G w N
                · exact Or.inr (fun q q0 q1 => by have a1 := ha q q0 q1; have a2 := hle q q0 q1; have a3 := (hRK.2 q q0 q1).1.1; omega)
                · have hr := fix_round (dW_is G w) (f := N 104) (f' := K 104) (fun p p0 p1 => by
                    have hp1 : p < (G 0 0) := by omega
                    refine ⟨(hRK.2 p p0 hp1).1.1, hle p p0 hp1, fun hg => (hR.2 p p0 hp1).2 (of_decide_eq_true hg), fun hg => ⟨(hR.2 p p0 hp1).1.2, ?_⟩⟩
                    have hI := (hRK.2 p p0 hp1).1.2
                    by_cases hs : stq 1000000 (cW G w) (fun _ => 1000000) ((G 0 0)).toNat (N 104) p < 1000000
                    · rcases stq_att hs with h3 | ⟨q, q0, q1, h3, h4⟩
                      · omega
                      · rw [h4]
                        have hq1 : q < (G 0 0) := by omega
                        have hb := pasB_hr hw (p := p) (q := q) (op := sDif (allD G) w) (sh := w) p0 (by omega) q0 (by omega)
                        have hbt := hw.B.1 p q p0 (by omega) q0 (by omega)
                        unfold cW at h3 ⊢
                        have hb0 : 0 ≤ (G 4 (p * 10 + q)) := by
                          refine Classical.byContradiction (fun hno => ?_)
                          have := hb.1 (by omega); omega
                        have hb2 := hb.2 hb0
                        have hd2 := hdn ((G 4 (p * 10 + q))) hb0 (by omega) (by omega)
                        rcases hbt with e | ⟨-, -, ⟨e1, e2⟩ | ⟨e1, e2⟩⟩
                        · omega
                        · rw [e1, e2] at hd2; omega
                        · rw [e1, e2] at hd2; omega
                    · omega) (fun hall => ha (fun q q0 q1 => hall q q0 (by omega)))
                  refine Or.inl ?_
                  unfold cnF at hc ⊢
                  have hr' : cnt_ (fun p => decide (N 104 p = dW G w p)) ((G 0 0)).toNat < cnt_ (fun p => decide (K 104 p = dW G w p)) ((G 0 0)).toNat := hr
                  omega
              · exact Or.inr (fun q q0 q1 => by have a1 := hc q q0 q1; have a2 := hle q q0 q1; have a3 := (hRK.2 q q0 q1).1.1; omega)
            · refine s_X12_hoursAs hGK j0 (by omega) k0 k1 hx hA ?_
              have hc1 := cW_road hw (w := w) j0 (show x4 < (G 0 2) by omega)
              have hrr := hrB_rng hw (op := sDif (allD G) w) (sh := w) j0 (show x4 < (G 0 2) by omega)
              have hR4 := hw.R x4 j0 (by omega)
              generalize hrB G x4 (sDif (allD G) w) w = hv at hc1 hrr
              refine ⟨by omega, fun hp => ?_, fun hp => ?_⟩
              · obtain ⟨c1, c2, c3⟩ := hc1.2 (by omega)
                rw [hGK.r930 j0 (by omega), hGK.r93 j0 (by omega) (by decide) (by decide)]
                refine ⟨by omega, fun a ea => ⟨by omega, fun b eb => ?_⟩⟩
                have a0 : 0 ≤ a := by omega
                have a1 : a < (G 0 0) := by omega
                have b0 : 0 ≤ b := by omega
                have b1 : b < (G 0 0) := by omega
                have hKa := hRK.2 a a0 a1
                have hKb := hRK.2 b b0 b1
                have da := dW_rng hw (w := w) a0 a1
                have db := dW_rng hw (w := w) b0 b1
                have tab := dW_tri hw (w := w) a0 a1 b0 b1 (by rw [ea, eb, c1]; omega)
                have tba := dW_tri hw (w := w) b0 b1 a0 a1 (by rw [ea, eb, c2]; omega)
                rw [show cW G w a b = hv by rw [ea, eb]; exact c1] at tab
                rw [show cW G w b a = hv by rw [ea, eb]; exact c2] at tba
                have fin : ∀ K2, RF G w M K2 → (∀ q, 0 ≤ q → q < (G 0 0) → K2 104 q ≤ K 104 q) → K2 104 a ≤ K 104 b + hv → K2 104 b ≤ K 104 a + hv → Xs 203 (53, [some (some (vR 86)), some (some (vI k)), some (some (vI x)), some (some (vI x3)), some (some (vI (x4 + 1))), some (some (vI hv)), some (some (vI a)), some (some (vI b))], [], (K2, W)) (QV Q) := by
                  intro K2 hR2 hl2 h3 h4
                  refine ih2 ((G 0 2) - (x4 + 1)).toNat (by omega) (x4 + 1) _ _ _ K2 (by omega) (by omega) rfl hR2 (fun q q0 q1 => Int.le_trans (hl2 q q0 q1) (hle q q0 q1)) (fun r r0 r1 hr => ?_)
                  by_cases e : r = x4
                  · subst e
                    have q1 := hle a a0 a1
                    have q2 := hle b b0 b1
                    have e3 : hrB G r (sDif (allD G) w) w = hv := by rw [← c1]; exact ((cW_road hw j0 (by omega)).2 hr).1.symm
                    rw [e3, ← ea, ← eb]; omega
                  · have q := hdn r r0 (by omega) hr
                    have hRr := hw.R r r0 (by omega)
                    have q1 := hl2 ((G 2 (r * 7 + 0))) (by omega) (by omega)
                    have q2 := hl2 ((G 2 (r * 7 + 1))) (by omega) (by omega)
                    omega
                have two : ∀ K1, RF G w M K1 → (∀ q, 0 ≤ q → q < (G 0 0) → K1 104 q ≤ K 104 q) → K1 104 a ≤ K 104 b + hv → (inI (K1 104 a + hv) ∧ inI (K1 104 b)) ∧ ((K1 104 a + hv ≥ K1 104 b → Xs 203 (53, [some (some (vR 86)), some (some (vI k)), some (some (vI x)), some (some (vI x3)), some (some (vI (x4 + 1))), some (some (vI hv)), some (some (vI a)), some (some (vI b))], [], (K1, W)) (QV Q)) ∧ (¬ K1 104 a + hv ≥ K1 104 b → (0 ≤ a ∧ a < 10) ∧ (0 ≤ b ∧ b < 10) ∧ Xs 203 (53, [some (some (vR 86)), some (some (vI k)), some (some (vI x)), some (some (vI x3)), some (some (vI (x4 + 1))), some (some (vI hv)), some (some (vI a)), some (some (vI b))], [], ((up_ K1 104 b (K1 104 a + hv)), W)) (QV Q))) := by
                  intro K1 hR1 hl1 h3
                  have q1 := hR1.2 a a0 a1
                  have q2 := hR1.2 b b0 b1
                  have q3 := hl1 a a0 a1
                  refine ⟨by omega, fun hy => fin K1 hR1 hl1 h3 (by omega), fun hy => ⟨by omega, by omega, fin _ (hR1.up hw b0 b1 (by omega) (by omega)) (fun q z0 z1 => ?_) ?_ ?_⟩⟩
                  · by_cases e : q = b
                    · subst e; rw [up_s]; have := hl1 q z0 z1; omega
                    · rw [up_j _ _ _ e]; exact hl1 q z0 z1
                  · rw [up_j _ _ _ (show a ≠ b by omega)]; exact h3
                  · rw [up_s]; omega
                refine ⟨by omega, by omega, by omega, fun hy => ⟨by omega, by omega, two K hRK (fun q _ _ => Int.le_refl _) (by omega)⟩, fun hy => ⟨by omega, by omega, by omega, by omega, two _ (hRK.up hw a0 a1 (by omega) (by omega)) (fun q z0 z1 => ?_) ?_⟩⟩
                · by_cases e : q = a
                  · subst e; rw [up_s]; omega
                  · rw [up_j _ _ _ e]; exact Int.le_refl _
                · rw [up_s]; omega
              · refine ih2 ((G 0 2) - (x4 + 1)).toNat (by omega) (x4 + 1) _ _ _ K (by omega) (by omega) rfl hRK hle (fun r r0 r1 hr => ?_)
                by_cases e : r = x4
                · subst e
                  have := (cW_road hw (w := w) j0 (show r < (G 0 2) by omega)).2 hr
                  have := hc1.1 (by omega)
                  omega
                · exact hdn r r0 (by omega) hr
        exact l53 _ 0 _ _ _ N (by decide) (by omega) rfl hR (fun q _ _ => Int.le_refl _) (fun r a b => by omega)
  have l2 : ∀ (n : Nat) (x3 : Int) (d4 d5 d6 d7 : aL) (N : aM), 0 ≤ x3 → x3 ≤ (G 0 0) → ((G 0 0) - x3).toNat = n → ag 104 104 M N → (∀ q, 0 ≤ q → q < x3 → N 104 q = if q = (G 0 7) then 0 else 1000000) → Xs 203 (2, [some (some (vR 86)), some (some (vI k)), some (some (vI x)), some (some (vI x3)), d4, d5, d6, d7], [], (N, W)) (QV Q) := by
    intro n; induction n using Nat.strongRecOn with
    | _ n ih =>
      intro x3 d4 d5 d6 d7 N h0 h1 hn2 hag hi
      have hGN := hG.ag hag (by decide)
      refine k_X12_layFar_2 _ _ _ _ _ _ _ _ _ _ ?_
      refine s_X12_places hGN ⟨by omega, fun hge => ?_, fun hlt => ?_⟩
      · refine l42 _ 0 _ _ _ _ N (by decide) (by omega) rfl ⟨hag, fun q q0 q1 => ?_⟩ (Or.inl (by omega))
        have hq := hi q q0 (by omega)
        have hd := dW_rng hw (w := w) q0 q1
        by_cases hg : q = (G 0 7)
        · rw [if_pos hg] at hq
          have : dW G w q = 0 := (dW_is G w q q0 (by omega)).1 (decide_eq_true hg)
          rw [hq, this]; exact ⟨by omega, fun _ => rfl⟩
        · rw [if_neg hg] at hq
          rw [hq]; exact ⟨by omega, fun g => absurd g hg⟩
      · have nxt : ∀ v, v = (if x3 = (G 0 7) then (0 : Int) else 1000000) → Xs 203 (2, [some (some (vR 86)), some (some (vI k)), some (some (vI x)), some (some (vI (x3 + 1))), d4, d5, d6, d7], [], ((up_ N 104 x3 v), W)) (QV Q) := by
          intro v hv
          refine ih ((G 0 0) - (x3 + 1)).toNat (by omega) (x3 + 1) _ _ _ _ _ (by omega) (by omega) rfl (ag_tr hag (ag_up _ (by decide) (by decide))) (fun q q0 q1 => ?_)
          by_cases e : q = x3
          · subst e; rw [up_s]; exact hv
          · rw [up_j _ _ _ e]; exact hi q q0 (by omega)
        rw [hGN.N.2.2.2.2.2.2]
        exact ⟨by omega, fun q => ⟨by omega, nxt _ (by rw [if_neg q])⟩, fun q => ⟨by omega, nxt _ (by rw [if_pos (by omega)])⟩⟩
  refine e_X12_layFar _ _ _ _ _ ?_
  exact l2 _ 0 _ _ _ _ M (by decide) (by omega) rfl (ag_refl _ _ _) (fun q a b => by omega)
theorem ds_add {f g : Int → Int} {n v : Int} (n0 : 0 ≤ n) (n6 : n < 6) (h : ∀ i, 0 ≤ i → i < 6 → g i = if i = n then f i + v else f i) : ds g = ds f + v * thr_ n := by
  have a0 := h 0 (by decide) (by decide); have a1 := h 1 (by decide) (by decide); have a2 := h 2 (by decide) (by decide)
  have a3 := h 3 (by decide) (by decide); have a4 := h 4 (by decide) (by decide); have a5 := h 5 (by decide) (by decide)
  unfold ds
  rcases six_ n0 n6 with rfl | rfl | rfl | rfl | rfl | rfl
  · rw [show thr_ 0 = 1 from rfl]; simp at a0 a1 a2 a3 a4 a5; omega
  · rw [show thr_ 1 = 3 from rfl]; simp at a0 a1 a2 a3 a4 a5; omega
  · rw [show thr_ 2 = 9 from rfl]; simp at a0 a1 a2 a3 a4 a5; omega
  · rw [show thr_ 3 = 27 from rfl]; simp at a0 a1 a2 a3 a4 a5; omega
  · rw [show thr_ 4 = 81 from rfl]; simp at a0 a1 a2 a3 a4 a5; omega
  · rw [show thr_ 5 = 243 from rfl]; simp at a0 a1 a2 a3 a4 a5; omega
def tlN (w n : Int) : Int := ds (fun i => if i < n then bt w i + 1 else 0)
theorem tlN_s {w n : Int} (n0 : 0 ≤ n) (n6 : n < 6) : tlN w (n + 1) = tlN w n + (bt w n + 1) * thr_ n := by
  refine ds_add n0 n6 (fun i i0 i6 => ?_)
  by_cases e : i = n
  · subst e; rw [if_pos rfl, if_pos (by omega), if_neg (by omega)]; omega
  · rw [if_neg e]
    by_cases q : i < n
    · rw [if_pos q, if_pos (by omega)]
    · rw [if_neg q, if_neg (by omega)]
theorem tlN_all {G : Lnd} (hw : WF G) {w : Int} : tlN w ((G 0 3)) = tld (allD G) w := by
  have hN := hw.N; unfold wfN at hN
  refine ds_ext (fun i i0 i6 => ?_)
  unfold allD
  rw [bt_all (by omega) (by omega) i0 i6]
  by_cases q : i < (G 0 3)
  · rw [if_pos q, if_pos q, if_pos rfl]
  · rw [if_neg q, if_neg q, if_neg (by decide)]
theorem s_X12_fullOf {M : aM} {W : aW} {Q : Int → aM → aW → Prop} {G : Lnd} {w : Int} (hG : rfG G M) (w0 : 0 ≤ w) (w1 : w < 64) (h : Q (tld (allD G) w) M W) : CallI 204 [vR 86, vI w] (M, W) Q := by
  have hn := hG.n
  have key : ∀ (n : Nat) (x2 x3 : Int), 0 ≤ x3 → x3 ≤ (G 0 3) → ((G 0 3) - x3).toNat = n → x2 = tlN w x3 → Xs 204 (4, [some (some (vR 86)), some (some (vI w)), some (some (vI x2)), some (some (vI x3))], [], (M, W)) (QI Q) := by
    intro n; induction n using Nat.strongRecOn with
    | _ n ih =>
      intro x2 x3 h0 h1 hn2 hx
      refine k_X12_fullOf_4 _ _ _ _ _ _ ?_
      refine s_X12_doubts hG ⟨by omega, fun hge => ?_, fun hlt => ⟨by omega, fun v hv => ?_⟩⟩
      · have e : x3 = (G 0 3) := by omega
        subst e; rw [hx, tlN_all hG.W]; exact h
      · rw [bit_e w0 w1 h0 (by omega), hG.D3 x3 h0 (by omega)] at hv
        refine ih ((G 0 3) - (x3 + 1)).toNat (by omega) v (x3 + 1) (by omega) (by omega) rfl ?_
        rw [tlN_s h0 (by omega), hv, hx]
  refine e_X12_fullOf _ _ _ _ ?_
  refine key _ 0 0 (by decide) (by omega) rfl ?_
  unfold tlN
  rw [ds_ext (g := fun _ => 0) (fun i i0 _ => if_neg (by omega))]; rfl
theorem asX_full {G : Lnd} (hw : WF G) {w x : Int} (w0 : 0 ≤ w) (w1 : w < p2_ ((G 0 3))) : asX G (tld (allD G) w) x w := by
  have hN := hw.N; unfold wfN at hN
  refine ⟨⟨w0, w1⟩, fun i i0 i1 => ?_⟩
  have hb := bt_rng w i
  rw [dg_tld i0 (by omega)]
  unfold allD
  rw [bt_all (by omega) (by omega) i0 (by omega), if_pos i1, if_pos rfl]
  omega
theorem s_X12_knowingOf {M : aM} {W : aW} {Q : Int → aM → aW → Prop} {G : Lnd} {w : Int} (hG : rfG G M) (hs : 0 ≤ (G 0 6)) (w0 : 0 ≤ w) (w1 : w < p2_ ((G 0 3))) (h : ∀ N, ag 104 104 M N → Q (KW G w) N W) : CallI 205 [vR 86, vI w] (M, W) Q := by
  have hn := hG.n
  have ht := hG.t
  have htl := tld_rng (allD G) w
  refine e_X12_knowingOf _ _ _ _ ?_
  refine s_X12_fullOf hG w0 (by omega) (s_X12_layFar hG (by omega) (by omega) (by decide) (asX_full hG.W w0 w1) (fun N hag hN => ?_))
  have hGN := hG.ag hag (by decide)
  have hd := dW_rng hG.W (w := w) hs (show (G 0 6) < (G 0 0) by omega)
  have hk := h N hag
  unfold KW at hk
  rw [hGN.N.2.2.2.2.2.1, hN ((G 0 6)) hs (by omega)]
  refine ⟨by omega, by omega, fun q => ⟨by omega, ?_⟩, fun q => ?_⟩
  · rw [if_pos q] at hk; exact hk
  · rw [if_neg q] at hk; exact hk
