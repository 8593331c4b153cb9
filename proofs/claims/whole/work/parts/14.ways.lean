/-! PASSES and WAYS of the class -/
def psA (A : Int) : Prop := A = 43 ∨ A = 53 ∨ A = 58 ∨ A = 63 ∨ A = 76 ∨ A = 80
theorem ps_o {A : Int} (h : psA A) : okO 86 20 A = true := by rcases h with rfl | rfl | rfl | rfl | rfl | rfl <;> rfl
theorem ps_l {A : Int} (h : psA A) : ln_ A = 100 := by rcases h with rfl | rfl | rfl | rfl | rfl | rfl <;> rfl
theorem ps_g {A : Int} (h : psA A) : 19 < A := by rcases h with rfl | rfl | rfl | rfl | rfl | rfl <;> decide
theorem pasB_sym {G : Lnd} (hw : WF G) {p q op sh : Int} (p0 : 0 ≤ p) (p1 : p < 10) (q0 : 0 ≤ q) (q1 : q < 10) : pasB G p q op sh = pasB G q p op sh := by
  have e : (G 4 (p * 10 + q)) = (G 4 (q * 10 + p)) := by
    rcases hw.B.1 p q p0 p1 q0 q1 with h | ⟨h0, h1, h2⟩
    · rcases hw.B.1 q p q0 q1 p0 p1 with k | ⟨k0, k1, k2⟩
      · omega
      · have := hw.B.2 _ k0 k1
        rcases k2 with ⟨a, b⟩ | ⟨a, b⟩ <;> rw [a, b] at this <;> omega
    · have := hw.B.2 _ h0 h1
      rcases h2 with ⟨a, b⟩ | ⟨a, b⟩ <;> rw [a, b] at this <;> omega
  unfold pasB; rw [e]
theorem s_X3_fillPasses {M : aM} {W : aW} {Q : aM → aW → Prop} {G : Lnd} {c A op sh : Int} (hk : cty c) (hG : clG c G M) (hw : WF G) (hA : psA A) (o0 : 0 ≤ op) (o1 : op < 64) (s0 : 0 ≤ sh) (s1 : sh < 64)
    (h : ∀ N, ag A A M N → (∀ p q, 0 ≤ p → p < 10 → 0 ≤ q → q < 10 → N A (p * 10 + q) = pasB G p q op sh) → Q N W) : CallV 39 [vR c, vR A, vI op, vI sh] (M, W) Q := by
  have hN := hw.N; unfold wfN at hN
  have hA19 := ps_g hA
  have l2 : ∀ (n : Nat) (x4 : Int) (d5 d6 d7 : aL) (N : aM), 0 ≤ x4 → x4 ≤ (G 0 2) → ((G 0 2) - x4).toNat = n → ag A A M N → (∀ p q, 0 ≤ p → p < 10 → 0 ≤ q → q < 10 → N A (p * 10 + q) = if (G 4 (p * 10 + q)) < x4 then pasB G p q op sh else 0) → Xs 39 (24, [some (some (vR c)), some (some (vR A)), some (some (vI op)), some (some (vI sh)), some (some (vI x4)), d5, d6, d7], [], (N, W)) (QV Q) := by
    intro n; induction n using Nat.strongRecOn with
    | _ n ih =>
      intro x4 d5 d6 d7 N h0 h1 hn hag hi
      have hGN := hG.ag hk hag (Or.inl hA19)
      refine k_X3_fillPasses_24 _ _ _ _ _ _ _ _ _ _ _ ?_
      rw [hGN.1]
      refine ⟨ct_o hk, by omega, fun hge => h N hag (fun p q p0 p1 q0 q1 => ?_), fun hlt => ⟨ct_o hk, ?_⟩⟩
      · have := hw.btw_lt p0 p1 q0 q1
        rw [hi p q p0 p1 q0 q1, if_pos (by omega)]
      · have hR := hw.R x4 h0 (by omega)
        refine s_X3_roadFact hk hGN h0 (by omega) (by decide) (by decide) ⟨ct_o hk, ?_⟩
        refine s_X3_roadFact hk hGN h0 (by omega) (by decide) (by decide) ⟨ct_o hk, ?_⟩
        refine s_X3_passBetween hk hGN hw (by omega) (by omega) (by omega) (by omega) o0 o1 s0 s1 ?_
        rw [ps_l hA]
        refine ⟨⟨ps_o hA, by omega, by omega⟩, ⟨ps_o hA, by omega, by omega⟩, ?_⟩
        refine ih ((G 0 2) - (x4 + 1)).toNat (by omega) (x4 + 1) _ _ _ _ (by omega) (by omega) rfl (ag_tr (ag_tr hag (ag_up _ (Int.le_refl _) (Int.le_refl _))) (ag_up _ (Int.le_refl _) (Int.le_refl _))) (fun p q p0 p1 q0 q1 => ?_)
        have hb := hw.B.2 x4 h0 (by omega)
        by_cases e1 : p = (G 2 (x4 * 7 + 1)) ∧ q = (G 2 (x4 * 7 + 0))
        · obtain ⟨rfl, rfl⟩ := e1
          rw [up_s, if_pos (by omega)]
          exact pasB_sym hw (by omega) (by omega) (by omega) (by omega)
        · rw [up_j _ _ _ (show p * 10 + q ≠ (G 2 (x4 * 7 + 1)) * 10 + (G 2 (x4 * 7 + 0)) by omega)]
          by_cases e2 : p = (G 2 (x4 * 7 + 0)) ∧ q = (G 2 (x4 * 7 + 1))
          · obtain ⟨rfl, rfl⟩ := e2
            rw [up_s, if_pos (by omega)]
          · rw [up_j _ _ _ (show p * 10 + q ≠ (G 2 (x4 * 7 + 0)) * 10 + (G 2 (x4 * 7 + 1)) by omega), hi p q p0 p1 q0 q1]
            have hbb := hw.B.1 p q p0 p1 q0 q1
            have hne : (G 4 (p * 10 + q)) ≠ x4 := by
              intro he
              rw [he] at hbb
              omega
            by_cases hl : (G 4 (p * 10 + q)) < x4
            · rw [if_pos hl, if_pos (by omega)]
            · rw [if_neg hl, if_neg (by omega)]
  have l1 : ∀ (n : Nat) (x4 : Int) (d5 d6 d7 : aL) (N : aM), 0 ≤ x4 → x4 ≤ 100 → (100 - x4).toNat = n → ag A A M N → (∀ i, 0 ≤ i → i < x4 → N A i = 0) → Xs 39 (3, [some (some (vR c)), some (some (vR A)), some (some (vI op)), some (some (vI sh)), some (some (vI x4)), d5, d6, d7], [], (N, W)) (QV Q) := by
    intro n; induction n using Nat.strongRecOn with
    | _ n ih =>
      intro x4 d5 d6 d7 N h0 h1 hn hag hi
      refine k_X3_fillPasses_3 _ _ _ _ _ _ _ _ _ _ _ ?_
      rw [ps_l hA]
      refine ⟨ps_o hA, by omega, fun hge => ?_, fun hlt => ⟨⟨ps_o hA, by omega, by omega⟩, ?_⟩⟩
      · refine l2 _ 0 _ _ _ N (by omega) (by omega) rfl hag (fun p q p0 p1 q0 q1 => ?_)
        rw [hi _ (by omega) (by omega)]
        split
        · rename_i hb; unfold pasB; rw [if_pos hb]
        · rfl
      · refine ih (100 - (x4 + 1)).toNat (by omega) (x4 + 1) _ _ _ _ (by omega) (by omega) rfl (ag_tr hag (ag_up _ (Int.le_refl _) (Int.le_refl _))) (fun i i0 i1 => ?_)
        by_cases he : i = x4
        · subst he; exact up_s _ _ _ _
        · rw [up_j _ _ _ he]; exact hi i i0 (by omega)
  refine e_X3_fillPasses _ _ _ _ _ _ _ ?_
  exact l1 _ 0 _ _ _ M (by omega) (by omega) rfl (ag_refl _ _ _) (fun i a b => by omega)
-- the hours to the goal in a world
def allD (G : Lnd) : Int := p2_ ((G 0 3)) - 1
def cW (G : Lnd) (w p q : Int) : Int := pasB G p q (sDif (allD G) w) w
def isDW (G : Lnd) (w : Int) (f : Int → Int) : Prop := isFix 1000000 (cW G w) (fun _ => 1000000) (fun p => decide (p = (G 0 7))) (fun _ => 0) ((G 0 0)).toNat f
theorem dW_ex (G : Lnd) (w : Int) : ∃ f, isDW G w f := fix_ex _ _ _ _ _ _
noncomputable def dW (G : Lnd) (w : Int) : Int → Int := Classical.choose (dW_ex G w)
theorem dW_is (G : Lnd) (w : Int) : isDW G w (dW G w) := Classical.choose_spec (dW_ex G w)
/-- where to go first -/
noncomputable def nxW (G : Lnd) (w p : Int) : Int := if p = (G 0 7) then -2 else am_ (cand 1000000 (cW G w) (dW G w) p) 1000000 (-2) ((G 0 0)).toNat
def stW (G : Lnd) (w : Int) (f : Int → Int) (p : Int) : Int := stq 1000000 (cW G w) (fun _ => 1000000) ((G 0 0)).toNat f p
theorem stW_e (G : Lnd) (w : Int) (f : Int → Int) (p : Int) : stW G w f p = mn_ (cand 1000000 (cW G w) f p) 1000000 ((G 0 0)).toNat := by
  have := mn_le_top (cand 1000000 (cW G w) f p) 1000000 ((G 0 0)).toNat
  unfold stW stq; dsimp only; rw [if_neg (by omega)]
theorem allD_rng {G : Lnd} (hw : WF G) : 0 ≤ allD G ∧ allD G < 64 := by
  have hN := hw.N; unfold wfN at hN
  have := p2_le hN.2.2.2.1.1 hN.2.2.2.1.2
  unfold allD; omega
theorem cW_rng {G : Lnd} (hw : WF G) {w p q : Int} (p0 : 0 ≤ p) (p1 : p < (G 0 0)) (q0 : 0 ≤ q) (q1 : q < (G 0 0)) : 0 ≤ cW G w p q ∧ cW G w p q ≤ 198 := by
  have hN := hw.N; unfold wfN at hN
  exact pasB_rng hw p0 (by omega) q0 (by omega)
def fW (w : Int) (N : aM) (q : Int) : Int := N 41 (w * 10 + q)
theorem s_X10_shorten {M : aM} {W : aW} {Q : Int → aM → aW → Prop} {G : Lnd} {c w p : Int} (hk : cty c) (hG : clG c G M) (hw : WF G) (w0 : 0 ≤ w) (w1 : w < 64) (p0 : 0 ≤ p) (p1 : p < (G 0 0))
    (hp : ∀ p q, 0 ≤ p → p < (G 0 0) → 0 ≤ q → q < (G 0 0) → M 43 (p * 10 + q) = cW G w p q) (hf : ∀ q, 0 ≤ q → q < (G 0 0) → 0 ≤ M 41 (w * 10 + q) ∧ M 41 (w * 10 + q) ≤ 1000000)
    (h : ∀ r N, ag 41 42 M N → N 41 (w * 10 + p) = stW G w (fW w M) p → (∀ j, j ≠ w * 10 + p → N 41 j = M 41 j) → N 42 (w * 10 + p) = am_ (cand 1000000 (cW G w) (fW w M) p) 1000000 (M 42 (w * 10 + p)) ((G 0 0)).toNat → (∀ j, j ≠ w * 10 + p → N 42 j = M 42 j) →
      ((r = 1 ∧ stW G w (fW w M) p < M 41 (w * 10 + p)) ∨ (r = 0 ∧ M 41 (w * 10 + p) ≤ stW G w (fW w M) p)) → Q r N W) : CallI 117 [vR 40, vR c, vI (w * 10), vI p] (M, W) Q := by
  have hN := hw.N; unfold wfN at hN
  have key : ∀ (n : Nat) (x4 x5 : Int) (d6 : aL) (N : aM), 0 ≤ x5 → x5 ≤ (G 0 0) → ((G 0 0) - x5).toNat = n → ag 42 42 M N → x4 = mn_ (cand 1000000 (cW G w) (fW w M) p) 1000000 x5.toNat → N 42 (w * 10 + p) = am_ (cand 1000000 (cW G w) (fW w M) p) 1000000 (M 42 (w * 10 + p)) x5.toNat → (∀ j, j ≠ w * 10 + p → N 42 j = M 42 j) → Xs 117 (7, [some (some (vR 40)), some (some (vR c)), some (some (vI (w * 10))), some (some (vI p)), some (some (vI x4)), some (some (vI x5)), d6], [], (N, W)) (QI Q) := by
    intro n; induction n using Nat.strongRecOn with
    | _ n ih =>
      intro x4 x5 d6 N h0 h1 hn hag hx hy hj
      have hGN := hG.ag hk hag (by omega)
      have hx4 : x4 ≤ 1000000 := by rw [hx]; exact mn_le_top _ _ _
      refine k_X10_shorten_7 _ _ _ _ _ _ _ _ _ ?_
      rw [hGN.1, hag 41 _ (by omega), hag 41 _ (by omega), hag 43 _ (by omega)]
      have hfp := hf p p0 p1
      have hx0 : 0 ≤ x4 := by
        rw [hx]
        rcases mn_att (cand 1000000 (cW G w) (fW w M) p) 1000000 x5.toNat with e | ⟨i, i0, i1, e⟩
        · omega
        · rw [e]; unfold cand
          have a1 : 0 ≤ fW w M i ∧ fW w M i ≤ 1000000 := hf i i0 (by omega)
          have a2 := cW_rng (w := w) hw p0 p1 i0 (show i < (G 0 0) by omega)
          split <;> omega
      refine ⟨ct_o hk, by omega, fun hge => ?_, fun hlt => ?_⟩
      · have e5 : x5 = (G 0 0) := by omega
        subst e5
        have hst := stW_e G w (fW w M) p
        rw [← hx] at hst
        have fin : ∀ r, ((r = 1 ∧ x4 < M 41 (w * 10 + p)) ∨ (r = 0 ∧ M 41 (w * 10 + p) ≤ x4)) → Q r (up_ N 41 (w * 10 + p) x4) W := by
          intro r hr
          refine h r _ (ag_tr (ag_wk hag (by decide) (by decide)) (ag_up _ (by decide) (by decide))) ?_ (fun j hjj => ?_) ?_ (fun j hjj => ?_) ?_
          · rw [up_s, hst]
          · rw [up_j _ _ _ hjj]; exact hag 41 _ (by omega)
          · rw [up_b _ _ _ _ (by decide)]; exact hy
          · rw [up_b _ _ _ _ (by decide)]; exact hj j hjj
          · rw [hst]; exact hr
        refine ⟨by omega, by omega, fun hc => ⟨by omega, Or.inl rfl, fin 0 (by omega)⟩, fun hc => ⟨by omega, Or.inr rfl, fin 1 (by omega)⟩⟩
      · refine ⟨by omega, fun v hv => ?_⟩
        rw [hp p x5 p0 p1 h0 (by omega)] at hv
        have hv2 := cW_rng (w := w) hw p0 p1 h0 (show x5 < (G 0 0) by omega)
        have hf5 := hf x5 h0 (by omega)
        refine ⟨by omega, fun hle => ?_, fun hgt => ?_⟩
        · have ec : ¬ cand 1000000 (cW G w) (fW w M) p x5 < x4 := by unfold cand; rw [if_neg (by omega)]; omega
          refine ih ((G 0 0) - (x5 + 1)).toNat (by omega) x4 (x5 + 1) _ N (by omega) (by omega) rfl hag ?_ ?_ hj
          · rw [mn_succ _ _ h0, if_neg (by rw [← hx]; exact ec)]; exact hx
          · rw [am_succ _ _ _ h0, if_neg (by rw [← hx]; exact ec)]; exact hy
        · have ec : cand 1000000 (cW G w) (fW w M) p x5 = M 41 (w * 10 + x5) + v := by unfold cand fW; rw [if_pos (by omega), hv]
          refine ⟨by omega, by omega, fun hc => ?_, fun hc => ⟨by omega, fun y hy2 => ⟨by omega, ?_⟩⟩⟩
          · refine ih ((G 0 0) - (x5 + 1)).toNat (by omega) x4 (x5 + 1) _ N (by omega) (by omega) rfl hag ?_ ?_ hj
            · rw [mn_succ _ _ h0, if_neg (by rw [← hx, ec]; omega)]; exact hx
            · rw [am_succ _ _ _ h0, if_neg (by rw [← hx, ec]; omega)]; exact hy
          · refine ih ((G 0 0) - (x5 + 1)).toNat (by omega) y (x5 + 1) _ _ (by omega) (by omega) rfl (ag_tr hag (ag_up _ (by decide) (by decide))) ?_ ?_ ?_
            · rw [mn_succ _ _ h0, if_pos (by rw [← hx, ec]; omega), ec, hy2]
            · rw [am_succ _ _ _ h0, if_pos (by rw [← hx, ec]; omega), up_s]
            · intro j hjj; rw [up_j _ _ _ hjj]; exact hj j hjj
  refine e_X10_shorten _ _ _ _ _ _ ?_
  exact key _ 1000000 0 _ M (by omega) (by omega) rfl (ag_refl _ _ _) rfl rfl (fun _ _ => rfl)
theorem stW_nn {G : Lnd} (hw : WF G) {w p : Int} {f : Int → Int} (p0 : 0 ≤ p) (p1 : p < (G 0 0)) (hf : ∀ q, 0 ≤ q → q < (G 0 0) → 0 ≤ f q) : 0 ≤ stW G w f p := by
  rw [stW_e]
  rcases mn_att (cand 1000000 (cW G w) f p) 1000000 ((G 0 0)).toNat with e | ⟨i, i0, i1, e⟩
  · omega
  · rw [e]; unfold cand
    have a1 := hf i i0 (by omega); have a2 := cW_rng (w := w) hw p0 p1 i0 (show i < (G 0 0) by omega)
    split <;> omega
def RW (G : Lnd) (w : Int) (M N : aM) : Prop := ag 41 42 M N ∧ (∀ j, (j < w * 10 ∨ w * 10 + 10 ≤ j) → N 41 j = M 41 j ∧ N 42 j = M 42 j) ∧ ∀ q, 0 ≤ q → q < (G 0 0) → (dW G w q ≤ fW w N q ∧ fW w N q ≤ 1000000 ∧ 0 ≤ fW w N q) ∧ (q = (G 0 7) → fW w N q = 0 ∧ N 42 (w * 10 + q) = -2) ∧ (q ≠ (G 0 7) → stW G w (fW w N) q ≤ fW w N q ∧ (fW w N q = 1000000 → N 42 (w * 10 + q) = -2))
noncomputable def cnW (G : Lnd) (w : Int) (N : aM) : Nat := cnt_ (fun p => decide (fW w N p = dW G w p)) ((G 0 0)).toNat
def finW (G : Lnd) (w : Int) (N : aM) : Prop := ∀ q, 0 ≤ q → q < (G 0 0) → fW w N q = dW G w q ∧ N 42 (w * 10 + q) = nxW G w q
def exW (n : Int) (f g : Int → Int) : Prop := ∃ q, 0 ≤ q ∧ q < n ∧ f q < g q
theorem s_X10_fillWorld {M : aM} {W : aW} {Q : aM → aW → Prop} {G : Lnd} {c w : Int} (hk : cty c) (hG : clG c G M) (hw : WF G) (w0 : 0 ≤ w) (w1 : w < 64)
    (hp : ∀ p q, 0 ≤ p → p < 10 → 0 ≤ q → q < 10 → M 43 (p * 10 + q) = cW G w p q)
    (h : ∀ N, ag 41 42 M N → (∀ j, (j < w * 10 ∨ w * 10 + 10 ≤ j) → N 41 j = M 41 j ∧ N 42 j = M 42 j) → finW G w N → Q N W) : CallV 116 [vR 40, vR c, vI (w * 10)] (M, W) Q := by
  have hN := hw.N; unfold wfN at hN
  have l53 : ∀ (n : Nat) (x3 x4 : Int) (d5 : aL) (N : aM), 0 ≤ x4 → x4 ≤ (G 0 0) + 1 → ((G 0 0) + 2 - x4).toNat = n → RW G w M N → ((x3 = 1 ∧ x4 ≤ cnW G w N) ∨ (x3 = 0 ∧ finW G w N)) → Xs 116 (53, [some (some (vR 40)), some (some (vR c)), some (some (vI (w * 10))), some (some (vI x3)), some (some (vI x4)), d5], [], (N, W)) (QV Q) := by
    intro n; induction n using Nat.strongRecOn with
    | _ n ih =>
      intro x4' x4 d5 N h0 h1 hn hR hx
      have hGN := hG.ag hk hR.1 (by omega)
      have hcl : cnW G w N ≤ ((G 0 0)).toNat := cnt_le _ _
      refine k_X10_fillWorld_53 _ _ _ _ _ _ _ _ ?_
      rw [hGN.1]
      refine ⟨ct_o hk, by omega, fun hge => ?_, fun hlt => ⟨by omega, fun hz => ?_, fun hz => ?_⟩⟩
      · rcases hx with ⟨-, hx⟩ | ⟨-, hx⟩
        · omega
        · exact h N hR.1 hR.2.1 hx
      · rcases hx with ⟨hx, -⟩ | ⟨-, hx⟩
        · omega
        · exact h N hR.1 hR.2.1 hx
      · have hcn : x4 ≤ cnW G w N := by omega
        have l71 : ∀ (m : Nat) (x3 x5 : Int) (K : aM), 0 ≤ x5 → x5 ≤ (G 0 0) → ((G 0 0) - x5).toNat = m → RW G w M K → (x3 = 0 ∨ x3 = 1) → (∀ q, 0 ≤ q → q < (G 0 0) → fW w K q ≤ fW w N q) → (∀ q, 0 ≤ q → q < x5 → q ≠ (G 0 7) → fW w K q ≤ stW G w (fW w N) q) → (∀ q, x5 ≤ q → q < (G 0 0) → fW w K q = fW w N q) →
            (x3 = 0 → (∀ q, 0 ≤ q → q < (G 0 0) → fW w K q = fW w N q) ∧ ∀ q, 0 ≤ q → q < x5 → q ≠ (G 0 7) → fW w N q ≤ stW G w (fW w N) q ∧ K 42 (w * 10 + q) = am_ (cand 1000000 (cW G w) (fW w N) q) 1000000 (-2) ((G 0 0)).toNat) →
            (x3 = 1 → exW ((G 0 0)) (fW w K) (fW w N)) → Xs 116 (71, [some (some (vR 40)), some (some (vR c)), some (some (vI (w * 10))), some (some (vI x3)), some (some (vI x4)), some (some (vI x5))], [], (K, W)) (QV Q) := by
          intro m; induction m using Nat.strongRecOn with
          | _ m ih2 =>
            intro x3 x5 K k0 k1 hm hRK hx3 hle hdone hrest hz0 hz1
            have hGK := hG.ag hk hRK.1 (by omega)
            refine k_X10_fillWorld_71 _ _ _ _ _ _ _ _ ?_
            rw [hGK.1, hGK.1]
            refine ⟨ct_o hk, by omega, fun hge => ?_, fun hlt2 => ⟨ct_o hk, by omega, fun hg => ?_, fun hg => ?_⟩⟩
            · have e5 : x5 = (G 0 0) := by omega
              subst e5
              refine ih ((G 0 0) + 2 - (x4 + 1)).toNat (by omega) x3 (x4 + 1) _ K (by omega) (by omega) rfl hRK ?_
              rcases hx3 with hx3 | hx3
              · refine Or.inr ⟨hx3, ?_⟩
                obtain ⟨e1, e2⟩ := hz0 hx3
                have hfix : isDW G w (fW w N) := by
                  intro p p0 p1
                  have hp1 : p < (G 0 0) := by omega
                  refine ⟨fun hg => ?_, fun hg => ?_⟩
                  · exact ((hR.2.2 p p0 hp1).2.1 (of_decide_eq_true hg)).1
                  · have hg' := of_decide_eq_false hg
                    have a1 := ((hR.2.2 p p0 hp1).2.2 hg').1
                    have a2 := (e2 p p0 hp1 hg').1
                    show fW w N p = stW G w (fW w N) p
                    omega
                have heq := fix_uniq hfix (dW_is G w)
                intro q q0 q1
                refine ⟨by rw [e1 q q0 q1]; exact heq q q0 (by omega), ?_⟩
                unfold nxW
                by_cases hg : q = (G 0 7)
                · rw [if_pos hg]; exact ((hRK.2.2 q q0 q1).2.1 hg).2
                · rw [if_neg hg, (e2 q q0 q1 hg).2]
                  refine am_congr _ (fun i i0 i1 => ?_)
                  unfold cand
                  rw [heq i i0 i1]
              · refine Or.inl ⟨hx3, ?_⟩
                obtain ⟨q, q0, q1, hq⟩ := hz1 hx3
                have hr := fix_round (dW_is G w) (f := fW w N) (f' := fW w K) (fun p p0 p1 => by
                  have hp1 : p < (G 0 0) := by omega
                  refine ⟨(hRK.2.2 p p0 hp1).1.1, hle p p0 hp1, fun hg => ?_, fun hg => ⟨(hR.2.2 p p0 hp1).1.2.1, ?_⟩⟩
                  · exact ((hR.2.2 p p0 hp1).2.1 (of_decide_eq_true hg)).1
                  · exact hdone p p0 hp1 (of_decide_eq_false hg)) (fun hall => by
                  have a1 := hall q q0 (by omega); have a2 := (hRK.2.2 q q0 q1).1.1; omega)
                unfold cnW at hcn ⊢
                omega
            · refine ih2 ((G 0 0) - (x5 + 1)).toNat (by omega) x3 (x5 + 1) K (by omega) (by omega) rfl hRK hx3 hle (fun q q0 q1 hq => hdone q q0 (by omega) hq) (fun q q0 q1 => hrest q (by omega) q1) (fun hz => ⟨(hz0 hz).1, fun q q0 q1 hq => (hz0 hz).2 q q0 (by omega) hq⟩) hz1
            · refine s_X10_shorten hk hGK hw w0 w1 k0 (by omega) (fun p q p0 p1 q0 q1 => by rw [hRK.1 43 _ (by omega)]; exact hp p q p0 (by omega) q0 (by omega)) (fun q q0 q1 => ⟨(hRK.2.2 q q0 q1).1.2.2, (hRK.2.2 q q0 q1).1.2.1⟩) ?_
              intro r L hag hv hv2 ha ha2 hr
              have hK5 := (hRK.2.2 x5 k0 (by omega)).1
              have hs0 : 0 ≤ stW G w (fW w K) x5 := stW_nn hw k0 (by omega) (fun q q0 q1 => (hRK.2.2 q q0 q1).1.2.2)
              have hsl : stW G w (fW w K) x5 ≤ fW w K x5 := ((hRK.2.2 x5 k0 (by omega)).2.2 hg).1
              have hsI : stW G w (fW w K) x5 ≤ 1000000 := stq_le_I _ _ _ _ _ _
              have hsD : dW G w x5 ≤ stW G w (fW w K) x5 := fix_above (dW_is G w) (fun p p0 p1 => (hRK.2.2 p p0 (by omega)).1.1) k0 (by omega) (decide_eq_false hg)
              have eL : ∀ q, q ≠ x5 → fW w L q = fW w K q := fun q hq => hv2 _ (by omega)
              have eL5 : fW w L x5 = stW G w (fW w K) x5 := hv
              have hLK : ∀ q, 0 ≤ q → q < (G 0 0) → fW w L q ≤ fW w K q := fun q q0 q1 => by
                by_cases hq : q = x5
                · subst hq; omega
                · rw [eL q hq]; exact Int.le_refl _
              have hRL : RW G w M L := by
                refine ⟨ag_tr hRK.1 hag, fun j hj => ?_, fun q q0 q1 => ?_⟩
                · rw [hv2 j (by omega), ha2 j (by omega)]; exact hRK.2.1 j hj
                · by_cases hq : q = x5
                  · subst hq
                    refine ⟨by omega, fun hh => absurd hh hg, fun _ => ⟨?_, fun hI => ?_⟩⟩
                    · rw [eL5]; exact stq_mono _ (fun i i0 i1 => hLK i i0 (by omega))
                    · have e1 : fW w K q = 1000000 := by omega
                      rw [ha, am_dfl _ (by rw [← stW_e]; omega)]
                      exact ((hRK.2.2 q q0 q1).2.2 hg).2 e1
                  · have hh := hRK.2.2 q q0 q1
                    rw [eL q hq, ha2 _ (by omega)]
                    refine ⟨hh.1, hh.2.1, fun hg2 => ⟨Int.le_trans (stq_mono _ (fun i i0 i1 => hLK i i0 (by omega))) (hh.2.2 hg2).1, (hh.2.2 hg2).2⟩⟩
              have hd2 : ∀ q, 0 ≤ q → q < x5 + 1 → q ≠ (G 0 7) → fW w L q ≤ stW G w (fW w N) q := fun q q0 q1 hq => by
                by_cases he : q = x5
                · subst he; rw [eL5]; exact stq_mono _ (fun i i0 i1 => hle i i0 (by omega))
                · rw [eL q he]; exact hdone q q0 (by omega) hq
              have hle2 : ∀ q, 0 ≤ q → q < (G 0 0) → fW w L q ≤ fW w N q := fun q q0 q1 => Int.le_trans (hLK q q0 q1) (hle q q0 q1)
              have hr2 : ∀ q, x5 + 1 ≤ q → q < (G 0 0) → fW w L q = fW w N q := fun q q0 q1 => by rw [eL q (by omega)]; exact hrest q (by omega) q1
              have hN5 := hrest x5 (Int.le_refl _) (by omega)
              have hr' : (r = 1 ∧ stW G w (fW w K) x5 < fW w K x5) ∨ (r = 0 ∧ fW w K x5 ≤ stW G w (fW w K) x5) := hr
              refine ⟨by omega, fun hr0 => ?_, fun hr0 => ?_⟩
              · have e5 : fW w L x5 = fW w K x5 := by omega
                refine ih2 ((G 0 0) - (x5 + 1)).toNat (by omega) x3 (x5 + 1) L (by omega) (by omega) rfl hRL hx3 hle2 hd2 hr2 (fun hz => ?_) (fun hz => ?_)
                · obtain ⟨e1, e2⟩ := hz0 hz
                  have e3 : ∀ q, 0 ≤ q → q < (G 0 0) → fW w L q = fW w N q := fun q q0 q1 => by
                    by_cases he : q = x5
                    · subst he; rw [e5]; exact e1 q q0 q1
                    · rw [eL q he]; exact e1 q q0 q1
                  refine ⟨e3, fun q q0 q1 hq => ?_⟩
                  by_cases he : q = x5
                  · subst he
                    have e4 : stW G w (fW w K) q = stW G w (fW w N) q := Int.le_antisymm (stq_mono _ (fun i i0 i1 => hle i i0 (by omega))) (stq_mono _ (fun i i0 i1 => by rw [e1 i i0 (by omega)]; exact Int.le_refl _))
                    refine ⟨by omega, ?_⟩
                    rw [ha]
                    have e6 : am_ (cand 1000000 (cW G w) (fW w K) q) 1000000 (K 42 (w * 10 + q)) ((G 0 0)).toNat = am_ (cand 1000000 (cW G w) (fW w N) q) 1000000 (K 42 (w * 10 + q)) ((G 0 0)).toNat := am_congr _ (fun i i0 i1 => by
                      unfold cand
                      rw [e1 i i0 (by omega)])
                    rw [e6]
                    refine am_d _ (fun ht => ?_)
                    rw [← stW_e] at ht
                    exact ((hRK.2.2 q q0 (by omega)).2.2 hg).2 (by omega)
                  · rw [ha2 _ (by omega)]; exact e2 q q0 (by omega) hq
                · obtain ⟨q, q0, q1, hq⟩ := hz1 hz
                  exact ⟨q, q0, q1, by have := hLK q q0 q1; omega⟩
              · refine ih2 ((G 0 0) - (x5 + 1)).toNat (by omega) 1 (x5 + 1) L (by omega) (by omega) rfl hRL (Or.inr rfl) hle2 hd2 hr2 (fun hz => absurd hz (by decide)) (fun _ => ⟨x5, k0, by omega, by omega⟩)
        refine l71 _ 0 0 N (by omega) (by omega) rfl hR (Or.inl rfl) (fun q _ _ => Int.le_refl _) (fun q a b => by omega) (fun q _ _ => rfl) (fun _ => ⟨fun q _ _ => rfl, fun q a b => by omega⟩) (fun hz => absurd hz (by decide))
  have l2 : ∀ (n : Nat) (x3 : Int) (d4 d5 : aL) (N : aM), 0 ≤ x3 → x3 ≤ (G 0 0) → ((G 0 0) - x3).toNat = n → ag 41 42 M N → (∀ j, (j < w * 10 ∨ w * 10 + 10 ≤ j) → N 41 j = M 41 j ∧ N 42 j = M 42 j) → (∀ q, 0 ≤ q → q < x3 → fW w N q = (if q = (G 0 7) then 0 else 1000000) ∧ N 42 (w * 10 + q) = -2) → Xs 116 (2, [some (some (vR 40)), some (some (vR c)), some (some (vI (w * 10))), some (some (vI x3)), d4, d5], [], (N, W)) (QV Q) := by
    intro n; induction n using Nat.strongRecOn with
    | _ n ih =>
      intro x3 d4 d5 N h0 h1 hn hag hout hi
      have hGN := hG.ag hk hag (by omega)
      refine k_X10_fillWorld_2 _ _ _ _ _ _ _ _ ?_
      rw [hGN.1, hGN.1]
      have stp : ∀ v, (x3 = (G 0 7) → v = 0) → (x3 ≠ (G 0 7) → v = 1000000) → Xs 116 (2, [some (some (vR 40)), some (some (vR c)), some (some (vI (w * 10))), some (some (vI (x3 + 1))), d4, d5], [], ((up_ (up_ N 41 (w * 10 + x3) v) 42 (w * 10 + x3) (-2)), W)) (QV Q) → True := fun _ _ _ _ => trivial
      have go : ∀ v, (x3 < (G 0 0)) → (x3 = (G 0 7) → v = 0) → (x3 ≠ (G 0 7) → v = 1000000) → Xs 116 (2, [some (some (vR 40)), some (some (vR c)), some (some (vI (w * 10))), some (some (vI (x3 + 1))), d4, d5], [], ((up_ (up_ N 41 (w * 10 + x3) v) 42 (w * 10 + x3) (-2)), W)) (QV Q) := by
        intro v hlt hv1 hv2
        refine ih ((G 0 0) - (x3 + 1)).toNat (by omega) (x3 + 1) d4 d5 _ (by omega) (by omega) rfl (ag_tr (ag_tr hag (ag_up _ (by decide) (by decide))) (ag_up _ (by decide) (by decide))) (fun j hj => ?_) (fun q q0 q1 => ?_)
        · rw [up_b _ _ _ _ (by decide), up_j _ _ _ (by omega), up_j _ _ _ (by omega), up_b _ _ _ _ (by decide)]; exact hout j hj
        · show up_ (up_ N 41 (w * 10 + x3) v) 42 (w * 10 + x3) (-2) 41 (w * 10 + q) = _ ∧ _
          rw [up_b _ _ _ _ (by decide)]
          by_cases he : q = x3
          · subst he
            rw [up_s, up_s]
            refine ⟨?_, rfl⟩
            by_cases hg : q = (G 0 7)
            · rw [if_pos hg]; exact hv1 hg
            · rw [if_neg hg]; exact hv2 hg
          · rw [up_j _ _ _ (by omega), up_j _ _ _ (by omega), up_b _ _ _ _ (by decide)]; exact hi q q0 (by omega)
      refine ⟨ct_o hk, by omega, fun hge => ?_, fun hlt => ⟨ct_o hk, by omega, fun hg => ⟨by omega, by omega, go _ (by omega) (fun q => absurd q hg) (fun _ => rfl)⟩, fun hg => ⟨by omega, by omega, go _ (by omega) (fun _ => rfl) (fun q => absurd q (by omega))⟩⟩⟩
      have e3 : x3 = (G 0 0) := by omega
      subst e3
      have hlow : ∀ q, 0 ≤ q → q < (G 0 0) → 0 ≤ fW w N q ∧ fW w N q ≤ 1000000 := fun q q0 q1 => by
        rw [(hi q q0 q1).1]; split <;> omega
      have hD : ∀ q, 0 ≤ q → q < (G 0 0) → dW G w q ≤ fW w N q := fun q q0 q1 => by
        rw [(hi q q0 q1).1]
        have hd := dW_is G w q q0 (by omega)
        by_cases hg : q = (G 0 7)
        · rw [if_pos hg, hd.1 (decide_eq_true hg)]; exact Int.le_refl _
        · rw [if_neg hg, hd.2 (decide_eq_false hg)]; exact stq_le_I _ _ _ _ _ _
      refine l53 _ 1 0 d5 N (by omega) (by omega) rfl ⟨hag, hout, fun q q0 q1 => ⟨⟨hD q q0 q1, (hlow q q0 q1).2, (hlow q q0 q1).1⟩, fun hg => ?_, fun hg => ?_⟩⟩ (Or.inl ⟨rfl, by omega⟩)
      · have := hi q q0 q1; rw [if_pos hg] at this; exact this
      · have := hi q q0 q1; rw [if_neg hg] at this
        refine ⟨?_, fun _ => this.2⟩
        rw [this.1]; exact stq_le_I _ _ _ _ _ _
  refine e_X10_fillWorld _ _ _ _ _ ?_
  exact l2 _ 0 _ _ M (by omega) (by omega) rfl (ag_refl _ _ _) (fun _ _ => ⟨rfl, rfl⟩) (fun q a b => by omega)
theorem p2_lt64 {G : Lnd} (hw : WF G) : 1 ≤ p2_ ((G 0 3)) ∧ p2_ ((G 0 3)) ≤ 64 := by
  have hN := hw.N; unfold wfN at hN; exact p2_le hN.2.2.2.1.1 hN.2.2.2.1.2
theorem s_X10_fill {M : aM} {W : aW} {Q : aM → aW → Prop} {G : Lnd} {c : Int} (hk : cty c) (hG : clG c G M) (hw : WF G)
    (h : ∀ N, ag 41 43 M N → (∀ w, 0 ≤ w → w < p2_ ((G 0 3)) → finW G w N) → Q N W) : CallV 115 [vR 40, vR c] (M, W) Q := by
  have hN := hw.N; unfold wfN at hN
  have h64 := p2_lt64 hw
  have ha := allD_rng hw
  have l9 : ∀ (n : Nat) (x3 : Int) (N : aM), 0 ≤ x3 → x3 ≤ p2_ ((G 0 3)) → (p2_ ((G 0 3)) - x3).toNat = n → ag 41 43 M N → (∀ w, 0 ≤ w → w < x3 → finW G w N) → Xs 115 (9, [some (some (vR 40)), some (some (vR c)), some (some (vI (allD G))), some (some (vI x3))], [], (N, W)) (QV Q) := by
    intro n; induction n using Nat.strongRecOn with
    | _ n ih =>
      intro x3 N h0 h1 hn hag hi
      have hGN := hG.ag hk hag (by omega)
      have he : allD G = p2_ ((G 0 3)) - 1 := rfl
      refine k_X10_fill_9 _ _ _ _ _ _ ?_
      refine ⟨by omega, fun hgt => h N hag (fun w w0 w1 => hi w w0 (by omega)), fun hle => ⟨ct_o hk, ?_⟩⟩
      rw [dif_e ha.1 ha.2 h0 (by omega)]
      refine s_X3_fillPasses hk hGN hw (Or.inl rfl) (sDif_rng _ _).1 (sDif_rng _ _).2 h0 (by omega) (fun K hK hp => ?_)
      refine s_X10_fillWorld hk (hGN.ag hk hK (by decide)) hw h0 (by omega) hp (fun L hL ho hf => ?_)
      refine ih (p2_ ((G 0 3)) - (x3 + 1)).toNat (by omega) (x3 + 1) L (by omega) (by omega) rfl (ag_tr hag (ag_tr (ag_wk hK (by decide) (by decide)) (ag_wk hL (by decide) (by decide)))) (fun w w0 w1 => ?_)
      by_cases hw3 : w = x3
      · subst hw3; exact hf
      · intro q q0 q1
        have hq := hi w w0 (by omega) q q0 q1
        have ho2 := ho (w * 10 + q) (by omega)
        unfold fW at hq ⊢
        rw [ho2.1, ho2.2, hK 41 _ (by omega), hK 42 _ (by omega)]; exact hq
  refine e_X10_fill _ _ _ _ ?_
  refine ⟨ct_o hk, s_X3_worlds hk hG hw (fun v hv => ?_)⟩
  subst hv
  exact l9 _ 0 M (by omega) (by omega) rfl (ag_refl _ _ _) (fun w a b => by omega)
