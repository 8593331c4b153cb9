/-! PREPARE, its course -/
theorem enF_0 {G : Lnd} (hw : WF G) {k : Int} (hl : 0 < lkG G k) : enF G 0 0 0 k = 0 := by
  have := enG_rng hw (e := eFr G 0 0 0) (B := 0) (fun w _ _ _ => by unfold eFr; rw [if_pos (Int.le_refl _)]; omega) hl (by decide)
  show enG G (eFr G 0 0 0) k = 0
  omega
/-- what prepare leaves as it was -/
def prF (M N : aM) : Prop := ∀ b j, ¬ (b = 36 ∧ (j = 15 ∨ j = 16)) → b ≠ 44 → b ≠ 45 → ¬ (50 ≤ b ∧ b ≤ 63) → N b j = M b j
theorem prF.P {c : Int} {G : Lnd} {M N : aM} (h : prF M N) (hP : clP c G M) : clP c G N := hP.of (fun b j hb => h b j (by unfold inP at hb; omega) (by unfold inP at hb; omega) (by unfold inP at hb; omega) (by unfold inP at hb; omega))
theorem prF_refl (M : aM) : prF M M := fun _ _ _ _ _ _ => rfl
theorem prF_tr {M N K : aM} (h1 : prF M N) (h2 : prF N K) : prF M K := fun b j a1 a2 a3 a4 => (h2 b j a1 a2 a3 a4).trans (h1 b j a1 a2 a3 a4)
theorem prF_ag {lo hi : Int} {M N : aM} (h : ag lo hi M N) (hl : (44 ≤ lo ∧ hi ≤ 45) ∨ (50 ≤ lo ∧ hi ≤ 63)) : prF M N := fun b j a1 a2 a3 a4 => h b j (by omega)
theorem prF_T {M N : aM} (h : agT M N) : prF M N := fun b j a1 _ _ _ => h b j a1
def faM (G : Lnd) (M : aM) : Prop := ∀ k, 0 ≤ k → k < thr_ ((G 0 3)) → 0 < lkG G k → ∀ p, 0 ≤ p → p < (G 0 0) → M 62 (k * 10 + p) = D2 G (k * 10 + p)
/-- what is solved is right -/
def slv (G : Lnd) (M : aM) : Prop := (M 45 0 = 0 ∨ (M 45 0 = 1 ∧ slM 50 G 1 (lkG G) (fun _ => 0) M)) ∧ (M 45 1 = 0 ∨ (M 45 1 = 1 ∧ slM 55 G 0 (lkG G) (enF G 0 0 0) M)) ∧ (M 45 2 = 0 ∨ (M 45 2 = 1 ∧ faM G M))
theorem slv.of {G : Lnd} {M N : aM} (h : slv G M) (hN : ∀ b j, b = 45 ∨ b = 51 ∨ b = 52 ∨ b = 56 ∨ b = 57 ∨ b = 62 → N b j = M b j) : slv G N := by
  obtain ⟨h0, h1, h2⟩ := h
  unfold slv
  rw [hN 45 0 (by omega), hN 45 1 (by omega), hN 45 2 (by omega)]
  refine ⟨?_, ?_, ?_⟩
  · rcases h0 with h0 | ⟨a, b⟩
    · exact Or.inl h0
    · exact Or.inr ⟨a, fun k k0 k1 hl p p0 p1 => by rw [hN (50 + 1) _ (by omega), hN (50 + 2) _ (by omega)]; exact b k k0 k1 hl p p0 p1⟩
  · rcases h1 with h1 | ⟨a, b⟩
    · exact Or.inl h1
    · exact Or.inr ⟨a, fun k k0 k1 hl p p0 p1 => by rw [hN (55 + 1) _ (by omega), hN (55 + 2) _ (by omega)]; exact b k k0 k1 hl p p0 p1⟩
  · rcases h2 with h2 | ⟨a, b⟩
    · exact Or.inl h2
    · exact Or.inr ⟨a, fun k k0 k1 hl p p0 p1 => by rw [hN 62 _ (by omega)]; exact b k k0 k1 hl p p0 p1⟩
theorem HI_gol (G : Lnd) (A : Int → Int → Int) (w : Int) {p k h : Int} (hg : p = (G 0 7)) : ∀ n : Nat, HI G A w n p k h = h := by
  intro n; cases n with
  | zero => unfold HI; rw [if_pos hg]
  | succ n => unfold HI; rw [if_pos hg]
theorem gz_zero {H K Wt : Int → Int} (h : ∀ w, H w = 0) : ∀ n : Nat, (gz H K Wt n).1 = 0 := by
  intro n; induction n with
  | zero => rfl
  | succ n ih =>
    unfold gz
    split
    · split
      · exact h n
      · exact ih
    · exact ih
theorem sP_gol {G : Lnd} (h : (G 0 6) = (G 0 7)) : (sP G).1 = 0 := gz_zero (fun w => HI_gol G _ w h 100) _
theorem gb_KW {G : Lnd} {D : Int → Int → Int} {plan : Int} (hw : WF G) (h : gbP G D plan = false) : ∀ w, 0 ≤ w → w < p2_ ((G 0 3)) → 0 < wtG G w → 0 ≤ KW G w ∧ 0 ≤ hoP G D plan w := by
  have h64 := p2_lt64 hw
  intro w w0 w1 hW
  have := ngB_cs _ h w w0 (by omega) hW
  unfold hk2 at this
  split at this
  · omega
  · omega
/-- going on from times that a plan stays below -/
theorem gb_fair {G : Lnd} (hw : WF G) (hs : 0 ≤ (G 0 6)) (hsg : (G 0 6) ≠ (G 0 7)) {a b : Int} (a0 : 0 ≤ a) (a1 : a ≤ 19800) (hK : ∀ w, 0 ≤ w → w < p2_ ((G 0 3)) → 0 < wtG G w → 0 ≤ KW G w) (hV : VF G (eFr G a b 1) 0 ((G 0 6)) ≤ 0) :
    gbP G (pdF G a b 1) 2 = false ∧ ∀ w, 0 ≤ w → w < p2_ ((G 0 3)) → 0 < wtG G w → 0 ≤ hoP G (pdF G a b 1) 2 w ∧ hoP G (pdF G a b 1) 2 w ≤ - eFr G a b 1 w := by
  have hN := hw.N; unfold wfN at hN
  have h64 := p2_lt64 hw
  have he := enF_ok hw (a := a) (b := b) (less := 1) (fun _ _ => hs) a0 a1 (by decide) (by decide)
  have hf : ∀ w, 0 ≤ w → w < p2_ ((G 0 3)) → 0 < wtG G w → 0 ≤ hoP G (pdF G a b 1) 2 w ∧ hoP G (pdF G a b 1) 2 w ≤ - eFr G a b 1 w := by
    intro w w0 w1 hW
    have := follow_start hw (e := eFr G a b 1) (A := doF G (pdF G a b 1) 2) he w0 w1 hW hs hsg (fun p k hst hg => by
      unfold doF
      rw [if_neg hg, if_neg (by decide), if_neg (by decide), if_pos rfl]
      show (if (2 : Int) = 2 then ixF (AA G 0 (lkG G) (enF G a b 1)) else fun _ => 0) (k * 10 + p) = _
      rw [if_pos rfl, ixF_e _ hst.1.1 (by have := hst.1.2; omega)]) (by omega)
    unfold hoP; omega
  refine ⟨?_, hf⟩
  cases hb : gbP G (pdF G a b 1) 2 with
  | false => rfl
  | true =>
    obtain ⟨w, a, b, c, d⟩ := ngB_ex _ hb
    have h1 := hf w a (by omega) c
    have h2 := hK w a (by omega) c
    unfold hk2 at d
    split at d <;> omega
theorem s_X7_prepare_159 {M : aM} {W : aW} {Q : aM → aW → Prop} {G : Lnd} {c : Int} (hw : WF G) (hs : 0 ≤ (G 0 6)) (hK : ∀ w, 0 ≤ w → w < p2_ ((G 0 3)) → 0 < wtG G w → 0 ≤ KW G w) (hsb : gbP G (pdS G) 1 = false)
    (h : ∀ N, prF M N → (∀ b j, 45 ≤ b → b ≤ 59 → N b j = M b j) → faM G N → Q N W) : ∀ (n : Nat) (x2 x3 : Int) (N : aM), clP c G N → prF M N → (∀ b j, 45 ≤ b → b ≤ 59 → N b j = M b j) → 0 ≤ x3 → x3 ≤ 1000000 → (1000000 - x3).toNat = n → (0 ≤ N 36 15 ∧ N 36 15 ≤ 19800 ∧ 0 ≤ N 36 16 ∧ N 36 16 ≤ 1980) →
    ((x2 = 1 ∧ (G 0 6) ≠ (G 0 7) ∧ FRs G n (N 36 15, N 36 16) = sE G) ∨ (x2 = 0 ∧ (N 36 15, N 36 16) = sE G)) → Xs 69 (159, [some (some (vR 36)), some (some (vI 2)), some (some (vI x2)), some (some (vI x3))], [], (N, W)) (QV Q) := by
  have hN := hw.N; unfold wfN at hN
  have ht := thrG hw
  have d0 : (0 : Int) < thr_ ((G 0 3)) := by omega
  intro n; induction n with
  | zero =>
    intro x2 x3 N hP hpr h45 h0 h1 hn hr hx
    have hS : (N 36 15, N 36 16) = sE G := by
      rcases hx with ⟨-, -, hx⟩ | ⟨-, hx⟩
      · exact hx
      · exact hx
    refine k_X7_prepare_159 _ _ _ _ _ _ ?_
    refine ⟨by omega, fun _ => ?_, fun hlt => by omega⟩
    refine s_X7_solveFair hP hs hr.1 hr.2.1 (by decide) (by decide) hr.2.2.1 hr.2.2.2 (fun K hK hsame hsl => ?_)
    refine h K (prF_tr hpr (fun b j a1 a2 a3 a4 => ?_)) (fun b j q0 q1 => (hsame b j q0 q1).trans (h45 b j q0 q1)) (fun k k0 k1 hl p p0 p1 => ?_)
    · by_cases hb : 45 ≤ b ∧ b ≤ 59
      · exact hsame b j hb.1 hb.2
      · exact hK b j (by omega)
    · have := (hsl k k0 k1 hl p p0 p1).2
      unfold D2
      rw [if_neg (by rw [hsb]; decide), ixF_e _ p0 (by omega), ← hS]; exact this
  | succ n ih =>
    intro x2 x3 N hP hpr h45 h0 h1 hn hr hx
    have fin : (N 36 15, N 36 16) = sE G → CallV 70 [vR 36, vI 0] (N, W) Q := fun hS => by
      refine s_X7_solveFair hP hs hr.1 hr.2.1 (by decide) (by decide) hr.2.2.1 hr.2.2.2 (fun K hK hsame hsl => ?_)
      refine h K (prF_tr hpr (fun b j a1 a2 a3 a4 => ?_)) (fun b j q0 q1 => (hsame b j q0 q1).trans (h45 b j q0 q1)) (fun k k0 k1 hl p p0 p1 => ?_)
      · by_cases hb : 45 ≤ b ∧ b ≤ 59
        · exact hsame b j hb.1 hb.2
        · exact hK b j (by omega)
      · have := (hsl k k0 k1 hl p p0 p1).2
        unfold D2
        rw [if_neg (by rw [hsb]; decide), ixF_e _ p0 (by omega), ← hS]; exact this
    refine k_X7_prepare_159 _ _ _ _ _ _ ?_
    refine ⟨by omega, fun hge => by omega, fun hlt => ⟨by omega, fun hz => ?_, fun hz => ?_⟩⟩
    · rcases hx with ⟨hx, -⟩ | ⟨-, hx⟩
      · omega
      · exact fin hx
    · obtain ⟨hsg, hS⟩ : (G 0 6) ≠ (G 0 7) ∧ FRs G (n + 1) (N 36 15, N 36 16) = sE G := by
        rcases hx with ⟨-, hx⟩ | ⟨hx, -⟩
        · exact hx
        · omega
      refine s_X7_solveFair hP hs hr.1 hr.2.1 (by decide) (by decide) hr.2.2.1 hr.2.2.2 (fun K hagK hsame hsl => ?_)
      have hprK : prF M K := prF_tr hpr (fun b j a1 a2 a3 a4 => by
        by_cases hb : 45 ≤ b ∧ b ≤ 59
        · exact hsame b j hb.1 hb.2
        · exact hagK b j (by omega))
      have hPK : clP c G K := prF.P (M := N) (fun b j a1 a2 a3 a4 => by
        by_cases hb : 45 ≤ b ∧ b ≤ 59
        · exact hsame b j hb.1 hb.2
        · exact hagK b j (by omega)) hP
      have hK45 : ∀ b j, 45 ≤ b → b ≤ 59 → K b j = M b j := fun b j q0 q1 => (hsame b j q0 q1).trans (h45 b j q0 q1)
      have e15 : K 36 15 = N 36 15 := hagK 36 15 (by omega)
      have e16 : K 36 16 = N 36 16 := hagK 36 16 (by omega)
      have hl0 : 0 < lkG G 0 := by
        have hp := wt_pos hw (o := -1) (od := 0) (by decide)
        obtain ⟨w, a, b, c⟩ := su_pos _ (fun i _ _ => wtG_nn hw i) hp
        have h64 := p2_lt64 hw
        exact lkG_pos hw a (by omega) c (by rw [agB_iff]; exact fun i i0 i6 => Or.inl (by rcases six_ i0 i6 with e | e | e | e | e | e <;> rw [e] <;> decide))
      have hv := (hsl 0 (by decide) d0 hl0 ((G 0 6)) hs (by omega)).1
      have he := enF_ok hw (a := N 36 15) (b := N 36 16) (less := 1) (fun _ _ => hs) hr.1 hr.2.1 (by decide) (by decide)
      have hrng := VV_rng hw (lkG_ok hw) he 0 (by decide) d0 hl0 ((G 0 6)) hs (by omega)
      have hE : eB 0 = 100000000000000 := if_pos rfl
      unfold vR_ at hrng
      rw [hPK.2.2.2.2.1, hPK.2.1.1]
      refine ⟨ct_o hPK.1, s_X9_value (Or.inr (Or.inr (Or.inl rfl))) (by decide) (by decide) hs (by omega) ?_⟩
      have hv' : K (60 + 1) (0 * 10 + (G 0 6)) = VF G (eFr G (N 36 15) (N 36 16) 1) 0 ((G 0 6)) := hv
      have hrng' : -eB 0 ≤ VF G (eFr G (N 36 15) (N 36 16) 1) 0 ((G 0 6)) ∧ VF G (eFr G (N 36 15) (N 36 16) 1) 0 ((G 0 6)) ≤ 1152921504606846976 := ⟨hrng.1, hrng.2.1⟩
      rw [hv']
      generalize hvv : VF G (eFr G (N 36 15) (N 36 16) 1) 0 ((G 0 6)) = vv at *
      refine ⟨by omega, fun hgt => ?_, fun hle => ?_⟩
      · refine ih 0 (x3 + 1) K hPK hprK hK45 (by omega) (by omega) (by omega) (by rw [e15, e16]; exact hr) (Or.inr ⟨rfl, ?_⟩)
        rw [e15, e16, ← hS]
        unfold FRs
        rw [if_neg (show ¬ VF G (eFr G (N 36 15, N 36 16).1 (N 36 15, N 36 16).2 1) 0 ((G 0 6)) ≤ 0 from by show ¬ VF G (eFr G (N 36 15) (N 36 16) 1) 0 ((G 0 6)) ≤ 0; rw [hvv]; omega)]
      · have hgf := gb_fair hw hs hsg (b := N 36 16) hr.1 hr.2.1 hK (by rw [hvv]; omega)
        refine s_X7_gauge hPK (pdF_cl hw hsl) (pdF_ok hw _ _ _) hs (fun r L hT hres => ?_)
        rcases hres with ⟨r1, -, q15, q16, q0, q1, q2, q3⟩ | ⟨-, hbad⟩
        · refine ⟨by omega, fun hr0 => by omega, fun _ => ?_⟩
          refine ih 1 (x3 + 1) L (hT.P hPK) (prF_tr hprK (prF_T hT)) (fun b j w0 w1 => (hT b j (by omega)).trans (hK45 b j w0 w1)) (by omega) (by omega) (by omega) ⟨q0, q1, q2, q3⟩ (Or.inl ⟨rfl, hsg, ?_⟩)
          rw [← hS, q15, q16]
          show FRs G n ((gzP G (pdF G (N 36 15) (N 36 16) 1) 2).1, (gzP G (pdF G (N 36 15) (N 36 16) 1) 2).2) = if VF G (eFr G (N 36 15) (N 36 16) 1) 0 ((G 0 6)) ≤ 0 then FRs G n (gzP G (pdF G (N 36 15) (N 36 16) 1) 2) else (N 36 15, N 36 16)
          rw [hvv, if_pos (by omega)]
        · rw [hgf.1] at hbad; exact absurd hbad (by decide)
theorem s_X7_prepare {M : aM} {W : aW} {Q : aM → aW → Prop} {G : Lnd} {c plan : Int} (hP : clP c G M) (hS : slv G M) (pl0 : 0 ≤ plan) (pl1 : plan ≤ 6) (hs : plan = 2 → 0 ≤ (G 0 6))
    (h : ∀ N, prF M N → slv G N → (plan ≤ 2 → N 45 plan = 1) → Q N W) : CallV 69 [vR 36, vI plan] (M, W) Q := by
  have hw := hP.2.2.1
  have hk := hP.1
  have ht := thrG hw
  have l120 : ∀ (d2 d3 : aL) (N : aM), prF M N → slv G N → (plan ≤ 2 → N 45 plan = 1) → Xs 69 (120, [some (some (vR 36)), some (some (vI plan)), d2, d3], [], (N, W)) (QV Q) := fun d2 d3 N a b c => by
    refine k_X7_prepare_120 _ _ _ _ _ _ ?_
    exact h N a b c
  -- FAIR, where SURE is solved
  have fair : ∀ N, plan = 2 → prF M N → slv G N → N 45 1 = 1 → (inI (N 45 2)) ∧ ((N 45 2 = 0 → CallI 78 [vR 36, vI 1] ((up_ N 45 2 1), W) (fun r M1 W2 => (inI r) ∧ ((r ≠ 0 → (inI (M1 36 15)) ∧ ((M1 36 15 ≤ 0 → Xs 69 (159, [some (some (vR 36)), some (some (vI plan)), some (some (vI 0)), some (some (vI 0))], [], (M1, W2)) (QV Q)) ∧ (¬ M1 36 15 ≤ 0 → Xs 69 (159, [some (some (vR 36)), some (some (vI plan)), some (some (vI 1)), some (some (vI 0))], [], (M1, W2)) (QV Q)))) ∧ (¬ r ≠ 0 → CallV 108 [vR 60] (M1, W2) (fun M4 W5 => Q M4 W5))))) ∧ (¬ N 45 2 = 0 → Xs 69 (120, [some (some (vR 36)), some (some (vI plan)), none, none], [], (N, W)) (QV Q))) := by
    intro N hp2 hpr hSN h1
    have hPN := hpr.P hP
    obtain ⟨s0, s1, s2⟩ := id hSN
    refine ⟨by rcases s2 with e | ⟨e, -⟩ <;> omega, fun hz => ?_, fun hz => l120 _ _ N hpr hSN (fun _ => by rw [hp2]; rcases s2 with e | ⟨e, -⟩ <;> omega)⟩
    have hpr1 : prF M (up_ N 45 2 1) := prF_tr hpr (fun b j a1 a2 a3 a4 => up_b _ _ _ _ a3)
    have hP1 := hpr1.P hP
    have hsl1 : slM 55 G 0 (lkG G) (enF G 0 0 0) (up_ N 45 2 1) := fun k k0 k1 hl p p0 p1 => by
      rw [up_b _ _ _ _ (by decide), up_b _ _ _ _ (by decide)]
      rcases s1 with e | ⟨-, e⟩
      · omega
      · exact e k k0 k1 hl p p0 p1
    refine s_X7_gauge hP1 (pdS_cl hw hsl1) (pdS_ok hw) (hs hp2) (fun r K hT hres => ?_)
    have hprK := prF_tr hpr1 (prF_T hT)
    have hPK := hprK.P hP
    -- what is solved stays so
    have keep : ∀ L, (∀ b j, 45 ≤ b → b ≤ 59 → L b j = K b j) → faM G L → slv G L ∧ (plan ≤ 2 → L 45 plan = 1) := by
      intro L hL hfa
      have hL2 : ∀ b j, 46 ≤ b → b ≤ 59 → L b j = N b j := fun b j q0 q1 => by rw [hL b j (by omega) q1, hT b j (by omega), up_b _ _ _ _ (by omega)]
      have e0 : L 45 0 = N 45 0 := by rw [hL 45 0 (by omega) (by omega), hT 45 0 (by omega), up_j _ _ _ (by decide)]
      have e1 : L 45 1 = N 45 1 := by rw [hL 45 1 (by omega) (by omega), hT 45 1 (by omega), up_j _ _ _ (by decide)]
      have e2 : L 45 2 = 1 := by rw [hL 45 2 (by omega) (by omega), hT 45 2 (by omega), up_s]
      refine ⟨⟨?_, ?_, Or.inr ⟨e2, hfa⟩⟩, fun _ => by rw [hp2]; exact e2⟩
      · rw [e0]
        rcases s0 with e | ⟨e, e'⟩
        · exact Or.inl e
        · exact Or.inr ⟨e, fun k k0 k1 hl p p0 p1 => by rw [hL2 _ _ (by omega) (by omega), hL2 _ _ (by omega) (by omega)]; exact e' k k0 k1 hl p p0 p1⟩
      · rw [e1]
        rcases s1 with e | ⟨e, e'⟩
        · exact Or.inl e
        · exact Or.inr ⟨e, fun k k0 k1 hl p p0 p1 => by rw [hL2 _ _ (by omega) (by omega), hL2 _ _ (by omega) (by omega)]; exact e' k k0 k1 hl p p0 p1⟩
    rcases hres with ⟨r1, hgb, q15, q16, q0, q1, q2, q3⟩ | ⟨r0, hgb⟩
    · have hKW := fun w w0 w1 hW => (gb_KW hw hgb w w0 w1 hW).1
      have hpair : (K 36 15, K 36 16) = sP G := by rw [q15, q16]; rfl
      have go := s_X7_prepare_159 (M := K) (W := W) (Q := Q) (c := c) hw (hs hp2) hKW hgb (fun L hL1 hL2 hfa => h L (prF_tr hprK hL1) (keep L hL2 hfa).1 (keep L hL2 hfa).2)
      refine ⟨by omega, fun _ => ⟨by omega, fun hle => ?_, fun hgt => ?_⟩, fun hno => by omega⟩
      · rw [hp2]
        refine go bigN 0 0 K hPK (prF_refl _) (fun _ _ _ _ => rfl) (by decide) (by decide) (by unfold bigN; decide) ⟨q0, q1, q2, q3⟩ (Or.inr ⟨rfl, ?_⟩)
        unfold sE; rw [if_neg (by rw [← hpair]; show ¬ 0 < K 36 15; omega)]; exact hpair
      · rw [hp2]
        refine go bigN 1 0 K hPK (prF_refl _) (fun _ _ _ _ => rfl) (by decide) (by decide) (by unfold bigN; decide) ⟨q0, q1, q2, q3⟩ (Or.inl ⟨rfl, fun hsg => ?_, ?_⟩)
        · have := sP_gol hsg
          rw [← hpair] at this
          have h' : K 36 15 = 0 := this
          omega
        · unfold sE; rw [if_pos (by rw [← hpair]; show 0 < K 36 15; omega), hpair]
    · refine ⟨by omega, fun hne => absurd r0 hne, fun _ => ?_⟩
      refine s_X9_stayEverywhere (Or.inr (Or.inr (Or.inl rfl))) (fun L hL hst => ?_)
      have hk2 := keep L (fun b j q0 q1 => hL b j (by omega)) (fun k k0 k1 hl p p0 p1 => by
        have hN := hw.N; unfold wfN at hN
        unfold D2; rw [if_pos hgb]; exact hst _ (by omega) (by omega))
      exact h L (prF_tr hprK (prF_ag hL (by omega))) hk2.1 hk2.2
  -- SURE
  have l60 : plan = 1 ∨ plan = 2 → ∀ N, prF M N → slv G N → Xs 69 (60, [some (some (vR 36)), some (some (vI plan)), none, none], [], (N, W)) (QV Q) := by
    intro hpl N hpr hSN
    have hPN := hpr.P hP
    obtain ⟨s0, s1, s2⟩ := id hSN
    refine k_X7_prepare_60 _ _ _ _ _ _ ?_
    refine ⟨by rcases s1 with e | ⟨e, -⟩ <;> omega, fun hnz => ⟨by omega, fun hne => l120 _ _ N hpr hSN (fun _ => by rw [show plan = 1 by omega]; rcases s1 with e | ⟨e, -⟩ <;> omega), fun he => fair N (by omega) hpr hSN (by rcases s1 with e | ⟨e, -⟩ <;> omega)⟩, fun hz => ?_⟩
    refine s_X7_fillEnds hPN (fun hh => absurd hh (by decide)) (by decide) (by decide) (by decide) (by decide) (by decide) (by decide) (fun K hagK hen => ?_)
    have hprK := prF_tr hpr (prF_ag hagK (by omega))
    have hPK := hprK.P hP
    rw [hPK.2.2.2.2.1]
    refine s_X9_solve (lik := lkG G) (en := enF G 0 0 0) (Or.inr (Or.inl rfl)) (Or.inl rfl) hk hPK.2.1 hw hPK.2.2.2.1 (lkG_ok hw) (Or.inl rfl) hPK.2.2.2.2.2.2.1 (Or.inl rfl) hen (enF_ok hw (fun hh => absurd hh (by decide)) (by decide) (by decide) (by decide) (by decide)) (fun L hL _ hsl => ?_)
    have hprL := prF_tr hprK (prF_ag hL (by omega))
    have hprU : prF M (up_ L 45 1 1) := prF_tr hprL (fun b j a1 a2 a3 a4 => up_b _ _ _ _ a3)
    have hU : ∀ b j, b ≠ 44 → ¬ (55 ≤ b ∧ b ≤ 58) → ¬ (b = 45 ∧ j = 1) → up_ L 45 1 1 b j = N b j := fun b j q1 q2 q3 => by
      unfold up_; rw [if_neg q3, hL b j (by omega), hagK b j (by omega)]
    have hSU : slv G (up_ L 45 1 1) := by
      refine ⟨?_, Or.inr ⟨up_s _ _ _ _, fun k k0 k1 hl p p0 p1 => ?_⟩, ?_⟩
      · rw [hU 45 0 (by decide) (by decide) (by decide)]
        rcases s0 with e | ⟨e, e'⟩
        · exact Or.inl e
        · exact Or.inr ⟨e, fun k k0 k1 hl p p0 p1 => by rw [hU _ _ (by decide) (by decide) (by omega), hU _ _ (by decide) (by decide) (by omega)]; exact e' k k0 k1 hl p p0 p1⟩
      · rw [up_b _ _ _ _ (by decide), up_b _ _ _ _ (by decide)]; exact hsl k k0 k1 hl p p0 p1
      · rw [hU 45 2 (by decide) (by decide) (by decide)]
        rcases s2 with e | ⟨e, e'⟩
        · exact Or.inl e
        · exact Or.inr ⟨e, fun k k0 k1 hl p p0 p1 => by rw [hU _ _ (by decide) (by decide) (by omega)]; exact e' k k0 k1 hl p p0 p1⟩
    refine ⟨by omega, fun hne => l120 _ _ _ hprU hSU (fun _ => by rw [show plan = 1 by omega]; exact up_s _ _ _ _), fun he => fair _ (by omega) hprU hSU (up_s _ _ _ _)⟩
  obtain ⟨s0, s1, s2⟩ := id hS
  refine e_X7_prepare _ _ _ _ ?_
  refine ⟨by omega, fun hne0 => ⟨by omega, fun h1 => l60 (Or.inl h1) M (prF_refl _) hS, fun hn1 => ⟨by omega, fun hn2 => ⟨by omega, fun _ => l120 _ _ M (prF_refl _) hS (fun hh => by omega), fun hh => by omega⟩, fun h2 => l60 (Or.inr (by omega)) M (prF_refl _) hS⟩⟩, fun h0 => ⟨by rcases s0 with e | ⟨e, -⟩ <;> omega, fun hnz => ⟨by omega, fun hh => by omega, fun _ => ⟨by omega, fun hn2 => ⟨by omega, fun _ => l120 _ _ M (prF_refl _) hS (fun _ => by rw [show plan = 0 by omega]; rcases s0 with e | ⟨e, -⟩ <;> omega), fun hh => by omega⟩, fun hh => by omega⟩⟩, fun hz => ?_⟩⟩
  refine s_X7_fillEnds hP (fun hh => absurd hh (by decide)) (by decide) (by decide) (by decide) (by decide) (by decide) (by decide) (fun K hagK hen => ?_)
  have hprK : prF M K := prF_ag hagK (by omega)
  have hPK := hprK.P hP
  rw [hPK.2.2.2.2.1]
  refine s_X9_solve (lik := lkG G) (en := fun _ => 0) (Or.inl rfl) (Or.inl rfl) hk hPK.2.1 hw hPK.2.2.2.1 (lkG_ok hw) (Or.inr rfl) hPK.2.2.2.2.2.2.1 (Or.inl rfl) (fun k k0 k1 hl => by rw [hen k k0 k1 hl]; exact enF_0 hw hl) (fun k k0 k1 hl => by unfold eB; rw [if_neg (by decide)]; exact ⟨(show -(0 : Int) ≤ 0 by decide), Int.le_refl _⟩) (fun L hL _ hsl => ?_)
  have hprL := prF_tr hprK (prF_ag hL (by omega))
  have hprU : prF M (up_ L 45 0 1) := prF_tr hprL (fun b j a1 a2 a3 a4 => up_b _ _ _ _ a3)
  have hU : ∀ b j, b ≠ 44 → ¬ (50 ≤ b ∧ b ≤ 53) → ¬ (b = 45 ∧ j = 0) → up_ L 45 0 1 b j = M b j := fun b j q1 q2 q3 => by
    unfold up_; rw [if_neg q3, hL b j (by omega), hagK b j (by omega)]
  have hSU : slv G (up_ L 45 0 1) := by
    refine ⟨Or.inr ⟨up_s _ _ _ _, fun k k0 k1 hl p p0 p1 => ?_⟩, ?_, ?_⟩
    · rw [up_b _ _ _ _ (by decide), up_b _ _ _ _ (by decide)]; exact hsl k k0 k1 hl p p0 p1
    · rw [hU 45 1 (by decide) (by decide) (by decide)]
      rcases s1 with e | ⟨e, e'⟩
      · exact Or.inl e
      · exact Or.inr ⟨e, fun k k0 k1 hl p p0 p1 => by rw [hU _ _ (by decide) (by decide) (by omega), hU _ _ (by decide) (by decide) (by omega)]; exact e' k k0 k1 hl p p0 p1⟩
    · rw [hU 45 2 (by decide) (by decide) (by decide)]
      rcases s2 with e | ⟨e, e'⟩
      · exact Or.inl e
      · exact Or.inr ⟨e, fun k k0 k1 hl p p0 p1 => by rw [hU _ _ (by decide) (by decide) (by omega)]; exact e' k k0 k1 hl p p0 p1⟩
  refine ⟨by omega, fun hh => by omega, fun _ => ⟨by omega, fun _ => ⟨by omega, fun _ => l120 _ _ _ hprU hSU (fun _ => by rw [show plan = 0 by omega]; exact up_s _ _ _ _), fun hh => by omega⟩, fun hh => by omega⟩⟩
