/-! THE CLASS: feed; settling on a land -/
def byt (a s : Int) : Int := b8_ (ushr_ a s)
theorem b8_rng (x : Int) : -128 ≤ b8_ x ∧ b8_ x ≤ 127 := by
  have h1 := Int8.le_toInt (Int32.ofInt x).toInt8
  have h2 := Int8.toInt_lt (Int32.ofInt x).toInt8
  have e : b8_ x = (Int32.ofInt x).toInt8.toInt := by unfold b8_; exact Int8.toInt_toInt32 _
  omega
theorem s_X11_tapeNumber {M : aM} {W : aW} {Q : aM → aW → Prop} {a t : Int} (h1 : M 0 1 = t) (t0 : 0 ≤ t) (t1 : t ≤ 596) (h : ∀ N, (∀ b j, ¬ (b = 0 ∧ j = 1) → b ≠ 1 → N b j = M b j) → N 0 1 = t + 4 → (∀ i, N 1 i = if t ≤ i ∧ i < t + 4 then byt a (24 - 8 * (i - t)) else M 1 i) → Q N W) : CallV 148 [vR 0, vI a] (M, W) Q := by
  have key : ∀ (n : Nat) (N : aM), (n : Int) ≤ 4 → (∀ b j, ¬ (b = 0 ∧ j = 1) → b ≠ 1 → N b j = M b j) → N 0 1 = t + (4 - n) → (∀ i, N 1 i = if t ≤ i ∧ i < t + (4 - n) then byt a (24 - 8 * (i - t)) else M 1 i) → Xs 148 (3, [some (some (vR 0)), some (some (vI a)), some (some (vI (24 - 8 * (4 - (n : Int)))))], [], (N, W)) (QV Q) := by
    intro n; induction n with
    | zero =>
      intro N hn hfr e1 ei
      refine k_X11_tapeNumber_3 _ _ _ _ _ ?_
      exact ⟨by omega, fun _ => h N hfr (by rw [e1]; omega) (fun i => by rw [ei i]; congr), fun hno => by omega⟩
    | succ n ih =>
      intro N hn hfr e1 ei
      have hb := b8_rng (ushr_ a (24 - 8 * (4 - ((n + 1 : Nat) : Int))))
      have e2 : up_ N 1 (N 0 1) (b8_ (ushr_ a (24 - 8 * (4 - ((n + 1 : Nat) : Int))))) 0 1 = N 0 1 := up_b _ _ _ _ (by decide)
      refine k_X11_tapeNumber_3 _ _ _ _ _ ?_
      rw [e2]
      refine ⟨by omega, fun hneg => by omega, fun _ => ⟨by omega, fun hge => by omega, fun _ => ⟨⟨by omega, hb.1, hb.2⟩, ?_⟩⟩⟩
      rw [show 24 - 8 * (4 - ((n + 1 : Nat) : Int)) + (-8) = 24 - 8 * (4 - (n : Int)) by omega]
      refine ih _ (by omega) (fun b j q1 q2 => ?_) ?_ (fun i => ?_)
      · unfold up_; rw [if_neg q1, if_neg (fun q => q2 q.1)]; exact hfr b j q1 q2
      · rw [up_s, e1]; omega
      · rw [up_b _ _ _ _ (by decide), e1]
        by_cases hi : i = t + (4 - ((n + 1 : Nat) : Int))
        · rw [hi, up_s, if_pos (by omega)]
          unfold byt
          rw [show 24 - 8 * (t + (4 - ((n + 1 : Nat) : Int)) - t) = 24 - 8 * (4 - ((n + 1 : Nat) : Int)) by omega]
        · rw [up_j _ _ _ hi, ei i]
          by_cases hc : t ≤ i ∧ i < t + (4 - ((n + 1 : Nat) : Int))
          · rw [if_pos hc, if_pos (by omega)]
          · rw [if_neg hc, if_neg (by omega)]
  refine e_X11_tapeNumber _ _ _ _ ?_
  exact key 4 M (by decide) (fun _ _ _ _ => rfl) (by rw [h1]; omega) (fun i => by rw [if_neg (by omega)])
def fdB (a b c d e x : Int) : Int := byt (if x < 4 then a else if x < 8 then b else if x < 12 then c else if x < 16 then d else e) (24 - 8 * (x % 4))
def tpF (tp : Int → Int) (tn a b c d e i : Int) : Int := if i < tn then tp i else fdB a b c d e (i - tn)
theorem c_feed {Q : Int → aM → aW → Prop} {M : aM} {W : aW} {G : Lnd} {D : Int → Int → Int} {c on w n tn fk fp L : Int} {wp wh wk tp : Int → Int} {x1 x2 x3 x4 x5 : Int} (h : clS c G D on w n wp wh wk tn tp fk fp L M W) (k1 : 580 < tn → ∀ N, frC M N → clS c G D on w n wp wh wk tn tp fk fp L N W → Q (-1) N W) (k2 : tn ≤ 580 → ∀ N, frC M N → clS c G D on w n wp wh wk (tn + 20) (tpF tp tn x1 x2 x3 x4 x5) fk fp L N W → Q (tn + 20) N W) : CallI 119 [vR 0, vI x1, vI x2, vI x3, vI x4, vI x5] (M, W) Q := by
  obtain ⟨⟨h4, h5⟩, hP, hS, hA, hB, hL, hJ, hT, h10, h11⟩ := id h
  obtain ⟨t0, t1, tv⟩ := hT
  refine e_X11_feed _ _ _ _ _ _ _ _ ?_
  rw [t1]
  refine ⟨by omega, fun hle => ?_, fun hgt => k1 (by omega) M (frC_refl M) h⟩
  refine s_X11_tapeNumber t1 t0.1 (by omega) (fun N1 f1 e1 v1 => s_X11_tapeNumber e1 (by omega) (by omega) (fun N2 f2 e2 v2 => s_X11_tapeNumber e2 (by omega) (by omega) (fun N3 f3 e3 v3 => s_X11_tapeNumber e3 (by omega) (by omega) (fun N4 f4 e4 v4 => s_X11_tapeNumber e4 (by omega) (by omega) (fun N5 f5 e5 v5 => ?_)))))
  have e : ∀ b j, ¬ (b = 0 ∧ j = 1) → b ≠ 1 → N5 b j = M b j := fun b j q1 q2 => by rw [f5 b j q1 q2, f4 b j q1 q2, f3 b j q1 q2, f2 b j q1 q2, f1 b j q1 q2]
  have e20 : N5 0 1 = tn + 20 := by omega
  rw [e20]
  refine k2 (by omega) N5 (fun b j a1 a2 => e b j (by omega) (by omega)) ⟨⟨by rw [e _ _ (by decide) (by decide)]; exact h4, by rw [e _ _ (by decide) (by decide)]; exact h5⟩, hP.of (fun b j hb => e b j (by unfold inP at hb; omega) (by unfold inP at hb; omega)), hS.of (fun b j hb => e b j (by omega) (by omega)), hA.of (fun b j a1 a2 => e b j (by omega) (by omega)), hB.of (fun b j hb => e b j (by omega) (by omega)), hL.of (fun b j hb => e b j (by omega) (by omega)), hJ.of (fun b j a1 a2 => e b j (by omega) (by omega)), ⟨by omega, e20, fun i i0 i1 => ?_⟩, by rw [e _ _ (by decide) (by decide)]; exact h10, by rw [e _ _ (by decide) (by decide)]; exact h11⟩
  have hv : N5 1 i = tpF tp tn x1 x2 x3 x4 x5 i := by
    unfold tpF fdB
    rw [v5 i, v4 i, v3 i, v2 i, v1 i]
    by_cases c0 : i < tn
    · rw [if_pos c0, if_neg (by omega), if_neg (by omega), if_neg (by omega), if_neg (by omega), if_neg (by omega)]; exact (tv i i0 c0).1
    · rw [if_neg c0]
      by_cases c1 : i - tn < 4
      · rw [if_pos c1, if_neg (by omega), if_neg (by omega), if_neg (by omega), if_neg (by omega), if_pos (by omega), show (i - tn) % 4 = i - tn by omega]
      · rw [if_neg c1]
        by_cases c2 : i - tn < 8
        · rw [if_pos c2, if_neg (by omega), if_neg (by omega), if_neg (by omega), if_pos (by omega), show (i - tn) % 4 = i - (tn + 4) by omega]
        · rw [if_neg c2]
          by_cases c3 : i - tn < 12
          · rw [if_pos c3, if_neg (by omega), if_neg (by omega), if_pos (by omega), show (i - tn) % 4 = i - (tn + 4 + 4) by omega]
          · rw [if_neg c3]
            by_cases c4 : i - tn < 16
            · rw [if_pos c4, if_neg (by omega), if_pos (by omega), show (i - tn) % 4 = i - (tn + 4 + 4 + 4) by omega]
            · rw [if_neg c4, if_pos (by omega), show (i - tn) % 4 = i - (tn + 4 + 4 + 4 + 4) by omega]
  refine ⟨hv, ?_⟩
  unfold tpF
  by_cases c0 : i < tn
  · rw [if_pos c0]; exact (tv i i0 c0).2
  · rw [if_neg c0]; unfold fdB byt; exact b8_rng _
/-- what plans stand on at first -/
noncomputable def dNew (G : Lnd) (t : Int) : Int → Int := if t = 0 then D0 G else if t = 1 then D1 G else if t = 2 then D2 G else fun _ => 0
theorem dNew_ok {G : Lnd} (hw : WF G) : pdO G (dNew G) := by
  have hN := hw.N; unfold wfN at hN
  refine ⟨rfl, rfl, rfl, ⟨by show (0 : Int) ≤ 0 ∧ (0 : Int) ≤ 6; decide, fun i i0 i1 => ?_⟩, fun i j i0 ij j1 => ?_, ⟨by show (0 : Int) ≤ 0 ∧ (0 : Int) ≤ 30; decide, fun i i0 i1 => ?_⟩⟩
  · have i1' : i < 0 := i1
    omega
  · have j1' : j < 0 := j1
    omega
  · have i1' : i < 0 := i1
    omega
theorem s_X11_settle {M : aM} {W : aW} {Q : aM → aW → Prop} {G : Lnd} {c tn fk fp L : Int} {tp : Int → Int} (hk : cty c) (hG : clG c G M) (hw : WF G) (hc : cdM M) (h4 : M 0 4 = c) (h5 : M 0 5 = 13 - c) (m69 : ∀ k, 0 ≤ k → k < 729 → M 69 k = 0) (hS : suM M W L) (hz : 126 ≤ W.2.2.1) (hT : taM tn tp M) (hF : faI fk fp M)
    (h : ∀ N, (∀ b j, (1 ≤ b ∧ b ≤ 30) ∨ b = 0 ∨ (86 ≤ b) → N b j = M b j) → clS c G (dNew G) 0 0 0 (fun _ => 0) (fun _ => 0) (fun _ => 0) tn tp fk fp L N W → Q N W) : CallV 149 [vR 0] (M, W) Q := by
  have hN := hw.N; unfold wfN at hN
  refine e_X11_settle _ _ _ ?_
  generalize hU : up_ (up_ (up_ M 31 0 0) 82 0 0) 78 0 0 = U
  have eU : ∀ b j, ¬ (b = 31 ∧ j = 0) → ¬ (b = 82 ∧ j = 0) → ¬ (b = 78 ∧ j = 0) → U b j = M b j := fun b j a1 a2 a3 => by rw [← hU]; unfold up_; rw [if_neg a3, if_neg a2, if_neg a1]
  have hGU : clG c G U := hG.ag hk (lo := 31) (hi := 82) (fun b j hb => eU b j (by omega) (by omega) (by omega)) (by omega)
  have hcU : cdM U := hc.ag (lo := 31) (hi := 82) (fun b j hb => eU b j (by omega) (by omega) (by omega)) (by omega)
  rw [eU 0 4 (by decide) (by decide) (by decide), h4]
  refine s_X7_settle hk hGU hw hcU (fun N hN1 hPN e11 e45 => ?_)
  have e04 : N 0 4 = c := by rw [hN1 _ _ (by decide) (by decide) (by decide) (by decide) (by decide), eU 0 4 (by decide) (by decide) (by decide)]; exact h4
  rw [e04]
  refine s_X0_settle (fun K hK e7 e8 e70 => ?_)
  have e : ∀ b j, ¬ (b = 31 ∧ j = 0) → ¬ (b = 82 ∧ j = 0) → ¬ (b = 78 ∧ j = 0) → b ≠ 36 → b ≠ 38 → b ≠ 39 → ¬ (41 ≤ b ∧ b ≤ 43) → b ≠ 45 → b ≠ 65 → b ≠ 70 → b ≠ 71 → K b j = M b j := fun b j a1 a2 a3 a4 a5 a6 a7 a8 a9 a10 a11 => by
    rw [hK b j (by omega) a10 a11, hN1 b j (by omega) a5 a6 a7 a8, eU b j a1 a2 a3]
  have ez : ∀ b, b = 31 ∨ b = 82 ∨ b = 78 → K b 0 = 0 := fun b hb => by
    rw [hK b 0 (by omega) (by omega) (by omega), hN1 b 0 (by omega) (by omega) (by omega) (by omega) (by omega), ← hU]
    rcases hb with rfl | rfl | rfl
    · rw [up_b _ _ _ _ (by decide), up_b _ _ _ _ (by decide), up_s]
    · rw [up_b _ _ _ _ (by decide), up_s]
    · rw [up_s]
  have hPK : clP c G K := hPN.of (fun b j hb => hK b j (by unfold inP at hb; omega) (by unfold inP at hb; omega) (by unfold inP at hb; omega))
  have e45K : ∀ i, 0 ≤ i → i < 3 → K 45 i = 0 := fun i i0 i1 => by rw [hK 45 i (by omega) (by decide) (by decide)]; exact e45 i i0 i1
  have e78 : K 78 2 = M 78 2 := e 78 2 (by decide) (by decide) (by decide) (by decide) (by decide) (by decide) (by decide) (by decide) (by decide) (by decide) (by decide)
  refine h K (fun b j hb => e b j (by omega) (by omega) (by omega) (by omega) (by omega) (by omega) (by omega) (by omega) (by omega) (by omega) (by omega)) ⟨⟨by rw [hK _ _ (by decide) (by decide) (by decide)]; exact e04, by rw [e _ _ (by decide) (by decide) (by decide) (by decide) (by decide) (by decide) (by decide) (by decide) (by decide) (by decide) (by decide)]; exact h5⟩, hPK, ⟨Or.inl (e45K 0 (by decide) (by decide)), Or.inl (e45K 1 (by decide) (by decide)), Or.inl (e45K 2 (by decide) (by decide))⟩, ⟨e7, fun q q0 q1 => by rw [e _ _ (by omega) (by omega) (by omega) (by decide) (by decide) (by decide) (by decide) (by decide) (by decide) (by decide) (by decide)]; exact m69 q q0 q1, Or.inl e8, fun r r0 r1 => Or.inl (e70 r r0 (by omega)).1, fun r r0 r1 => Or.inl (e70 r r0 (by omega)).2⟩, ⟨Or.inl (ez 78 (by omega)), ?_, hz, fun q => by rw [ez 78 (by omega)] at q; omega⟩, ⟨dNew_ok hw, ⟨by rw [hK _ _ (by decide) (by decide) (by decide), e11]; rfl, fun i i0 i1 => ?_⟩, by rw [ez 31 (by omega)]; rfl, fun i i0 i1 => ?_⟩, ⟨ez 82 (by omega), Or.inl rfl, fun q => absurd q (by decide)⟩, ⟨hT.1, by rw [e _ _ (by decide) (by decide) (by decide) (by decide) (by decide) (by decide) (by decide) (by decide) (by decide) (by decide) (by decide)]; exact hT.2.1, fun i i0 i1 => by rw [e _ _ (by omega) (by omega) (by omega) (by decide) (by decide) (by decide) (by decide) (by decide) (by decide) (by decide) (by decide)]; exact hT.2.2 i i0 i1⟩, by rw [e _ _ (by decide) (by decide) (by decide) (by decide) (by decide) (by decide) (by decide) (by decide) (by decide) (by decide) (by decide)]; exact hF.1, by rw [e _ _ (by decide) (by decide) (by decide) (by decide) (by decide) (by decide) (by decide) (by decide) (by decide) (by decide) (by decide)]; exact hF.2⟩
  · obtain ⟨s1, s2, s3, s4⟩ := hS
    exact ⟨by rw [e78]; exact s1, by rw [e78]; exact s2, by rw [e78]; exact s3, s4⟩
  · have i1' : i < 0 := i1
    omega
  · have i1' : i < 0 := i1
    omega
