/-! BELLS: the table is filled -/
def okS (s : Int) : Prop := s = 79 ∨ 126 ≤ s
theorem s_X1_fillHour {M : aM} {W : aW} {Q : aM → aW → Prop} {G : Lnd} {c k h0 L : Int} (hB : beO G c M) (hS : suM M W L) (hL : thr_ ((G 0 3)) * (G 0 0) * 49 ≤ L) (k0 : 0 ≤ k) (k1 : k < thr_ ((G 0 3))) (q0 : 0 ≤ h0) (q1 : h0 < 49) (hps : ∀ p q, 0 ≤ p → p < 10 → 0 ≤ q → q < 10 → M 80 (p * 10 + q) = pas G p q k) (hms : ∀ p, 0 ≤ p → p < (G 0 0) → M 81 p = fm_ k ((G 5 p))) (hD : blD G (M 78 2) k h0 M)
    (h : ∀ N, ag (M 78 2) (M 78 2) M N → (∀ j, (∀ p, 0 ≤ p → p < (G 0 0) → j ≠ (k * (G 0 0) + p) * 49 + h0) → N (M 78 2) j = M (M 78 2) j) → (∀ p, 0 ≤ p → p < (G 0 0) → N (M 78 2) ((k * (G 0 0) + p) * 49 + h0) = BL G k p h0) → Q N W) : CallV 17 [vR 78, vI k, vI h0, vI (lkG G k)] (M, W) Q := by
  have hw := hB.2.2.1
  have hk := hB.1
  have hN := hw.N; unfold wfN at hN
  have ht := thrG hw
  have hl := lkG_rng hw k
  have hs := hS.2.2.1
  have hcr := ct_rng hk
  have key : ∀ (n : Nat) (x4 : Int) (d5 : aL) (N : aM), 0 ≤ x4 → x4 ≤ (G 0 0) → ((G 0 0) - x4).toNat = n → ag (M 78 2) (M 78 2) M N → (∀ j, (∀ p, 0 ≤ p → p < x4 → j ≠ (k * (G 0 0) + p) * 49 + h0) → N (M 78 2) j = M (M 78 2) j) → (∀ p, 0 ≤ p → p < x4 → N (M 78 2) ((k * (G 0 0) + p) * 49 + h0) = BL G k p h0) → Xs 17 (3, [some (some (vR 78)), some (some (vI k)), some (some (vI h0)), some (some (vI (lkG G k))), some (some (vI x4)), d5], [], (N, W)) (QV Q) := by
    intro n; induction n using Nat.strongRecOn with
    | _ n ih =>
      intro x4 d5 N j0 j1 hn hag hout hdone
      have hGN : clG c G N := hB.2.1.ag hk hag (by omega)
      have e2 : N 78 2 = M 78 2 := hag 78 2 (by omega)
      have e5 : N 78 5 = c := by rw [hag 78 5 (by omega)]; exact hB.2.2.2.2
      have hBN : beO G c N := ⟨hk, hGN, hw, hB.2.2.2.1.ag hag (by omega), e5⟩
      have hSN : suM N W L := by
        obtain ⟨s1, s2, s3, s4⟩ := hS
        refine ⟨?_, ?_, ?_, s4⟩
        · rw [e2]; exact s1
        · rw [e2]; exact s2
        · rw [e2]; exact s3
      have hDN : blD G (N 78 2) k h0 N := fun k' h' a1 a2 a3 a4 ho p p0 p1 => by
        rw [e2, hout _ (fun p' q0' q1' he => ?_)]
        · exact hD k' h' a1 a2 a3 a4 ho p p0 p1
        · have := ix_inj (G := G) p0 p1 a3 a4 q0' (by omega) q0 q1 he
          omega
      refine k_X1_fillHour_3 _ _ _ _ _ _ _ _ ?_
      rw [e5, hGN.1, hGN.1]
      have nxt : ∀ (v : Int) (d5 : aL), x4 < (G 0 0) → v = BL G k x4 h0 → Xs 17 (3, [some (some (vR 78)), some (some (vI k)), some (some (vI h0)), some (some (vI (lkG G k))), some (some (vI (x4 + 1))), d5], [], ((up_ N (M 78 2) ((k * (G 0 0) + x4) * 49 + h0) v), W)) (QV Q) := by
        intro v d5 hlt hv
        refine ih ((G 0 0) - (x4 + 1)).toNat (by omega) (x4 + 1) _ _ (by omega) (by omega) rfl (ag_tr hag (ag_up _ (Int.le_refl _) (Int.le_refl _))) (fun j hj => ?_) (fun p p0 p1 => ?_)
        · rw [up_j _ _ _ (hj x4 j0 (by omega))]; exact hout j (fun p p0 p1 => hj p p0 (by omega))
        · by_cases hp : p = x4
          · rw [hp, up_s]; exact hv
          · rw [up_j _ _ _ (fun he => hp (ix_inj (G := G) p0 (by omega) q0 q1 j0 hlt q0 q1 he).2.1)]; exact hdone p p0 (by omega)
      have gix : x4 < (G 0 0) → okD (N, W) 20 (N 78 2) = true ∧ 0 ≤ (k * (G 0 0) + x4) * 49 + h0 ∧ (k * (G 0 0) + x4) * 49 + h0 < lD_ W.2.1 (N 78 2) := fun hlt => by
        have i1 := ix_rng hw k0 k1 j0 hlt q0 q1
        exact ⟨hSN.1, by omega, by rw [hSN.2.1]; omega⟩
      have heq : x4 < (G 0 0) → BL G k x4 h0 = blR G (BL G) k x4 h0 := fun hlt => BL_is hw k h0 k0 k1 q0 q1 x4 j0 hlt
      refine ⟨ct_o hk, by omega, fun hge => ?_, fun hlt => ⟨ct_o hk, by omega, fun hgo => s_X1_at hBN ⟨gix (by omega), ?_⟩, fun hgo => ⟨by omega, fun hnz => ⟨by omega, ?_⟩, fun hz => s_X1_at hBN ⟨gix (by omega), ?_⟩⟩⟩⟩
      · have e : x4 = (G 0 0) := by omega
        rw [e] at hout hdone
        exact h N hag hout hdone
      · rw [e2]; refine nxt _ _ (by omega) ?_
        rw [heq (by omega)]; unfold blR; rw [if_pos hgo]
      · have e81 : N 81 x4 = fm_ k ((G 5 x4)) := by rw [hag 81 x4 (by omega)]; exact hms x4 j0 (by omega)
        have hfr := fm_cs k ((G 5 x4))
        rw [e81]
        refine ⟨by rcases hfr with hh | hh <;> omega, fun hneg => ?_, fun hpos => ⟨by omega, ?_⟩⟩
        · have hpsN : ∀ p q, 0 ≤ p → p < 10 → 0 ≤ q → q < 10 → N 80 (p * 10 + q) = pas G p q k := fun p q a1 a2 a3 a4 => by rw [hag 80 _ (by omega)]; exact hps p q a1 a2 a3 a4
          refine s_X1_mostByGoing hBN hSN hL k0 k1 j0 (by omega) q0 q1 hpsN hDN (s_X1_mostByHearing hBN hSN hL k0 k1 j0 (by omega) q0 q1 hDN ?_)
          have hBLr := BL_rng hw k h0 x4 k0 k1 q0 q1 j0 (by omega)
          have hv : max_ (mxg (blG G k x4 h0) (blg G (BL G) k x4 h0) ((G 0 0)).toNat) (mxg (blW G k x4 h0) (blw G (BL G) k x4 h0) ((G 0 5)).toNat) = BL G k x4 h0 := by
            rw [heq (by omega)]; unfold blR; rw [if_neg hgo, if_neg hnz, if_neg (by omega)]
          have g1 : 0 ≤ mxg (blG G k x4 h0) (blg G (BL G) k x4 h0) ((G 0 0)).toNat := (mxg_rng (B := 1000000000) (by decide) _ (fun q q0' q1' hP => by
            have hP' := of_decide_eq_true hP
            unfold blg
            have := BL_rng hw k (h0 - pas G x4 q k) q k0 k1 (by omega) (by omega) q0' (by omega); omega)).1
          have g2 : 0 ≤ mxg (blW G k x4 h0) (blw G (BL G) k x4 h0) ((G 0 5)).toNat := by
            have : ∀ n, 0 ≤ mxg (blW G k x4 h0) (blw G (BL G) k x4 h0) n := by
              intro n; induction n with
              | zero => exact Int.le_refl _
              | succ n ihn => unfold mxg; split
                              · unfold max_; split <;> omega
                              · exact ihn
            exact this _
          refine ⟨?_, s_X1_at hBN ⟨gix (by omega), ?_⟩⟩
          · unfold max_ at hv
            split at hv <;> omega
          · rw [e2, hv]; exact nxt _ _ (by omega) rfl
        · have hm := fm_in hw j0 (show x4 < 10 by omega) (k := k) (by omega)
          refine s_X1_learnt hBN hSN hL k0 k1 j0 (by omega) (by omega) hm.1 hm.2.1 q0 q1 hDN (s_X1_at hBN ⟨gix (by omega), ?_⟩)
          rw [e2]
          refine nxt _ _ (by omega) ?_
          rw [heq (by omega)]; unfold blR; rw [if_neg hgo, if_neg hnz, if_pos (by omega)]
      · rw [e2]; refine nxt _ _ (by omega) ?_
        rw [heq (by omega)]; unfold blR; rw [if_neg hgo, if_pos (Classical.byContradiction hz)]
  refine e_X1_fillHour _ _ _ _ _ _ ?_
  exact key _ 0 _ M (by omega) (by omega) rfl (ag_refl _ _ _) (fun _ _ => rfl) (fun p a b => by omega)
/-- how the world behind the memory goes on when the row grows -/
def wR (W W' : aW) (L L' : Int) : Prop := (W' = W ∧ L' = L) ∨ (W' = (W.1, up1 W.2.1 W.2.2.1 L', W.2.2.1 + 1, W.2.2.2 + L') ∧ L < L' ∧ (2 * L ≤ L' ∨ L' = 357210) ∧ L' ≤ 357210)
theorem s_X1_makeRoom {M : aM} {W : aW} {Q : aM → aW → Prop} {G : Lnd} {c L : Int} (hB : beO G c M) (hS : suM M W L) (hz : 126 ≤ W.2.2.1)
    (h : ∀ N W' L', wR W W' L L' → suM N W' L' → thr_ ((G 0 3)) * (G 0 0) * 49 ≤ L' → (∀ b j, b < 126 → ¬ (b = 78 ∧ j = 2) → N b j = M b j) → Q N W') : CallV 15 [vR 78] (M, W) Q := by
  have hw := hB.2.2.1
  have hk := hB.1
  have hN := hw.N; unfold wfN at hN
  have ht := thrG hw
  have hneed : 0 ≤ thr_ ((G 0 3)) * (G 0 0) ∧ thr_ ((G 0 3)) * (G 0 0) ≤ 729 * 10 := ⟨Int.mul_nonneg (by omega) (by omega), Int.mul_le_mul (by omega) (by omega) (by omega) (by decide)⟩
  obtain ⟨s1, s2, s3, s4, s5⟩ := id hS
  refine e_X1_makeRoom _ _ _ ?_
  rw [hB.2.2.2.2]
  refine ⟨ct_o hk, s_X3_knowns hk hB.2.1 hw (s_X1_at hB ⟨s1, ?_⟩)⟩
  rw [s2]
  refine ⟨by omega, fun hge => h M W L (Or.inl ⟨rfl, rfl⟩) hS (by omega) (fun _ _ _ _ => rfl), fun hlt => ⟨s1, by omega, ⟨by decide, by unfold max_; split <;> omega⟩, ?_⟩⟩
  have hn : ∃ n, n = min_ 357210 (max_ ((thr_ ((G 0 3)) * (G 0 0) + 0) * 49) (2 * L)) := ⟨_, rfl⟩
  obtain ⟨n, hnn⟩ := hn
  rw [← hnn]
  have hnr : L < n ∧ (2 * L ≤ n ∨ n = 357210) ∧ n ≤ 357210 ∧ thr_ ((G 0 3)) * (G 0 0) * 49 ≤ n := by
    unfold min_ max_ at hnn
    split at hnn <;> split at hnn <;> omega
  refine ⟨by omega, h _ _ n (Or.inr ⟨rfl, hnr.1, hnr.2.1, hnr.2.2.1⟩) ⟨?_, ?_, Or.inr (by rw [up_s]; exact hz), by omega, by omega⟩ (by omega) (fun b j hb hbj => ?_)⟩
  · rw [up_s]
    unfold okD kD_
    have e1 : decide (0 ≤ W.2.2.1) = true := decide_eq_true (by omega)
    have e2 : decide (W.2.2.1 < W.2.2.1 + 1) = true := decide_eq_true (by omega)
    have e3 : decide (W.2.2.1 < nid_) = false := decide_eq_false (show ¬ W.2.2.1 < (126 : Int) by omega)
    have e4 : decide (up1 W.2.1 W.2.2.1 n W.2.2.1 < 0) = false := decide_eq_false (by unfold up1; rw [if_pos rfl]; omega)
    show (decide (0 ≤ W.2.2.1) && (decide (W.2.2.1 < W.2.2.1 + 1) && decide ((bif decide (W.2.2.1 < nid_) then knd W.2.2.1 else (bif decide (up1 W.2.1 W.2.2.1 n W.2.2.1 < 0) then 99 else 20)) = 20))) = true
    rw [e1, e2, e3, e4]; rfl
  · rw [up_s]
    unfold lD_
    rw [show decide (W.2.2.1 < nid_) = false from decide_eq_false (show ¬ W.2.2.1 < (126 : Int) by omega)]
    show up1 W.2.1 W.2.2.1 n W.2.2.1 = n
    unfold up1; rw [if_pos rfl]
  · unfold up_ ce_
    rw [if_neg hbj, if_neg (by omega)]
def blT (G : Lnd) (M : aM) : Prop := ∀ k h, 0 ≤ k → k < thr_ ((G 0 3)) → 0 ≤ h → h < 49 → ∀ p, 0 ≤ p → p < (G 0 0) → M (M 78 2) ((k * (G 0 0) + p) * 49 + h) = BL G k p h
theorem s_X1_fill {M : aM} {W : aW} {Q : aM → aW → Prop} {G : Lnd} {c L : Int} (hB : beO G c M) (hS : suM M W L) (hz : 126 ≤ W.2.2.1) (hlk : ∀ k, 0 ≤ k → k < thr_ ((G 0 3)) → M 39 k = lkG G k)
    (h : ∀ N W' L', wR W W' L L' → suM N W' L' → thr_ ((G 0 3)) * (G 0 0) * 49 ≤ L' → blT G N → (∀ b j, b < 126 → ¬ (b = 78 ∧ j = 2) → ¬ (79 ≤ b ∧ b ≤ 81) → N b j = M b j) → Q N W') : CallV 16 [vR 78, vR 39] (M, W) Q := by
  have hw := hB.2.2.1
  have hk := hB.1
  have hcr := ct_rng hk
  have hN := hw.N; unfold wfN at hN
  have ht := thrG hw
  refine e_X1_fill _ _ _ ?_
  refine s_X1_makeRoom hB hS hz (fun N W' L' hR hSN hL hfr => ?_)
  have hGN : clG c G N := by
    obtain ⟨h0, h1, h2, h3, h4, h5, h6, h7, h8⟩ := hB.2.1
    exact ⟨fun j => by rw [hfr _ _ (by omega) (by omega)]; exact h0 j, fun j => by rw [hfr _ _ (by omega) (by omega)]; exact h1 j, fun j => by rw [hfr _ _ (by omega) (by omega)]; exact h2 j, fun j => by rw [hfr _ _ (by omega) (by omega)]; exact h3 j, fun j => by rw [hfr _ _ (by omega) (by omega)]; exact h4 j, fun j => by rw [hfr _ _ (by omega) (by omega)]; exact h5 j, fun j => by rw [hfr _ _ (by omega) (by omega)]; exact h6 j, fun j => by rw [hfr _ _ (by omega) (by omega)]; exact h7 j, fun j => by rw [hfr _ _ (by omega) (by omega)]; exact h8 j⟩
  have hcN : cdM N := ⟨fun k k0 k1 => by rw [hfr _ _ (by decide) (by omega), hfr _ _ (by decide) (by omega)]; exact hB.2.2.2.1.1 k k0 k1, fun s s0 s1 => by rw [hfr _ _ (by decide) (by omega)]; exact hB.2.2.2.1.2 s s0 s1⟩
  have e5 : N 78 5 = c := by rw [hfr 78 5 (by decide) (by decide)]; exact hB.2.2.2.2
  have hBN : beO G c N := ⟨hk, hGN, hw, hcN, e5⟩
  have hs := hSN.2.2.1
  generalize hsd : N 78 2 = s at hs
  -- what the loops leave
  have fr : ∀ K, (∀ b j, b ≠ 80 → b ≠ 81 → b ≠ s → K b j = N b j) → beO G c K ∧ suM K W' L' ∧ K 78 2 = s := by
    intro K hK
    have e2 : K 78 2 = s := by rw [hK 78 2 (by decide) (by decide) (by omega)]; exact hsd
    refine ⟨⟨hk, ⟨fun j => by rw [hK _ _ (by omega) (by omega) (by omega)]; exact hGN.1 j, fun j => by rw [hK _ _ (by omega) (by omega) (by omega)]; exact hGN.2.1 j, fun j => by rw [hK _ _ (by omega) (by omega) (by omega)]; exact hGN.2.2.1 j, fun j => by rw [hK _ _ (by omega) (by omega) (by omega)]; exact hGN.2.2.2.1 j, fun j => by rw [hK _ _ (by omega) (by omega) (by omega)]; exact hGN.2.2.2.2.1 j, fun j => by rw [hK _ _ (by omega) (by omega) (by omega)]; exact hGN.2.2.2.2.2.1 j, fun j => by rw [hK _ _ (by omega) (by omega) (by omega)]; exact hGN.2.2.2.2.2.2.1 j, fun j => by rw [hK _ _ (by omega) (by omega) (by omega)]; exact hGN.2.2.2.2.2.2.2.1 j, fun j => by rw [hK _ _ (by omega) (by omega) (by omega)]; exact hGN.2.2.2.2.2.2.2.2 j⟩, hw, ⟨fun k k0 k1 => by rw [hK _ _ (by decide) (by decide) (by omega), hK _ _ (by decide) (by decide) (by omega)]; exact hcN.1 k k0 k1, fun s' s0 s1 => by rw [hK _ _ (by decide) (by decide) (by omega)]; exact hcN.2 s' s0 s1⟩, by rw [hK 78 5 (by decide) (by decide) (by omega)]; exact e5⟩, ?_, e2⟩
    obtain ⟨s1, s2, s3, s4⟩ := hSN
    rw [hsd] at s1 s2 s3
    refine ⟨?_, ?_, ?_, s4⟩ <;> rw [e2]
    · exact s1
    · exact s2
    · exact s3
  have l14 : ∀ (n : Nat) (x2 : Int) (d3 : aL) (K : aM), -1 ≤ x2 → x2 < thr_ ((G 0 3)) → (x2 + 1).toNat = n → (∀ b j, b ≠ 80 → b ≠ 81 → b ≠ s → K b j = N b j) → blD G s x2 0 K → Xs 16 (14, [some (some (vR 78)), some (some (vR 39)), some (some (vI x2)), d3], [], (K, W')) (QV Q) := by
    intro n; induction n using Nat.strongRecOn with
    | _ n ih =>
      intro x2 d3 K h0 h1 hn hK hD
      obtain ⟨hBK, hSK, e2K⟩ := fr K hK
      refine k_X1_fill_14 _ _ _ _ _ ?_
      refine ⟨by omega, fun hneg => ?_, fun hpos => ?_⟩
      · refine h K W' L' hR hSK hL (fun k h' k0 k1 q0 q1 p p0 p1 => by rw [e2K]; exact hD k h' k0 k1 q0 q1 (by omega) p p0 p1) (fun b j q1 q2 q3 => by rw [hK b j (by omega) (by omega) (by omega)]; exact hfr b j q1 q2)
      · rw [(hBK.2.2.2.1.1 x2 (by omega) (by omega)).1, (hBK.2.2.2.1.1 x2 (by omega) (by omega)).2, hBK.2.2.2.2]
        refine ⟨by omega, by omega, ct_o hk, s_X3_fillPasses hk hBK.2.1 hw (Or.inr (Or.inr (Or.inr (Or.inr (Or.inr rfl))))) (opn_rng _).1 (opn_rng _).2 (sht_rng _).1 (sht_rng _).2 (fun K1 hK1 hp => ?_)⟩
        have l49 : ∀ (m : Nat) (x3 : Int) (R : aM), 0 ≤ x3 → x3 ≤ (G 0 0) → ((G 0 0) - x3).toNat = m → ag 81 81 K1 R → (∀ p, 0 ≤ p → p < x3 → R 81 p = fm_ x2 ((G 5 p))) → Xs 16 (49, [some (some (vR 78)), some (some (vR 39)), some (some (vI x2)), some (some (vI x3))], [], (R, W')) (QV Q) := by
          intro m; induction m using Nat.strongRecOn with
          | _ m ih2 =>
            intro x3 R j0 j1 hm hR1 hmis
            have hRN : ∀ b j, b ≠ 80 → b ≠ 81 → b ≠ s → R b j = N b j := fun b j q1 q2 q3 => by rw [hR1 b j (by omega), hK1 b j (by omega)]; exact hK b j q1 q2 q3
            obtain ⟨hBR, hSR, e2R⟩ := fr R hRN
            refine k_X1_fill_49 _ _ _ _ _ ?_
            rw [hBR.2.2.2.2, hBR.2.1.1]
            refine ⟨ct_o hk, by omega, fun hge => ?_, fun hlt => ⟨ct_o hk, ⟨ct_a5 hk, j0, by rw [ct_l5 hk]; omega⟩, ?_⟩⟩
            · have e3 : x3 = (G 0 0) := by omega
              subst e3
              have l91 : ∀ (t : Nat) (x4 : Int) (T : aM), 0 ≤ x4 → x4 ≤ 49 → (49 - x4).toNat = t → (∀ b j, b ≠ s → T b j = R b j) → blD G s x2 x4 T → Xs 16 (91, [some (some (vR 78)), some (some (vR 39)), some (some (vI x2)), some (some (vI x4))], [], (T, W')) (QV Q) := by
                intro t; induction t using Nat.strongRecOn with
                | _ t ih3 =>
                  intro x4 T i0 i1 htt hTR hDT
                  have hTN : ∀ b j, b ≠ 80 → b ≠ 81 → b ≠ s → T b j = N b j := fun b j q1 q2 q3 => by rw [hTR b j q3]; exact hRN b j q1 q2 q3
                  obtain ⟨hBT, hST, e2T⟩ := fr T hTN
                  refine k_X1_fill_91 _ _ _ _ _ ?_
                  refine ⟨by omega, fun hge => ?_, fun hlt => ⟨by omega, ?_⟩⟩
                  · have e4 : x4 = 49 := by omega
                    rw [e4] at hDT
                    exact ih (x2 + (-1) + 1).toNat (by omega) _ _ T (by omega) (by omega) rfl hTN (fun k' h' a1 a2 a3 a4 ho p p0 p1 => hDT k' h' a1 a2 a3 a4 (by omega) p p0 p1)
                  · have e39 : T 39 x2 = lkG G x2 := by rw [hTN 39 x2 (by decide) (by decide) (by omega), hfr 39 x2 (by decide) (by omega)]; exact hlk x2 (by omega) (by omega)
                    rw [e39]
                    refine s_X1_fillHour hBT hST hL (by omega) h1 i0 (by omega) (fun p q a1 a2 a3 a4 => ?_) (fun p a1 a2 => ?_) (by rw [e2T]; exact hDT) (fun T' hT' hout hdn => ?_)
                    · rw [hTR 80 _ (by omega), hR1 80 _ (by omega)]; exact hp p q a1 a2 a3 a4
                    · rw [hTR 81 _ (by omega)]; exact hmis p a1 a2
                    · rw [e2T] at hT' hout hdn
                      refine ih3 (49 - (x4 + 1)).toNat (by omega) (x4 + 1) T' (by omega) (by omega) rfl (fun b j q1 => by rw [hT' b j (by omega)]; exact hTR b j q1) (fun k' h' a1 a2 a3 a4 ho p p0 p1 => ?_)
                      by_cases hkh : k' = x2 ∧ h' = x4
                      · rw [hkh.1, hkh.2]; exact hdn p p0 p1
                      · rw [hout _ (fun p' b1 b2 he => by
                          have := ix_inj (G := G) p0 p1 a3 a4 b1 b2 i0 (by omega) he
                          exact hkh ⟨this.1, this.2.2⟩)]
                        exact hDT k' h' a1 a2 a3 a4 (by omega) p p0 p1
              refine l91 _ 0 R (by omega) (by omega) rfl (fun _ _ _ => rfl) (fun k' h' a1 a2 a3 a4 ho p p0 p1 => ?_)
              rw [hR1 s _ (by omega), hK1 s _ (by omega)]
              exact hD k' h' a1 a2 a3 a4 (by omega) p p0 p1
            · have hs64 := hw.sn64 j0 (show x3 < 10 by omega)
              rw [hBR.2.1.2.2.2.2.2.1]
              refine s_X2_firstMissing hBR.2.2.2.1 (by omega) (by omega) hs64.1 hs64.2 ⟨by omega, ?_⟩
              refine ih2 ((G 0 0) - (x3 + 1)).toNat (by omega) (x3 + 1) _ (by omega) (by omega) rfl (ag_tr hR1 (ag_up _ (by decide) (by decide))) (fun p p0 p1 => ?_)
              by_cases he : p = x3
              · rw [he, up_s]
              · rw [up_j _ _ _ he]; exact hmis p p0 (by omega)
        exact l49 _ 0 K1 (by omega) (by omega) rfl (ag_refl _ _ _) (fun p a b => by omega)
  rw [e5]
  refine ⟨ct_o hk, s_X3_knowns hk hGN hw (fun y hy => ?_)⟩
  exact l14 _ y _ N (by omega) (by omega) rfl (fun _ _ _ _ _ => rfl) (fun k' h' a1 a2 a3 a4 ho p p0 p1 => by omega)
/-- what the bells hold -/
def beI (c : Int) (G : Lnd) (M : aM) : Prop := M 78 0 = 0 ∨ (M 78 0 = 1 ∧ M 78 5 = c ∧ blT G M)
theorem s_X1_mostBy {M : aM} {W : aW} {Q : Int → aM → aW → Prop} {G : Lnd} {c t L : Int} (hP : clP c G M) (hS : suM M W L) (hz : 126 ≤ W.2.2.1) (hI : beI c G M) (hs : 0 ≤ (G 0 6)) (t0 : 0 ≤ t) (t1 : t < 49) (hLn : M 78 0 = 1 → thr_ ((G 0 3)) * (G 0 0) * 49 ≤ L)
    (h : ∀ N W' L', wR W W' L L' → suM N W' L' → (N 78 0 = 1 ∧ N 78 5 = c ∧ blT G N ∧ thr_ ((G 0 3)) * (G 0 0) * 49 ≤ L') → (∀ b j, b < 126 → ¬ (78 ≤ b ∧ b ≤ 81) → N b j = M b j) → Q (BL G 0 ((G 0 6)) t) N W') : CallL 13 [vR 78, vI t, vR c, vR 39] (M, W) Q := by
  obtain ⟨hk, hG, hw, hc, m2, m38, m39, mw⟩ := id hP
  have hcr := ct_rng hk
  have hN := hw.N; unfold wfN at hN
  have ht := thrG hw
  have hbr := BL_rng hw 0 t ((G 0 6)) (by decide) (by omega) t0 t1 hs (by omega)
  have hl := lkG_rng hw 0
  have ix := ix_rng hw (k := 0) (p := (G 0 6)) (h := t) (by decide) (by omega) hs (by omega) t0 t1
  have fin : ∀ N W' L', wR W W' L L' → suM N W' L' → (N 78 0 = 1 ∧ N 78 5 = c ∧ blT G N ∧ thr_ ((G 0 3)) * (G 0 0) * 49 ≤ L') → (∀ b j, b < 126 → ¬ (78 ≤ b ∧ b ≤ 81) → N b j = M b j) → clG c G N → cdM N → CallI 14 [vR 78, vI 0, vI ((G 0 6))] (N, W') (fun r3 M1 W2 => (okD (M1, W2) 20 (N 78 2) = true ∧ 0 ≤ r3 + t ∧ r3 + t < lD_ W2.2.1 (N 78 2)) ∧ (inI (M1 (N 78 2) (r3 + t))) ∧ Q (M1 (N 78 2) (r3 + t)) M1 W2) := by
    intro N W' L' hR hSN hN4 hfr hGN hcN
    refine s_X1_at ⟨hk, hGN, hw, hcN, hN4.2.1⟩ ?_
    have hv := hN4.2.2.1 0 t (by decide) (by omega) t0 t1 ((G 0 6)) hs (by omega)
    rw [hv]
    exact ⟨⟨hSN.1, by omega, by rw [hSN.2.1]; omega⟩, by omega, h N W' L' hR hSN hN4 hfr⟩
  refine e_X1_mostBy _ _ _ _ _ ?_
  rcases hI with hI | ⟨i0, i5, iT⟩
  · rw [hI]
    refine ⟨by decide, fun hno => absurd rfl hno, fun _ => ?_⟩
    have e : ∀ b j, ¬ (b = 78 ∧ j = 5) → up_ M 78 5 c b j = M b j := fun b j hb => by unfold up_; rw [if_neg hb]
    have hB : beO G c (up_ M 78 5 c) := ⟨hk, hG.ag hk (ag_up (lo := 78) (hi := 78) _ (by decide) (by decide)) (by decide), hw, hc.ag (ag_up (lo := 78) (hi := 78) _ (by decide) (by decide)) (by decide), up_s _ _ _ _⟩
    have hS2 : suM (up_ M 78 5 c) W L := by
      obtain ⟨s1, s2, s3, s4⟩ := hS
      have e2 := e 78 2 (by decide)
      refine ⟨?_, ?_, ?_, s4⟩ <;> rw [e2]
      · exact s1
      · exact s2
      · exact s3
    refine s_X1_fill hB hS2 hz (fun k k0 k1 => by rw [e 39 k (by omega)]; exact m39 k k0 k1) (fun N W' L' hR hSN hLL hT hfr => ?_)
    have hU : ∀ b j, ¬ (b = 78 ∧ j = 0) → up_ N 78 0 1 b j = N b j := fun b j hb => by unfold up_; rw [if_neg hb]
    have hs3 := hSN.2.2.1
    have hSU : suM (up_ N 78 0 1) W' L' := by
      obtain ⟨s1, s2, s3, s4⟩ := hSN
      have e2 := hU 78 2 (by decide)
      refine ⟨?_, ?_, ?_, s4⟩ <;> rw [e2]
      · exact s1
      · exact s2
      · exact s3
    have hGU : clG c G (up_ N 78 0 1) := by
      have hin : ∀ b j, 2 ≤ b → b ≤ 19 → up_ N 78 0 1 b j = M b j := fun b j a1 a2 => by rw [hU b j (by omega), hfr b j (by omega) (by omega) (by omega), e b j (by omega)]
      obtain ⟨h0, h1, h2, h3, h4, h5, h6, h7, h8⟩ := hG
      exact ⟨fun j => by rw [hin _ _ (by omega) (by omega)]; exact h0 j, fun j => by rw [hin _ _ (by omega) (by omega)]; exact h1 j, fun j => by rw [hin _ _ (by omega) (by omega)]; exact h2 j, fun j => by rw [hin _ _ (by omega) (by omega)]; exact h3 j, fun j => by rw [hin _ _ (by omega) (by omega)]; exact h4 j, fun j => by rw [hin _ _ (by omega) (by omega)]; exact h5 j, fun j => by rw [hin _ _ (by omega) (by omega)]; exact h6 j, fun j => by rw [hin _ _ (by omega) (by omega)]; exact h7 j, fun j => by rw [hin _ _ (by omega) (by omega)]; exact h8 j⟩
    have hcU : cdM (up_ N 78 0 1) := ⟨fun k k0 k1 => by rw [hU _ _ (by omega), hU _ _ (by omega), hfr _ _ (by decide) (by omega) (by omega), hfr _ _ (by decide) (by omega) (by omega), e _ _ (by omega), e _ _ (by omega)]; exact hc.1 k k0 k1, fun s s0 s1 => by rw [hU _ _ (by omega), hfr _ _ (by decide) (by omega) (by omega), e _ _ (by omega)]; exact hc.2 s s0 s1⟩
    have e5 : up_ N 78 0 1 78 5 = c := by rw [hU 78 5 (by decide), hfr 78 5 (by decide) (by decide) (by decide)]; exact up_s _ _ _ _
    have hTU : blT G (up_ N 78 0 1) := fun k h' k0 k1 q0 q1 p p0 p1 => by
      rw [hU 78 2 (by decide), hU _ _ (by omega)]; exact hT k h' k0 k1 q0 q1 p p0 p1
    rw [e5, hGU.1]
    refine ⟨ct_o hk, fin _ W' L' hR hSU ⟨up_s _ _ _ _, e5, hTU, hLL⟩ (fun b j q1 q2 => by rw [hU b j (by omega), hfr b j q1 (by omega) (by omega), e b j (by omega)]) hGU hcU⟩
  · rw [i0, i5, hG.1]
    exact ⟨by decide, fun _ => ⟨ct_o hk, fin M W L (Or.inl ⟨rfl, rfl⟩) hS ⟨i0, i5, iT, hLn i0⟩ (fun _ _ _ _ => rfl) hG hc⟩, fun hno => absurd (by decide) hno⟩
